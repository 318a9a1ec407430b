/-! ===== the reference: rules asked ===== -/
section MRulesAsked
variable {G : zW}
theorem c_GModel_objectOf_x {hp : xH} (W : mW G) (d : Nat) (hT : zTy G hp) (H_2073 : bRo G 116 2073) (p1 p2 : Int) (h1l : (-3) ≤ p1) (h1u : p1 ≤ 23) (h2l : 0 ≤ p2) (h2u : p2 ≤ 23) : yC (xcall 89 xfts xpools xms (d + 3)) 470 [yR 2073, yI (p1), yI (p2)] hp (bQpi hp 0 23 (fun z => 0 ≤ 0 - p1 + z ∧ 0 ≤ p1 - z + 24 ∧ (p1 ≤ 15 → (p1 = -1 → p2 ≤ 15) → z ≤ 15))) := by
  have A_hp : bAx G [] hp hp := bAx.rf hT
  refine yC.of (M := (xt_X13_objectOf, (3, (1, (14, []))))) rfl rfl (N := 54) (yfuel (by decide)) ?_
  show yG 89 xfts (xcall 89 xfts xpools xms (d + 2)) (xpool xp_RX13) [] xt_X13_objectOf (yP 1 (bQpi hp 0 23 (fun z => 0 ≤ 0 - p1 + z ∧ 0 ≤ p1 - z + 24 ∧ (p1 ≤ 15 → (p1 = -1 → p2 ≤ 15) → z ≤ 15)))) 54 0 [(0, yR 2073), (1, yI (p1)), (2, yI (p2))] [] hp
  rcases (show p1 ≥ 0 ∨ p1 = (-3) ∨ p1 = (-2) ∨ p1 = (-1) by omega) with c1 | c1 | c1 | c1
  · skip
    refine yG.load xik rfl (fun _ _ => rfl) (v := yI (p1)) rfl rfl ?_
    refine yG.num (c := -1) rfl (fun _ _ => rfl) (by decide) ?_
    refine yG.icmp rfl (t := 9) rfl ⟨by omega, by omega⟩ ⟨by omega, by omega⟩ (fun c2 => ?_) (fun c2 => ?_)
    · have c2 : (p1 : Int) ≠ (-1) := c2
      refine yG.load xik rfl (fun _ _ => rfl) (v := yI (p1)) rfl rfl ?_
      refine yG.num (c := -2) rfl (fun _ _ => rfl) (by decide) ?_
      refine yG.icmp rfl (t := 25) rfl ⟨by omega, by omega⟩ ⟨by omega, by omega⟩ (fun c3 => ?_) (fun c3 => ?_)
      · have c3 : (p1 : Int) ≠ (-2) := c3
        refine yG.load xik rfl (fun _ _ => rfl) (v := yI (p1)) rfl rfl ?_
        refine yG.num (c := -3) rfl (fun _ _ => rfl) (by decide) ?_
        refine yG.icmp rfl (t := 41) rfl ⟨by omega, by omega⟩ ⟨by omega, by omega⟩ (fun c4 => ?_) (fun c4 => ?_)
        · have c4 : (p1 : Int) ≠ (-3) := c4
          refine yG.load xik rfl (fun _ _ => rfl) (v := yI (p1)) rfl rfl ?_
          refine yG.ret rfl (fun _ _ => rfl) ?_
          exact (yP.int ⟨by omega, by omega⟩ ⟨⟨p1, rfl, by omega, by omega, ⟨by omega, by omega, (fun a b => by omega)⟩⟩, rfl⟩)
        · have c4 : (p1 : Int) = (-3) := c4
          exfalso; omega
      · have c3 : (p1 : Int) = (-2) := c3
        exfalso; omega
    · have c2 : (p1 : Int) = (-1) := c2
      exfalso; omega
  · subst c1
    refine yG.load xik rfl (fun _ _ => rfl) (v := yI ((-3))) rfl rfl ?_
    refine yG.num (c := -1) rfl (fun _ _ => rfl) (by decide) ?_
    refine yG.icmp rfl (t := 9) rfl ⟨by omega, by omega⟩ ⟨by omega, by omega⟩ (fun c5 => ?_) (fun c5 => ?_)
    · have c5 : ((-3) : Int) ≠ (-1) := c5
      refine yG.load xik rfl (fun _ _ => rfl) (v := yI ((-3))) rfl rfl ?_
      refine yG.num (c := -2) rfl (fun _ _ => rfl) (by decide) ?_
      refine yG.icmp rfl (t := 25) rfl ⟨by omega, by omega⟩ ⟨by omega, by omega⟩ (fun c6 => ?_) (fun c6 => ?_)
      · have c6 : ((-3) : Int) ≠ (-2) := c6
        refine yG.load xik rfl (fun _ _ => rfl) (v := yI ((-3))) rfl rfl ?_
        refine yG.num (c := -3) rfl (fun _ _ => rfl) (by decide) ?_
        refine yG.icmp rfl (t := 41) rfl ⟨by omega, by omega⟩ ⟨by omega, by omega⟩ (fun c7 => ?_) (fun c7 => ?_)
        · have c7 : ((-3) : Int) ≠ (-3) := c7
          exfalso; omega
        · have c7 : ((-3) : Int) = (-3) := c7
          refine yG.load xak rfl (fun _ _ => rfl) (v := yR 2073) rfl rfl ?_
          refine yG.num (c := 1) rfl (fun _ _ => rfl) (by decide) ?_
          refine yG.load xik rfl (fun _ _ => rfl) (v := yI (p2)) rfl rfl ?_
          refine yG.num (c := 4) rfl (fun _ _ => rfl) (by decide) ?_
          refine yG.invV (rest := []) A_hp.1 (bOb (d_M W) H_2073) rfl rfl rfl rfl (c_GModel_of_v1_4 W d A_hp.1 H_2073 (p2) (by omega) (by omega)) (fun rv hp9 q9 => ?_)
          obtain ⟨⟨z8, rfl, l_z8, u_z8, R_z8⟩, e9⟩ := q9
          rw [e9]
          show yG _ _ _ _ _ _ _ _ _ _ (yI z8 :: []) _
          refine yG.goto rfl (t := 42) rfl ?_
          refine yG.ret rfl (fun _ _ => rfl) ?_
          exact (yP.int ⟨by omega, by omega⟩ ⟨⟨z8, rfl, by omega, by omega, ⟨by omega, by omega, (fun a b => by omega)⟩⟩, rfl⟩)
      · have c6 : ((-3) : Int) = (-2) := c6
        exfalso; omega
    · have c5 : ((-3) : Int) = (-1) := c5
      exfalso; omega
  · subst c1
    refine yG.load xik rfl (fun _ _ => rfl) (v := yI ((-2))) rfl rfl ?_
    refine yG.num (c := -1) rfl (fun _ _ => rfl) (by decide) ?_
    refine yG.icmp rfl (t := 9) rfl ⟨by omega, by omega⟩ ⟨by omega, by omega⟩ (fun c9 => ?_) (fun c9 => ?_)
    · have c9 : ((-2) : Int) ≠ (-1) := c9
      refine yG.load xik rfl (fun _ _ => rfl) (v := yI ((-2))) rfl rfl ?_
      refine yG.num (c := -2) rfl (fun _ _ => rfl) (by decide) ?_
      refine yG.icmp rfl (t := 25) rfl ⟨by omega, by omega⟩ ⟨by omega, by omega⟩ (fun c10 => ?_) (fun c10 => ?_)
      · have c10 : ((-2) : Int) ≠ (-2) := c10
        exfalso; omega
      · have c10 : ((-2) : Int) = (-2) := c10
        refine yG.load xak rfl (fun _ _ => rfl) (v := yR 2073) rfl rfl ?_
        refine yG.num (c := 1) rfl (fun _ _ => rfl) (by decide) ?_
        refine yG.load xik rfl (fun _ _ => rfl) (v := yI (p2)) rfl rfl ?_
        refine yG.num (c := 3) rfl (fun _ _ => rfl) (by decide) ?_
        refine yG.invV (rest := []) A_hp.1 (bOb (d_M W) H_2073) rfl rfl rfl rfl (c_GModel_of_v1_3 W d A_hp.1 H_2073 (p2) (by omega) (by omega)) (fun rv hp9 q9 => ?_)
        obtain ⟨⟨z11, rfl, l_z11, u_z11, R_z11⟩, e9⟩ := q9
        rw [e9]
        show yG _ _ _ _ _ _ _ _ _ _ (yI z11 :: []) _
        refine yG.goto rfl (t := 42) rfl ?_
        refine yG.ret rfl (fun _ _ => rfl) ?_
        exact (yP.int ⟨by omega, by omega⟩ ⟨⟨z11, rfl, by omega, by omega, ⟨by omega, by omega, (fun a b => by omega)⟩⟩, rfl⟩)
    · have c9 : ((-2) : Int) = (-1) := c9
      exfalso; omega
  · subst c1
    refine yG.load xik rfl (fun _ _ => rfl) (v := yI ((-1))) rfl rfl ?_
    refine yG.num (c := -1) rfl (fun _ _ => rfl) (by decide) ?_
    refine yG.icmp rfl (t := 9) rfl ⟨by omega, by omega⟩ ⟨by omega, by omega⟩ (fun c12 => ?_) (fun c12 => ?_)
    · have c12 : ((-1) : Int) ≠ (-1) := c12
      exfalso; omega
    · have c12 : ((-1) : Int) = (-1) := c12
      refine yG.load xik rfl (fun _ _ => rfl) (v := yI (p2)) rfl rfl ?_
      refine yG.goto rfl (t := 42) rfl ?_
      refine yG.ret rfl (fun _ _ => rfl) ?_
      exact (yP.int ⟨by omega, by omega⟩ ⟨⟨p2, rfl, by omega, by omega, ⟨by omega, by omega, (fun a b => by omega)⟩⟩, rfl⟩)
theorem c_GModel_overOf {hp : xH} (W : mW G) (d : Nat) (hT : zTy G hp) (M_bRg : bRg G hp) (M_bWf : bWf G hp) (M_bPr : bPr G hp) (H_2073 : bRo G 116 2073) (p1 : Int) (h1l : 0 ≤ p1) (h1u : p1 ≤ 1) : yC (xcall 89 xfts xpools xms (d + 8)) 478 [yR 2073, yI (p1)] hp (fun rv hp' => (bQi G [(83076749736557242056487941267521536, 10), (83076749736557242056487941267521536, 11), (83076749736557242056487941267521536, 38), (83076749736557242056487941267521536, 40), (83076749736557242056487941267521536, 45), (83076749736557242056487941267521536, 46), (83076749736557242056487941267521536, 47), (51422017416287700232537075568993345319655265874560965836537856, 256)] hp (-2147483648) 2147483647 (fun _ => True)) rv hp' ∧ bRg G hp') := by
  have A_hp : bAx G [(83076749736557242056487941267521536, 10), (83076749736557242056487941267521536, 11), (83076749736557242056487941267521536, 38), (83076749736557242056487941267521536, 40), (83076749736557242056487941267521536, 45), (83076749736557242056487941267521536, 46), (83076749736557242056487941267521536, 47), (51422017416287700232537075568993345319655265874560965836537856, 256)] hp hp := bAx.rf hT
  have M_bRg_hp := M_bRg
  have H : ∀ m : Nat, (∀ a2 : Int, ∀ hq, bAx G [(83076749736557242056487941267521536, 10), (83076749736557242056487941267521536, 11), (83076749736557242056487941267521536, 38), (83076749736557242056487941267521536, 40), (83076749736557242056487941267521536, 45), (83076749736557242056487941267521536, 46), (83076749736557242056487941267521536, 47), (51422017416287700232537075568993345319655265874560965836537856, 256)] hp hq → bRg G hq → 0 ≤ a2 → (-24) ≤ 0 - a2 → 0 ≤ p1 → (-1) ≤ 0 - p1 → 0 - 43 * a2 + 1074 < (m : Int) → yG 89 xfts (xcall 89 xfts xpools xms (d + 7)) (xpool xp_RX13) [] xt_X13_overOf (yP 1 (fun rv hp' => (bQi G [(83076749736557242056487941267521536, 10), (83076749736557242056487941267521536, 11), (83076749736557242056487941267521536, 38), (83076749736557242056487941267521536, 40), (83076749736557242056487941267521536, 45), (83076749736557242056487941267521536, 46), (83076749736557242056487941267521536, 47), (51422017416287700232537075568993345319655265874560965836537856, 256)] hp (-2147483648) 2147483647 (fun _ => True)) rv hp' ∧ bRg G hp')) (25 * m) 11 [(0, yR 2073), (1, yI (p1)), (2, yI (a2))] [] hq) ∧ (∀ a2 : Int, ∀ hq, bAx G [(83076749736557242056487941267521536, 10), (83076749736557242056487941267521536, 11), (83076749736557242056487941267521536, 38), (83076749736557242056487941267521536, 40), (83076749736557242056487941267521536, 45), (83076749736557242056487941267521536, 46), (83076749736557242056487941267521536, 47), (51422017416287700232537075568993345319655265874560965836537856, 256)] hp hq → bRg G hq → 0 ≤ a2 → (-20) ≤ 0 - a2 → 0 ≤ p1 → (-1) ≤ 0 - p1 → 0 - 2 * a2 + 41 < (m : Int) → yG 89 xfts (xcall 89 xfts xpools xms (d + 7)) (xpool xp_RX13) [] xt_X13_overOf (yP 1 (fun rv hp' => (bQi G [(83076749736557242056487941267521536, 10), (83076749736557242056487941267521536, 11), (83076749736557242056487941267521536, 38), (83076749736557242056487941267521536, 40), (83076749736557242056487941267521536, 45), (83076749736557242056487941267521536, 46), (83076749736557242056487941267521536, 47), (51422017416287700232537075568993345319655265874560965836537856, 256)] hp (-2147483648) 2147483647 (fun _ => True)) rv hp' ∧ bRg G hp')) (25 * m) 52 [(0, yR 2073), (1, yI (p1)), (2, yI (a2))] [] hq) := by
    intro m
    induction m with
    | zero =>
      refine ⟨?_, ?_⟩ <;> (intros; exfalso; omega)
    | succ m ih =>
      obtain ⟨i_11, i_52⟩ := ih
      refine ⟨?_, ?_⟩
      · intro a2 hq A_hq M_bRg_hq f0 f1 f2 f3 hm
        refine yG.mono (N := 25 * m + 25) ?_ (by omega)
        refine yG.load xik rfl (fun _ _ => rfl) (v := yI (a2)) rfl rfl ?_
        refine yG.load xak rfl (fun _ _ => rfl) (v := yR 2073) rfl rfl ?_
        refine yG.getO A_hq.1 (w_M_count W H_2073) rfl rfl (fun r1 H_r1 O_r1 q_r1 => ?_)
        obtain rfl := u_M_count W H_r1
        refine yG.num (c := 1) rfl (fun _ _ => rfl) (by decide) ?_
        refine yG.ialdF A_hq.1 (v_M_count W H_r1) rfl rfl (by omega) (by omega) (fun z2 e_z2 i_z2 l_z2 u_z2 => ?_)
        refine yG.icmp rfl (t := 50) rfl ⟨by omega, by omega⟩ ⟨by omega, by omega⟩ (fun c3 => ?_) (fun c3 => ?_)
        · have c3 : (a2 : Int) ≥ z2 := c3
          refine yG.num (c := 0) rfl (fun _ _ => rfl) (by decide) ?_
          refine yG.store1 xik (L' := [(2, yI (0)), (0, yR 2073), (1, yI (p1))]) rfl (fun _ _ => rfl) rfl rfl ?_
          exact yG.mono (yG.sub (i_52 (0)  hq A_hq M_bRg_hq   (by omega) (by omega) (by omega) (by omega) (by omega)) (ySub.cons rfl (ySub.cons rfl (ySub.cons rfl (ySub.nil))))) (by omega)
        · have c3 : (a2 : Int) < z2 := c3
          refine yG.load xak rfl (fun _ _ => rfl) (v := yR 2073) rfl rfl ?_
          refine yG.getO A_hq.1 (w_M_stateNow W H_2073) rfl rfl (fun r4 H_r4 O_r4 q_r4 => ?_)
          obtain rfl := u_M_stateNow W H_r4
          refine yG.load xik rfl (fun _ _ => rfl) (v := yI (a2)) rfl rfl ?_
          refine yG.load xak rfl (fun _ _ => rfl) (v := yR 2073) rfl rfl ?_
          refine yG.getO A_hq.1 (w_M_seenField W H_2073) rfl rfl (fun r5 H_r5 O_r5 q_r5 => ?_)
          obtain rfl := u_M_seenField W H_r5
          refine yG.num (c := 1320) rfl (fun _ _ => rfl) (by decide) ?_
          refine yG.load xik rfl (fun _ _ => rfl) (v := yI (p1)) rfl rfl ?_
          refine yG.imul rfl ?_
          refine yG.num (c := 1) rfl (fun _ _ => rfl) (by decide) ?_
          refine yG.load xik rfl (fun _ _ => rfl) (v := yI (a2)) rfl rfl ?_
          refine yG.num (c := 0) rfl (fun _ _ => rfl) (by decide) ?_
          refine yG.invS (rest := [yI (1320 * p1), yR 2158, yI (a2), yR 2098]) rfl rfl rfl rfl (c_GModel_f W (d + 6) A_hq.1 (1) (a2) (0) (by omega) (by omega) (by omega) (by omega) (by omega) (by omega)) (fun rv hp9 q9 => ?_)
          obtain ⟨⟨z6, rfl, l_z6, u_z6, R_z6⟩, e9⟩ := q9
          rw [e9]
          show yG _ _ _ _ _ _ _ _ _ _ (yI z6 :: [yI (1320 * p1), yR 2158, yI (a2), yR 2098]) _
          refine yG.iadd rfl ?_
          refine yG.ialdF A_hq.1 (v_M_seenField W H_r5) (lo := 0) (hi := 2) ((yfT_ix (s := 1) (k := 0) (by omega) (by omega) (by omega) (by decide)).trans rfl) rfl (by omega) (by omega) (fun z7 e_z7 i_z7 l_z7 u_z7 => ?_)
          refine yG.iast A_hq.1 (v_M_stateNow W H_r4) (W.2.1 _ _ H_r4 (by decide) (by decide)) rfl (by omega) (by omega) ⟨by omega, by omega⟩ (by omega) (by omega) (fun h8 T_h8 b_h8 f_h8 y_h8 => ?_)
          have M_bRg_h8 := M_bRg_hq.fr (bAx.put (Wl := [(2787593149816327892691964784081045188247552, 256)]) (bAx.rf A_hq.1) T_h8 b_h8 f_h8 H_r4 (bAll_ok (by decide) _)) (by decide)
          have A_h8 := A_hq.put T_h8 b_h8 f_h8 H_r4 (bAll_ok (by decide) _)
          refine yG.iinc rfl (a := a2) rfl (L' := [(2, yI (a2 + 1)), (0, yR 2073), (1, yI (p1))]) rfl ?_
          refine yG.goto rfl (t := 11) rfl ?_
          exact yG.mono (yG.sub (i_11 (a2 + 1)  h8 A_h8 M_bRg_h8   (by omega) (by omega) (by omega) (by omega) (by omega)) (ySub.cons rfl (ySub.cons rfl (ySub.cons rfl (ySub.nil))))) (by omega)
      · intro a2 hq A_hq M_bRg_hq f0 f1 f2 f3 hm
        refine yG.mono (N := 25 * m + 25) ?_ (by omega)
        refine yG.load xik rfl (fun _ _ => rfl) (v := yI (a2)) rfl rfl ?_
        refine yG.load xak rfl (fun _ _ => rfl) (v := yR 2073) rfl rfl ?_
        refine yG.getO A_hq.1 (w_M_count W H_2073) rfl rfl (fun r1 H_r1 O_r1 q_r1 => ?_)
        obtain rfl := u_M_count W H_r1
        refine yG.num (c := 2) rfl (fun _ _ => rfl) (by decide) ?_
        refine yG.ialdF A_hq.1 (v_M_count W H_r1) rfl rfl (by omega) (by omega) (fun z2 e_z2 i_z2 l_z2 u_z2 => ?_)
        refine yG.icmp rfl (t := 81) rfl ⟨by omega, by omega⟩ ⟨by omega, by omega⟩ (fun c3 => ?_) (fun c3 => ?_)
        · have c3 : (a2 : Int) ≥ z2 := c3
          refine yG.load xak rfl (fun _ _ => rfl) (v := yR 2073) rfl rfl ?_
          refine yG.invV (rest := []) A_hq.1 (bOb (d_M W) H_2073) rfl rfl rfl rfl (c_GModel_flows W d A_hq.1 M_bRg_hq (M_bWf.fr A_hq (by decide)) (M_bPr.fr A_hq (by decide)) H_2073) (fun rv h4 q9 => ?_)
          obtain ⟨q9, M_bRg_h4⟩ := q9
          obtain ⟨q9, M_bTq_h4⟩ := q9
          obtain ⟨⟨rfl, R_z5⟩, B_h4⟩ := q9
          have A_h4 := A_hq.tr B_h4 (by decide)
          show yG _ _ _ _ _ _ _ _ _ _ [] _
          refine yG.load xak rfl (fun _ _ => rfl) (v := yR 2073) rfl rfl ?_
          refine yG.getO A_h4.1 (w_M_seenOver W H_2073) rfl rfl (fun r6 H_r6 O_r6 q_r6 => ?_)
          obtain rfl := u_M_seenOver W H_r6
          refine yG.load xik rfl (fun _ _ => rfl) (v := yI (p1)) rfl rfl ?_
          refine yG.load xak rfl (fun _ _ => rfl) (v := yR 2073) rfl rfl ?_
          refine yG.getI A_h4.1 (w_M_stuckCount W H_2073) rfl rfl (fun z7 e_z7 i_z7 l_z7 u_z7 => ?_)
          refine yG.ifz rfl (t := 102) rfl ⟨by omega, by omega⟩ (fun c8 => ?_) (fun c8 => ?_)
          · have c8 : (z7 : Int) ≤ 0 := c8
            refine yG.load xak rfl (fun _ _ => rfl) (v := yR 2073) rfl rfl ?_
            refine yG.getI A_h4.1 (w_M_overCount W H_2073) rfl rfl (fun z9 e_z9 i_z9 l_z9 u_z9 => ?_)
            refine yG.iast A_h4.1 (v_M_seenOver W H_r6) (W.2.1 _ _ H_r6 (by decide) (by decide)) rfl (by omega) (by omega) ⟨by omega, by omega⟩ (by omega) (by omega) (fun h10 T_h10 b_h10 f_h10 y_h10 => ?_)
            have M_bRg_h10 := M_bRg_h4.fr (bAx.put (Wl := [(51422017416287688817342786954917203280710495801049370729644032, 256)]) (bAx.rf A_h4.1) T_h10 b_h10 f_h10 H_r6 (bAll_ok (by decide) _)) (by decide)
            have M_bTq_h10 := M_bTq_h4.fr (bAx.put (Wl := [(51422017416287688817342786954917203280710495801049370729644032, 256)]) (bAx.rf A_h4.1) T_h10 b_h10 f_h10 H_r6 (bAll_ok (by decide) _)) (by decide)
            have A_h10 := A_h4.put T_h10 b_h10 f_h10 H_r6 (bAll_ok (by decide) _)
            have qq1 : zsl h10 2073 132 = yR 2162 := ((f_h10 2073 132).trans (if_neg (fun e => (bRo.ne H_2073 H_r6 (by decide)) e.1))).trans q_r6
            have : ys h10 2162 (p1 : Int).toNat = z9 := (y_h10 2162 _).trans (if_pos ⟨rfl, rfl⟩)
            refine yG.load xak rfl (fun _ _ => rfl) (v := yR 2073) rfl rfl ?_
            refine yG.getS9 A_h10.1 (w_M_seenOver W H_2073) qq1 rfl rfl ?_
            refine yG.load xik rfl (fun _ _ => rfl) (v := yI (p1)) rfl rfl ?_
            refine yG.iald A_h10.1 (v_M_seenOver W H_r6) rfl (by omega) (by omega) (fun z11 e_z11 i_z11 l_z11 u_z11 => ?_)
            rw [show (z11 : Int) = z9 by omega]
            refine yG.ret rfl (fun _ _ => rfl) ?_
            exact (yP.int ⟨by omega, by omega⟩ ⟨⟨⟨z9, rfl, by omega, by omega, trivial⟩, A_h10⟩, M_bRg_h10⟩)
          · have c8 : (z7 : Int) > 0 := c8
            refine yG.num (c := 100) rfl (fun _ _ => rfl) (by decide) ?_
            refine yG.goto rfl (t := 106) rfl ?_
            refine yG.iast A_h4.1 (v_M_seenOver W H_r6) (W.2.1 _ _ H_r6 (by decide) (by decide)) rfl (by omega) (by omega) ⟨by omega, by omega⟩ (by omega) (by omega) (fun h12 T_h12 b_h12 f_h12 y_h12 => ?_)
            have M_bRg_h12 := M_bRg_h4.fr (bAx.put (Wl := [(51422017416287688817342786954917203280710495801049370729644032, 256)]) (bAx.rf A_h4.1) T_h12 b_h12 f_h12 H_r6 (bAll_ok (by decide) _)) (by decide)
            have M_bTq_h12 := M_bTq_h4.fr (bAx.put (Wl := [(51422017416287688817342786954917203280710495801049370729644032, 256)]) (bAx.rf A_h4.1) T_h12 b_h12 f_h12 H_r6 (bAll_ok (by decide) _)) (by decide)
            have A_h12 := A_h4.put T_h12 b_h12 f_h12 H_r6 (bAll_ok (by decide) _)
            have qq2 : zsl h12 2073 132 = yR 2162 := ((f_h12 2073 132).trans (if_neg (fun e => (bRo.ne H_2073 H_r6 (by decide)) e.1))).trans q_r6
            have : ys h12 2162 (p1 : Int).toNat = 100 := (y_h12 2162 _).trans (if_pos ⟨rfl, rfl⟩)
            refine yG.load xak rfl (fun _ _ => rfl) (v := yR 2073) rfl rfl ?_
            refine yG.getS9 A_h12.1 (w_M_seenOver W H_2073) qq2 rfl rfl ?_
            refine yG.load xik rfl (fun _ _ => rfl) (v := yI (p1)) rfl rfl ?_
            refine yG.iald A_h12.1 (v_M_seenOver W H_r6) rfl (by omega) (by omega) (fun z13 e_z13 i_z13 l_z13 u_z13 => ?_)
            refine yG.ret rfl (fun _ _ => rfl) ?_
            exact (yP.int ⟨by omega, by omega⟩ ⟨⟨⟨z13, rfl, by omega, by omega, trivial⟩, A_h12⟩, M_bRg_h12⟩)
        · have c3 : (a2 : Int) < z2 := c3
          refine yG.load xak rfl (fun _ _ => rfl) (v := yR 2073) rfl rfl ?_
          refine yG.getO A_hq.1 (w_M_inNow W H_2073) rfl rfl (fun r14 H_r14 O_r14 q_r14 => ?_)
          obtain rfl := u_M_inNow W H_r14
          refine yG.load xik rfl (fun _ _ => rfl) (v := yI (a2)) rfl rfl ?_
          refine yG.load xak rfl (fun _ _ => rfl) (v := yR 2073) rfl rfl ?_
          refine yG.num (c := 2) rfl (fun _ _ => rfl) (by decide) ?_
          refine yG.load xik rfl (fun _ _ => rfl) (v := yI (a2)) rfl rfl ?_
          refine yG.num (c := 0) rfl (fun _ _ => rfl) (by decide) ?_
          refine yG.invV (rest := [yI (a2), yR 2099]) A_hq.1 (bOb (d_M W) H_2073) rfl rfl rfl rfl (c_GModel_of_v2_0 W (d + 5) A_hq.1 H_2073 (a2) (by omega) (by omega)) (fun rv hp9 q9 => ?_)
          obtain ⟨⟨z15, rfl, l_z15, u_z15, R_z15⟩, e9⟩ := q9
          rw [e9]
          show yG _ _ _ _ _ _ _ _ _ _ (yI z15 :: [yI (a2), yR 2099]) _
          refine yG.iast A_hq.1 (v_M_inNow W H_r14) (W.2.1 _ _ H_r14 (by decide) (by decide)) rfl (by omega) (by omega) ⟨by omega, by omega⟩ (by omega) (by omega) (fun h16 T_h16 b_h16 f_h16 y_h16 => ?_)
          have M_bRg_h16 := M_bRg_hq.fr (bAx.put (Wl := [(5575186299632655785383929568162090376495104, 256)]) (bAx.rf A_hq.1) T_h16 b_h16 f_h16 H_r14 (bAll_ok (by decide) _)) (by decide)
          have A_h16 := A_hq.put T_h16 b_h16 f_h16 H_r14 (bAll_ok (by decide) _)
          refine yG.iinc rfl (a := a2) rfl (L' := [(2, yI (a2 + 1)), (0, yR 2073), (1, yI (p1))]) rfl ?_
          refine yG.goto rfl (t := 52) rfl ?_
          exact yG.mono (yG.sub (i_52 (a2 + 1)  h16 A_h16 M_bRg_h16   (by omega) (by omega) (by omega) (by omega) (by omega)) (ySub.cons rfl (ySub.cons rfl (ySub.cons rfl (ySub.nil))))) (by omega)
  refine yC.of (M := (xt_X13_overOf, (3, (1, (14, []))))) rfl rfl (N := 26925) (yfuel (by decide)) ?_
  show yG 89 xfts (xcall 89 xfts xpools xms (d + 7)) (xpool xp_RX13) [] xt_X13_overOf (yP 1 (fun rv hp' => (bQi G [(83076749736557242056487941267521536, 10), (83076749736557242056487941267521536, 11), (83076749736557242056487941267521536, 38), (83076749736557242056487941267521536, 40), (83076749736557242056487941267521536, 45), (83076749736557242056487941267521536, 46), (83076749736557242056487941267521536, 47), (51422017416287700232537075568993345319655265874560965836537856, 256)] hp (-2147483648) 2147483647 (fun _ => True)) rv hp' ∧ bRg G hp')) 26925 0 [(0, yR 2073), (1, yI (p1))] [] hp
  obtain ⟨i_11, i_52⟩ := H 1076
  refine yG.load xak rfl (fun _ _ => rfl) (v := yR 2073) rfl rfl ?_
  refine yG.getO A_hp.1 (w_M_seenOver W H_2073) rfl rfl (fun r1 H_r1 O_r1 q_r1 => ?_)
  obtain rfl := u_M_seenOver W H_r1
  refine yG.load xik rfl (fun _ _ => rfl) (v := yI (p1)) rfl rfl ?_
  refine yG.iald A_hp.1 (v_M_seenOver W H_r1) rfl (by omega) (by omega) (fun z2 e_z2 i_z2 l_z2 u_z2 => ?_)
  refine yG.ifz rfl (t := 107) rfl ⟨by omega, by omega⟩ (fun c3 => ?_) (fun c3 => ?_)
  · have c3 : (z2 : Int) ≥ 0 := c3
    refine yG.load xak rfl (fun _ _ => rfl) (v := yR 2073) rfl rfl ?_
    refine yG.getS9 A_hp.1 (w_M_seenOver W H_2073) q_r1 rfl rfl ?_
    refine yG.load xik rfl (fun _ _ => rfl) (v := yI (p1)) rfl rfl ?_
    refine yG.iald A_hp.1 (v_M_seenOver W H_r1) rfl (by omega) (by omega) (fun z4 e_z4 i_z4 l_z4 u_z4 => ?_)
    rw [show (z4 : Int) = z2 by omega]
    refine yG.ret rfl (fun _ _ => rfl) ?_
    exact (yP.int ⟨by omega, by omega⟩ ⟨⟨⟨z2, rfl, by omega, by omega, trivial⟩, A_hp⟩, M_bRg_hp⟩)
  · have c3 : (z2 : Int) < 0 := c3
    refine yG.num (c := 0) rfl (fun _ _ => rfl) (by decide) ?_
    refine yG.store1 xik (L' := [(2, yI (0)), (0, yR 2073), (1, yI (p1))]) rfl (fun _ _ => rfl) rfl rfl ?_
    exact yG.mono (yG.sub (i_11 (0)  hp A_hp M_bRg_hp   (by omega) (by omega) (by omega) (by omega) (by omega)) (ySub.cons rfl (ySub.cons rfl (ySub.cons rfl (ySub.nil))))) (by omega)
theorem c_GModel_holdsCode {hp : xH} (W : mW G) (d : Nat) (hT : zTy G hp) (M_bRg : bRg G hp) (M_bWf : bWf G hp) (M_bPr : bPr G hp) (H_2073 : bRo G 116 2073) (p1 p2 : Int) (h1l : 0 ≤ p1) (h1u : p1 ≤ 2499) (h2l : 0 ≤ p2) (h2u : p2 ≤ 23) (g90 : 6 ≤ ys hp 2150 (4 * p1 : Int).toNat → ys hp 2150 (4 * p1 : Int).toNat ≤ 8 → ys hp 2150 (4 * p1 + 2 : Int).toNat ≤ 15 ∧ (ys hp 2150 (4 * p1 + 2 : Int).toNat = -1 → p2 ≤ 15)) (g91 : ys hp 2150 (4 * p1 : Int).toNat = 8 → ys hp 2150 (4 * p1 + 3 : Int).toNat ≤ 15 ∧ (ys hp 2150 (4 * p1 + 3 : Int).toNat = -1 → p2 ≤ 15)) : yC (xcall 89 xfts xpools xms (d + 9)) 415 [yR 2073, yI (p1), yI (p2)] hp (fun rv hp' => (bQi G [(83076749736557242056487941267521536, 10), (83076749736557242056487941267521536, 11), (83076749736557242056487941267521536, 38), (83076749736557242056487941267521536, 40), (83076749736557242056487941267521536, 45), (83076749736557242056487941267521536, 46), (83076749736557242056487941267521536, 47), (51422017416287700232537075568993345319655265874560965836537856, 256)] hp 0 1 (fun _ => True)) rv hp' ∧ bRg G hp') := by
  have A_hp : bAx G [(83076749736557242056487941267521536, 10), (83076749736557242056487941267521536, 11), (83076749736557242056487941267521536, 38), (83076749736557242056487941267521536, 40), (83076749736557242056487941267521536, 45), (83076749736557242056487941267521536, 46), (83076749736557242056487941267521536, 47), (51422017416287700232537075568993345319655265874560965836537856, 256)] hp hp := bAx.rf hT
  have M_bRg_hp := M_bRg
  refine yC.of (M := (xt_X13_holdsCode, (8, (4, (14, []))))) rfl rfl (N := 216) (yfuel (by decide)) ?_
  show yG 89 xfts (xcall 89 xfts xpools xms (d + 8)) (xpool xp_RX13) [] xt_X13_holdsCode (yP 4 (fun rv hp' => (bQi G [(83076749736557242056487941267521536, 10), (83076749736557242056487941267521536, 11), (83076749736557242056487941267521536, 38), (83076749736557242056487941267521536, 40), (83076749736557242056487941267521536, 45), (83076749736557242056487941267521536, 46), (83076749736557242056487941267521536, 47), (51422017416287700232537075568993345319655265874560965836537856, 256)] hp 0 1 (fun _ => True)) rv hp' ∧ bRg G hp')) 216 0 [(0, yR 2073), (1, yI (p1)), (2, yI (p2))] [] hp
  refine yG.load xak rfl (fun _ _ => rfl) (v := yR 2073) rfl rfl ?_
  refine yG.getO A_hp.1 (w_M_code W H_2073) rfl rfl (fun r1 H_r1 O_r1 q_r1 => ?_)
  obtain rfl := u_M_code W H_r1
  refine yG.num (c := 4) rfl (fun _ _ => rfl) (by decide) ?_
  refine yG.load xik rfl (fun _ _ => rfl) (v := yI (p1)) rfl rfl ?_
  refine yG.imul rfl ?_
  refine yG.num (c := 1) rfl (fun _ _ => rfl) (by decide) ?_
  refine yG.iadd rfl ?_
  refine yG.ialdF A_hp.1 (v_M_code W H_r1) ((bTf_m (m := 1) (by omega) (by decide)).trans rfl) rfl (by omega) (by omega) (fun z2 e_z2 i_z2 l_z2 u_z2 => ?_)
  refine yG.store1 xik (L' := [(3, yI (z2)), (0, yR 2073), (1, yI (p1)), (2, yI (p2))]) rfl (fun _ _ => rfl) rfl rfl ?_
  refine yG.load xak rfl (fun _ _ => rfl) (v := yR 2073) rfl rfl ?_
  refine yG.getS9 A_hp.1 (w_M_code W H_2073) q_r1 rfl rfl ?_
  refine yG.num (c := 4) rfl (fun _ _ => rfl) (by decide) ?_
  refine yG.load xik rfl (fun _ _ => rfl) (v := yI (p1)) rfl rfl ?_
  refine yG.imul rfl ?_
  refine yG.num (c := 2) rfl (fun _ _ => rfl) (by decide) ?_
  refine yG.iadd rfl ?_
  refine yG.ialdF A_hp.1 (v_M_code W H_r1) ((bTf_m (m := 2) (by omega) (by decide)).trans rfl) rfl (by omega) (by omega) (fun z3 e_z3 i_z3 l_z3 u_z3 => ?_)
  refine yG.store1 xik (L' := [(4, yI (z3)), (3, yI (z2)), (0, yR 2073), (1, yI (p1)), (2, yI (p2))]) rfl (fun _ _ => rfl) rfl rfl ?_
  refine yG.load xak rfl (fun _ _ => rfl) (v := yR 2073) rfl rfl ?_
  refine yG.getS9 A_hp.1 (w_M_code W H_2073) q_r1 rfl rfl ?_
  refine yG.num (c := 4) rfl (fun _ _ => rfl) (by decide) ?_
  refine yG.load xik rfl (fun _ _ => rfl) (v := yI (p1)) rfl rfl ?_
  refine yG.imul rfl ?_
  refine yG.num (c := 3) rfl (fun _ _ => rfl) (by decide) ?_
  refine yG.iadd rfl ?_
  refine yG.ialdF A_hp.1 (v_M_code W H_r1) ((bTf_m (m := 3) (by omega) (by decide)).trans rfl) rfl (by omega) (by omega) (fun z4 e_z4 i_z4 l_z4 u_z4 => ?_)
  refine yG.store1 xik (L' := [(5, yI (z4)), (4, yI (z3)), (3, yI (z2)), (0, yR 2073), (1, yI (p1)), (2, yI (p2))]) rfl (fun _ _ => rfl) rfl rfl ?_
  refine yG.load xak rfl (fun _ _ => rfl) (v := yR 2073) rfl rfl ?_
  refine yG.load xik rfl (fun _ _ => rfl) (v := yI (z3)) rfl rfl ?_
  refine yG.load xik rfl (fun _ _ => rfl) (v := yI (p2)) rfl rfl ?_
  refine yG.invV (rest := []) A_hp.1 (bOb (d_M W) H_2073) rfl rfl rfl rfl (c_GModel_objectOf_x W (d + 5) A_hp.1 H_2073 (z3) (p2) (by omega) (by omega) (by omega) (by omega)) (fun rv hp9 q9 => ?_)
  obtain ⟨⟨z5, rfl, l_z5, u_z5, R_z5⟩, e9⟩ := q9
  rw [e9]
  show yG _ _ _ _ _ _ _ _ _ _ (yI z5 :: []) _
  refine yG.store1 xik (L' := [(6, yI (z5)), (5, yI (z4)), (4, yI (z3)), (3, yI (z2)), (0, yR 2073), (1, yI (p1)), (2, yI (p2))]) rfl (fun _ _ => rfl) rfl rfl ?_
  refine yG.load xak rfl (fun _ _ => rfl) (v := yR 2073) rfl rfl ?_
  refine yG.getS9 A_hp.1 (w_M_code W H_2073) q_r1 rfl rfl ?_
  refine yG.num (c := 4) rfl (fun _ _ => rfl) (by decide) ?_
  refine yG.load xik rfl (fun _ _ => rfl) (v := yI (p1)) rfl rfl ?_
  refine yG.imul rfl ?_
  refine yG.ialdF A_hp.1 (v_M_code W H_r1) ((bTf_m (m := 0) (by omega) (by decide)).trans rfl) rfl (by omega) (by omega) (fun z6 e_z6 i_z6 l_z6 u_z6 => ?_)
  rcases (show (z6 < (4 : Int) ∨ (8 : Int) < z6) ∨ z6 = (4 : Int) ∨ z6 = (5 : Int) ∨ z6 = (6 : Int) ∨ z6 = (7 : Int) ∨ z6 = (8 : Int) by omega) with c7 | c7 | c7 | c7 | c7 | c7
  · skip
    refine yG.tswD (t := 223) rfl ⟨by omega, by omega⟩ c7 rfl ?_
    refine yG.load xak rfl (fun _ _ => rfl) (v := yR 2073) rfl rfl ?_
    refine yG.getS9 A_hp.1 (w_M_code W H_2073) q_r1 rfl rfl ?_
    refine yG.num (c := 4) rfl (fun _ _ => rfl) (by decide) ?_
    refine yG.load xik rfl (fun _ _ => rfl) (v := yI (p1)) rfl rfl ?_
    refine yG.imul rfl ?_
    refine yG.ialdF A_hp.1 (v_M_code W H_r1) ((bTf_m (m := 0) (by omega) (by decide)).trans rfl) rfl (by omega) (by omega) (fun z8 e_z8 i_z8 l_z8 u_z8 => ?_)
    rw [show (z8 : Int) = z6 by omega]
    refine yG.num (c := 9) rfl (fun _ _ => rfl) (by decide) ?_
    refine yG.icmp rfl (t := 245) rfl ⟨by omega, by omega⟩ ⟨by omega, by omega⟩ (fun c9 => ?_) (fun c9 => ?_)
    · have c9 : (z6 : Int) ≠ 9 := c9
      refine yG.load xak rfl (fun _ _ => rfl) (v := yR 2073) rfl rfl ?_
      refine yG.getS9 A_hp.1 (w_M_code W H_2073) q_r1 rfl rfl ?_
      refine yG.num (c := 4) rfl (fun _ _ => rfl) (by decide) ?_
      refine yG.load xik rfl (fun _ _ => rfl) (v := yI (p1)) rfl rfl ?_
      refine yG.imul rfl ?_
      refine yG.ialdF A_hp.1 (v_M_code W H_r1) ((bTf_m (m := 0) (by omega) (by decide)).trans rfl) rfl (by omega) (by omega) (fun z10 e_z10 i_z10 l_z10 u_z10 => ?_)
      rw [show (z10 : Int) = z6 by omega]
      refine yG.num (c := 10) rfl (fun _ _ => rfl) (by decide) ?_
      refine yG.icmp rfl (t := 266) rfl ⟨by omega, by omega⟩ ⟨by omega, by omega⟩ (fun c11 => ?_) (fun c11 => ?_)
      · have c11 : (z6 : Int) ≠ 10 := c11
        refine yG.load xak rfl (fun _ _ => rfl) (v := yR 2073) rfl rfl ?_
        refine yG.getO A_hp.1 (w_M_seenLoops W H_2073) rfl rfl (fun r12 H_r12 O_r12 q_r12 => ?_)
        obtain rfl := u_M_seenLoops W H_r12
        refine yG.load xik rfl (fun _ _ => rfl) (v := yI (z2)) rfl rfl ?_
        refine yG.iald A_hp.1 (v_M_seenLoops W H_r12) rfl (by omega) (by omega) (fun z13 e_z13 i_z13 l_z13 u_z13 => ?_)
        refine yG.store1 xik (L' := [(7, yI (z13)), (6, yI (z5)), (5, yI (z4)), (4, yI (z3)), (3, yI (z2)), (0, yR 2073), (1, yI (p1)), (2, yI (p2))]) rfl (fun _ _ => rfl) rfl rfl ?_
        refine yG.load xik rfl (fun _ _ => rfl) (v := yI (z3)) rfl rfl ?_
        refine yG.ifz rfl (t := 294) rfl ⟨by omega, by omega⟩ (fun c14 => ?_) (fun c14 => ?_)
        · have c14 : (z3 : Int) ≤ 0 := c14
          refine yG.load xik rfl (fun _ _ => rfl) (v := yI (z3)) rfl rfl ?_
          refine yG.ifz rfl (t := 314) rfl ⟨by omega, by omega⟩ (fun c15 => ?_) (fun c15 => ?_)
          · have c15 : (z3 : Int) ≥ 0 := c15
            refine yG.load xik rfl (fun _ _ => rfl) (v := yI (z13)) rfl rfl ?_
            refine yG.load xik rfl (fun _ _ => rfl) (v := yI (z4)) rfl rfl ?_
            refine yG.icmp rfl (t := 325) rfl ⟨by omega, by omega⟩ ⟨by omega, by omega⟩ (fun c16 => ?_) (fun c16 => ?_)
            · have c16 : (z13 : Int) ≠ z4 := c16
              refine yG.num (c := 0) rfl (fun _ _ => rfl) (by decide) ?_
              refine yG.ret rfl (fun _ _ => rfl) ?_
              exact (yP.bool (by omega) ⟨⟨⟨0, rfl, by omega, by omega, trivial⟩, A_hp⟩, M_bRg_hp⟩)
            · have c16 : (z13 : Int) = z4 := c16
              refine yG.num (c := 1) rfl (fun _ _ => rfl) (by decide) ?_
              refine yG.goto rfl (t := 326) rfl ?_
              refine yG.ret rfl (fun _ _ => rfl) ?_
              exact (yP.bool (by omega) ⟨⟨⟨1, rfl, by omega, by omega, trivial⟩, A_hp⟩, M_bRg_hp⟩)
          · have c15 : (z3 : Int) < 0 := c15
            refine yG.load xik rfl (fun _ _ => rfl) (v := yI (z13)) rfl rfl ?_
            refine yG.load xik rfl (fun _ _ => rfl) (v := yI (z4)) rfl rfl ?_
            refine yG.icmp rfl (t := 310) rfl ⟨by omega, by omega⟩ ⟨by omega, by omega⟩ (fun c17 => ?_) (fun c17 => ?_)
            · have c17 : (z13 : Int) ≥ z4 := c17
              refine yG.num (c := 0) rfl (fun _ _ => rfl) (by decide) ?_
              refine yG.goto rfl (t := 326) rfl ?_
              refine yG.ret rfl (fun _ _ => rfl) ?_
              exact (yP.bool (by omega) ⟨⟨⟨0, rfl, by omega, by omega, trivial⟩, A_hp⟩, M_bRg_hp⟩)
            · have c17 : (z13 : Int) < z4 := c17
              refine yG.num (c := 1) rfl (fun _ _ => rfl) (by decide) ?_
              refine yG.goto rfl (t := 326) rfl ?_
              refine yG.ret rfl (fun _ _ => rfl) ?_
              exact (yP.bool (by omega) ⟨⟨⟨1, rfl, by omega, by omega, trivial⟩, A_hp⟩, M_bRg_hp⟩)
        · have c14 : (z3 : Int) > 0 := c14
          refine yG.load xik rfl (fun _ _ => rfl) (v := yI (z13)) rfl rfl ?_
          refine yG.load xik rfl (fun _ _ => rfl) (v := yI (z4)) rfl rfl ?_
          refine yG.icmp rfl (t := 290) rfl ⟨by omega, by omega⟩ ⟨by omega, by omega⟩ (fun c18 => ?_) (fun c18 => ?_)
          · have c18 : (z13 : Int) ≤ z4 := c18
            refine yG.num (c := 0) rfl (fun _ _ => rfl) (by decide) ?_
            refine yG.goto rfl (t := 326) rfl ?_
            refine yG.ret rfl (fun _ _ => rfl) ?_
            exact (yP.bool (by omega) ⟨⟨⟨0, rfl, by omega, by omega, trivial⟩, A_hp⟩, M_bRg_hp⟩)
          · have c18 : (z13 : Int) > z4 := c18
            refine yG.num (c := 1) rfl (fun _ _ => rfl) (by decide) ?_
            refine yG.goto rfl (t := 326) rfl ?_
            refine yG.ret rfl (fun _ _ => rfl) ?_
            exact (yP.bool (by omega) ⟨⟨⟨1, rfl, by omega, by omega, trivial⟩, A_hp⟩, M_bRg_hp⟩)
      · have c11 : (z6 : Int) = 10 := c11
        refine yG.load xak rfl (fun _ _ => rfl) (v := yR 2073) rfl rfl ?_
        refine yG.load xik rfl (fun _ _ => rfl) (v := yI (z2)) rfl rfl ?_
        refine yG.invV (rest := []) A_hp.1 (bOb (d_M W) H_2073) rfl rfl rfl rfl (c_GModel_overOf W d A_hp.1 M_bRg_hp M_bWf M_bPr H_2073 (z2) (by omega) (by omega)) (fun rv h19 q9 => ?_)
        obtain ⟨q9, M_bRg_h19⟩ := q9
        obtain ⟨⟨z20, rfl, l_z20, u_z20, R_z20⟩, B_h19⟩ := q9
        have A_h19 := A_hp.tr B_h19 (by decide)
        have qq1 : zsl h19 2073 117 = yR 2150 := (B_h19.sl H_2073 (by decide)).trans q_r1
        have : ys h19 2150 (4 * p1 : Int).toNat = ys hp 2150 (4 * p1 : Int).toNat := B_h19.ys H_r1 (bNo_ok (by decide) _)
        show yG _ _ _ _ _ _ _ _ _ _ (yI z20 :: []) _
        refine yG.goto rfl (t := 272) rfl ?_
        refine yG.store1 xik (L' := [(7, yI (z20)), (6, yI (z5)), (5, yI (z4)), (4, yI (z3)), (3, yI (z2)), (0, yR 2073), (1, yI (p1)), (2, yI (p2))]) rfl (fun _ _ => rfl) rfl rfl ?_
        refine yG.load xik rfl (fun _ _ => rfl) (v := yI (z3)) rfl rfl ?_
        refine yG.ifz rfl (t := 294) rfl ⟨by omega, by omega⟩ (fun c21 => ?_) (fun c21 => ?_)
        · have c21 : (z3 : Int) ≤ 0 := c21
          refine yG.load xik rfl (fun _ _ => rfl) (v := yI (z3)) rfl rfl ?_
          refine yG.ifz rfl (t := 314) rfl ⟨by omega, by omega⟩ (fun c22 => ?_) (fun c22 => ?_)
          · have c22 : (z3 : Int) ≥ 0 := c22
            refine yG.load xik rfl (fun _ _ => rfl) (v := yI (z20)) rfl rfl ?_
            refine yG.load xik rfl (fun _ _ => rfl) (v := yI (z4)) rfl rfl ?_
            refine yG.icmp rfl (t := 325) rfl ⟨by omega, by omega⟩ ⟨by omega, by omega⟩ (fun c23 => ?_) (fun c23 => ?_)
            · have c23 : (z20 : Int) ≠ z4 := c23
              refine yG.num (c := 0) rfl (fun _ _ => rfl) (by decide) ?_
              refine yG.ret rfl (fun _ _ => rfl) ?_
              exact (yP.bool (by omega) ⟨⟨⟨0, rfl, by omega, by omega, trivial⟩, A_h19⟩, M_bRg_h19⟩)
            · have c23 : (z20 : Int) = z4 := c23
              refine yG.num (c := 1) rfl (fun _ _ => rfl) (by decide) ?_
              refine yG.goto rfl (t := 326) rfl ?_
              refine yG.ret rfl (fun _ _ => rfl) ?_
              exact (yP.bool (by omega) ⟨⟨⟨1, rfl, by omega, by omega, trivial⟩, A_h19⟩, M_bRg_h19⟩)
          · have c22 : (z3 : Int) < 0 := c22
            refine yG.load xik rfl (fun _ _ => rfl) (v := yI (z20)) rfl rfl ?_
            refine yG.load xik rfl (fun _ _ => rfl) (v := yI (z4)) rfl rfl ?_
            refine yG.icmp rfl (t := 310) rfl ⟨by omega, by omega⟩ ⟨by omega, by omega⟩ (fun c24 => ?_) (fun c24 => ?_)
            · have c24 : (z20 : Int) ≥ z4 := c24
              refine yG.num (c := 0) rfl (fun _ _ => rfl) (by decide) ?_
              refine yG.goto rfl (t := 326) rfl ?_
              refine yG.ret rfl (fun _ _ => rfl) ?_
              exact (yP.bool (by omega) ⟨⟨⟨0, rfl, by omega, by omega, trivial⟩, A_h19⟩, M_bRg_h19⟩)
            · have c24 : (z20 : Int) < z4 := c24
              refine yG.num (c := 1) rfl (fun _ _ => rfl) (by decide) ?_
              refine yG.goto rfl (t := 326) rfl ?_
              refine yG.ret rfl (fun _ _ => rfl) ?_
              exact (yP.bool (by omega) ⟨⟨⟨1, rfl, by omega, by omega, trivial⟩, A_h19⟩, M_bRg_h19⟩)
        · have c21 : (z3 : Int) > 0 := c21
          refine yG.load xik rfl (fun _ _ => rfl) (v := yI (z20)) rfl rfl ?_
          refine yG.load xik rfl (fun _ _ => rfl) (v := yI (z4)) rfl rfl ?_
          refine yG.icmp rfl (t := 290) rfl ⟨by omega, by omega⟩ ⟨by omega, by omega⟩ (fun c25 => ?_) (fun c25 => ?_)
          · have c25 : (z20 : Int) ≤ z4 := c25
            refine yG.num (c := 0) rfl (fun _ _ => rfl) (by decide) ?_
            refine yG.goto rfl (t := 326) rfl ?_
            refine yG.ret rfl (fun _ _ => rfl) ?_
            exact (yP.bool (by omega) ⟨⟨⟨0, rfl, by omega, by omega, trivial⟩, A_h19⟩, M_bRg_h19⟩)
          · have c25 : (z20 : Int) > z4 := c25
            refine yG.num (c := 1) rfl (fun _ _ => rfl) (by decide) ?_
            refine yG.goto rfl (t := 326) rfl ?_
            refine yG.ret rfl (fun _ _ => rfl) ?_
            exact (yP.bool (by omega) ⟨⟨⟨1, rfl, by omega, by omega, trivial⟩, A_h19⟩, M_bRg_h19⟩)
    · have c9 : (z6 : Int) = 9 := c9
      refine yG.load xak rfl (fun _ _ => rfl) (v := yR 2073) rfl rfl ?_
      refine yG.getO A_hp.1 (w_M_seenLost W H_2073) rfl rfl (fun r26 H_r26 O_r26 q_r26 => ?_)
      obtain rfl := u_M_seenLost W H_r26
      refine yG.load xik rfl (fun _ _ => rfl) (v := yI (z2)) rfl rfl ?_
      refine yG.iald A_hp.1 (v_M_seenLost W H_r26) rfl (by omega) (by omega) (fun z27 e_z27 i_z27 l_z27 u_z27 => ?_)
      refine yG.goto rfl (t := 272) rfl ?_
      refine yG.store1 xik (L' := [(7, yI (z27)), (6, yI (z5)), (5, yI (z4)), (4, yI (z3)), (3, yI (z2)), (0, yR 2073), (1, yI (p1)), (2, yI (p2))]) rfl (fun _ _ => rfl) rfl rfl ?_
      refine yG.load xik rfl (fun _ _ => rfl) (v := yI (z3)) rfl rfl ?_
      refine yG.ifz rfl (t := 294) rfl ⟨by omega, by omega⟩ (fun c28 => ?_) (fun c28 => ?_)
      · have c28 : (z3 : Int) ≤ 0 := c28
        refine yG.load xik rfl (fun _ _ => rfl) (v := yI (z3)) rfl rfl ?_
        refine yG.ifz rfl (t := 314) rfl ⟨by omega, by omega⟩ (fun c29 => ?_) (fun c29 => ?_)
        · have c29 : (z3 : Int) ≥ 0 := c29
          refine yG.load xik rfl (fun _ _ => rfl) (v := yI (z27)) rfl rfl ?_
          refine yG.load xik rfl (fun _ _ => rfl) (v := yI (z4)) rfl rfl ?_
          refine yG.icmp rfl (t := 325) rfl ⟨by omega, by omega⟩ ⟨by omega, by omega⟩ (fun c30 => ?_) (fun c30 => ?_)
          · have c30 : (z27 : Int) ≠ z4 := c30
            refine yG.num (c := 0) rfl (fun _ _ => rfl) (by decide) ?_
            refine yG.ret rfl (fun _ _ => rfl) ?_
            exact (yP.bool (by omega) ⟨⟨⟨0, rfl, by omega, by omega, trivial⟩, A_hp⟩, M_bRg_hp⟩)
          · have c30 : (z27 : Int) = z4 := c30
            refine yG.num (c := 1) rfl (fun _ _ => rfl) (by decide) ?_
            refine yG.goto rfl (t := 326) rfl ?_
            refine yG.ret rfl (fun _ _ => rfl) ?_
            exact (yP.bool (by omega) ⟨⟨⟨1, rfl, by omega, by omega, trivial⟩, A_hp⟩, M_bRg_hp⟩)
        · have c29 : (z3 : Int) < 0 := c29
          refine yG.load xik rfl (fun _ _ => rfl) (v := yI (z27)) rfl rfl ?_
          refine yG.load xik rfl (fun _ _ => rfl) (v := yI (z4)) rfl rfl ?_
          refine yG.icmp rfl (t := 310) rfl ⟨by omega, by omega⟩ ⟨by omega, by omega⟩ (fun c31 => ?_) (fun c31 => ?_)
          · have c31 : (z27 : Int) ≥ z4 := c31
            refine yG.num (c := 0) rfl (fun _ _ => rfl) (by decide) ?_
            refine yG.goto rfl (t := 326) rfl ?_
            refine yG.ret rfl (fun _ _ => rfl) ?_
            exact (yP.bool (by omega) ⟨⟨⟨0, rfl, by omega, by omega, trivial⟩, A_hp⟩, M_bRg_hp⟩)
          · have c31 : (z27 : Int) < z4 := c31
            refine yG.num (c := 1) rfl (fun _ _ => rfl) (by decide) ?_
            refine yG.goto rfl (t := 326) rfl ?_
            refine yG.ret rfl (fun _ _ => rfl) ?_
            exact (yP.bool (by omega) ⟨⟨⟨1, rfl, by omega, by omega, trivial⟩, A_hp⟩, M_bRg_hp⟩)
      · have c28 : (z3 : Int) > 0 := c28
        refine yG.load xik rfl (fun _ _ => rfl) (v := yI (z27)) rfl rfl ?_
        refine yG.load xik rfl (fun _ _ => rfl) (v := yI (z4)) rfl rfl ?_
        refine yG.icmp rfl (t := 290) rfl ⟨by omega, by omega⟩ ⟨by omega, by omega⟩ (fun c32 => ?_) (fun c32 => ?_)
        · have c32 : (z27 : Int) ≤ z4 := c32
          refine yG.num (c := 0) rfl (fun _ _ => rfl) (by decide) ?_
          refine yG.goto rfl (t := 326) rfl ?_
          refine yG.ret rfl (fun _ _ => rfl) ?_
          exact (yP.bool (by omega) ⟨⟨⟨0, rfl, by omega, by omega, trivial⟩, A_hp⟩, M_bRg_hp⟩)
        · have c32 : (z27 : Int) > z4 := c32
          refine yG.num (c := 1) rfl (fun _ _ => rfl) (by decide) ?_
          refine yG.goto rfl (t := 326) rfl ?_
          refine yG.ret rfl (fun _ _ => rfl) ?_
          exact (yP.bool (by omega) ⟨⟨⟨1, rfl, by omega, by omega, trivial⟩, A_hp⟩, M_bRg_hp⟩)
  · skip
    refine yG.tswC (i := 0) (t := 88) rfl ⟨by omega, by omega⟩ (by omega) (by omega) rfl rfl ?_
    refine yG.load xak rfl (fun _ _ => rfl) (v := yR 2073) rfl rfl ?_
    refine yG.getO A_hp.1 (w_M_seenField W H_2073) rfl rfl (fun r33 H_r33 O_r33 q_r33 => ?_)
    obtain rfl := u_M_seenField W H_r33
    refine yG.num (c := 1320) rfl (fun _ _ => rfl) (by decide) ?_
    refine yG.load xik rfl (fun _ _ => rfl) (v := yI (z2)) rfl rfl ?_
    refine yG.imul rfl ?_
    refine yG.num (c := 1) rfl (fun _ _ => rfl) (by decide) ?_
    refine yG.load xik rfl (fun _ _ => rfl) (v := yI (z5)) rfl rfl ?_
    refine yG.num (c := 0) rfl (fun _ _ => rfl) (by decide) ?_
    refine yG.invS (rest := [yI (1320 * z2), yR 2158]) rfl rfl rfl rfl (c_GModel_f W (d + 7) A_hp.1 (1) (z5) (0) (by omega) (by omega) (by omega) (by omega) (by omega) (by omega)) (fun rv hp9 q9 => ?_)
    obtain ⟨⟨z34, rfl, l_z34, u_z34, R_z34⟩, e9⟩ := q9
    rw [e9]
    show yG _ _ _ _ _ _ _ _ _ _ (yI z34 :: [yI (1320 * z2), yR 2158]) _
    refine yG.iadd rfl ?_
    refine yG.ialdF A_hp.1 (v_M_seenField W H_r33) (lo := 0) (hi := 2) ((yfT_ix (s := 1) (k := 0) (by omega) (by omega) (by omega) (by decide)).trans rfl) rfl (by omega) (by omega) (fun z35 e_z35 i_z35 l_z35 u_z35 => ?_)
    refine yG.num (c := 1) rfl (fun _ _ => rfl) (by decide) ?_
    refine yG.icmp rfl (t := 114) rfl ⟨by omega, by omega⟩ ⟨by omega, by omega⟩ (fun c36 => ?_) (fun c36 => ?_)
    · have c36 : (z35 : Int) ≠ 1 := c36
      refine yG.num (c := 0) rfl (fun _ _ => rfl) (by decide) ?_
      refine yG.ret rfl (fun _ _ => rfl) ?_
      exact (yP.bool (by omega) ⟨⟨⟨0, rfl, by omega, by omega, trivial⟩, A_hp⟩, M_bRg_hp⟩)
    · have c36 : (z35 : Int) = 1 := c36
      refine yG.num (c := 1) rfl (fun _ _ => rfl) (by decide) ?_
      refine yG.goto rfl (t := 115) rfl ?_
      refine yG.ret rfl (fun _ _ => rfl) ?_
      exact (yP.bool (by omega) ⟨⟨⟨1, rfl, by omega, by omega, trivial⟩, A_hp⟩, M_bRg_hp⟩)
  · skip
    refine yG.tswC (i := 1) (t := 116) rfl ⟨by omega, by omega⟩ (by omega) (by omega) rfl rfl ?_
    refine yG.load xak rfl (fun _ _ => rfl) (v := yR 2073) rfl rfl ?_
    refine yG.getO A_hp.1 (w_M_seenField W H_2073) rfl rfl (fun r37 H_r37 O_r37 q_r37 => ?_)
    obtain rfl := u_M_seenField W H_r37
    refine yG.num (c := 1320) rfl (fun _ _ => rfl) (by decide) ?_
    refine yG.load xik rfl (fun _ _ => rfl) (v := yI (z2)) rfl rfl ?_
    refine yG.imul rfl ?_
    refine yG.num (c := 1) rfl (fun _ _ => rfl) (by decide) ?_
    refine yG.load xik rfl (fun _ _ => rfl) (v := yI (z5)) rfl rfl ?_
    refine yG.num (c := 2) rfl (fun _ _ => rfl) (by decide) ?_
    refine yG.invS (rest := [yI (1320 * z2), yR 2158]) rfl rfl rfl rfl (c_GModel_f W (d + 7) A_hp.1 (1) (z5) (2) (by omega) (by omega) (by omega) (by omega) (by omega) (by omega)) (fun rv hp9 q9 => ?_)
    obtain ⟨⟨z38, rfl, l_z38, u_z38, R_z38⟩, e9⟩ := q9
    rw [e9]
    show yG _ _ _ _ _ _ _ _ _ _ (yI z38 :: [yI (1320 * z2), yR 2158]) _
    refine yG.iadd rfl ?_
    refine yG.ialdF A_hp.1 (v_M_seenField W H_r37) (lo := 0) (hi := 1) ((yfT_ix (s := 1) (k := 2) (by omega) (by omega) (by omega) (by decide)).trans rfl) rfl (by omega) (by omega) (fun z39 e_z39 i_z39 l_z39 u_z39 => ?_)
    refine yG.num (c := 1) rfl (fun _ _ => rfl) (by decide) ?_
    refine yG.icmp rfl (t := 142) rfl ⟨by omega, by omega⟩ ⟨by omega, by omega⟩ (fun c40 => ?_) (fun c40 => ?_)
    · have c40 : (z39 : Int) ≠ 1 := c40
      refine yG.num (c := 0) rfl (fun _ _ => rfl) (by decide) ?_
      refine yG.ret rfl (fun _ _ => rfl) ?_
      exact (yP.bool (by omega) ⟨⟨⟨0, rfl, by omega, by omega, trivial⟩, A_hp⟩, M_bRg_hp⟩)
    · have c40 : (z39 : Int) = 1 := c40
      refine yG.num (c := 1) rfl (fun _ _ => rfl) (by decide) ?_
      refine yG.goto rfl (t := 143) rfl ?_
      refine yG.ret rfl (fun _ _ => rfl) ?_
      exact (yP.bool (by omega) ⟨⟨⟨1, rfl, by omega, by omega, trivial⟩, A_hp⟩, M_bRg_hp⟩)
  · skip
    refine yG.tswC (i := 2) (t := 144) rfl ⟨by omega, by omega⟩ (by omega) (by omega) rfl rfl ?_
    have o9_144 := g90 (by omega) (by omega)
    have x9_144 : z5 ≤ 15 := R_z5.2.2 (by omega) (fun e => o9_144.2 (by omega))
    refine yG.load xak rfl (fun _ _ => rfl) (v := yR 2073) rfl rfl ?_
    refine yG.getO A_hp.1 (w_M_seenLive W H_2073) rfl rfl (fun r41 H_r41 O_r41 q_r41 => ?_)
    obtain rfl := u_M_seenLive W H_r41
    refine yG.num (c := 16) rfl (fun _ _ => rfl) (by decide) ?_
    refine yG.load xik rfl (fun _ _ => rfl) (v := yI (z2)) rfl rfl ?_
    refine yG.imul rfl ?_
    refine yG.load xik rfl (fun _ _ => rfl) (v := yI (z5)) rfl rfl ?_
    refine yG.iadd rfl ?_
    refine yG.bald A_hp.1 (v_M_seenLive W H_r41) rfl (by omega) (by omega) (fun z42 e_z42 i_z42 l_z42 u_z42 => ?_)
    refine yG.ret rfl (fun _ _ => rfl) ?_
    exact (yP.bool (by omega) ⟨⟨⟨z42, rfl, by omega, by omega, trivial⟩, A_hp⟩, M_bRg_hp⟩)
  · skip
    refine yG.tswC (i := 3) (t := 157) rfl ⟨by omega, by omega⟩ (by omega) (by omega) rfl rfl ?_
    refine yG.load xak rfl (fun _ _ => rfl) (v := yR 2073) rfl rfl ?_
    refine yG.getO A_hp.1 (w_M_seenField W H_2073) rfl rfl (fun r43 H_r43 O_r43 q_r43 => ?_)
    obtain rfl := u_M_seenField W H_r43
    refine yG.num (c := 1320) rfl (fun _ _ => rfl) (by decide) ?_
    refine yG.load xik rfl (fun _ _ => rfl) (v := yI (z2)) rfl rfl ?_
    refine yG.imul rfl ?_
    refine yG.num (c := 0) rfl (fun _ _ => rfl) (by decide) ?_
    refine yG.load xik rfl (fun _ _ => rfl) (v := yI (z5)) rfl rfl ?_
    refine yG.num (c := 0) rfl (fun _ _ => rfl) (by decide) ?_
    refine yG.invS (rest := [yI (1320 * z2), yR 2158]) rfl rfl rfl rfl (c_GModel_f W (d + 7) A_hp.1 (0) (z5) (0) (by omega) (by omega) (by omega) (by omega) (by omega) (by omega)) (fun rv hp9 q9 => ?_)
    obtain ⟨⟨z44, rfl, l_z44, u_z44, R_z44⟩, e9⟩ := q9
    rw [e9]
    show yG _ _ _ _ _ _ _ _ _ _ (yI z44 :: [yI (1320 * z2), yR 2158]) _
    refine yG.iadd rfl ?_
    refine yG.ialdF A_hp.1 (v_M_seenField W H_r43) (lo := 0) (hi := 1) ((yfT_ix (s := 0) (k := 0) (by omega) (by omega) (by omega) (by decide)).trans rfl) rfl (by omega) (by omega) (fun z45 e_z45 i_z45 l_z45 u_z45 => ?_)
    refine yG.num (c := 1) rfl (fun _ _ => rfl) (by decide) ?_
    refine yG.icmp rfl (t := 183) rfl ⟨by omega, by omega⟩ ⟨by omega, by omega⟩ (fun c46 => ?_) (fun c46 => ?_)
    · have c46 : (z45 : Int) ≠ 1 := c46
      refine yG.num (c := 0) rfl (fun _ _ => rfl) (by decide) ?_
      refine yG.ret rfl (fun _ _ => rfl) ?_
      exact (yP.bool (by omega) ⟨⟨⟨0, rfl, by omega, by omega, trivial⟩, A_hp⟩, M_bRg_hp⟩)
    · have c46 : (z45 : Int) = 1 := c46
      refine yG.num (c := 1) rfl (fun _ _ => rfl) (by decide) ?_
      refine yG.goto rfl (t := 184) rfl ?_
      refine yG.ret rfl (fun _ _ => rfl) ?_
      exact (yP.bool (by omega) ⟨⟨⟨1, rfl, by omega, by omega, trivial⟩, A_hp⟩, M_bRg_hp⟩)
  · skip
    refine yG.tswC (i := 4) (t := 185) rfl ⟨by omega, by omega⟩ (by omega) (by omega) rfl rfl ?_
    have o9_185 := g90 (by omega) (by omega)
    have x9_185 : z5 ≤ 15 := R_z5.2.2 (by omega) (fun e => o9_185.2 (by omega))
    refine yG.load xak rfl (fun _ _ => rfl) (v := yR 2073) rfl rfl ?_
    refine yG.getO A_hp.1 (w_M_seenNode W H_2073) rfl rfl (fun r47 H_r47 O_r47 q_r47 => ?_)
    obtain rfl := u_M_seenNode W H_r47
    refine yG.num (c := 16) rfl (fun _ _ => rfl) (by decide) ?_
    refine yG.load xik rfl (fun _ _ => rfl) (v := yI (z2)) rfl rfl ?_
    refine yG.imul rfl ?_
    refine yG.load xik rfl (fun _ _ => rfl) (v := yI (z5)) rfl rfl ?_
    refine yG.iadd rfl ?_
    refine yG.iald A_hp.1 (v_M_seenNode W H_r47) rfl (by omega) (by omega) (fun z48 e_z48 i_z48 l_z48 u_z48 => ?_)
    refine yG.load xak rfl (fun _ _ => rfl) (v := yR 2073) rfl rfl ?_
    refine yG.getS9 A_hp.1 (w_M_seenNode W H_2073) q_r47 rfl rfl ?_
    refine yG.num (c := 16) rfl (fun _ _ => rfl) (by decide) ?_
    refine yG.load xik rfl (fun _ _ => rfl) (v := yI (z2)) rfl rfl ?_
    have b9 := (g91 (by omega)).1
    refine yG.imul rfl ?_
    refine yG.load xak rfl (fun _ _ => rfl) (v := yR 2073) rfl rfl ?_
    refine yG.load xik rfl (fun _ _ => rfl) (v := yI (z4)) rfl rfl ?_
    refine yG.load xik rfl (fun _ _ => rfl) (v := yI (p2)) rfl rfl ?_
    refine yG.invV (rest := [yI (16 * z2), yR 2159, yI (z48)]) A_hp.1 (bOb (d_M W) H_2073) rfl rfl rfl rfl (c_GModel_objectOf_x W (d + 5) A_hp.1 H_2073 (z4) (p2) (by omega) (by omega) (by omega) (by omega)) (fun rv hp9 q9 => ?_)
    obtain ⟨⟨z49, rfl, l_z49, u_z49, R_z49⟩, e9⟩ := q9
    rw [e9]
    show yG _ _ _ _ _ _ _ _ _ _ (yI z49 :: [yI (16 * z2), yR 2159, yI (z48)]) _
    have o9_212 := g91 (by omega)
    have x9_212 : z49 ≤ 15 := R_z49.2.2 (by omega) (fun e => o9_212.2 (by omega))
    refine yG.iadd rfl ?_
    refine yG.iald A_hp.1 (v_M_seenNode W H_r47) rfl (by omega) (by omega) (fun z50 e_z50 i_z50 l_z50 u_z50 => ?_)
    refine yG.icmp rfl (t := 221) rfl ⟨by omega, by omega⟩ ⟨by omega, by omega⟩ (fun c51 => ?_) (fun c51 => ?_)
    · have c51 : (z48 : Int) ≠ z50 := c51
      refine yG.num (c := 0) rfl (fun _ _ => rfl) (by decide) ?_
      refine yG.ret rfl (fun _ _ => rfl) ?_
      exact (yP.bool (by omega) ⟨⟨⟨0, rfl, by omega, by omega, trivial⟩, A_hp⟩, M_bRg_hp⟩)
    · have c51 : (z48 : Int) = z50 := c51
      refine yG.num (c := 1) rfl (fun _ _ => rfl) (by decide) ?_
      refine yG.goto rfl (t := 222) rfl ?_
      refine yG.ret rfl (fun _ _ => rfl) ?_
      exact (yP.bool (by omega) ⟨⟨⟨1, rfl, by omega, by omega, trivial⟩, A_hp⟩, M_bRg_hp⟩)
theorem c_GModel_holds {hp : xH} (W : mW G) (d : Nat) (hT : zTy G hp) (M_bRg : bRg G hp) (M_bWf : bWf G hp) (M_bRc : bRc G hp) (M_bPr : bPr G hp) (H_2073 : bRo G 116 2073) (p1 p2 : Int) (h1l : 0 ≤ p1) (h1u : p1 ≤ 11) (h2l : 0 ≤ p2) (h2u : p2 ≤ 23) (g90 : p1 < ys hp 2073 114) (g91 : 2 ≤ ys hp 2148 (p1 : Int).toNat → ys hp 2148 (p1 : Int).toNat ≤ 3 → p2 ≤ 15) : yC (xcall 89 xfts xpools xms (d + 10)) 414 [yR 2073, yI (p1), yI (p2)] hp (fun rv hp' => (bQi G [(83076749736557242056487941267521536, 10), (83076749736557242056487941267521536, 11), (83076749736557242056487941267521536, 38), (83076749736557242056487941267521536, 40), (83076749736557242056487941267521536, 45), (83076749736557242056487941267521536, 46), (83076749736557242056487941267521536, 47), (257110087081438455501908223388662158442497249078758448755113984, 256)] hp 0 1 (fun _ => True)) rv hp' ∧ bRg G hp') := by
  have A_hp : bAx G [(83076749736557242056487941267521536, 10), (83076749736557242056487941267521536, 11), (83076749736557242056487941267521536, 38), (83076749736557242056487941267521536, 40), (83076749736557242056487941267521536, 45), (83076749736557242056487941267521536, 46), (83076749736557242056487941267521536, 47), (257110087081438455501908223388662158442497249078758448755113984, 256)] hp hp := bAx.rf hT
  have M_bRg_hp := M_bRg
  have H : ∀ m : Nat, (∀ a3 : Int, ∀ a4 : Int, ∀ hq, bAx G [(83076749736557242056487941267521536, 10), (83076749736557242056487941267521536, 11), (83076749736557242056487941267521536, 38), (83076749736557242056487941267521536, 40), (83076749736557242056487941267521536, 45), (83076749736557242056487941267521536, 46), (83076749736557242056487941267521536, 47), (257110087081438455501908223388662158442497249078758448755113984, 256)] hp hq → bRg G hq → 0 ≤ a3 → (-2500) ≤ 0 - a3 → 0 ≤ a4 → (-2500) ≤ 0 - a4 → 0 ≤ p1 → (-11) ≤ 0 - p1 → 0 ≤ p2 → (-23) ≤ 0 - p2 → 0 ≤ 0 - a3 + a4 → (∃ n : Nat, a4 = ys hp 2149 (p1 : Int).toNat + n ∧ a3 = mH (fun i => ys hp 2150 (4 * ((ys hp 2149 (p1 : Int).toNat).toNat + i))) n ∧ a4 ≤ ys hp 2149 (p1 + 1 : Int).toNat) → 0 - 2 * a4 + 5001 < (m : Int) → yG 89 xfts (xcall 89 xfts xpools xms (d + 9)) (xpool xp_RX13) [] xt_X13_holds (yP 4 (fun rv hp' => (bQi G [(83076749736557242056487941267521536, 10), (83076749736557242056487941267521536, 11), (83076749736557242056487941267521536, 38), (83076749736557242056487941267521536, 40), (83076749736557242056487941267521536, 45), (83076749736557242056487941267521536, 46), (83076749736557242056487941267521536, 47), (257110087081438455501908223388662158442497249078758448755113984, 256)] hp 0 1 (fun _ => True)) rv hp' ∧ bRg G hp')) (53 * m) 10 [(0, yR 2073), (1, yI (p1)), (2, yI (p2)), (3, yI (a3)), (4, yI (a4))] [] hq) := by
    intro m
    induction m with
    | zero =>
      intros; exfalso; omega
    | succ m ih =>
      have i_10 := ih
      clear ih
      intro a3 a4 hq A_hq M_bRg_hq f0 f1 f2 f3 f4 f5 f6 f7 f8 X_10 hm
      refine yG.mono (N := 53 * m + 53) ?_ (by omega)
      obtain ⟨n, n1, n2, n3⟩ := X_10
      obtain ⟨-, -, f0, f1⟩ := (v_M_ruleFrom W (s_M_ruleFrom W)).int hT (j := (p1 : Int).toNat) (by omega)
      obtain ⟨-, -, f2, f3⟩ := (v_M_ruleFrom W (s_M_ruleFrom W)).int hT (j := (p1 + 1 : Int).toNat) (by omega)
      obtain ⟨b1, b2⟩ := M_bRc (p1 : Int).toNat (by omega) (by omega)
      rw [show (p1 : Int).toNat + 1 = (p1 + 1 : Int).toNat by omega] at b1 b2
      have b3 := b2.bd n (by omega)
      refine yG.load xik rfl (fun _ _ => rfl) (v := yI (a4)) rfl rfl ?_
      refine yG.load xak rfl (fun _ _ => rfl) (v := yR 2073) rfl rfl ?_
      refine yG.getO A_hq.1 (w_M_ruleFrom W H_2073) rfl rfl (fun r1 H_r1 O_r1 q_r1 => ?_)
      obtain rfl := u_M_ruleFrom W H_r1
      refine yG.load xik rfl (fun _ _ => rfl) (v := yI (p1)) rfl rfl ?_
      refine yG.num (c := 1) rfl (fun _ _ => rfl) (by decide) ?_
      refine yG.iadd rfl ?_
      refine yG.iald A_hq.1 (v_M_ruleFrom W H_r1) rfl (by omega) (by omega) (fun z2 e_z2 i_z2 l_z2 u_z2 => ?_)
      have ht20 : ys hq 2149 (p1 + 1 : Int).toNat = ys hp 2149 (p1 + 1 : Int).toNat := A_hq.ys (s_M_ruleFrom W) (bNo_ok (by decide) _)
      refine yG.icmp rfl (t := 174) rfl ⟨by omega, by omega⟩ ⟨by omega, by omega⟩ (fun c3 => ?_) (fun c3 => ?_)
      · have c3 : (a4 : Int) ≥ z2 := c3
        refine yG.load xak rfl (fun _ _ => rfl) (v := yR 2073) rfl rfl ?_
        refine yG.getO A_hq.1 (w_M_pile W H_2073) rfl rfl (fun r4 H_r4 O_r4 q_r4 => ?_)
        obtain rfl := u_M_pile W H_r4
        refine yG.num (c := 0) rfl (fun _ _ => rfl) (by decide) ?_
        refine yG.bald A_hq.1 (v_M_pile W H_r4) rfl (by omega) (by omega) (fun z5 e_z5 i_z5 l_z5 u_z5 => ?_)
        refine yG.ret rfl (fun _ _ => rfl) ?_
        exact (yP.bool (by omega) ⟨⟨⟨z5, rfl, by omega, by omega, trivial⟩, A_hq⟩, M_bRg_hq⟩)
      · have c3 : (a4 : Int) < z2 := c3
        refine yG.load xak rfl (fun _ _ => rfl) (v := yR 2073) rfl rfl ?_
        refine yG.getO A_hq.1 (w_M_code W H_2073) rfl rfl (fun r6 H_r6 O_r6 q_r6 => ?_)
        obtain rfl := u_M_code W H_r6
        refine yG.num (c := 4) rfl (fun _ _ => rfl) (by decide) ?_
        refine yG.load xik rfl (fun _ _ => rfl) (v := yI (a4)) rfl rfl ?_
        refine yG.imul rfl ?_
        refine yG.ialdF A_hq.1 (v_M_code W H_r6) ((bTf_m (m := 0) (by omega) (by decide)).trans rfl) rfl (by omega) (by omega) (fun z7 e_z7 i_z7 l_z7 u_z7 => ?_)
        refine yG.store1 xik (L' := [(5, yI (z7)), (0, yR 2073), (1, yI (p1)), (2, yI (p2)), (3, yI (a3)), (4, yI (a4))]) rfl (fun _ _ => rfl) rfl rfl ?_
        have hc34 : ys hq 2150 = ys hp 2150 := funext fun j => A_hq.ys (s_M_code W) (bNo_ok (by decide) j)
        have kd34 : ys hp 2150 (4 * ((ys hp 2149 (p1 : Int).toNat).toNat + n)) = z7 := by rw [e_z7, hc34]; congr 1; omega
        have ok34 := b2 n (by omega)
        rw [kd34] at ok34
        refine yG.load xik rfl (fun _ _ => rfl) (v := yI (z7)) rfl rfl ?_
        refine yG.num (c := 1) rfl (fun _ _ => rfl) (by decide) ?_
        refine yG.icmp rfl (t := 67) rfl ⟨by omega, by omega⟩ ⟨by omega, by omega⟩ (fun c8 => ?_) (fun c8 => ?_)
        · have c8 : (z7 : Int) ≠ 1 := c8
          refine yG.load xik rfl (fun _ _ => rfl) (v := yI (z7)) rfl rfl ?_
          refine yG.num (c := 2) rfl (fun _ _ => rfl) (by decide) ?_
          refine yG.icmp rfl (t := 79) rfl ⟨by omega, by omega⟩ ⟨by omega, by omega⟩ (fun c9 => ?_) (fun c9 => ?_)
          · have c9 : (z7 : Int) = 2 := c9
            have tp79 : 2 ≤ a3 := by have := ok34.2.1 (by omega); omega
            refine yG.iinc rfl (a := a3) rfl (L' := [(3, yI (a3 + (-1))), (5, yI (z7)), (0, yR 2073), (1, yI (p1)), (2, yI (p2)), (4, yI (a4))]) rfl ?_
            refine yG.load xak rfl (fun _ _ => rfl) (v := yR 2073) rfl rfl ?_
            refine yG.getO A_hq.1 (w_M_pile W H_2073) rfl rfl (fun r10 H_r10 O_r10 q_r10 => ?_)
            obtain rfl := u_M_pile W H_r10
            refine yG.load xik rfl (fun _ _ => rfl) (v := yI (a3 + (-1))) rfl rfl ?_
            refine yG.num (c := 1) rfl (fun _ _ => rfl) (by decide) ?_
            refine yG.isub rfl ?_
            refine yG.load xik rfl (fun _ _ => rfl) (v := yI (z7)) rfl rfl ?_
            refine yG.num (c := 2) rfl (fun _ _ => rfl) (by decide) ?_
            refine yG.icmp rfl (t := 123) rfl ⟨by omega, by omega⟩ ⟨by omega, by omega⟩ (fun c11 => ?_) (fun c11 => ?_)
            · have c11 : (z7 : Int) ≠ 2 := c11
              exfalso; omega
            · have c11 : (z7 : Int) = 2 := c11
              refine yG.load xak rfl (fun _ _ => rfl) (v := yR 2073) rfl rfl ?_
              refine yG.getS9 A_hq.1 (w_M_pile W H_2073) q_r10 rfl rfl ?_
              refine yG.load xik rfl (fun _ _ => rfl) (v := yI (a3 + (-1))) rfl rfl ?_
              refine yG.num (c := 1) rfl (fun _ _ => rfl) (by decide) ?_
              refine yG.isub rfl ?_
              refine yG.bald A_hq.1 (v_M_pile W H_r10) rfl (by omega) (by omega) (fun z12 e_z12 i_z12 l_z12 u_z12 => ?_)
              refine yG.ifz rfl (t := 119) rfl ⟨by omega, by omega⟩ (fun c13 => ?_) (fun c13 => ?_)
              · have c13 : (z12 : Int) = 0 := c13
                refine yG.num (c := 0) rfl (fun _ _ => rfl) (by decide) ?_
                refine yG.goto rfl (t := 148) rfl ?_
                refine yG.bast A_hq.1 (v_M_pile W H_r10) (W.2.1 _ _ H_r10 (by decide) (by decide)) rfl (by omega) (by omega) ⟨by omega, by omega⟩ (by omega) (by omega) (fun h14 T_h14 b_h14 f_h14 y_h14 => ?_)
                have M_bRg_h14 := M_bRg_hq.fr (bAx.put (Wl := [(205688069665150755269371147819668813122841983204197482918576128, 256)]) (bAx.rf A_hq.1) T_h14 b_h14 f_h14 H_r10 (bAll_ok (by decide) _)) (by decide)
                have A_h14 := A_hq.put T_h14 b_h14 f_h14 H_r10 (bAll_ok (by decide) _)
                have qq1 : zsl h14 2073 134 = yR 2164 := ((f_h14 2073 134).trans (if_neg (fun e => (bRo.ne H_2073 H_r10 (by decide)) e.1))).trans q_r10
                refine yG.goto rfl (t := 168) rfl ?_
                refine yG.iinc rfl (a := a4) rfl (L' := [(4, yI (a4 + 1)), (3, yI (a3 + (-1))), (5, yI (z7)), (0, yR 2073), (1, yI (p1)), (2, yI (p2))]) rfl ?_
                refine yG.goto rfl (t := 10) rfl ?_
                exact yG.mono (yG.sub (i_10 (a3 + (-1)) (a4 + 1)  h14 A_h14 M_bRg_h14   (by omega) (by omega) (by omega) (by omega) (by omega) (by omega) (by omega) (by omega) (by omega) ⟨n + 1, by omega, by show a3 + (-1) = mH _ (n + 1); rw [mH_less (w := fun i => ys hp 2150 (4 * ((ys hp 2149 (p1 : Int).toNat).toNat + i))) (n := n) (by show _; omega)]; omega, by omega⟩ (by omega)) (ySub.cons rfl (ySub.cons rfl (ySub.cons rfl (ySub.cons rfl (ySub.cons rfl (ySub.nil))))))) (by omega)
              · have c13 : (z12 : Int) ≠ 0 := c13
                refine yG.load xak rfl (fun _ _ => rfl) (v := yR 2073) rfl rfl ?_
                refine yG.getS9 A_hq.1 (w_M_pile W H_2073) q_r10 rfl rfl ?_
                refine yG.load xik rfl (fun _ _ => rfl) (v := yI (a3 + (-1))) rfl rfl ?_
                refine yG.bald A_hq.1 (v_M_pile W H_r10) rfl (by omega) (by omega) (fun z15 e_z15 i_z15 l_z15 u_z15 => ?_)
                refine yG.ifz rfl (t := 119) rfl ⟨by omega, by omega⟩ (fun c16 => ?_) (fun c16 => ?_)
                · have c16 : (z15 : Int) = 0 := c16
                  refine yG.num (c := 0) rfl (fun _ _ => rfl) (by decide) ?_
                  refine yG.goto rfl (t := 148) rfl ?_
                  refine yG.bast A_hq.1 (v_M_pile W H_r10) (W.2.1 _ _ H_r10 (by decide) (by decide)) rfl (by omega) (by omega) ⟨by omega, by omega⟩ (by omega) (by omega) (fun h17 T_h17 b_h17 f_h17 y_h17 => ?_)
                  have M_bRg_h17 := M_bRg_hq.fr (bAx.put (Wl := [(205688069665150755269371147819668813122841983204197482918576128, 256)]) (bAx.rf A_hq.1) T_h17 b_h17 f_h17 H_r10 (bAll_ok (by decide) _)) (by decide)
                  have A_h17 := A_hq.put T_h17 b_h17 f_h17 H_r10 (bAll_ok (by decide) _)
                  have qq2 : zsl h17 2073 134 = yR 2164 := ((f_h17 2073 134).trans (if_neg (fun e => (bRo.ne H_2073 H_r10 (by decide)) e.1))).trans q_r10
                  refine yG.goto rfl (t := 168) rfl ?_
                  refine yG.iinc rfl (a := a4) rfl (L' := [(4, yI (a4 + 1)), (3, yI (a3 + (-1))), (5, yI (z7)), (0, yR 2073), (1, yI (p1)), (2, yI (p2))]) rfl ?_
                  refine yG.goto rfl (t := 10) rfl ?_
                  exact yG.mono (yG.sub (i_10 (a3 + (-1)) (a4 + 1)  h17 A_h17 M_bRg_h17   (by omega) (by omega) (by omega) (by omega) (by omega) (by omega) (by omega) (by omega) (by omega) ⟨n + 1, by omega, by show a3 + (-1) = mH _ (n + 1); rw [mH_less (w := fun i => ys hp 2150 (4 * ((ys hp 2149 (p1 : Int).toNat).toNat + i))) (n := n) (by show _; omega)]; omega, by omega⟩ (by omega)) (ySub.cons rfl (ySub.cons rfl (ySub.cons rfl (ySub.cons rfl (ySub.cons rfl (ySub.nil))))))) (by omega)
                · have c16 : (z15 : Int) ≠ 0 := c16
                  refine yG.num (c := 1) rfl (fun _ _ => rfl) (by decide) ?_
                  refine yG.goto rfl (t := 148) rfl ?_
                  refine yG.bast A_hq.1 (v_M_pile W H_r10) (W.2.1 _ _ H_r10 (by decide) (by decide)) rfl (by omega) (by omega) ⟨by omega, by omega⟩ (by omega) (by omega) (fun h18 T_h18 b_h18 f_h18 y_h18 => ?_)
                  have M_bRg_h18 := M_bRg_hq.fr (bAx.put (Wl := [(205688069665150755269371147819668813122841983204197482918576128, 256)]) (bAx.rf A_hq.1) T_h18 b_h18 f_h18 H_r10 (bAll_ok (by decide) _)) (by decide)
                  have A_h18 := A_hq.put T_h18 b_h18 f_h18 H_r10 (bAll_ok (by decide) _)
                  have qq3 : zsl h18 2073 134 = yR 2164 := ((f_h18 2073 134).trans (if_neg (fun e => (bRo.ne H_2073 H_r10 (by decide)) e.1))).trans q_r10
                  refine yG.goto rfl (t := 168) rfl ?_
                  refine yG.iinc rfl (a := a4) rfl (L' := [(4, yI (a4 + 1)), (3, yI (a3 + (-1))), (5, yI (z7)), (0, yR 2073), (1, yI (p1)), (2, yI (p2))]) rfl ?_
                  refine yG.goto rfl (t := 10) rfl ?_
                  exact yG.mono (yG.sub (i_10 (a3 + (-1)) (a4 + 1)  h18 A_h18 M_bRg_h18   (by omega) (by omega) (by omega) (by omega) (by omega) (by omega) (by omega) (by omega) (by omega) ⟨n + 1, by omega, by show a3 + (-1) = mH _ (n + 1); rw [mH_less (w := fun i => ys hp 2150 (4 * ((ys hp 2149 (p1 : Int).toNat).toNat + i))) (n := n) (by show _; omega)]; omega, by omega⟩ (by omega)) (ySub.cons rfl (ySub.cons rfl (ySub.cons rfl (ySub.cons rfl (ySub.cons rfl (ySub.nil))))))) (by omega)
          · have c9 : (z7 : Int) ≠ 2 := c9
            refine yG.load xik rfl (fun _ _ => rfl) (v := yI (z7)) rfl rfl ?_
            refine yG.num (c := 3) rfl (fun _ _ => rfl) (by decide) ?_
            refine yG.icmp rfl (t := 152) rfl ⟨by omega, by omega⟩ ⟨by omega, by omega⟩ (fun c19 => ?_) (fun c19 => ?_)
            · have c19 : (z7 : Int) ≠ 3 := c19
              refine yG.load xak rfl (fun _ _ => rfl) (v := yR 2073) rfl rfl ?_
              refine yG.getO A_hq.1 (w_M_pile W H_2073) rfl rfl (fun r20 H_r20 O_r20 q_r20 => ?_)
              obtain rfl := u_M_pile W H_r20
              refine yG.load xik rfl (fun _ _ => rfl) (v := yI (a3)) rfl rfl ?_
              refine yG.load xak rfl (fun _ _ => rfl) (v := yR 2073) rfl rfl ?_
              refine yG.load xik rfl (fun _ _ => rfl) (v := yI (a4)) rfl rfl ?_
              refine yG.load xik rfl (fun _ _ => rfl) (v := yI (p2)) rfl rfl ?_
              refine yG.invV (rest := [yI (a3), yR 2164]) A_hq.1 (bOb (d_M W) H_2073) rfl rfl rfl rfl (c_GModel_holdsCode W d A_hq.1 M_bRg_hq (M_bWf.fr A_hq (by decide)) (M_bPr.fr A_hq (by decide)) H_2073 (a4) (p2) (by omega) (by omega) (by omega) (by omega) (by intro u1 u2; have k9 : (4 * a4 : Int).toNat = 4 * ((ys hp 2149 (p1 : Int).toNat).toNat + n) := (by omega); have k8 : (4 * a4 + 2 : Int).toNat = 4 * ((ys hp 2149 (p1 : Int).toNat).toNat + n) + 2 := (by omega); rw [k9] at u1 u2; rw [k8]; rw [hc34] at *; rw [kd34] at u1 u2; obtain ⟨o1, o2⟩ := ok34.2.2.1 u1 u2; exact ⟨o1, fun e => g91 (o2 e).1 (o2 e).2⟩) (by intro u1; have k9 : (4 * a4 : Int).toNat = 4 * ((ys hp 2149 (p1 : Int).toNat).toNat + n) := (by omega); have k8 : (4 * a4 + 3 : Int).toNat = 4 * ((ys hp 2149 (p1 : Int).toNat).toNat + n) + 3 := (by omega); rw [k9] at u1; rw [k8]; rw [hc34] at *; rw [kd34] at u1; obtain ⟨o1, o2⟩ := ok34.2.2.2 u1; exact ⟨o1, fun e => g91 (o2 e).1 (o2 e).2⟩)) (fun rv h21 q9 => ?_)
              obtain ⟨q9, M_bRg_h21⟩ := q9
              obtain ⟨⟨z22, rfl, l_z22, u_z22, R_z22⟩, B_h21⟩ := q9
              have A_h21 := A_hq.tr B_h21 (by decide)
              have qq4 : zsl h21 2073 134 = yR 2164 := (B_h21.sl H_2073 (by decide)).trans q_r20
              show yG _ _ _ _ _ _ _ _ _ _ (yI z22 :: [yI (a3), yR 2164]) _
              refine yG.bast A_h21.1 (v_M_pile W H_r20) (W.2.1 _ _ H_r20 (by decide) (by decide)) rfl (by omega) (by omega) ⟨by omega, by omega⟩ (by omega) (by omega) (fun h23 T_h23 b_h23 f_h23 y_h23 => ?_)
              have M_bRg_h23 := M_bRg_h21.fr (bAx.put (Wl := [(205688069665150755269371147819668813122841983204197482918576128, 256)]) (bAx.rf A_h21.1) T_h23 b_h23 f_h23 H_r20 (bAll_ok (by decide) _)) (by decide)
              have A_h23 := A_h21.put T_h23 b_h23 f_h23 H_r20 (bAll_ok (by decide) _)
              have qq5 : zsl h23 2073 134 = yR 2164 := ((f_h23 2073 134).trans (if_neg (fun e => (bRo.ne H_2073 H_r20 (by decide)) e.1))).trans qq4
              refine yG.iinc rfl (a := a3) rfl (L' := [(3, yI (a3 + 1)), (5, yI (z7)), (0, yR 2073), (1, yI (p1)), (2, yI (p2)), (4, yI (a4))]) rfl ?_
              refine yG.iinc rfl (a := a4) rfl (L' := [(4, yI (a4 + 1)), (3, yI (a3 + 1)), (5, yI (z7)), (0, yR 2073), (1, yI (p1)), (2, yI (p2))]) rfl ?_
              refine yG.goto rfl (t := 10) rfl ?_
              exact yG.mono (yG.sub (i_10 (a3 + 1) (a4 + 1)  h23 A_h23 M_bRg_h23   (by omega) (by omega) (by omega) (by omega) (by omega) (by omega) (by omega) (by omega) (by omega) ⟨n + 1, by omega, by show a3 + 1 = mH _ (n + 1); rw [mH_more (w := fun i => ys hp 2150 (4 * ((ys hp 2149 (p1 : Int).toNat).toNat + i))) (n := n) (by show _; omega)]; omega, by omega⟩ (by omega)) (ySub.cons rfl (ySub.cons rfl (ySub.cons rfl (ySub.cons rfl (ySub.cons rfl (ySub.nil))))))) (by omega)
            · have c19 : (z7 : Int) = 3 := c19
              have tp79 : 2 ≤ a3 := by have := ok34.2.1 (by omega); omega
              refine yG.iinc rfl (a := a3) rfl (L' := [(3, yI (a3 + (-1))), (5, yI (z7)), (0, yR 2073), (1, yI (p1)), (2, yI (p2)), (4, yI (a4))]) rfl ?_
              refine yG.load xak rfl (fun _ _ => rfl) (v := yR 2073) rfl rfl ?_
              refine yG.getO A_hq.1 (w_M_pile W H_2073) rfl rfl (fun r24 H_r24 O_r24 q_r24 => ?_)
              obtain rfl := u_M_pile W H_r24
              refine yG.load xik rfl (fun _ _ => rfl) (v := yI (a3 + (-1))) rfl rfl ?_
              refine yG.num (c := 1) rfl (fun _ _ => rfl) (by decide) ?_
              refine yG.isub rfl ?_
              refine yG.load xik rfl (fun _ _ => rfl) (v := yI (z7)) rfl rfl ?_
              refine yG.num (c := 2) rfl (fun _ _ => rfl) (by decide) ?_
              refine yG.icmp rfl (t := 123) rfl ⟨by omega, by omega⟩ ⟨by omega, by omega⟩ (fun c25 => ?_) (fun c25 => ?_)
              · have c25 : (z7 : Int) ≠ 2 := c25
                refine yG.load xak rfl (fun _ _ => rfl) (v := yR 2073) rfl rfl ?_
                refine yG.getS9 A_hq.1 (w_M_pile W H_2073) q_r24 rfl rfl ?_
                refine yG.load xik rfl (fun _ _ => rfl) (v := yI (a3 + (-1))) rfl rfl ?_
                refine yG.num (c := 1) rfl (fun _ _ => rfl) (by decide) ?_
                refine yG.isub rfl ?_
                refine yG.bald A_hq.1 (v_M_pile W H_r24) rfl (by omega) (by omega) (fun z26 e_z26 i_z26 l_z26 u_z26 => ?_)
                refine yG.ifz rfl (t := 143) rfl ⟨by omega, by omega⟩ (fun c27 => ?_) (fun c27 => ?_)
                · have c27 : (z26 : Int) ≠ 0 := c27
                  refine yG.num (c := 1) rfl (fun _ _ => rfl) (by decide) ?_
                  refine yG.goto rfl (t := 148) rfl ?_
                  refine yG.bast A_hq.1 (v_M_pile W H_r24) (W.2.1 _ _ H_r24 (by decide) (by decide)) rfl (by omega) (by omega) ⟨by omega, by omega⟩ (by omega) (by omega) (fun h28 T_h28 b_h28 f_h28 y_h28 => ?_)
                  have M_bRg_h28 := M_bRg_hq.fr (bAx.put (Wl := [(205688069665150755269371147819668813122841983204197482918576128, 256)]) (bAx.rf A_hq.1) T_h28 b_h28 f_h28 H_r24 (bAll_ok (by decide) _)) (by decide)
                  have A_h28 := A_hq.put T_h28 b_h28 f_h28 H_r24 (bAll_ok (by decide) _)
                  have qq6 : zsl h28 2073 134 = yR 2164 := ((f_h28 2073 134).trans (if_neg (fun e => (bRo.ne H_2073 H_r24 (by decide)) e.1))).trans q_r24
                  refine yG.goto rfl (t := 168) rfl ?_
                  refine yG.iinc rfl (a := a4) rfl (L' := [(4, yI (a4 + 1)), (3, yI (a3 + (-1))), (5, yI (z7)), (0, yR 2073), (1, yI (p1)), (2, yI (p2))]) rfl ?_
                  refine yG.goto rfl (t := 10) rfl ?_
                  exact yG.mono (yG.sub (i_10 (a3 + (-1)) (a4 + 1)  h28 A_h28 M_bRg_h28   (by omega) (by omega) (by omega) (by omega) (by omega) (by omega) (by omega) (by omega) (by omega) ⟨n + 1, by omega, by show a3 + (-1) = mH _ (n + 1); rw [mH_less (w := fun i => ys hp 2150 (4 * ((ys hp 2149 (p1 : Int).toNat).toNat + i))) (n := n) (by show _; omega)]; omega, by omega⟩ (by omega)) (ySub.cons rfl (ySub.cons rfl (ySub.cons rfl (ySub.cons rfl (ySub.cons rfl (ySub.nil))))))) (by omega)
                · have c27 : (z26 : Int) = 0 := c27
                  refine yG.load xak rfl (fun _ _ => rfl) (v := yR 2073) rfl rfl ?_
                  refine yG.getS9 A_hq.1 (w_M_pile W H_2073) q_r24 rfl rfl ?_
                  refine yG.load xik rfl (fun _ _ => rfl) (v := yI (a3 + (-1))) rfl rfl ?_
                  refine yG.bald A_hq.1 (v_M_pile W H_r24) rfl (by omega) (by omega) (fun z29 e_z29 i_z29 l_z29 u_z29 => ?_)
                  refine yG.ifz rfl (t := 147) rfl ⟨by omega, by omega⟩ (fun c30 => ?_) (fun c30 => ?_)
                  · have c30 : (z29 : Int) = 0 := c30
                    refine yG.num (c := 0) rfl (fun _ _ => rfl) (by decide) ?_
                    refine yG.bast A_hq.1 (v_M_pile W H_r24) (W.2.1 _ _ H_r24 (by decide) (by decide)) rfl (by omega) (by omega) ⟨by omega, by omega⟩ (by omega) (by omega) (fun h31 T_h31 b_h31 f_h31 y_h31 => ?_)
                    have M_bRg_h31 := M_bRg_hq.fr (bAx.put (Wl := [(205688069665150755269371147819668813122841983204197482918576128, 256)]) (bAx.rf A_hq.1) T_h31 b_h31 f_h31 H_r24 (bAll_ok (by decide) _)) (by decide)
                    have A_h31 := A_hq.put T_h31 b_h31 f_h31 H_r24 (bAll_ok (by decide) _)
                    have qq7 : zsl h31 2073 134 = yR 2164 := ((f_h31 2073 134).trans (if_neg (fun e => (bRo.ne H_2073 H_r24 (by decide)) e.1))).trans q_r24
                    refine yG.goto rfl (t := 168) rfl ?_
                    refine yG.iinc rfl (a := a4) rfl (L' := [(4, yI (a4 + 1)), (3, yI (a3 + (-1))), (5, yI (z7)), (0, yR 2073), (1, yI (p1)), (2, yI (p2))]) rfl ?_
                    refine yG.goto rfl (t := 10) rfl ?_
                    exact yG.mono (yG.sub (i_10 (a3 + (-1)) (a4 + 1)  h31 A_h31 M_bRg_h31   (by omega) (by omega) (by omega) (by omega) (by omega) (by omega) (by omega) (by omega) (by omega) ⟨n + 1, by omega, by show a3 + (-1) = mH _ (n + 1); rw [mH_less (w := fun i => ys hp 2150 (4 * ((ys hp 2149 (p1 : Int).toNat).toNat + i))) (n := n) (by show _; omega)]; omega, by omega⟩ (by omega)) (ySub.cons rfl (ySub.cons rfl (ySub.cons rfl (ySub.cons rfl (ySub.cons rfl (ySub.nil))))))) (by omega)
                  · have c30 : (z29 : Int) ≠ 0 := c30
                    refine yG.num (c := 1) rfl (fun _ _ => rfl) (by decide) ?_
                    refine yG.goto rfl (t := 148) rfl ?_
                    refine yG.bast A_hq.1 (v_M_pile W H_r24) (W.2.1 _ _ H_r24 (by decide) (by decide)) rfl (by omega) (by omega) ⟨by omega, by omega⟩ (by omega) (by omega) (fun h32 T_h32 b_h32 f_h32 y_h32 => ?_)
                    have M_bRg_h32 := M_bRg_hq.fr (bAx.put (Wl := [(205688069665150755269371147819668813122841983204197482918576128, 256)]) (bAx.rf A_hq.1) T_h32 b_h32 f_h32 H_r24 (bAll_ok (by decide) _)) (by decide)
                    have A_h32 := A_hq.put T_h32 b_h32 f_h32 H_r24 (bAll_ok (by decide) _)
                    have qq8 : zsl h32 2073 134 = yR 2164 := ((f_h32 2073 134).trans (if_neg (fun e => (bRo.ne H_2073 H_r24 (by decide)) e.1))).trans q_r24
                    refine yG.goto rfl (t := 168) rfl ?_
                    refine yG.iinc rfl (a := a4) rfl (L' := [(4, yI (a4 + 1)), (3, yI (a3 + (-1))), (5, yI (z7)), (0, yR 2073), (1, yI (p1)), (2, yI (p2))]) rfl ?_
                    refine yG.goto rfl (t := 10) rfl ?_
                    exact yG.mono (yG.sub (i_10 (a3 + (-1)) (a4 + 1)  h32 A_h32 M_bRg_h32   (by omega) (by omega) (by omega) (by omega) (by omega) (by omega) (by omega) (by omega) (by omega) ⟨n + 1, by omega, by show a3 + (-1) = mH _ (n + 1); rw [mH_less (w := fun i => ys hp 2150 (4 * ((ys hp 2149 (p1 : Int).toNat).toNat + i))) (n := n) (by show _; omega)]; omega, by omega⟩ (by omega)) (ySub.cons rfl (ySub.cons rfl (ySub.cons rfl (ySub.cons rfl (ySub.cons rfl (ySub.nil))))))) (by omega)
              · have c25 : (z7 : Int) = 2 := c25
                exfalso; omega
        · have c8 : (z7 : Int) = 1 := c8
          have tp40 : 1 ≤ a3 := by have := ok34.1 (by omega); omega
          refine yG.load xak rfl (fun _ _ => rfl) (v := yR 2073) rfl rfl ?_
          refine yG.getO A_hq.1 (w_M_pile W H_2073) rfl rfl (fun r33 H_r33 O_r33 q_r33 => ?_)
          obtain rfl := u_M_pile W H_r33
          refine yG.load xik rfl (fun _ _ => rfl) (v := yI (a3)) rfl rfl ?_
          refine yG.num (c := 1) rfl (fun _ _ => rfl) (by decide) ?_
          refine yG.isub rfl ?_
          refine yG.load xak rfl (fun _ _ => rfl) (v := yR 2073) rfl rfl ?_
          refine yG.getS9 A_hq.1 (w_M_pile W H_2073) q_r33 rfl rfl ?_
          refine yG.load xik rfl (fun _ _ => rfl) (v := yI (a3)) rfl rfl ?_
          refine yG.num (c := 1) rfl (fun _ _ => rfl) (by decide) ?_
          refine yG.isub rfl ?_
          refine yG.bald A_hq.1 (v_M_pile W H_r33) rfl (by omega) (by omega) (fun z34 e_z34 i_z34 l_z34 u_z34 => ?_)
          refine yG.ifz rfl (t := 62) rfl ⟨by omega, by omega⟩ (fun c35 => ?_) (fun c35 => ?_)
          · have c35 : (z34 : Int) ≠ 0 := c35
            refine yG.num (c := 0) rfl (fun _ _ => rfl) (by decide) ?_
            refine yG.bast A_hq.1 (v_M_pile W H_r33) (W.2.1 _ _ H_r33 (by decide) (by decide)) rfl (by omega) (by omega) ⟨by omega, by omega⟩ (by omega) (by omega) (fun h36 T_h36 b_h36 f_h36 y_h36 => ?_)
            have M_bRg_h36 := M_bRg_hq.fr (bAx.put (Wl := [(205688069665150755269371147819668813122841983204197482918576128, 256)]) (bAx.rf A_hq.1) T_h36 b_h36 f_h36 H_r33 (bAll_ok (by decide) _)) (by decide)
            have A_h36 := A_hq.put T_h36 b_h36 f_h36 H_r33 (bAll_ok (by decide) _)
            have qq9 : zsl h36 2073 134 = yR 2164 := ((f_h36 2073 134).trans (if_neg (fun e => (bRo.ne H_2073 H_r33 (by decide)) e.1))).trans q_r33
            refine yG.goto rfl (t := 168) rfl ?_
            refine yG.iinc rfl (a := a4) rfl (L' := [(4, yI (a4 + 1)), (5, yI (z7)), (0, yR 2073), (1, yI (p1)), (2, yI (p2)), (3, yI (a3))]) rfl ?_
            refine yG.goto rfl (t := 10) rfl ?_
            exact yG.mono (yG.sub (i_10 (a3) (a4 + 1)  h36 A_h36 M_bRg_h36   (by omega) (by omega) (by omega) (by omega) (by omega) (by omega) (by omega) (by omega) (by omega) ⟨n + 1, by omega, by show a3 = mH _ (n + 1); rw [mH_same (w := fun i => ys hp 2150 (4 * ((ys hp 2149 (p1 : Int).toNat).toNat + i))) (n := n) (by show _; omega)]; omega, by omega⟩ (by omega)) (ySub.cons rfl (ySub.cons rfl (ySub.cons rfl (ySub.cons rfl (ySub.cons rfl (ySub.nil))))))) (by omega)
          · have c35 : (z34 : Int) = 0 := c35
            refine yG.num (c := 1) rfl (fun _ _ => rfl) (by decide) ?_
            refine yG.goto rfl (t := 63) rfl ?_
            refine yG.bast A_hq.1 (v_M_pile W H_r33) (W.2.1 _ _ H_r33 (by decide) (by decide)) rfl (by omega) (by omega) ⟨by omega, by omega⟩ (by omega) (by omega) (fun h37 T_h37 b_h37 f_h37 y_h37 => ?_)
            have M_bRg_h37 := M_bRg_hq.fr (bAx.put (Wl := [(205688069665150755269371147819668813122841983204197482918576128, 256)]) (bAx.rf A_hq.1) T_h37 b_h37 f_h37 H_r33 (bAll_ok (by decide) _)) (by decide)
            have A_h37 := A_hq.put T_h37 b_h37 f_h37 H_r33 (bAll_ok (by decide) _)
            have qq10 : zsl h37 2073 134 = yR 2164 := ((f_h37 2073 134).trans (if_neg (fun e => (bRo.ne H_2073 H_r33 (by decide)) e.1))).trans q_r33
            refine yG.goto rfl (t := 168) rfl ?_
            refine yG.iinc rfl (a := a4) rfl (L' := [(4, yI (a4 + 1)), (5, yI (z7)), (0, yR 2073), (1, yI (p1)), (2, yI (p2)), (3, yI (a3))]) rfl ?_
            refine yG.goto rfl (t := 10) rfl ?_
            exact yG.mono (yG.sub (i_10 (a3) (a4 + 1)  h37 A_h37 M_bRg_h37   (by omega) (by omega) (by omega) (by omega) (by omega) (by omega) (by omega) (by omega) (by omega) ⟨n + 1, by omega, by show a3 = mH _ (n + 1); rw [mH_same (w := fun i => ys hp 2150 (4 * ((ys hp 2149 (p1 : Int).toNat).toNat + i))) (n := n) (by show _; omega)]; omega, by omega⟩ (by omega)) (ySub.cons rfl (ySub.cons rfl (ySub.cons rfl (ySub.cons rfl (ySub.cons rfl (ySub.nil))))))) (by omega)
  refine yC.of (M := (xt_X13_holds, (6, (4, (14, []))))) rfl rfl (N := 265212) (yfuel (by decide)) ?_
  show yG 89 xfts (xcall 89 xfts xpools xms (d + 9)) (xpool xp_RX13) [] xt_X13_holds (yP 4 (fun rv hp' => (bQi G [(83076749736557242056487941267521536, 10), (83076749736557242056487941267521536, 11), (83076749736557242056487941267521536, 38), (83076749736557242056487941267521536, 40), (83076749736557242056487941267521536, 45), (83076749736557242056487941267521536, 46), (83076749736557242056487941267521536, 47), (257110087081438455501908223388662158442497249078758448755113984, 256)] hp 0 1 (fun _ => True)) rv hp' ∧ bRg G hp')) 265212 0 [(0, yR 2073), (1, yI (p1)), (2, yI (p2))] [] hp
  have i_10 := H 5003
  refine yG.num (c := 0) rfl (fun _ _ => rfl) (by decide) ?_
  refine yG.store1 xik (L' := [(3, yI (0)), (0, yR 2073), (1, yI (p1)), (2, yI (p2))]) rfl (fun _ _ => rfl) rfl rfl ?_
  refine yG.load xak rfl (fun _ _ => rfl) (v := yR 2073) rfl rfl ?_
  refine yG.getO A_hp.1 (w_M_ruleFrom W H_2073) rfl rfl (fun r1 H_r1 O_r1 q_r1 => ?_)
  obtain rfl := u_M_ruleFrom W H_r1
  refine yG.load xik rfl (fun _ _ => rfl) (v := yI (p1)) rfl rfl ?_
  refine yG.iald A_hp.1 (v_M_ruleFrom W H_r1) rfl (by omega) (by omega) (fun z2 e_z2 i_z2 l_z2 u_z2 => ?_)
  refine yG.store1 xik (L' := [(4, yI (z2)), (3, yI (0)), (0, yR 2073), (1, yI (p1)), (2, yI (p2))]) rfl (fun _ _ => rfl) rfl rfl ?_
  exact yG.mono (yG.sub (i_10 (0) (z2)  hp A_hp M_bRg_hp   (by omega) (by omega) (by omega) (by omega) (by omega) (by omega) (by omega) (by omega) (by omega) ⟨0, by show z2 = ys hp 2149 (p1 : Int).toNat + 0; omega, rfl, (by have b0 := (M_bRc (p1 : Int).toNat (by omega) (by omega)).1; rw [show (p1 : Int).toNat + 1 = (p1 + 1 : Int).toNat from (by omega)] at b0; omega)⟩ (by omega)) (ySub.cons rfl (ySub.cons rfl (ySub.cons rfl (ySub.cons rfl (ySub.cons rfl (ySub.nil))))))) (by omega)
theorem c_GModel_isOfBar_0 {hp : xH} (W : mW G) (d : Nat) (hT : zTy G hp) : yC (xcall 89 xfts xpools xms (d + 1)) 434 [yI (0)] hp (bQpi hp 0 0 (fun _ => True)) := by
  have A_hp : bAx G [] hp hp := bAx.rf hT
  refine yC.of (M := (xt_X13_isOfBar, (1, (4, (14, []))))) rfl rfl (N := 30) (yfuel (by decide)) ?_
  show yG 89 xfts (xcall 89 xfts xpools xms d) (xpool xp_RX13) [] xt_X13_isOfBar (yP 4 (bQpi hp 0 0 (fun _ => True))) 30 0 [(0, yI (0))] [] hp
  refine yG.load xik rfl (fun _ _ => rfl) (v := yI (0)) rfl rfl ?_
  refine yG.num (c := 2) rfl (fun _ _ => rfl) (by decide) ?_
  refine yG.icmp rfl (t := 10) rfl ⟨by omega, by omega⟩ ⟨by omega, by omega⟩ (fun c1 => ?_) (fun c1 => ?_)
  · have c1 : (0 : Int) = 2 := c1
    exfalso; omega
  · have c1 : (0 : Int) ≠ 2 := c1
    refine yG.load xik rfl (fun _ _ => rfl) (v := yI (0)) rfl rfl ?_
    refine yG.num (c := 3) rfl (fun _ _ => rfl) (by decide) ?_
    refine yG.icmp rfl (t := 14) rfl ⟨by omega, by omega⟩ ⟨by omega, by omega⟩ (fun c2 => ?_) (fun c2 => ?_)
    · have c2 : (0 : Int) ≠ 3 := c2
      refine yG.num (c := 0) rfl (fun _ _ => rfl) (by decide) ?_
      refine yG.ret rfl (fun _ _ => rfl) ?_
      exact (yP.bool (by omega) ⟨⟨0, rfl, by omega, by omega, trivial⟩, rfl⟩)
    · have c2 : (0 : Int) = 3 := c2
      exfalso; omega
theorem c_GModel_fieldOf_0 {hp : xH} (W : mW G) (d : Nat) (hT : zTy G hp) (p1 : Int) (h1l : 0 ≤ p1) (h1u : p1 ≤ 23) : yC (xcall 89 xfts xpools xms (d + 2)) 398 [yI (0), yI (p1)] hp (bQpi hp 264 517 (fun z => 0 ≤ 0 - p1 + z - 264 ∧ 0 ≤ p1 - z + 494 ∧ 0 ≤ 0 - 11 * p1 + z - 264 ∧ 0 ≤ 11 * p1 - z + 264)) := by
  have A_hp : bAx G [] hp hp := bAx.rf hT
  refine yC.of (M := (xt_X13_fieldOf, (2, (1, (14, []))))) rfl rfl (N := 39) (yfuel (by decide)) ?_
  show yG 89 xfts (xcall 89 xfts xpools xms (d + 1)) (xpool xp_RX13) [] xt_X13_fieldOf (yP 1 (bQpi hp 264 517 (fun z => 0 ≤ 0 - p1 + z - 264 ∧ 0 ≤ p1 - z + 494 ∧ 0 ≤ 0 - 11 * p1 + z - 264 ∧ 0 ≤ 11 * p1 - z + 264))) 39 0 [(0, yI (0)), (1, yI (p1))] [] hp
  refine yG.load xik rfl (fun _ _ => rfl) (v := yI (0)) rfl rfl ?_
  refine yG.invS (rest := []) rfl rfl rfl rfl (c_GModel_isOfBar_0 W d A_hp.1) (fun rv hp9 q9 => ?_)
  obtain ⟨⟨z1, rfl, l_z1, u_z1, R_z1⟩, e9⟩ := q9
  rw [e9]
  show yG _ _ _ _ _ _ _ _ _ _ (yI z1 :: []) _
  refine yG.ifz rfl (t := 16) rfl ⟨by omega, by omega⟩ (fun c2 => ?_) (fun c2 => ?_)
  · have c2 : (z1 : Int) = 0 := c2
    refine yG.num (c := 1) rfl (fun _ _ => rfl) (by decide) ?_
    refine yG.load xik rfl (fun _ _ => rfl) (v := yI (p1)) rfl rfl ?_
    refine yG.load xik rfl (fun _ _ => rfl) (v := yI (0)) rfl rfl ?_
    refine yG.ifz rfl (t := 27) rfl ⟨by omega, by omega⟩ (fun c3 => ?_) (fun c3 => ?_)
    · have c3 : (0 : Int) = 0 := c3
      refine yG.num (c := 0) rfl (fun _ _ => rfl) (by decide) ?_
      refine yG.goto rfl (t := 32) rfl ?_
      refine yG.invS (rest := []) rfl rfl rfl rfl (c_GModel_f W d A_hp.1 (1) (p1) (0) (by omega) (by omega) (by omega) (by omega) (by omega) (by omega)) (fun rv hp9 q9 => ?_)
      obtain ⟨⟨z4, rfl, l_z4, u_z4, R_z4⟩, e9⟩ := q9
      rw [e9]
      show yG _ _ _ _ _ _ _ _ _ _ (yI z4 :: []) _
      refine yG.ret rfl (fun _ _ => rfl) ?_
      exact (yP.int ⟨by omega, by omega⟩ ⟨⟨z4, rfl, by omega, by omega, by omega⟩, rfl⟩)
    · have c3 : (0 : Int) ≠ 0 := c3
      exfalso; omega
  · have c2 : (z1 : Int) ≠ 0 := c2
    exfalso; omega
theorem c_GModel_isBarred_0 {hp : xH} (W : mW G) (d : Nat) (hT : zTy G hp) (M_bRg : bRg G hp) (M_bWf : bWf G hp) (M_bRc : bRc G hp) (M_bPr : bPr G hp) (H_2073 : bRo G 116 2073) (p2 : Int) (h2l : 0 ≤ p2) (h2u : p2 ≤ 23) (g90 : 2 ≤ 0 → 0 ≤ 3 → p2 ≤ 15) : yC (xcall 89 xfts xpools xms (d + 11)) 423 [yR 2073, yI (0), yI (p2)] hp (fun rv hp' => (fun rv hp' => (bQi G [(83076749736557242056487941267521536, 10), (83076749736557242056487941267521536, 11), (83076749736557242056487941267521536, 38), (83076749736557242056487941267521536, 40), (83076749736557242056487941267521536, 45), (83076749736557242056487941267521536, 46), (83076749736557242056487941267521536, 47), (83076749736557242056487941267521536, 135), (408162263241783541402858104586602178094999744488059883564826624, 256)] hp 0 1 (fun _ => True)) rv hp' ∧ bWf G hp') rv hp' ∧ bRg G hp') := by
  have A_hp : bAx G [(83076749736557242056487941267521536, 10), (83076749736557242056487941267521536, 11), (83076749736557242056487941267521536, 38), (83076749736557242056487941267521536, 40), (83076749736557242056487941267521536, 45), (83076749736557242056487941267521536, 46), (83076749736557242056487941267521536, 47), (83076749736557242056487941267521536, 135), (408162263241783541402858104586602178094999744488059883564826624, 256)] hp hp := bAx.rf hT
  have M_bRg_hp := M_bRg
  have M_bWf_hp := M_bWf
  have H : ∀ m : Nat, (∀ a3 : Int, ∀ a4 : Int, ∀ hq, bAx G [(83076749736557242056487941267521536, 10), (83076749736557242056487941267521536, 11), (83076749736557242056487941267521536, 38), (83076749736557242056487941267521536, 40), (83076749736557242056487941267521536, 45), (83076749736557242056487941267521536, 46), (83076749736557242056487941267521536, 47), (83076749736557242056487941267521536, 135), (408162263241783541402858104586602178094999744488059883564826624, 256)] hp hq → bRg G hq → bWf G hq → 264 ≤ a3 → (-517) ≤ 0 - a3 → 0 ≤ a4 → (-2) ≤ 0 - a4 → 0 ≤ p2 → (-23) ≤ 0 - p2 → 264 ≤ a3 - 11 * p2 → (-264) ≤ 0 - a3 + 11 * p2 → 26 < (m : Int) → yG 89 xfts (xcall 89 xfts xpools xms (d + 10)) (xpool xp_RX13) [] xt_X13_isBarred (yP 4 (fun rv hp' => (fun rv hp' => (bQi G [(83076749736557242056487941267521536, 10), (83076749736557242056487941267521536, 11), (83076749736557242056487941267521536, 38), (83076749736557242056487941267521536, 40), (83076749736557242056487941267521536, 45), (83076749736557242056487941267521536, 46), (83076749736557242056487941267521536, 47), (83076749736557242056487941267521536, 135), (408162263241783541402858104586602178094999744488059883564826624, 256)] hp 0 1 (fun _ => True)) rv hp' ∧ bWf G hp') rv hp' ∧ bRg G hp')) (27 * m) 46 [(0, yR 2073), (1, yI (0)), (2, yI (p2)), (3, yI (a3)), (4, yI (a4))] [] hq) ∧ (∀ a3 : Int, ∀ a4 : Int, ∀ a5 : Int, ∀ hq, bAx G [(83076749736557242056487941267521536, 10), (83076749736557242056487941267521536, 11), (83076749736557242056487941267521536, 38), (83076749736557242056487941267521536, 40), (83076749736557242056487941267521536, 45), (83076749736557242056487941267521536, 46), (83076749736557242056487941267521536, 47), (83076749736557242056487941267521536, 135), (408162263241783541402858104586602178094999744488059883564826624, 256)] hp hq → bRg G hq → bWf G hq → 264 ≤ a3 → (-517) ≤ 0 - a3 → 0 ≤ a4 → (-2) ≤ 0 - a4 → 0 ≤ a5 → (-12) ≤ 0 - a5 → 0 ≤ p2 → (-23) ≤ 0 - p2 → 264 ≤ a3 - 11 * p2 → (-264) ≤ 0 - a3 + 11 * p2 → 0 - 2 * a5 + 25 < (m : Int) → yG 89 xfts (xcall 89 xfts xpools xms (d + 10)) (xpool xp_RX13) [] xt_X13_isBarred (yP 4 (fun rv hp' => (fun rv hp' => (bQi G [(83076749736557242056487941267521536, 10), (83076749736557242056487941267521536, 11), (83076749736557242056487941267521536, 38), (83076749736557242056487941267521536, 40), (83076749736557242056487941267521536, 45), (83076749736557242056487941267521536, 46), (83076749736557242056487941267521536, 47), (83076749736557242056487941267521536, 135), (408162263241783541402858104586602178094999744488059883564826624, 256)] hp 0 1 (fun _ => True)) rv hp' ∧ bWf G hp') rv hp' ∧ bRg G hp')) (27 * m) 71 [(0, yR 2073), (1, yI (0)), (2, yI (p2)), (3, yI (a3)), (4, yI (a4)), (5, yI (a5))] [] hq) := by
    intro m
    induction m with
    | zero =>
      refine ⟨?_, ?_⟩ <;> (intros; exfalso; omega)
    | succ m ih =>
      obtain ⟨i_46, i_71⟩ := ih
      refine ⟨?_, ?_⟩
      · intro a3 a4 hq A_hq M_bRg_hq M_bWf_hq f0 f1 f2 f3 f4 f5 f6 f7 hm
        refine yG.mono (N := 27 * m + 27) ?_ (by omega)
        refine yG.load xak rfl (fun _ _ => rfl) (v := yR 2073) rfl rfl ?_
        refine yG.getO A_hq.1 (w_M_field W H_2073) rfl rfl (fun r1 H_r1 O_r1 q_r1 => ?_)
        obtain rfl := u_M_field W H_r1
        refine yG.load xik rfl (fun _ _ => rfl) (v := yI (a3)) rfl rfl ?_
        refine yG.load xik rfl (fun _ _ => rfl) (v := yI (0)) rfl rfl ?_
        refine yG.invS (rest := [yI (a3), yR 2089]) rfl rfl rfl rfl (c_GModel_valueOf W (d + 9) A_hq.1 (0) (by omega) (by omega)) (fun rv hp9 q9 => ?_)
        obtain ⟨⟨z2, rfl, l_z2, u_z2, R_z2⟩, e9⟩ := q9
        rw [e9]
        show yG _ _ _ _ _ _ _ _ _ _ (yI z2 :: [yI (a3), yR 2089]) _
        refine yG.iastF A_hq.1 (v_M_field W H_r1) (show yfT ((a3 : Int).toNat) = (0, (0, 2)) from ((yfT_ix (s := 1) (k := 0) (by omega) (by omega) (by omega) (by decide)).trans rfl)) (W.2.1 _ _ H_r1 (by decide) (by decide)) rfl (by omega) (by omega) ⟨by omega, by omega⟩ (by omega) (by omega) (fun h3 T_h3 b_h3 f_h3 y_h3 => ?_)
        have M_bRg_h3 := M_bRg_hq.fr (bAx.put (Wl := [(5444517870735015415413993718908291383296, 256)]) (bAx.rf A_hq.1) T_h3 b_h3 f_h3 H_r1 (bAll_ok (by decide) _)) (by decide)
        have M_bWf_h3 : bWf G h3 := M_bWf_hq.putx y_h3 (fun j hj h9 hb => by unfold mBp at hb; omega) (fun j hj h9 hb => by unfold mXp at hb; omega)
        have A_h3 := A_hq.put T_h3 b_h3 f_h3 H_r1 (bAll_ok (by decide) _)
        refine yG.load xak rfl (fun _ _ => rfl) (v := yR 2073) rfl rfl ?_
        refine yG.getI A_h3.1 (w_M_ruleCount W H_2073) rfl rfl (fun z4 e_z4 i_z4 l_z4 u_z4 => ?_)
        refine yG.ifz rfl (t := 68) rfl ⟨by omega, by omega⟩ (fun c5 => ?_) (fun c5 => ?_)
        · have c5 : (z4 : Int) ≤ 0 := c5
          refine yG.num (c := 0) rfl (fun _ _ => rfl) (by decide) ?_
          refine yG.store1 xik (L' := [(5, yI (0)), (0, yR 2073), (1, yI (0)), (2, yI (p2)), (3, yI (a3)), (4, yI (a4))]) rfl (fun _ _ => rfl) rfl rfl ?_
          exact yG.mono (yG.sub (i_71 (a3) (a4) (0)  h3 A_h3 M_bRg_h3 M_bWf_h3   (by omega) (by omega) (by omega) (by omega) (by omega) (by omega) (by omega) (by omega) (by omega) (by omega) (by omega)) (ySub.cons rfl (ySub.cons rfl (ySub.cons rfl (ySub.cons rfl (ySub.cons rfl (ySub.cons rfl (ySub.nil)))))))) (by omega)
        · have c5 : (z4 : Int) > 0 := c5
          refine yG.load xak rfl (fun _ _ => rfl) (v := yR 2073) rfl rfl ?_
          refine yG.num (c := 1) rfl (fun _ _ => rfl) (by decide) ?_
          refine yG.invV (rest := []) A_h3.1 (bOb (d_M W) H_2073) rfl rfl rfl rfl (c_GModel_see W (d + 6) A_h3.1 H_2073 (1) (by omega) (by omega)) (fun rv h6 q9 => ?_)
          obtain ⟨⟨rfl, R_z7⟩, B_h6⟩ := q9
          have A_h6 := A_h3.tr B_h6 (by decide)
          have M_bRg_h6 := M_bRg_h3.fr B_h6 (by decide)
          have M_bWf_h6 := M_bWf_h3.fr B_h6 (by decide)
          show yG _ _ _ _ _ _ _ _ _ _ [] _
          refine yG.num (c := 0) rfl (fun _ _ => rfl) (by decide) ?_
          refine yG.store1 xik (L' := [(5, yI (0)), (0, yR 2073), (1, yI (0)), (2, yI (p2)), (3, yI (a3)), (4, yI (a4))]) rfl (fun _ _ => rfl) rfl rfl ?_
          exact yG.mono (yG.sub (i_71 (a3) (a4) (0)  h6 A_h6 M_bRg_h6 M_bWf_h6   (by omega) (by omega) (by omega) (by omega) (by omega) (by omega) (by omega) (by omega) (by omega) (by omega) (by omega)) (ySub.cons rfl (ySub.cons rfl (ySub.cons rfl (ySub.cons rfl (ySub.cons rfl (ySub.cons rfl (ySub.nil)))))))) (by omega)
      · intro a3 a4 a5 hq A_hq M_bRg_hq M_bWf_hq f0 f1 f2 f3 f4 f5 f6 f7 f8 f9 hm
        refine yG.mono (N := 27 * m + 27) ?_ (by omega)
        refine yG.load xik rfl (fun _ _ => rfl) (v := yI (a5)) rfl rfl ?_
        refine yG.load xak rfl (fun _ _ => rfl) (v := yR 2073) rfl rfl ?_
        refine yG.getI A_hq.1 (w_M_ruleCount W H_2073) rfl rfl (fun z1 e_z1 i_z1 l_z1 u_z1 => ?_)
        refine yG.icmp rfl (t := 123) rfl ⟨by omega, by omega⟩ ⟨by omega, by omega⟩ (fun c2 => ?_) (fun c2 => ?_)
        · have c2 : (a5 : Int) ≥ z1 := c2
          refine yG.num (c := 0) rfl (fun _ _ => rfl) (by decide) ?_
          refine yG.ret rfl (fun _ _ => rfl) ?_
          exact (yP.bool (by omega) ⟨⟨⟨⟨0, rfl, by omega, by omega, trivial⟩, A_hq⟩, M_bWf_hq⟩, M_bRg_hq⟩)
        · have c2 : (a5 : Int) < z1 := c2
          refine yG.load xak rfl (fun _ _ => rfl) (v := yR 2073) rfl rfl ?_
          refine yG.getO A_hq.1 (w_M_ruleAct W H_2073) rfl rfl (fun r3 H_r3 O_r3 q_r3 => ?_)
          obtain rfl := u_M_ruleAct W H_r3
          refine yG.load xik rfl (fun _ _ => rfl) (v := yI (a5)) rfl rfl ?_
          refine yG.iald A_hq.1 (v_M_ruleAct W H_r3) rfl (by omega) (by omega) (fun z4 e_z4 i_z4 l_z4 u_z4 => ?_)
          refine yG.load xik rfl (fun _ _ => rfl) (v := yI (0)) rfl rfl ?_
          refine yG.icmp rfl (t := 117) rfl ⟨by omega, by omega⟩ ⟨by omega, by omega⟩ (fun c5 => ?_) (fun c5 => ?_)
          · have c5 : (z4 : Int) ≠ 0 := c5
            refine yG.iinc rfl (a := a5) rfl (L' := [(5, yI (a5 + 1)), (0, yR 2073), (1, yI (0)), (2, yI (p2)), (3, yI (a3)), (4, yI (a4))]) rfl ?_
            refine yG.goto rfl (t := 71) rfl ?_
            exact yG.mono (yG.sub (i_71 (a3) (a4) (a5 + 1)  hq A_hq M_bRg_hq M_bWf_hq   (by omega) (by omega) (by omega) (by omega) (by omega) (by omega) (by omega) (by omega) (by omega) (by omega) (by omega)) (ySub.cons rfl (ySub.cons rfl (ySub.cons rfl (ySub.cons rfl (ySub.cons rfl (ySub.cons rfl (ySub.nil)))))))) (by omega)
          · have c5 : (z4 : Int) = 0 := c5
            refine yG.load xak rfl (fun _ _ => rfl) (v := yR 2073) rfl rfl ?_
            refine yG.load xik rfl (fun _ _ => rfl) (v := yI (a5)) rfl rfl ?_
            refine yG.load xik rfl (fun _ _ => rfl) (v := yI (p2)) rfl rfl ?_
            refine yG.invV (rest := []) A_hq.1 (bOb (d_M W) H_2073) rfl rfl rfl rfl (c_GModel_holds W d A_hq.1 M_bRg_hq M_bWf_hq (M_bRc.fr A_hq (by decide)) (M_bPr.fr A_hq (by decide)) H_2073 (a5) (p2) (by omega) (by omega) (by omega) (by omega) (by omega) (by omega)) (fun rv h6 q9 => ?_)
            obtain ⟨q9, M_bRg_h6⟩ := q9
            obtain ⟨⟨z7, rfl, l_z7, u_z7, R_z7⟩, B_h6⟩ := q9
            have A_h6 := A_hq.tr B_h6 (by decide)
            have M_bWf_h6 := M_bWf_hq.fr B_h6 (by decide)
            show yG _ _ _ _ _ _ _ _ _ _ (yI z7 :: []) _
            refine yG.ifz rfl (t := 117) rfl ⟨by omega, by omega⟩ (fun c8 => ?_) (fun c8 => ?_)
            · have c8 : (z7 : Int) = 0 := c8
              refine yG.iinc rfl (a := a5) rfl (L' := [(5, yI (a5 + 1)), (0, yR 2073), (1, yI (0)), (2, yI (p2)), (3, yI (a3)), (4, yI (a4))]) rfl ?_
              refine yG.goto rfl (t := 71) rfl ?_
              exact yG.mono (yG.sub (i_71 (a3) (a4) (a5 + 1)  h6 A_h6 M_bRg_h6 M_bWf_h6   (by omega) (by omega) (by omega) (by omega) (by omega) (by omega) (by omega) (by omega) (by omega) (by omega) (by omega)) (ySub.cons rfl (ySub.cons rfl (ySub.cons rfl (ySub.cons rfl (ySub.cons rfl (ySub.cons rfl (ySub.nil)))))))) (by omega)
            · have c8 : (z7 : Int) ≠ 0 := c8
              refine yG.load xak rfl (fun _ _ => rfl) (v := yR 2073) rfl rfl ?_
              refine yG.load xik rfl (fun _ _ => rfl) (v := yI (a5)) rfl rfl ?_
              refine yG.putI A_h6.1 (w_M_barredBy W H_2073) (W.2.1 _ _ H_2073 (by decide) (by decide)) rfl rfl (.inl rfl) ⟨by omega, by omega⟩ (by omega) (by omega) (fun h9 T_h9 b_h9 f_h9 y_h9 => ?_)
              have M_bRg_h9 := M_bRg_h6.fr (bAx.put (Wl := [(83076749736557242056487941267521536, 135)]) (bAx.rf A_h6.1) T_h9 b_h9 f_h9 H_2073 (by decide)) (by decide)
              have M_bWf_h9 := M_bWf_h6.fr (bAx.put (Wl := [(83076749736557242056487941267521536, 135)]) (bAx.rf A_h6.1) T_h9 b_h9 f_h9 H_2073 (by decide)) (by decide)
              have A_h9 := A_h6.put T_h9 b_h9 f_h9 H_2073 (by decide)
              refine yG.load xak rfl (fun _ _ => rfl) (v := yR 2073) rfl rfl ?_
              refine yG.getO A_h9.1 (w_M_field W H_2073) rfl rfl (fun r10 H_r10 O_r10 q_r10 => ?_)
              obtain rfl := u_M_field W H_r10
              refine yG.load xik rfl (fun _ _ => rfl) (v := yI (a3)) rfl rfl ?_
              refine yG.load xik rfl (fun _ _ => rfl) (v := yI (a4)) rfl rfl ?_
              refine yG.iastF A_h9.1 (v_M_field W H_r10) (show yfT ((a3 : Int).toNat) = (0, (0, 2)) from ((yfT_ix (s := 1) (k := 0) (by omega) (by omega) (by omega) (by decide)).trans rfl)) (W.2.1 _ _ H_r10 (by decide) (by decide)) rfl (by omega) (by omega) ⟨by omega, by omega⟩ (by omega) (by omega) (fun h11 T_h11 b_h11 f_h11 y_h11 => ?_)
              have M_bRg_h11 := M_bRg_h9.fr (bAx.put (Wl := [(5444517870735015415413993718908291383296, 256)]) (bAx.rf A_h9.1) T_h11 b_h11 f_h11 H_r10 (bAll_ok (by decide) _)) (by decide)
              have M_bWf_h11 : bWf G h11 := M_bWf_h9.putx y_h11 (fun j hj h9 hb => by unfold mBp at hb; omega) (fun j hj h9 hb => by unfold mXp at hb; omega)
              have A_h11 := A_h9.put T_h11 b_h11 f_h11 H_r10 (bAll_ok (by decide) _)
              refine yG.num (c := 1) rfl (fun _ _ => rfl) (by decide) ?_
              refine yG.ret rfl (fun _ _ => rfl) ?_
              exact (yP.bool (by omega) ⟨⟨⟨⟨1, rfl, by omega, by omega, trivial⟩, A_h11⟩, M_bWf_h11⟩, M_bRg_h11⟩)
  refine yC.of (M := (xt_X13_isBarred, (6, (4, (14, []))))) rfl rfl (N := 783) (yfuel (by decide)) ?_
  show yG 89 xfts (xcall 89 xfts xpools xms (d + 10)) (xpool xp_RX13) [] xt_X13_isBarred (yP 4 (fun rv hp' => (fun rv hp' => (bQi G [(83076749736557242056487941267521536, 10), (83076749736557242056487941267521536, 11), (83076749736557242056487941267521536, 38), (83076749736557242056487941267521536, 40), (83076749736557242056487941267521536, 45), (83076749736557242056487941267521536, 46), (83076749736557242056487941267521536, 47), (83076749736557242056487941267521536, 135), (408162263241783541402858104586602178094999744488059883564826624, 256)] hp 0 1 (fun _ => True)) rv hp' ∧ bWf G hp') rv hp' ∧ bRg G hp')) 783 0 [(0, yR 2073), (1, yI (0)), (2, yI (p2))] [] hp
  obtain ⟨i_46, i_71⟩ := H 28
  refine yG.load xik rfl (fun _ _ => rfl) (v := yI (0)) rfl rfl ?_
  refine yG.load xik rfl (fun _ _ => rfl) (v := yI (p2)) rfl rfl ?_
  refine yG.invS (rest := []) rfl rfl rfl rfl (c_GModel_fieldOf_0 W (d + 8) A_hp.1 (p2) (by omega) (by omega)) (fun rv hp9 q9 => ?_)
  obtain ⟨⟨z1, rfl, l_z1, u_z1, R_z1⟩, e9⟩ := q9
  rw [e9]
  show yG _ _ _ _ _ _ _ _ _ _ (yI z1 :: []) _
  refine yG.store1 xik (L' := [(3, yI (z1)), (0, yR 2073), (1, yI (0)), (2, yI (p2))]) rfl (fun _ _ => rfl) rfl rfl ?_
  refine yG.load xak rfl (fun _ _ => rfl) (v := yR 2073) rfl rfl ?_
  refine yG.num (c := -1) rfl (fun _ _ => rfl) (by decide) ?_
  refine yG.putI A_hp.1 (w_M_barredBy W H_2073) (W.2.1 _ _ H_2073 (by decide) (by decide)) rfl rfl (.inl rfl) ⟨by omega, by omega⟩ (by omega) (by omega) (fun h2 T_h2 b_h2 f_h2 y_h2 => ?_)
  have M_bRg_h2 := M_bRg_hp.fr (bAx.put (Wl := [(83076749736557242056487941267521536, 135)]) (bAx.rf A_hp.1) T_h2 b_h2 f_h2 H_2073 (by decide)) (by decide)
  have M_bWf_h2 := M_bWf_hp.fr (bAx.put (Wl := [(83076749736557242056487941267521536, 135)]) (bAx.rf A_hp.1) T_h2 b_h2 f_h2 H_2073 (by decide)) (by decide)
  have A_h2 := A_hp.put T_h2 b_h2 f_h2 H_2073 (by decide)
  refine yG.load xak rfl (fun _ _ => rfl) (v := yR 2073) rfl rfl ?_
  refine yG.getO A_h2.1 (w_M_field W H_2073) rfl rfl (fun r3 H_r3 O_r3 q_r3 => ?_)
  obtain rfl := u_M_field W H_r3
  refine yG.load xik rfl (fun _ _ => rfl) (v := yI (z1)) rfl rfl ?_
  refine yG.ialdF A_h2.1 (v_M_field W H_r3) (lo := 0) (hi := 2) ((yfT_ix (s := 1) (k := 0) (by omega) (by omega) (by omega) (by decide)).trans rfl) rfl (by omega) (by omega) (fun z4 e_z4 i_z4 l_z4 u_z4 => ?_)
  refine yG.load xik rfl (fun _ _ => rfl) (v := yI (0)) rfl rfl ?_
  refine yG.invS (rest := [yI (z4)]) rfl rfl rfl rfl (c_GModel_valueOf W (d + 9) A_h2.1 (0) (by omega) (by omega)) (fun rv hp9 q9 => ?_)
  obtain ⟨⟨z5, rfl, l_z5, u_z5, R_z5⟩, e9⟩ := q9
  rw [e9]
  show yG _ _ _ _ _ _ _ _ _ _ (yI z5 :: [yI (z4)]) _
  refine yG.icmp rfl (t := 26) rfl ⟨by omega, by omega⟩ ⟨by omega, by omega⟩ (fun c6 => ?_) (fun c6 => ?_)
  · have c6 : (z4 : Int) ≠ z5 := c6
    refine yG.load xak rfl (fun _ _ => rfl) (v := yR 2073) rfl rfl ?_
    refine yG.getS9 A_h2.1 (w_M_field W H_2073) q_r3 rfl rfl ?_
    refine yG.load xik rfl (fun _ _ => rfl) (v := yI (z1)) rfl rfl ?_
    refine yG.ialdF A_h2.1 (v_M_field W H_r3) (lo := 0) (hi := 2) ((yfT_ix (s := 1) (k := 0) (by omega) (by omega) (by omega) (by decide)).trans rfl) rfl (by omega) (by omega) (fun z7 e_z7 i_z7 l_z7 u_z7 => ?_)
    refine yG.store1 xik (L' := [(4, yI (z7)), (3, yI (z1)), (0, yR 2073), (1, yI (0)), (2, yI (p2))]) rfl (fun _ _ => rfl) rfl rfl ?_
    refine yG.load xak rfl (fun _ _ => rfl) (v := yR 2073) rfl rfl ?_
    refine yG.getI A_h2.1 (w_M_ruleCount W H_2073) rfl rfl (fun z8 e_z8 i_z8 l_z8 u_z8 => ?_)
    refine yG.ifz rfl (t := 46) rfl ⟨by omega, by omega⟩ (fun c9 => ?_) (fun c9 => ?_)
    · have c9 : (z8 : Int) ≤ 0 := c9
      exact yG.mono (yG.sub (i_46 (z1) (z7)  h2 A_h2 M_bRg_h2 M_bWf_h2   (by omega) (by omega) (by omega) (by omega) (by omega) (by omega) (by omega) (by omega) (by omega)) (ySub.cons rfl (ySub.cons rfl (ySub.cons rfl (ySub.cons rfl (ySub.cons rfl (ySub.nil))))))) (by omega)
    · have c9 : (z8 : Int) > 0 := c9
      refine yG.load xak rfl (fun _ _ => rfl) (v := yR 2073) rfl rfl ?_
      refine yG.num (c := 0) rfl (fun _ _ => rfl) (by decide) ?_
      refine yG.invV (rest := []) A_h2.1 (bOb (d_M W) H_2073) rfl rfl rfl rfl (c_GModel_see W (d + 6) A_h2.1 H_2073 (0) (by omega) (by omega)) (fun rv h10 q9 => ?_)
      obtain ⟨⟨rfl, R_z11⟩, B_h10⟩ := q9
      have A_h10 := A_h2.tr B_h10 (by decide)
      have M_bRg_h10 := M_bRg_h2.fr B_h10 (by decide)
      have M_bWf_h10 := M_bWf_h2.fr B_h10 (by decide)
      have qq1 : zsl h10 2073 23 = yR 2089 := (B_h10.sl H_2073 (by decide)).trans q_r3
      have : ys h10 2089 (z1 : Int).toNat = ys h2 2089 (z1 : Int).toNat := B_h10.ys H_r3 (bNo_ok (by decide) _)
      show yG _ _ _ _ _ _ _ _ _ _ [] _
      exact yG.mono (yG.sub (i_46 (z1) (z7)  h10 A_h10 M_bRg_h10 M_bWf_h10   (by omega) (by omega) (by omega) (by omega) (by omega) (by omega) (by omega) (by omega) (by omega)) (ySub.cons rfl (ySub.cons rfl (ySub.cons rfl (ySub.cons rfl (ySub.cons rfl (ySub.nil))))))) (by omega)
  · have c6 : (z4 : Int) = z5 := c6
    refine yG.num (c := 1) rfl (fun _ _ => rfl) (by decide) ?_
    refine yG.ret rfl (fun _ _ => rfl) ?_
    exact (yP.bool (by omega) ⟨⟨⟨⟨1, rfl, by omega, by omega, trivial⟩, A_h2⟩, M_bWf_h2⟩, M_bRg_h2⟩)
theorem c_GModel_isOfBar_1 {hp : xH} (W : mW G) (d : Nat) (hT : zTy G hp) : yC (xcall 89 xfts xpools xms (d + 1)) 434 [yI (1)] hp (bQpi hp 0 0 (fun _ => True)) := by
  have A_hp : bAx G [] hp hp := bAx.rf hT
  refine yC.of (M := (xt_X13_isOfBar, (1, (4, (14, []))))) rfl rfl (N := 30) (yfuel (by decide)) ?_
  show yG 89 xfts (xcall 89 xfts xpools xms d) (xpool xp_RX13) [] xt_X13_isOfBar (yP 4 (bQpi hp 0 0 (fun _ => True))) 30 0 [(0, yI (1))] [] hp
  refine yG.load xik rfl (fun _ _ => rfl) (v := yI (1)) rfl rfl ?_
  refine yG.num (c := 2) rfl (fun _ _ => rfl) (by decide) ?_
  refine yG.icmp rfl (t := 10) rfl ⟨by omega, by omega⟩ ⟨by omega, by omega⟩ (fun c1 => ?_) (fun c1 => ?_)
  · have c1 : (1 : Int) = 2 := c1
    exfalso; omega
  · have c1 : (1 : Int) ≠ 2 := c1
    refine yG.load xik rfl (fun _ _ => rfl) (v := yI (1)) rfl rfl ?_
    refine yG.num (c := 3) rfl (fun _ _ => rfl) (by decide) ?_
    refine yG.icmp rfl (t := 14) rfl ⟨by omega, by omega⟩ ⟨by omega, by omega⟩ (fun c2 => ?_) (fun c2 => ?_)
    · have c2 : (1 : Int) ≠ 3 := c2
      refine yG.num (c := 0) rfl (fun _ _ => rfl) (by decide) ?_
      refine yG.ret rfl (fun _ _ => rfl) ?_
      exact (yP.bool (by omega) ⟨⟨0, rfl, by omega, by omega, trivial⟩, rfl⟩)
    · have c2 : (1 : Int) = 3 := c2
      exfalso; omega
theorem c_GModel_fieldOf_1 {hp : xH} (W : mW G) (d : Nat) (hT : zTy G hp) (p1 : Int) (h1l : 0 ≤ p1) (h1u : p1 ≤ 23) : yC (xcall 89 xfts xpools xms (d + 2)) 398 [yI (1), yI (p1)] hp (bQpi hp 264 517 (fun z => 0 ≤ 0 - p1 + z - 264 ∧ 0 ≤ p1 - z + 494 ∧ 0 ≤ 0 - 11 * p1 + z - 264 ∧ 0 ≤ 11 * p1 - z + 264)) := by
  have A_hp : bAx G [] hp hp := bAx.rf hT
  refine yC.of (M := (xt_X13_fieldOf, (2, (1, (14, []))))) rfl rfl (N := 48) (yfuel (by decide)) ?_
  show yG 89 xfts (xcall 89 xfts xpools xms (d + 1)) (xpool xp_RX13) [] xt_X13_fieldOf (yP 1 (bQpi hp 264 517 (fun z => 0 ≤ 0 - p1 + z - 264 ∧ 0 ≤ p1 - z + 494 ∧ 0 ≤ 0 - 11 * p1 + z - 264 ∧ 0 ≤ 11 * p1 - z + 264))) 48 0 [(0, yI (1)), (1, yI (p1))] [] hp
  refine yG.load xik rfl (fun _ _ => rfl) (v := yI (1)) rfl rfl ?_
  refine yG.invS (rest := []) rfl rfl rfl rfl (c_GModel_isOfBar_1 W d A_hp.1) (fun rv hp9 q9 => ?_)
  obtain ⟨⟨z1, rfl, l_z1, u_z1, R_z1⟩, e9⟩ := q9
  rw [e9]
  show yG _ _ _ _ _ _ _ _ _ _ (yI z1 :: []) _
  refine yG.ifz rfl (t := 16) rfl ⟨by omega, by omega⟩ (fun c2 => ?_) (fun c2 => ?_)
  · have c2 : (z1 : Int) = 0 := c2
    refine yG.num (c := 1) rfl (fun _ _ => rfl) (by decide) ?_
    refine yG.load xik rfl (fun _ _ => rfl) (v := yI (p1)) rfl rfl ?_
    refine yG.load xik rfl (fun _ _ => rfl) (v := yI (1)) rfl rfl ?_
    refine yG.ifz rfl (t := 27) rfl ⟨by omega, by omega⟩ (fun c3 => ?_) (fun c3 => ?_)
    · have c3 : (1 : Int) = 0 := c3
      exfalso; omega
    · have c3 : (1 : Int) ≠ 0 := c3
      refine yG.load xik rfl (fun _ _ => rfl) (v := yI (1)) rfl rfl ?_
      refine yG.num (c := 1) rfl (fun _ _ => rfl) (by decide) ?_
      refine yG.icmp rfl (t := 31) rfl ⟨by omega, by omega⟩ ⟨by omega, by omega⟩ (fun c4 => ?_) (fun c4 => ?_)
      · have c4 : (1 : Int) ≠ 1 := c4
        exfalso; omega
      · have c4 : (1 : Int) = 1 := c4
        refine yG.num (c := 0) rfl (fun _ _ => rfl) (by decide) ?_
        refine yG.goto rfl (t := 32) rfl ?_
        refine yG.invS (rest := []) rfl rfl rfl rfl (c_GModel_f W d A_hp.1 (1) (p1) (0) (by omega) (by omega) (by omega) (by omega) (by omega) (by omega)) (fun rv hp9 q9 => ?_)
        obtain ⟨⟨z5, rfl, l_z5, u_z5, R_z5⟩, e9⟩ := q9
        rw [e9]
        show yG _ _ _ _ _ _ _ _ _ _ (yI z5 :: []) _
        refine yG.ret rfl (fun _ _ => rfl) ?_
        exact (yP.int ⟨by omega, by omega⟩ ⟨⟨z5, rfl, by omega, by omega, by omega⟩, rfl⟩)
  · have c2 : (z1 : Int) ≠ 0 := c2
    exfalso; omega
theorem c_GModel_isBarred_1 {hp : xH} (W : mW G) (d : Nat) (hT : zTy G hp) (M_bRg : bRg G hp) (M_bWf : bWf G hp) (M_bRc : bRc G hp) (M_bPr : bPr G hp) (H_2073 : bRo G 116 2073) (p2 : Int) (h2l : 0 ≤ p2) (h2u : p2 ≤ 23) (g90 : 2 ≤ 1 → 1 ≤ 3 → p2 ≤ 15) : yC (xcall 89 xfts xpools xms (d + 11)) 423 [yR 2073, yI (1), yI (p2)] hp (fun rv hp' => (fun rv hp' => (bQi G [(83076749736557242056487941267521536, 10), (83076749736557242056487941267521536, 11), (83076749736557242056487941267521536, 38), (83076749736557242056487941267521536, 40), (83076749736557242056487941267521536, 45), (83076749736557242056487941267521536, 46), (83076749736557242056487941267521536, 47), (83076749736557242056487941267521536, 135), (408162263241783541402858104586602178094999744488059883564826624, 256)] hp 0 1 (fun _ => True)) rv hp' ∧ bWf G hp') rv hp' ∧ bRg G hp') := by
  have A_hp : bAx G [(83076749736557242056487941267521536, 10), (83076749736557242056487941267521536, 11), (83076749736557242056487941267521536, 38), (83076749736557242056487941267521536, 40), (83076749736557242056487941267521536, 45), (83076749736557242056487941267521536, 46), (83076749736557242056487941267521536, 47), (83076749736557242056487941267521536, 135), (408162263241783541402858104586602178094999744488059883564826624, 256)] hp hp := bAx.rf hT
  have M_bRg_hp := M_bRg
  have M_bWf_hp := M_bWf
  have H : ∀ m : Nat, (∀ a3 : Int, ∀ a4 : Int, ∀ hq, bAx G [(83076749736557242056487941267521536, 10), (83076749736557242056487941267521536, 11), (83076749736557242056487941267521536, 38), (83076749736557242056487941267521536, 40), (83076749736557242056487941267521536, 45), (83076749736557242056487941267521536, 46), (83076749736557242056487941267521536, 47), (83076749736557242056487941267521536, 135), (408162263241783541402858104586602178094999744488059883564826624, 256)] hp hq → bRg G hq → bWf G hq → 264 ≤ a3 → (-517) ≤ 0 - a3 → 0 ≤ a4 → (-2) ≤ 0 - a4 → 0 ≤ p2 → (-23) ≤ 0 - p2 → 264 ≤ a3 - 11 * p2 → (-264) ≤ 0 - a3 + 11 * p2 → 26 < (m : Int) → yG 89 xfts (xcall 89 xfts xpools xms (d + 10)) (xpool xp_RX13) [] xt_X13_isBarred (yP 4 (fun rv hp' => (fun rv hp' => (bQi G [(83076749736557242056487941267521536, 10), (83076749736557242056487941267521536, 11), (83076749736557242056487941267521536, 38), (83076749736557242056487941267521536, 40), (83076749736557242056487941267521536, 45), (83076749736557242056487941267521536, 46), (83076749736557242056487941267521536, 47), (83076749736557242056487941267521536, 135), (408162263241783541402858104586602178094999744488059883564826624, 256)] hp 0 1 (fun _ => True)) rv hp' ∧ bWf G hp') rv hp' ∧ bRg G hp')) (27 * m) 46 [(0, yR 2073), (1, yI (1)), (2, yI (p2)), (3, yI (a3)), (4, yI (a4))] [] hq) ∧ (∀ a3 : Int, ∀ a4 : Int, ∀ a5 : Int, ∀ hq, bAx G [(83076749736557242056487941267521536, 10), (83076749736557242056487941267521536, 11), (83076749736557242056487941267521536, 38), (83076749736557242056487941267521536, 40), (83076749736557242056487941267521536, 45), (83076749736557242056487941267521536, 46), (83076749736557242056487941267521536, 47), (83076749736557242056487941267521536, 135), (408162263241783541402858104586602178094999744488059883564826624, 256)] hp hq → bRg G hq → bWf G hq → 264 ≤ a3 → (-517) ≤ 0 - a3 → 0 ≤ a4 → (-2) ≤ 0 - a4 → 0 ≤ a5 → (-12) ≤ 0 - a5 → 0 ≤ p2 → (-23) ≤ 0 - p2 → 264 ≤ a3 - 11 * p2 → (-264) ≤ 0 - a3 + 11 * p2 → 0 - 2 * a5 + 25 < (m : Int) → yG 89 xfts (xcall 89 xfts xpools xms (d + 10)) (xpool xp_RX13) [] xt_X13_isBarred (yP 4 (fun rv hp' => (fun rv hp' => (bQi G [(83076749736557242056487941267521536, 10), (83076749736557242056487941267521536, 11), (83076749736557242056487941267521536, 38), (83076749736557242056487941267521536, 40), (83076749736557242056487941267521536, 45), (83076749736557242056487941267521536, 46), (83076749736557242056487941267521536, 47), (83076749736557242056487941267521536, 135), (408162263241783541402858104586602178094999744488059883564826624, 256)] hp 0 1 (fun _ => True)) rv hp' ∧ bWf G hp') rv hp' ∧ bRg G hp')) (27 * m) 71 [(0, yR 2073), (1, yI (1)), (2, yI (p2)), (3, yI (a3)), (4, yI (a4)), (5, yI (a5))] [] hq) := by
    intro m
    induction m with
    | zero =>
      refine ⟨?_, ?_⟩ <;> (intros; exfalso; omega)
    | succ m ih =>
      obtain ⟨i_46, i_71⟩ := ih
      refine ⟨?_, ?_⟩
      · intro a3 a4 hq A_hq M_bRg_hq M_bWf_hq f0 f1 f2 f3 f4 f5 f6 f7 hm
        refine yG.mono (N := 27 * m + 27) ?_ (by omega)
        refine yG.load xak rfl (fun _ _ => rfl) (v := yR 2073) rfl rfl ?_
        refine yG.getO A_hq.1 (w_M_field W H_2073) rfl rfl (fun r1 H_r1 O_r1 q_r1 => ?_)
        obtain rfl := u_M_field W H_r1
        refine yG.load xik rfl (fun _ _ => rfl) (v := yI (a3)) rfl rfl ?_
        refine yG.load xik rfl (fun _ _ => rfl) (v := yI (1)) rfl rfl ?_
        refine yG.invS (rest := [yI (a3), yR 2089]) rfl rfl rfl rfl (c_GModel_valueOf W (d + 9) A_hq.1 (1) (by omega) (by omega)) (fun rv hp9 q9 => ?_)
        obtain ⟨⟨z2, rfl, l_z2, u_z2, R_z2⟩, e9⟩ := q9
        rw [e9]
        show yG _ _ _ _ _ _ _ _ _ _ (yI z2 :: [yI (a3), yR 2089]) _
        refine yG.iastF A_hq.1 (v_M_field W H_r1) (show yfT ((a3 : Int).toNat) = (0, (0, 2)) from ((yfT_ix (s := 1) (k := 0) (by omega) (by omega) (by omega) (by decide)).trans rfl)) (W.2.1 _ _ H_r1 (by decide) (by decide)) rfl (by omega) (by omega) ⟨by omega, by omega⟩ (by omega) (by omega) (fun h3 T_h3 b_h3 f_h3 y_h3 => ?_)
        have M_bRg_h3 := M_bRg_hq.fr (bAx.put (Wl := [(5444517870735015415413993718908291383296, 256)]) (bAx.rf A_hq.1) T_h3 b_h3 f_h3 H_r1 (bAll_ok (by decide) _)) (by decide)
        have M_bWf_h3 : bWf G h3 := M_bWf_hq.putx y_h3 (fun j hj h9 hb => by unfold mBp at hb; omega) (fun j hj h9 hb => by unfold mXp at hb; omega)
        have A_h3 := A_hq.put T_h3 b_h3 f_h3 H_r1 (bAll_ok (by decide) _)
        refine yG.load xak rfl (fun _ _ => rfl) (v := yR 2073) rfl rfl ?_
        refine yG.getI A_h3.1 (w_M_ruleCount W H_2073) rfl rfl (fun z4 e_z4 i_z4 l_z4 u_z4 => ?_)
        refine yG.ifz rfl (t := 68) rfl ⟨by omega, by omega⟩ (fun c5 => ?_) (fun c5 => ?_)
        · have c5 : (z4 : Int) ≤ 0 := c5
          refine yG.num (c := 0) rfl (fun _ _ => rfl) (by decide) ?_
          refine yG.store1 xik (L' := [(5, yI (0)), (0, yR 2073), (1, yI (1)), (2, yI (p2)), (3, yI (a3)), (4, yI (a4))]) rfl (fun _ _ => rfl) rfl rfl ?_
          exact yG.mono (yG.sub (i_71 (a3) (a4) (0)  h3 A_h3 M_bRg_h3 M_bWf_h3   (by omega) (by omega) (by omega) (by omega) (by omega) (by omega) (by omega) (by omega) (by omega) (by omega) (by omega)) (ySub.cons rfl (ySub.cons rfl (ySub.cons rfl (ySub.cons rfl (ySub.cons rfl (ySub.cons rfl (ySub.nil)))))))) (by omega)
        · have c5 : (z4 : Int) > 0 := c5
          refine yG.load xak rfl (fun _ _ => rfl) (v := yR 2073) rfl rfl ?_
          refine yG.num (c := 1) rfl (fun _ _ => rfl) (by decide) ?_
          refine yG.invV (rest := []) A_h3.1 (bOb (d_M W) H_2073) rfl rfl rfl rfl (c_GModel_see W (d + 6) A_h3.1 H_2073 (1) (by omega) (by omega)) (fun rv h6 q9 => ?_)
          obtain ⟨⟨rfl, R_z7⟩, B_h6⟩ := q9
          have A_h6 := A_h3.tr B_h6 (by decide)
          have M_bRg_h6 := M_bRg_h3.fr B_h6 (by decide)
          have M_bWf_h6 := M_bWf_h3.fr B_h6 (by decide)
          show yG _ _ _ _ _ _ _ _ _ _ [] _
          refine yG.num (c := 0) rfl (fun _ _ => rfl) (by decide) ?_
          refine yG.store1 xik (L' := [(5, yI (0)), (0, yR 2073), (1, yI (1)), (2, yI (p2)), (3, yI (a3)), (4, yI (a4))]) rfl (fun _ _ => rfl) rfl rfl ?_
          exact yG.mono (yG.sub (i_71 (a3) (a4) (0)  h6 A_h6 M_bRg_h6 M_bWf_h6   (by omega) (by omega) (by omega) (by omega) (by omega) (by omega) (by omega) (by omega) (by omega) (by omega) (by omega)) (ySub.cons rfl (ySub.cons rfl (ySub.cons rfl (ySub.cons rfl (ySub.cons rfl (ySub.cons rfl (ySub.nil)))))))) (by omega)
      · intro a3 a4 a5 hq A_hq M_bRg_hq M_bWf_hq f0 f1 f2 f3 f4 f5 f6 f7 f8 f9 hm
        refine yG.mono (N := 27 * m + 27) ?_ (by omega)
        refine yG.load xik rfl (fun _ _ => rfl) (v := yI (a5)) rfl rfl ?_
        refine yG.load xak rfl (fun _ _ => rfl) (v := yR 2073) rfl rfl ?_
        refine yG.getI A_hq.1 (w_M_ruleCount W H_2073) rfl rfl (fun z1 e_z1 i_z1 l_z1 u_z1 => ?_)
        refine yG.icmp rfl (t := 123) rfl ⟨by omega, by omega⟩ ⟨by omega, by omega⟩ (fun c2 => ?_) (fun c2 => ?_)
        · have c2 : (a5 : Int) ≥ z1 := c2
          refine yG.num (c := 0) rfl (fun _ _ => rfl) (by decide) ?_
          refine yG.ret rfl (fun _ _ => rfl) ?_
          exact (yP.bool (by omega) ⟨⟨⟨⟨0, rfl, by omega, by omega, trivial⟩, A_hq⟩, M_bWf_hq⟩, M_bRg_hq⟩)
        · have c2 : (a5 : Int) < z1 := c2
          refine yG.load xak rfl (fun _ _ => rfl) (v := yR 2073) rfl rfl ?_
          refine yG.getO A_hq.1 (w_M_ruleAct W H_2073) rfl rfl (fun r3 H_r3 O_r3 q_r3 => ?_)
          obtain rfl := u_M_ruleAct W H_r3
          refine yG.load xik rfl (fun _ _ => rfl) (v := yI (a5)) rfl rfl ?_
          refine yG.iald A_hq.1 (v_M_ruleAct W H_r3) rfl (by omega) (by omega) (fun z4 e_z4 i_z4 l_z4 u_z4 => ?_)
          refine yG.load xik rfl (fun _ _ => rfl) (v := yI (1)) rfl rfl ?_
          refine yG.icmp rfl (t := 117) rfl ⟨by omega, by omega⟩ ⟨by omega, by omega⟩ (fun c5 => ?_) (fun c5 => ?_)
          · have c5 : (z4 : Int) ≠ 1 := c5
            refine yG.iinc rfl (a := a5) rfl (L' := [(5, yI (a5 + 1)), (0, yR 2073), (1, yI (1)), (2, yI (p2)), (3, yI (a3)), (4, yI (a4))]) rfl ?_
            refine yG.goto rfl (t := 71) rfl ?_
            exact yG.mono (yG.sub (i_71 (a3) (a4) (a5 + 1)  hq A_hq M_bRg_hq M_bWf_hq   (by omega) (by omega) (by omega) (by omega) (by omega) (by omega) (by omega) (by omega) (by omega) (by omega) (by omega)) (ySub.cons rfl (ySub.cons rfl (ySub.cons rfl (ySub.cons rfl (ySub.cons rfl (ySub.cons rfl (ySub.nil)))))))) (by omega)
          · have c5 : (z4 : Int) = 1 := c5
            refine yG.load xak rfl (fun _ _ => rfl) (v := yR 2073) rfl rfl ?_
            refine yG.load xik rfl (fun _ _ => rfl) (v := yI (a5)) rfl rfl ?_
            refine yG.load xik rfl (fun _ _ => rfl) (v := yI (p2)) rfl rfl ?_
            refine yG.invV (rest := []) A_hq.1 (bOb (d_M W) H_2073) rfl rfl rfl rfl (c_GModel_holds W d A_hq.1 M_bRg_hq M_bWf_hq (M_bRc.fr A_hq (by decide)) (M_bPr.fr A_hq (by decide)) H_2073 (a5) (p2) (by omega) (by omega) (by omega) (by omega) (by omega) (by omega)) (fun rv h6 q9 => ?_)
            obtain ⟨q9, M_bRg_h6⟩ := q9
            obtain ⟨⟨z7, rfl, l_z7, u_z7, R_z7⟩, B_h6⟩ := q9
            have A_h6 := A_hq.tr B_h6 (by decide)
            have M_bWf_h6 := M_bWf_hq.fr B_h6 (by decide)
            show yG _ _ _ _ _ _ _ _ _ _ (yI z7 :: []) _
            refine yG.ifz rfl (t := 117) rfl ⟨by omega, by omega⟩ (fun c8 => ?_) (fun c8 => ?_)
            · have c8 : (z7 : Int) = 0 := c8
              refine yG.iinc rfl (a := a5) rfl (L' := [(5, yI (a5 + 1)), (0, yR 2073), (1, yI (1)), (2, yI (p2)), (3, yI (a3)), (4, yI (a4))]) rfl ?_
              refine yG.goto rfl (t := 71) rfl ?_
              exact yG.mono (yG.sub (i_71 (a3) (a4) (a5 + 1)  h6 A_h6 M_bRg_h6 M_bWf_h6   (by omega) (by omega) (by omega) (by omega) (by omega) (by omega) (by omega) (by omega) (by omega) (by omega) (by omega)) (ySub.cons rfl (ySub.cons rfl (ySub.cons rfl (ySub.cons rfl (ySub.cons rfl (ySub.cons rfl (ySub.nil)))))))) (by omega)
            · have c8 : (z7 : Int) ≠ 0 := c8
              refine yG.load xak rfl (fun _ _ => rfl) (v := yR 2073) rfl rfl ?_
              refine yG.load xik rfl (fun _ _ => rfl) (v := yI (a5)) rfl rfl ?_
              refine yG.putI A_h6.1 (w_M_barredBy W H_2073) (W.2.1 _ _ H_2073 (by decide) (by decide)) rfl rfl (.inl rfl) ⟨by omega, by omega⟩ (by omega) (by omega) (fun h9 T_h9 b_h9 f_h9 y_h9 => ?_)
              have M_bRg_h9 := M_bRg_h6.fr (bAx.put (Wl := [(83076749736557242056487941267521536, 135)]) (bAx.rf A_h6.1) T_h9 b_h9 f_h9 H_2073 (by decide)) (by decide)
              have M_bWf_h9 := M_bWf_h6.fr (bAx.put (Wl := [(83076749736557242056487941267521536, 135)]) (bAx.rf A_h6.1) T_h9 b_h9 f_h9 H_2073 (by decide)) (by decide)
              have A_h9 := A_h6.put T_h9 b_h9 f_h9 H_2073 (by decide)
              refine yG.load xak rfl (fun _ _ => rfl) (v := yR 2073) rfl rfl ?_
              refine yG.getO A_h9.1 (w_M_field W H_2073) rfl rfl (fun r10 H_r10 O_r10 q_r10 => ?_)
              obtain rfl := u_M_field W H_r10
              refine yG.load xik rfl (fun _ _ => rfl) (v := yI (a3)) rfl rfl ?_
              refine yG.load xik rfl (fun _ _ => rfl) (v := yI (a4)) rfl rfl ?_
              refine yG.iastF A_h9.1 (v_M_field W H_r10) (show yfT ((a3 : Int).toNat) = (0, (0, 2)) from ((yfT_ix (s := 1) (k := 0) (by omega) (by omega) (by omega) (by decide)).trans rfl)) (W.2.1 _ _ H_r10 (by decide) (by decide)) rfl (by omega) (by omega) ⟨by omega, by omega⟩ (by omega) (by omega) (fun h11 T_h11 b_h11 f_h11 y_h11 => ?_)
              have M_bRg_h11 := M_bRg_h9.fr (bAx.put (Wl := [(5444517870735015415413993718908291383296, 256)]) (bAx.rf A_h9.1) T_h11 b_h11 f_h11 H_r10 (bAll_ok (by decide) _)) (by decide)
              have M_bWf_h11 : bWf G h11 := M_bWf_h9.putx y_h11 (fun j hj h9 hb => by unfold mBp at hb; omega) (fun j hj h9 hb => by unfold mXp at hb; omega)
              have A_h11 := A_h9.put T_h11 b_h11 f_h11 H_r10 (bAll_ok (by decide) _)
              refine yG.num (c := 1) rfl (fun _ _ => rfl) (by decide) ?_
              refine yG.ret rfl (fun _ _ => rfl) ?_
              exact (yP.bool (by omega) ⟨⟨⟨⟨1, rfl, by omega, by omega, trivial⟩, A_h11⟩, M_bWf_h11⟩, M_bRg_h11⟩)
  refine yC.of (M := (xt_X13_isBarred, (6, (4, (14, []))))) rfl rfl (N := 783) (yfuel (by decide)) ?_
  show yG 89 xfts (xcall 89 xfts xpools xms (d + 10)) (xpool xp_RX13) [] xt_X13_isBarred (yP 4 (fun rv hp' => (fun rv hp' => (bQi G [(83076749736557242056487941267521536, 10), (83076749736557242056487941267521536, 11), (83076749736557242056487941267521536, 38), (83076749736557242056487941267521536, 40), (83076749736557242056487941267521536, 45), (83076749736557242056487941267521536, 46), (83076749736557242056487941267521536, 47), (83076749736557242056487941267521536, 135), (408162263241783541402858104586602178094999744488059883564826624, 256)] hp 0 1 (fun _ => True)) rv hp' ∧ bWf G hp') rv hp' ∧ bRg G hp')) 783 0 [(0, yR 2073), (1, yI (1)), (2, yI (p2))] [] hp
  obtain ⟨i_46, i_71⟩ := H 28
  refine yG.load xik rfl (fun _ _ => rfl) (v := yI (1)) rfl rfl ?_
  refine yG.load xik rfl (fun _ _ => rfl) (v := yI (p2)) rfl rfl ?_
  refine yG.invS (rest := []) rfl rfl rfl rfl (c_GModel_fieldOf_1 W (d + 8) A_hp.1 (p2) (by omega) (by omega)) (fun rv hp9 q9 => ?_)
  obtain ⟨⟨z1, rfl, l_z1, u_z1, R_z1⟩, e9⟩ := q9
  rw [e9]
  show yG _ _ _ _ _ _ _ _ _ _ (yI z1 :: []) _
  refine yG.store1 xik (L' := [(3, yI (z1)), (0, yR 2073), (1, yI (1)), (2, yI (p2))]) rfl (fun _ _ => rfl) rfl rfl ?_
  refine yG.load xak rfl (fun _ _ => rfl) (v := yR 2073) rfl rfl ?_
  refine yG.num (c := -1) rfl (fun _ _ => rfl) (by decide) ?_
  refine yG.putI A_hp.1 (w_M_barredBy W H_2073) (W.2.1 _ _ H_2073 (by decide) (by decide)) rfl rfl (.inl rfl) ⟨by omega, by omega⟩ (by omega) (by omega) (fun h2 T_h2 b_h2 f_h2 y_h2 => ?_)
  have M_bRg_h2 := M_bRg_hp.fr (bAx.put (Wl := [(83076749736557242056487941267521536, 135)]) (bAx.rf A_hp.1) T_h2 b_h2 f_h2 H_2073 (by decide)) (by decide)
  have M_bWf_h2 := M_bWf_hp.fr (bAx.put (Wl := [(83076749736557242056487941267521536, 135)]) (bAx.rf A_hp.1) T_h2 b_h2 f_h2 H_2073 (by decide)) (by decide)
  have A_h2 := A_hp.put T_h2 b_h2 f_h2 H_2073 (by decide)
  refine yG.load xak rfl (fun _ _ => rfl) (v := yR 2073) rfl rfl ?_
  refine yG.getO A_h2.1 (w_M_field W H_2073) rfl rfl (fun r3 H_r3 O_r3 q_r3 => ?_)
  obtain rfl := u_M_field W H_r3
  refine yG.load xik rfl (fun _ _ => rfl) (v := yI (z1)) rfl rfl ?_
  refine yG.ialdF A_h2.1 (v_M_field W H_r3) (lo := 0) (hi := 2) ((yfT_ix (s := 1) (k := 0) (by omega) (by omega) (by omega) (by decide)).trans rfl) rfl (by omega) (by omega) (fun z4 e_z4 i_z4 l_z4 u_z4 => ?_)
  refine yG.load xik rfl (fun _ _ => rfl) (v := yI (1)) rfl rfl ?_
  refine yG.invS (rest := [yI (z4)]) rfl rfl rfl rfl (c_GModel_valueOf W (d + 9) A_h2.1 (1) (by omega) (by omega)) (fun rv hp9 q9 => ?_)
  obtain ⟨⟨z5, rfl, l_z5, u_z5, R_z5⟩, e9⟩ := q9
  rw [e9]
  show yG _ _ _ _ _ _ _ _ _ _ (yI z5 :: [yI (z4)]) _
  refine yG.icmp rfl (t := 26) rfl ⟨by omega, by omega⟩ ⟨by omega, by omega⟩ (fun c6 => ?_) (fun c6 => ?_)
  · have c6 : (z4 : Int) ≠ z5 := c6
    refine yG.load xak rfl (fun _ _ => rfl) (v := yR 2073) rfl rfl ?_
    refine yG.getS9 A_h2.1 (w_M_field W H_2073) q_r3 rfl rfl ?_
    refine yG.load xik rfl (fun _ _ => rfl) (v := yI (z1)) rfl rfl ?_
    refine yG.ialdF A_h2.1 (v_M_field W H_r3) (lo := 0) (hi := 2) ((yfT_ix (s := 1) (k := 0) (by omega) (by omega) (by omega) (by decide)).trans rfl) rfl (by omega) (by omega) (fun z7 e_z7 i_z7 l_z7 u_z7 => ?_)
    refine yG.store1 xik (L' := [(4, yI (z7)), (3, yI (z1)), (0, yR 2073), (1, yI (1)), (2, yI (p2))]) rfl (fun _ _ => rfl) rfl rfl ?_
    refine yG.load xak rfl (fun _ _ => rfl) (v := yR 2073) rfl rfl ?_
    refine yG.getI A_h2.1 (w_M_ruleCount W H_2073) rfl rfl (fun z8 e_z8 i_z8 l_z8 u_z8 => ?_)
    refine yG.ifz rfl (t := 46) rfl ⟨by omega, by omega⟩ (fun c9 => ?_) (fun c9 => ?_)
    · have c9 : (z8 : Int) ≤ 0 := c9
      exact yG.mono (yG.sub (i_46 (z1) (z7)  h2 A_h2 M_bRg_h2 M_bWf_h2   (by omega) (by omega) (by omega) (by omega) (by omega) (by omega) (by omega) (by omega) (by omega)) (ySub.cons rfl (ySub.cons rfl (ySub.cons rfl (ySub.cons rfl (ySub.cons rfl (ySub.nil))))))) (by omega)
    · have c9 : (z8 : Int) > 0 := c9
      refine yG.load xak rfl (fun _ _ => rfl) (v := yR 2073) rfl rfl ?_
      refine yG.num (c := 0) rfl (fun _ _ => rfl) (by decide) ?_
      refine yG.invV (rest := []) A_h2.1 (bOb (d_M W) H_2073) rfl rfl rfl rfl (c_GModel_see W (d + 6) A_h2.1 H_2073 (0) (by omega) (by omega)) (fun rv h10 q9 => ?_)
      obtain ⟨⟨rfl, R_z11⟩, B_h10⟩ := q9
      have A_h10 := A_h2.tr B_h10 (by decide)
      have M_bRg_h10 := M_bRg_h2.fr B_h10 (by decide)
      have M_bWf_h10 := M_bWf_h2.fr B_h10 (by decide)
      have qq1 : zsl h10 2073 23 = yR 2089 := (B_h10.sl H_2073 (by decide)).trans q_r3
      have : ys h10 2089 (z1 : Int).toNat = ys h2 2089 (z1 : Int).toNat := B_h10.ys H_r3 (bNo_ok (by decide) _)
      show yG _ _ _ _ _ _ _ _ _ _ [] _
      exact yG.mono (yG.sub (i_46 (z1) (z7)  h10 A_h10 M_bRg_h10 M_bWf_h10   (by omega) (by omega) (by omega) (by omega) (by omega) (by omega) (by omega) (by omega) (by omega)) (ySub.cons rfl (ySub.cons rfl (ySub.cons rfl (ySub.cons rfl (ySub.cons rfl (ySub.nil))))))) (by omega)
  · have c6 : (z4 : Int) = z5 := c6
    refine yG.num (c := 1) rfl (fun _ _ => rfl) (by decide) ?_
    refine yG.ret rfl (fun _ _ => rfl) ?_
    exact (yP.bool (by omega) ⟨⟨⟨⟨1, rfl, by omega, by omega, trivial⟩, A_h2⟩, M_bWf_h2⟩, M_bRg_h2⟩)
theorem c_GModel_isOfBar_2 {hp : xH} (W : mW G) (d : Nat) (hT : zTy G hp) : yC (xcall 89 xfts xpools xms (d + 1)) 434 [yI (2)] hp (bQpi hp 1 1 (fun _ => True)) := by
  have A_hp : bAx G [] hp hp := bAx.rf hT
  refine yC.of (M := (xt_X13_isOfBar, (1, (4, (14, []))))) rfl rfl (N := 24) (yfuel (by decide)) ?_
  show yG 89 xfts (xcall 89 xfts xpools xms d) (xpool xp_RX13) [] xt_X13_isOfBar (yP 4 (bQpi hp 1 1 (fun _ => True))) 24 0 [(0, yI (2))] [] hp
  refine yG.load xik rfl (fun _ _ => rfl) (v := yI (2)) rfl rfl ?_
  refine yG.num (c := 2) rfl (fun _ _ => rfl) (by decide) ?_
  refine yG.icmp rfl (t := 10) rfl ⟨by omega, by omega⟩ ⟨by omega, by omega⟩ (fun c1 => ?_) (fun c1 => ?_)
  · have c1 : (2 : Int) = 2 := c1
    refine yG.num (c := 1) rfl (fun _ _ => rfl) (by decide) ?_
    refine yG.goto rfl (t := 15) rfl ?_
    refine yG.ret rfl (fun _ _ => rfl) ?_
    exact (yP.bool (by omega) ⟨⟨1, rfl, by omega, by omega, trivial⟩, rfl⟩)
  · have c1 : (2 : Int) ≠ 2 := c1
    exfalso; omega
theorem c_GModel_fieldOf_2 {hp : xH} (W : mW G) (d : Nat) (hT : zTy G hp) (p1 : Int) (h1l : 0 ≤ p1) (h1u : p1 ≤ 23) : yC (xcall 89 xfts xpools xms (d + 2)) 398 [yI (2), yI (p1)] hp (bQpi hp 0 253 (fun z => 0 ≤ 0 - p1 + z ∧ 0 ≤ p1 - z + 230 ∧ 0 ≤ 0 - 11 * p1 + z ∧ 0 ≤ 11 * p1 - z)) := by
  have A_hp : bAx G [] hp hp := bAx.rf hT
  refine yC.of (M := (xt_X13_fieldOf, (2, (1, (14, []))))) rfl rfl (N := 33) (yfuel (by decide)) ?_
  show yG 89 xfts (xcall 89 xfts xpools xms (d + 1)) (xpool xp_RX13) [] xt_X13_fieldOf (yP 1 (bQpi hp 0 253 (fun z => 0 ≤ 0 - p1 + z ∧ 0 ≤ p1 - z + 230 ∧ 0 ≤ 0 - 11 * p1 + z ∧ 0 ≤ 11 * p1 - z))) 33 0 [(0, yI (2)), (1, yI (p1))] [] hp
  refine yG.load xik rfl (fun _ _ => rfl) (v := yI (2)) rfl rfl ?_
  refine yG.invS (rest := []) rfl rfl rfl rfl (c_GModel_isOfBar_2 W d A_hp.1) (fun rv hp9 q9 => ?_)
  obtain ⟨⟨z1, rfl, l_z1, u_z1, R_z1⟩, e9⟩ := q9
  rw [e9]
  show yG _ _ _ _ _ _ _ _ _ _ (yI z1 :: []) _
  refine yG.ifz rfl (t := 16) rfl ⟨by omega, by omega⟩ (fun c2 => ?_) (fun c2 => ?_)
  · have c2 : (z1 : Int) = 0 := c2
    exfalso; omega
  · have c2 : (z1 : Int) ≠ 0 := c2
    refine yG.num (c := 0) rfl (fun _ _ => rfl) (by decide) ?_
    refine yG.load xik rfl (fun _ _ => rfl) (v := yI (p1)) rfl rfl ?_
    refine yG.num (c := 0) rfl (fun _ _ => rfl) (by decide) ?_
    refine yG.invS (rest := []) rfl rfl rfl rfl (c_GModel_f W d A_hp.1 (0) (p1) (0) (by omega) (by omega) (by omega) (by omega) (by omega) (by omega)) (fun rv hp9 q9 => ?_)
    obtain ⟨⟨z3, rfl, l_z3, u_z3, R_z3⟩, e9⟩ := q9
    rw [e9]
    show yG _ _ _ _ _ _ _ _ _ _ (yI z3 :: []) _
    refine yG.goto rfl (t := 35) rfl ?_
    refine yG.ret rfl (fun _ _ => rfl) ?_
    exact (yP.int ⟨by omega, by omega⟩ ⟨⟨z3, rfl, by omega, by omega, by omega⟩, rfl⟩)
theorem c_GModel_isBarred_2 {hp : xH} (W : mW G) (d : Nat) (hT : zTy G hp) (M_bRg : bRg G hp) (M_bWf : bWf G hp) (M_bRc : bRc G hp) (M_bPr : bPr G hp) (H_2073 : bRo G 116 2073) (p2 : Int) (h2l : 0 ≤ p2) (h2u : p2 ≤ 23) (g90 : 2 ≤ 2 → 2 ≤ 3 → p2 ≤ 15) : yC (xcall 89 xfts xpools xms (d + 11)) 423 [yR 2073, yI (2), yI (p2)] hp (fun rv hp' => (fun rv hp' => (bQi G [(83076749736557242056487941267521536, 10), (83076749736557242056487941267521536, 11), (83076749736557242056487941267521536, 38), (83076749736557242056487941267521536, 40), (83076749736557242056487941267521536, 45), (83076749736557242056487941267521536, 46), (83076749736557242056487941267521536, 47), (83076749736557242056487941267521536, 135), (408162263241783541402858104586602178094999744488059883564826624, 256)] hp 0 1 (fun _ => True)) rv hp' ∧ bWf G hp') rv hp' ∧ bRg G hp') := by
  have A_hp : bAx G [(83076749736557242056487941267521536, 10), (83076749736557242056487941267521536, 11), (83076749736557242056487941267521536, 38), (83076749736557242056487941267521536, 40), (83076749736557242056487941267521536, 45), (83076749736557242056487941267521536, 46), (83076749736557242056487941267521536, 47), (83076749736557242056487941267521536, 135), (408162263241783541402858104586602178094999744488059883564826624, 256)] hp hp := bAx.rf hT
  have M_bRg_hp := M_bRg
  have M_bWf_hp := M_bWf
  have H : ∀ m : Nat, (∀ a3 : Int, ∀ a4 : Int, ∀ hq, bAx G [(83076749736557242056487941267521536, 10), (83076749736557242056487941267521536, 11), (83076749736557242056487941267521536, 38), (83076749736557242056487941267521536, 40), (83076749736557242056487941267521536, 45), (83076749736557242056487941267521536, 46), (83076749736557242056487941267521536, 47), (83076749736557242056487941267521536, 135), (408162263241783541402858104586602178094999744488059883564826624, 256)] hp hq → bRg G hq → bWf G hq → 0 ≤ a3 → (-253) ≤ 0 - a3 → 0 ≤ a4 → (-1) ≤ 0 - a4 → 0 ≤ p2 → (-23) ≤ 0 - p2 → 0 ≤ a3 - 11 * p2 → 0 ≤ 0 - a3 + 11 * p2 → 26 < (m : Int) → yG 89 xfts (xcall 89 xfts xpools xms (d + 10)) (xpool xp_RX13) [] xt_X13_isBarred (yP 4 (fun rv hp' => (fun rv hp' => (bQi G [(83076749736557242056487941267521536, 10), (83076749736557242056487941267521536, 11), (83076749736557242056487941267521536, 38), (83076749736557242056487941267521536, 40), (83076749736557242056487941267521536, 45), (83076749736557242056487941267521536, 46), (83076749736557242056487941267521536, 47), (83076749736557242056487941267521536, 135), (408162263241783541402858104586602178094999744488059883564826624, 256)] hp 0 1 (fun _ => True)) rv hp' ∧ bWf G hp') rv hp' ∧ bRg G hp')) (27 * m) 46 [(0, yR 2073), (1, yI (2)), (2, yI (p2)), (3, yI (a3)), (4, yI (a4))] [] hq) ∧ (∀ a3 : Int, ∀ a4 : Int, ∀ a5 : Int, ∀ hq, bAx G [(83076749736557242056487941267521536, 10), (83076749736557242056487941267521536, 11), (83076749736557242056487941267521536, 38), (83076749736557242056487941267521536, 40), (83076749736557242056487941267521536, 45), (83076749736557242056487941267521536, 46), (83076749736557242056487941267521536, 47), (83076749736557242056487941267521536, 135), (408162263241783541402858104586602178094999744488059883564826624, 256)] hp hq → bRg G hq → bWf G hq → 0 ≤ a3 → (-253) ≤ 0 - a3 → 0 ≤ a4 → (-1) ≤ 0 - a4 → 0 ≤ a5 → (-12) ≤ 0 - a5 → 0 ≤ p2 → (-23) ≤ 0 - p2 → 0 ≤ a3 - 11 * p2 → 0 ≤ 0 - a3 + 11 * p2 → 0 - 2 * a5 + 25 < (m : Int) → yG 89 xfts (xcall 89 xfts xpools xms (d + 10)) (xpool xp_RX13) [] xt_X13_isBarred (yP 4 (fun rv hp' => (fun rv hp' => (bQi G [(83076749736557242056487941267521536, 10), (83076749736557242056487941267521536, 11), (83076749736557242056487941267521536, 38), (83076749736557242056487941267521536, 40), (83076749736557242056487941267521536, 45), (83076749736557242056487941267521536, 46), (83076749736557242056487941267521536, 47), (83076749736557242056487941267521536, 135), (408162263241783541402858104586602178094999744488059883564826624, 256)] hp 0 1 (fun _ => True)) rv hp' ∧ bWf G hp') rv hp' ∧ bRg G hp')) (27 * m) 71 [(0, yR 2073), (1, yI (2)), (2, yI (p2)), (3, yI (a3)), (4, yI (a4)), (5, yI (a5))] [] hq) := by
    intro m
    induction m with
    | zero =>
      refine ⟨?_, ?_⟩ <;> (intros; exfalso; omega)
    | succ m ih =>
      obtain ⟨i_46, i_71⟩ := ih
      refine ⟨?_, ?_⟩
      · intro a3 a4 hq A_hq M_bRg_hq M_bWf_hq f0 f1 f2 f3 f4 f5 f6 f7 hm
        refine yG.mono (N := 27 * m + 27) ?_ (by omega)
        refine yG.load xak rfl (fun _ _ => rfl) (v := yR 2073) rfl rfl ?_
        refine yG.getO A_hq.1 (w_M_field W H_2073) rfl rfl (fun r1 H_r1 O_r1 q_r1 => ?_)
        obtain rfl := u_M_field W H_r1
        refine yG.load xik rfl (fun _ _ => rfl) (v := yI (a3)) rfl rfl ?_
        refine yG.load xik rfl (fun _ _ => rfl) (v := yI (2)) rfl rfl ?_
        refine yG.invS (rest := [yI (a3), yR 2089]) rfl rfl rfl rfl (c_GModel_valueOf W (d + 9) A_hq.1 (2) (by omega) (by omega)) (fun rv hp9 q9 => ?_)
        obtain ⟨⟨z2, rfl, l_z2, u_z2, R_z2⟩, e9⟩ := q9
        rw [e9]
        show yG _ _ _ _ _ _ _ _ _ _ (yI z2 :: [yI (a3), yR 2089]) _
        refine yG.iastF A_hq.1 (v_M_field W H_r1) (show yfT ((a3 : Int).toNat) = (0, (0, 1)) from ((yfT_ix (s := 0) (k := 0) (by omega) (by omega) (by omega) (by decide)).trans rfl)) (W.2.1 _ _ H_r1 (by decide) (by decide)) rfl (by omega) (by omega) ⟨by omega, by omega⟩ (by omega) (by omega) (fun h3 T_h3 b_h3 f_h3 y_h3 => ?_)
        have M_bRg_h3 := M_bRg_hq.fr (bAx.put (Wl := [(5444517870735015415413993718908291383296, 256)]) (bAx.rf A_hq.1) T_h3 b_h3 f_h3 H_r1 (bAll_ok (by decide) _)) (by decide)
        have M_bWf_h3 : bWf G h3 := M_bWf_hq.putx y_h3 (fun j hj h9 hb => by unfold mBp at hb; omega) (fun j hj h9 hb => by unfold mXp at hb; omega)
        have A_h3 := A_hq.put T_h3 b_h3 f_h3 H_r1 (bAll_ok (by decide) _)
        refine yG.load xak rfl (fun _ _ => rfl) (v := yR 2073) rfl rfl ?_
        refine yG.getI A_h3.1 (w_M_ruleCount W H_2073) rfl rfl (fun z4 e_z4 i_z4 l_z4 u_z4 => ?_)
        refine yG.ifz rfl (t := 68) rfl ⟨by omega, by omega⟩ (fun c5 => ?_) (fun c5 => ?_)
        · have c5 : (z4 : Int) ≤ 0 := c5
          refine yG.num (c := 0) rfl (fun _ _ => rfl) (by decide) ?_
          refine yG.store1 xik (L' := [(5, yI (0)), (0, yR 2073), (1, yI (2)), (2, yI (p2)), (3, yI (a3)), (4, yI (a4))]) rfl (fun _ _ => rfl) rfl rfl ?_
          exact yG.mono (yG.sub (i_71 (a3) (a4) (0)  h3 A_h3 M_bRg_h3 M_bWf_h3   (by omega) (by omega) (by omega) (by omega) (by omega) (by omega) (by omega) (by omega) (by omega) (by omega) (by omega)) (ySub.cons rfl (ySub.cons rfl (ySub.cons rfl (ySub.cons rfl (ySub.cons rfl (ySub.cons rfl (ySub.nil)))))))) (by omega)
        · have c5 : (z4 : Int) > 0 := c5
          refine yG.load xak rfl (fun _ _ => rfl) (v := yR 2073) rfl rfl ?_
          refine yG.num (c := 1) rfl (fun _ _ => rfl) (by decide) ?_
          refine yG.invV (rest := []) A_h3.1 (bOb (d_M W) H_2073) rfl rfl rfl rfl (c_GModel_see W (d + 6) A_h3.1 H_2073 (1) (by omega) (by omega)) (fun rv h6 q9 => ?_)
          obtain ⟨⟨rfl, R_z7⟩, B_h6⟩ := q9
          have A_h6 := A_h3.tr B_h6 (by decide)
          have M_bRg_h6 := M_bRg_h3.fr B_h6 (by decide)
          have M_bWf_h6 := M_bWf_h3.fr B_h6 (by decide)
          show yG _ _ _ _ _ _ _ _ _ _ [] _
          refine yG.num (c := 0) rfl (fun _ _ => rfl) (by decide) ?_
          refine yG.store1 xik (L' := [(5, yI (0)), (0, yR 2073), (1, yI (2)), (2, yI (p2)), (3, yI (a3)), (4, yI (a4))]) rfl (fun _ _ => rfl) rfl rfl ?_
          exact yG.mono (yG.sub (i_71 (a3) (a4) (0)  h6 A_h6 M_bRg_h6 M_bWf_h6   (by omega) (by omega) (by omega) (by omega) (by omega) (by omega) (by omega) (by omega) (by omega) (by omega) (by omega)) (ySub.cons rfl (ySub.cons rfl (ySub.cons rfl (ySub.cons rfl (ySub.cons rfl (ySub.cons rfl (ySub.nil)))))))) (by omega)
      · intro a3 a4 a5 hq A_hq M_bRg_hq M_bWf_hq f0 f1 f2 f3 f4 f5 f6 f7 f8 f9 hm
        refine yG.mono (N := 27 * m + 27) ?_ (by omega)
        refine yG.load xik rfl (fun _ _ => rfl) (v := yI (a5)) rfl rfl ?_
        refine yG.load xak rfl (fun _ _ => rfl) (v := yR 2073) rfl rfl ?_
        refine yG.getI A_hq.1 (w_M_ruleCount W H_2073) rfl rfl (fun z1 e_z1 i_z1 l_z1 u_z1 => ?_)
        refine yG.icmp rfl (t := 123) rfl ⟨by omega, by omega⟩ ⟨by omega, by omega⟩ (fun c2 => ?_) (fun c2 => ?_)
        · have c2 : (a5 : Int) ≥ z1 := c2
          refine yG.num (c := 0) rfl (fun _ _ => rfl) (by decide) ?_
          refine yG.ret rfl (fun _ _ => rfl) ?_
          exact (yP.bool (by omega) ⟨⟨⟨⟨0, rfl, by omega, by omega, trivial⟩, A_hq⟩, M_bWf_hq⟩, M_bRg_hq⟩)
        · have c2 : (a5 : Int) < z1 := c2
          refine yG.load xak rfl (fun _ _ => rfl) (v := yR 2073) rfl rfl ?_
          refine yG.getO A_hq.1 (w_M_ruleAct W H_2073) rfl rfl (fun r3 H_r3 O_r3 q_r3 => ?_)
          obtain rfl := u_M_ruleAct W H_r3
          refine yG.load xik rfl (fun _ _ => rfl) (v := yI (a5)) rfl rfl ?_
          refine yG.iald A_hq.1 (v_M_ruleAct W H_r3) rfl (by omega) (by omega) (fun z4 e_z4 i_z4 l_z4 u_z4 => ?_)
          refine yG.load xik rfl (fun _ _ => rfl) (v := yI (2)) rfl rfl ?_
          refine yG.icmp rfl (t := 117) rfl ⟨by omega, by omega⟩ ⟨by omega, by omega⟩ (fun c5 => ?_) (fun c5 => ?_)
          · have c5 : (z4 : Int) ≠ 2 := c5
            refine yG.iinc rfl (a := a5) rfl (L' := [(5, yI (a5 + 1)), (0, yR 2073), (1, yI (2)), (2, yI (p2)), (3, yI (a3)), (4, yI (a4))]) rfl ?_
            refine yG.goto rfl (t := 71) rfl ?_
            exact yG.mono (yG.sub (i_71 (a3) (a4) (a5 + 1)  hq A_hq M_bRg_hq M_bWf_hq   (by omega) (by omega) (by omega) (by omega) (by omega) (by omega) (by omega) (by omega) (by omega) (by omega) (by omega)) (ySub.cons rfl (ySub.cons rfl (ySub.cons rfl (ySub.cons rfl (ySub.cons rfl (ySub.cons rfl (ySub.nil)))))))) (by omega)
          · have c5 : (z4 : Int) = 2 := c5
            refine yG.load xak rfl (fun _ _ => rfl) (v := yR 2073) rfl rfl ?_
            refine yG.load xik rfl (fun _ _ => rfl) (v := yI (a5)) rfl rfl ?_
            refine yG.load xik rfl (fun _ _ => rfl) (v := yI (p2)) rfl rfl ?_
            refine yG.invV (rest := []) A_hq.1 (bOb (d_M W) H_2073) rfl rfl rfl rfl (c_GModel_holds W d A_hq.1 M_bRg_hq M_bWf_hq (M_bRc.fr A_hq (by decide)) (M_bPr.fr A_hq (by decide)) H_2073 (a5) (p2) (by omega) (by omega) (by omega) (by omega) (by omega) (by omega)) (fun rv h6 q9 => ?_)
            obtain ⟨q9, M_bRg_h6⟩ := q9
            obtain ⟨⟨z7, rfl, l_z7, u_z7, R_z7⟩, B_h6⟩ := q9
            have A_h6 := A_hq.tr B_h6 (by decide)
            have M_bWf_h6 := M_bWf_hq.fr B_h6 (by decide)
            show yG _ _ _ _ _ _ _ _ _ _ (yI z7 :: []) _
            refine yG.ifz rfl (t := 117) rfl ⟨by omega, by omega⟩ (fun c8 => ?_) (fun c8 => ?_)
            · have c8 : (z7 : Int) = 0 := c8
              refine yG.iinc rfl (a := a5) rfl (L' := [(5, yI (a5 + 1)), (0, yR 2073), (1, yI (2)), (2, yI (p2)), (3, yI (a3)), (4, yI (a4))]) rfl ?_
              refine yG.goto rfl (t := 71) rfl ?_
              exact yG.mono (yG.sub (i_71 (a3) (a4) (a5 + 1)  h6 A_h6 M_bRg_h6 M_bWf_h6   (by omega) (by omega) (by omega) (by omega) (by omega) (by omega) (by omega) (by omega) (by omega) (by omega) (by omega)) (ySub.cons rfl (ySub.cons rfl (ySub.cons rfl (ySub.cons rfl (ySub.cons rfl (ySub.cons rfl (ySub.nil)))))))) (by omega)
            · have c8 : (z7 : Int) ≠ 0 := c8
              refine yG.load xak rfl (fun _ _ => rfl) (v := yR 2073) rfl rfl ?_
              refine yG.load xik rfl (fun _ _ => rfl) (v := yI (a5)) rfl rfl ?_
              refine yG.putI A_h6.1 (w_M_barredBy W H_2073) (W.2.1 _ _ H_2073 (by decide) (by decide)) rfl rfl (.inl rfl) ⟨by omega, by omega⟩ (by omega) (by omega) (fun h9 T_h9 b_h9 f_h9 y_h9 => ?_)
              have M_bRg_h9 := M_bRg_h6.fr (bAx.put (Wl := [(83076749736557242056487941267521536, 135)]) (bAx.rf A_h6.1) T_h9 b_h9 f_h9 H_2073 (by decide)) (by decide)
              have M_bWf_h9 := M_bWf_h6.fr (bAx.put (Wl := [(83076749736557242056487941267521536, 135)]) (bAx.rf A_h6.1) T_h9 b_h9 f_h9 H_2073 (by decide)) (by decide)
              have A_h9 := A_h6.put T_h9 b_h9 f_h9 H_2073 (by decide)
              refine yG.load xak rfl (fun _ _ => rfl) (v := yR 2073) rfl rfl ?_
              refine yG.getO A_h9.1 (w_M_field W H_2073) rfl rfl (fun r10 H_r10 O_r10 q_r10 => ?_)
              obtain rfl := u_M_field W H_r10
              refine yG.load xik rfl (fun _ _ => rfl) (v := yI (a3)) rfl rfl ?_
              refine yG.load xik rfl (fun _ _ => rfl) (v := yI (a4)) rfl rfl ?_
              refine yG.iastF A_h9.1 (v_M_field W H_r10) (show yfT ((a3 : Int).toNat) = (0, (0, 1)) from ((yfT_ix (s := 0) (k := 0) (by omega) (by omega) (by omega) (by decide)).trans rfl)) (W.2.1 _ _ H_r10 (by decide) (by decide)) rfl (by omega) (by omega) ⟨by omega, by omega⟩ (by omega) (by omega) (fun h11 T_h11 b_h11 f_h11 y_h11 => ?_)
              have M_bRg_h11 := M_bRg_h9.fr (bAx.put (Wl := [(5444517870735015415413993718908291383296, 256)]) (bAx.rf A_h9.1) T_h11 b_h11 f_h11 H_r10 (bAll_ok (by decide) _)) (by decide)
              have M_bWf_h11 : bWf G h11 := M_bWf_h9.putx y_h11 (fun j hj h9 hb => by unfold mBp at hb; omega) (fun j hj h9 hb => by unfold mXp at hb; omega)
              have A_h11 := A_h9.put T_h11 b_h11 f_h11 H_r10 (bAll_ok (by decide) _)
              refine yG.num (c := 1) rfl (fun _ _ => rfl) (by decide) ?_
              refine yG.ret rfl (fun _ _ => rfl) ?_
              exact (yP.bool (by omega) ⟨⟨⟨⟨1, rfl, by omega, by omega, trivial⟩, A_h11⟩, M_bWf_h11⟩, M_bRg_h11⟩)
  refine yC.of (M := (xt_X13_isBarred, (6, (4, (14, []))))) rfl rfl (N := 783) (yfuel (by decide)) ?_
  show yG 89 xfts (xcall 89 xfts xpools xms (d + 10)) (xpool xp_RX13) [] xt_X13_isBarred (yP 4 (fun rv hp' => (fun rv hp' => (bQi G [(83076749736557242056487941267521536, 10), (83076749736557242056487941267521536, 11), (83076749736557242056487941267521536, 38), (83076749736557242056487941267521536, 40), (83076749736557242056487941267521536, 45), (83076749736557242056487941267521536, 46), (83076749736557242056487941267521536, 47), (83076749736557242056487941267521536, 135), (408162263241783541402858104586602178094999744488059883564826624, 256)] hp 0 1 (fun _ => True)) rv hp' ∧ bWf G hp') rv hp' ∧ bRg G hp')) 783 0 [(0, yR 2073), (1, yI (2)), (2, yI (p2))] [] hp
  obtain ⟨i_46, i_71⟩ := H 28
  refine yG.load xik rfl (fun _ _ => rfl) (v := yI (2)) rfl rfl ?_
  refine yG.load xik rfl (fun _ _ => rfl) (v := yI (p2)) rfl rfl ?_
  refine yG.invS (rest := []) rfl rfl rfl rfl (c_GModel_fieldOf_2 W (d + 8) A_hp.1 (p2) (by omega) (by omega)) (fun rv hp9 q9 => ?_)
  obtain ⟨⟨z1, rfl, l_z1, u_z1, R_z1⟩, e9⟩ := q9
  rw [e9]
  show yG _ _ _ _ _ _ _ _ _ _ (yI z1 :: []) _
  refine yG.store1 xik (L' := [(3, yI (z1)), (0, yR 2073), (1, yI (2)), (2, yI (p2))]) rfl (fun _ _ => rfl) rfl rfl ?_
  refine yG.load xak rfl (fun _ _ => rfl) (v := yR 2073) rfl rfl ?_
  refine yG.num (c := -1) rfl (fun _ _ => rfl) (by decide) ?_
  refine yG.putI A_hp.1 (w_M_barredBy W H_2073) (W.2.1 _ _ H_2073 (by decide) (by decide)) rfl rfl (.inl rfl) ⟨by omega, by omega⟩ (by omega) (by omega) (fun h2 T_h2 b_h2 f_h2 y_h2 => ?_)
  have M_bRg_h2 := M_bRg_hp.fr (bAx.put (Wl := [(83076749736557242056487941267521536, 135)]) (bAx.rf A_hp.1) T_h2 b_h2 f_h2 H_2073 (by decide)) (by decide)
  have M_bWf_h2 := M_bWf_hp.fr (bAx.put (Wl := [(83076749736557242056487941267521536, 135)]) (bAx.rf A_hp.1) T_h2 b_h2 f_h2 H_2073 (by decide)) (by decide)
  have A_h2 := A_hp.put T_h2 b_h2 f_h2 H_2073 (by decide)
  refine yG.load xak rfl (fun _ _ => rfl) (v := yR 2073) rfl rfl ?_
  refine yG.getO A_h2.1 (w_M_field W H_2073) rfl rfl (fun r3 H_r3 O_r3 q_r3 => ?_)
  obtain rfl := u_M_field W H_r3
  refine yG.load xik rfl (fun _ _ => rfl) (v := yI (z1)) rfl rfl ?_
  refine yG.ialdF A_h2.1 (v_M_field W H_r3) (lo := 0) (hi := 1) ((yfT_ix (s := 0) (k := 0) (by omega) (by omega) (by omega) (by decide)).trans rfl) rfl (by omega) (by omega) (fun z4 e_z4 i_z4 l_z4 u_z4 => ?_)
  refine yG.load xik rfl (fun _ _ => rfl) (v := yI (2)) rfl rfl ?_
  refine yG.invS (rest := [yI (z4)]) rfl rfl rfl rfl (c_GModel_valueOf W (d + 9) A_h2.1 (2) (by omega) (by omega)) (fun rv hp9 q9 => ?_)
  obtain ⟨⟨z5, rfl, l_z5, u_z5, R_z5⟩, e9⟩ := q9
  rw [e9]
  show yG _ _ _ _ _ _ _ _ _ _ (yI z5 :: [yI (z4)]) _
  refine yG.icmp rfl (t := 26) rfl ⟨by omega, by omega⟩ ⟨by omega, by omega⟩ (fun c6 => ?_) (fun c6 => ?_)
  · have c6 : (z4 : Int) ≠ z5 := c6
    refine yG.load xak rfl (fun _ _ => rfl) (v := yR 2073) rfl rfl ?_
    refine yG.getS9 A_h2.1 (w_M_field W H_2073) q_r3 rfl rfl ?_
    refine yG.load xik rfl (fun _ _ => rfl) (v := yI (z1)) rfl rfl ?_
    refine yG.ialdF A_h2.1 (v_M_field W H_r3) (lo := 0) (hi := 1) ((yfT_ix (s := 0) (k := 0) (by omega) (by omega) (by omega) (by decide)).trans rfl) rfl (by omega) (by omega) (fun z7 e_z7 i_z7 l_z7 u_z7 => ?_)
    refine yG.store1 xik (L' := [(4, yI (z7)), (3, yI (z1)), (0, yR 2073), (1, yI (2)), (2, yI (p2))]) rfl (fun _ _ => rfl) rfl rfl ?_
    refine yG.load xak rfl (fun _ _ => rfl) (v := yR 2073) rfl rfl ?_
    refine yG.getI A_h2.1 (w_M_ruleCount W H_2073) rfl rfl (fun z8 e_z8 i_z8 l_z8 u_z8 => ?_)
    refine yG.ifz rfl (t := 46) rfl ⟨by omega, by omega⟩ (fun c9 => ?_) (fun c9 => ?_)
    · have c9 : (z8 : Int) ≤ 0 := c9
      exact yG.mono (yG.sub (i_46 (z1) (z7)  h2 A_h2 M_bRg_h2 M_bWf_h2   (by omega) (by omega) (by omega) (by omega) (by omega) (by omega) (by omega) (by omega) (by omega)) (ySub.cons rfl (ySub.cons rfl (ySub.cons rfl (ySub.cons rfl (ySub.cons rfl (ySub.nil))))))) (by omega)
    · have c9 : (z8 : Int) > 0 := c9
      refine yG.load xak rfl (fun _ _ => rfl) (v := yR 2073) rfl rfl ?_
      refine yG.num (c := 0) rfl (fun _ _ => rfl) (by decide) ?_
      refine yG.invV (rest := []) A_h2.1 (bOb (d_M W) H_2073) rfl rfl rfl rfl (c_GModel_see W (d + 6) A_h2.1 H_2073 (0) (by omega) (by omega)) (fun rv h10 q9 => ?_)
      obtain ⟨⟨rfl, R_z11⟩, B_h10⟩ := q9
      have A_h10 := A_h2.tr B_h10 (by decide)
      have M_bRg_h10 := M_bRg_h2.fr B_h10 (by decide)
      have M_bWf_h10 := M_bWf_h2.fr B_h10 (by decide)
      have qq1 : zsl h10 2073 23 = yR 2089 := (B_h10.sl H_2073 (by decide)).trans q_r3
      have : ys h10 2089 (z1 : Int).toNat = ys h2 2089 (z1 : Int).toNat := B_h10.ys H_r3 (bNo_ok (by decide) _)
      show yG _ _ _ _ _ _ _ _ _ _ [] _
      exact yG.mono (yG.sub (i_46 (z1) (z7)  h10 A_h10 M_bRg_h10 M_bWf_h10   (by omega) (by omega) (by omega) (by omega) (by omega) (by omega) (by omega) (by omega) (by omega)) (ySub.cons rfl (ySub.cons rfl (ySub.cons rfl (ySub.cons rfl (ySub.cons rfl (ySub.nil))))))) (by omega)
  · have c6 : (z4 : Int) = z5 := c6
    refine yG.num (c := 1) rfl (fun _ _ => rfl) (by decide) ?_
    refine yG.ret rfl (fun _ _ => rfl) ?_
    exact (yP.bool (by omega) ⟨⟨⟨⟨1, rfl, by omega, by omega, trivial⟩, A_h2⟩, M_bWf_h2⟩, M_bRg_h2⟩)
theorem c_GModel_isOfBar_3 {hp : xH} (W : mW G) (d : Nat) (hT : zTy G hp) : yC (xcall 89 xfts xpools xms (d + 1)) 434 [yI (3)] hp (bQpi hp 1 1 (fun _ => True)) := by
  have A_hp : bAx G [] hp hp := bAx.rf hT
  refine yC.of (M := (xt_X13_isOfBar, (1, (4, (14, []))))) rfl rfl (N := 33) (yfuel (by decide)) ?_
  show yG 89 xfts (xcall 89 xfts xpools xms d) (xpool xp_RX13) [] xt_X13_isOfBar (yP 4 (bQpi hp 1 1 (fun _ => True))) 33 0 [(0, yI (3))] [] hp
  refine yG.load xik rfl (fun _ _ => rfl) (v := yI (3)) rfl rfl ?_
  refine yG.num (c := 2) rfl (fun _ _ => rfl) (by decide) ?_
  refine yG.icmp rfl (t := 10) rfl ⟨by omega, by omega⟩ ⟨by omega, by omega⟩ (fun c1 => ?_) (fun c1 => ?_)
  · have c1 : (3 : Int) = 2 := c1
    exfalso; omega
  · have c1 : (3 : Int) ≠ 2 := c1
    refine yG.load xik rfl (fun _ _ => rfl) (v := yI (3)) rfl rfl ?_
    refine yG.num (c := 3) rfl (fun _ _ => rfl) (by decide) ?_
    refine yG.icmp rfl (t := 14) rfl ⟨by omega, by omega⟩ ⟨by omega, by omega⟩ (fun c2 => ?_) (fun c2 => ?_)
    · have c2 : (3 : Int) ≠ 3 := c2
      exfalso; omega
    · have c2 : (3 : Int) = 3 := c2
      refine yG.num (c := 1) rfl (fun _ _ => rfl) (by decide) ?_
      refine yG.goto rfl (t := 15) rfl ?_
      refine yG.ret rfl (fun _ _ => rfl) ?_
      exact (yP.bool (by omega) ⟨⟨1, rfl, by omega, by omega, trivial⟩, rfl⟩)
theorem c_GModel_fieldOf_3 {hp : xH} (W : mW G) (d : Nat) (hT : zTy G hp) (p1 : Int) (h1l : 0 ≤ p1) (h1u : p1 ≤ 23) : yC (xcall 89 xfts xpools xms (d + 2)) 398 [yI (3), yI (p1)] hp (bQpi hp 0 253 (fun z => 0 ≤ 0 - p1 + z ∧ 0 ≤ p1 - z + 230 ∧ 0 ≤ 0 - 11 * p1 + z ∧ 0 ≤ 11 * p1 - z)) := by
  have A_hp : bAx G [] hp hp := bAx.rf hT
  refine yC.of (M := (xt_X13_fieldOf, (2, (1, (14, []))))) rfl rfl (N := 33) (yfuel (by decide)) ?_
  show yG 89 xfts (xcall 89 xfts xpools xms (d + 1)) (xpool xp_RX13) [] xt_X13_fieldOf (yP 1 (bQpi hp 0 253 (fun z => 0 ≤ 0 - p1 + z ∧ 0 ≤ p1 - z + 230 ∧ 0 ≤ 0 - 11 * p1 + z ∧ 0 ≤ 11 * p1 - z))) 33 0 [(0, yI (3)), (1, yI (p1))] [] hp
  refine yG.load xik rfl (fun _ _ => rfl) (v := yI (3)) rfl rfl ?_
  refine yG.invS (rest := []) rfl rfl rfl rfl (c_GModel_isOfBar_3 W d A_hp.1) (fun rv hp9 q9 => ?_)
  obtain ⟨⟨z1, rfl, l_z1, u_z1, R_z1⟩, e9⟩ := q9
  rw [e9]
  show yG _ _ _ _ _ _ _ _ _ _ (yI z1 :: []) _
  refine yG.ifz rfl (t := 16) rfl ⟨by omega, by omega⟩ (fun c2 => ?_) (fun c2 => ?_)
  · have c2 : (z1 : Int) = 0 := c2
    exfalso; omega
  · have c2 : (z1 : Int) ≠ 0 := c2
    refine yG.num (c := 0) rfl (fun _ _ => rfl) (by decide) ?_
    refine yG.load xik rfl (fun _ _ => rfl) (v := yI (p1)) rfl rfl ?_
    refine yG.num (c := 0) rfl (fun _ _ => rfl) (by decide) ?_
    refine yG.invS (rest := []) rfl rfl rfl rfl (c_GModel_f W d A_hp.1 (0) (p1) (0) (by omega) (by omega) (by omega) (by omega) (by omega) (by omega)) (fun rv hp9 q9 => ?_)
    obtain ⟨⟨z3, rfl, l_z3, u_z3, R_z3⟩, e9⟩ := q9
    rw [e9]
    show yG _ _ _ _ _ _ _ _ _ _ (yI z3 :: []) _
    refine yG.goto rfl (t := 35) rfl ?_
    refine yG.ret rfl (fun _ _ => rfl) ?_
    exact (yP.int ⟨by omega, by omega⟩ ⟨⟨z3, rfl, by omega, by omega, by omega⟩, rfl⟩)
theorem c_GModel_isBarred_3 {hp : xH} (W : mW G) (d : Nat) (hT : zTy G hp) (M_bRg : bRg G hp) (M_bWf : bWf G hp) (M_bRc : bRc G hp) (M_bPr : bPr G hp) (H_2073 : bRo G 116 2073) (p2 : Int) (h2l : 0 ≤ p2) (h2u : p2 ≤ 23) (g90 : 2 ≤ 3 → 3 ≤ 3 → p2 ≤ 15) : yC (xcall 89 xfts xpools xms (d + 11)) 423 [yR 2073, yI (3), yI (p2)] hp (fun rv hp' => (fun rv hp' => (bQi G [(83076749736557242056487941267521536, 10), (83076749736557242056487941267521536, 11), (83076749736557242056487941267521536, 38), (83076749736557242056487941267521536, 40), (83076749736557242056487941267521536, 45), (83076749736557242056487941267521536, 46), (83076749736557242056487941267521536, 47), (83076749736557242056487941267521536, 135), (408162263241783541402858104586602178094999744488059883564826624, 256)] hp 0 1 (fun _ => True)) rv hp' ∧ bWf G hp') rv hp' ∧ bRg G hp') := by
  have A_hp : bAx G [(83076749736557242056487941267521536, 10), (83076749736557242056487941267521536, 11), (83076749736557242056487941267521536, 38), (83076749736557242056487941267521536, 40), (83076749736557242056487941267521536, 45), (83076749736557242056487941267521536, 46), (83076749736557242056487941267521536, 47), (83076749736557242056487941267521536, 135), (408162263241783541402858104586602178094999744488059883564826624, 256)] hp hp := bAx.rf hT
  have M_bRg_hp := M_bRg
  have M_bWf_hp := M_bWf
  have H : ∀ m : Nat, (∀ a3 : Int, ∀ a4 : Int, ∀ hq, bAx G [(83076749736557242056487941267521536, 10), (83076749736557242056487941267521536, 11), (83076749736557242056487941267521536, 38), (83076749736557242056487941267521536, 40), (83076749736557242056487941267521536, 45), (83076749736557242056487941267521536, 46), (83076749736557242056487941267521536, 47), (83076749736557242056487941267521536, 135), (408162263241783541402858104586602178094999744488059883564826624, 256)] hp hq → bRg G hq → bWf G hq → 0 ≤ a3 → (-253) ≤ 0 - a3 → 0 ≤ a4 → (-1) ≤ 0 - a4 → 0 ≤ p2 → (-23) ≤ 0 - p2 → 0 ≤ a3 - 11 * p2 → 0 ≤ 0 - a3 + 11 * p2 → 26 < (m : Int) → yG 89 xfts (xcall 89 xfts xpools xms (d + 10)) (xpool xp_RX13) [] xt_X13_isBarred (yP 4 (fun rv hp' => (fun rv hp' => (bQi G [(83076749736557242056487941267521536, 10), (83076749736557242056487941267521536, 11), (83076749736557242056487941267521536, 38), (83076749736557242056487941267521536, 40), (83076749736557242056487941267521536, 45), (83076749736557242056487941267521536, 46), (83076749736557242056487941267521536, 47), (83076749736557242056487941267521536, 135), (408162263241783541402858104586602178094999744488059883564826624, 256)] hp 0 1 (fun _ => True)) rv hp' ∧ bWf G hp') rv hp' ∧ bRg G hp')) (27 * m) 46 [(0, yR 2073), (1, yI (3)), (2, yI (p2)), (3, yI (a3)), (4, yI (a4))] [] hq) ∧ (∀ a3 : Int, ∀ a4 : Int, ∀ a5 : Int, ∀ hq, bAx G [(83076749736557242056487941267521536, 10), (83076749736557242056487941267521536, 11), (83076749736557242056487941267521536, 38), (83076749736557242056487941267521536, 40), (83076749736557242056487941267521536, 45), (83076749736557242056487941267521536, 46), (83076749736557242056487941267521536, 47), (83076749736557242056487941267521536, 135), (408162263241783541402858104586602178094999744488059883564826624, 256)] hp hq → bRg G hq → bWf G hq → 0 ≤ a3 → (-253) ≤ 0 - a3 → 0 ≤ a4 → (-1) ≤ 0 - a4 → 0 ≤ a5 → (-12) ≤ 0 - a5 → 0 ≤ p2 → (-23) ≤ 0 - p2 → 0 ≤ a3 - 11 * p2 → 0 ≤ 0 - a3 + 11 * p2 → 0 - 2 * a5 + 25 < (m : Int) → yG 89 xfts (xcall 89 xfts xpools xms (d + 10)) (xpool xp_RX13) [] xt_X13_isBarred (yP 4 (fun rv hp' => (fun rv hp' => (bQi G [(83076749736557242056487941267521536, 10), (83076749736557242056487941267521536, 11), (83076749736557242056487941267521536, 38), (83076749736557242056487941267521536, 40), (83076749736557242056487941267521536, 45), (83076749736557242056487941267521536, 46), (83076749736557242056487941267521536, 47), (83076749736557242056487941267521536, 135), (408162263241783541402858104586602178094999744488059883564826624, 256)] hp 0 1 (fun _ => True)) rv hp' ∧ bWf G hp') rv hp' ∧ bRg G hp')) (27 * m) 71 [(0, yR 2073), (1, yI (3)), (2, yI (p2)), (3, yI (a3)), (4, yI (a4)), (5, yI (a5))] [] hq) := by
    intro m
    induction m with
    | zero =>
      refine ⟨?_, ?_⟩ <;> (intros; exfalso; omega)
    | succ m ih =>
      obtain ⟨i_46, i_71⟩ := ih
      refine ⟨?_, ?_⟩
      · intro a3 a4 hq A_hq M_bRg_hq M_bWf_hq f0 f1 f2 f3 f4 f5 f6 f7 hm
        refine yG.mono (N := 27 * m + 27) ?_ (by omega)
        refine yG.load xak rfl (fun _ _ => rfl) (v := yR 2073) rfl rfl ?_
        refine yG.getO A_hq.1 (w_M_field W H_2073) rfl rfl (fun r1 H_r1 O_r1 q_r1 => ?_)
        obtain rfl := u_M_field W H_r1
        refine yG.load xik rfl (fun _ _ => rfl) (v := yI (a3)) rfl rfl ?_
        refine yG.load xik rfl (fun _ _ => rfl) (v := yI (3)) rfl rfl ?_
        refine yG.invS (rest := [yI (a3), yR 2089]) rfl rfl rfl rfl (c_GModel_valueOf W (d + 9) A_hq.1 (3) (by omega) (by omega)) (fun rv hp9 q9 => ?_)
        obtain ⟨⟨z2, rfl, l_z2, u_z2, R_z2⟩, e9⟩ := q9
        rw [e9]
        show yG _ _ _ _ _ _ _ _ _ _ (yI z2 :: [yI (a3), yR 2089]) _
        refine yG.iastF A_hq.1 (v_M_field W H_r1) (show yfT ((a3 : Int).toNat) = (0, (0, 1)) from ((yfT_ix (s := 0) (k := 0) (by omega) (by omega) (by omega) (by decide)).trans rfl)) (W.2.1 _ _ H_r1 (by decide) (by decide)) rfl (by omega) (by omega) ⟨by omega, by omega⟩ (by omega) (by omega) (fun h3 T_h3 b_h3 f_h3 y_h3 => ?_)
        have M_bRg_h3 := M_bRg_hq.fr (bAx.put (Wl := [(5444517870735015415413993718908291383296, 256)]) (bAx.rf A_hq.1) T_h3 b_h3 f_h3 H_r1 (bAll_ok (by decide) _)) (by decide)
        have M_bWf_h3 : bWf G h3 := M_bWf_hq.putx y_h3 (fun j hj h9 hb => by unfold mBp at hb; omega) (fun j hj h9 hb => by unfold mXp at hb; omega)
        have A_h3 := A_hq.put T_h3 b_h3 f_h3 H_r1 (bAll_ok (by decide) _)
        refine yG.load xak rfl (fun _ _ => rfl) (v := yR 2073) rfl rfl ?_
        refine yG.getI A_h3.1 (w_M_ruleCount W H_2073) rfl rfl (fun z4 e_z4 i_z4 l_z4 u_z4 => ?_)
        refine yG.ifz rfl (t := 68) rfl ⟨by omega, by omega⟩ (fun c5 => ?_) (fun c5 => ?_)
        · have c5 : (z4 : Int) ≤ 0 := c5
          refine yG.num (c := 0) rfl (fun _ _ => rfl) (by decide) ?_
          refine yG.store1 xik (L' := [(5, yI (0)), (0, yR 2073), (1, yI (3)), (2, yI (p2)), (3, yI (a3)), (4, yI (a4))]) rfl (fun _ _ => rfl) rfl rfl ?_
          exact yG.mono (yG.sub (i_71 (a3) (a4) (0)  h3 A_h3 M_bRg_h3 M_bWf_h3   (by omega) (by omega) (by omega) (by omega) (by omega) (by omega) (by omega) (by omega) (by omega) (by omega) (by omega)) (ySub.cons rfl (ySub.cons rfl (ySub.cons rfl (ySub.cons rfl (ySub.cons rfl (ySub.cons rfl (ySub.nil)))))))) (by omega)
        · have c5 : (z4 : Int) > 0 := c5
          refine yG.load xak rfl (fun _ _ => rfl) (v := yR 2073) rfl rfl ?_
          refine yG.num (c := 1) rfl (fun _ _ => rfl) (by decide) ?_
          refine yG.invV (rest := []) A_h3.1 (bOb (d_M W) H_2073) rfl rfl rfl rfl (c_GModel_see W (d + 6) A_h3.1 H_2073 (1) (by omega) (by omega)) (fun rv h6 q9 => ?_)
          obtain ⟨⟨rfl, R_z7⟩, B_h6⟩ := q9
          have A_h6 := A_h3.tr B_h6 (by decide)
          have M_bRg_h6 := M_bRg_h3.fr B_h6 (by decide)
          have M_bWf_h6 := M_bWf_h3.fr B_h6 (by decide)
          show yG _ _ _ _ _ _ _ _ _ _ [] _
          refine yG.num (c := 0) rfl (fun _ _ => rfl) (by decide) ?_
          refine yG.store1 xik (L' := [(5, yI (0)), (0, yR 2073), (1, yI (3)), (2, yI (p2)), (3, yI (a3)), (4, yI (a4))]) rfl (fun _ _ => rfl) rfl rfl ?_
          exact yG.mono (yG.sub (i_71 (a3) (a4) (0)  h6 A_h6 M_bRg_h6 M_bWf_h6   (by omega) (by omega) (by omega) (by omega) (by omega) (by omega) (by omega) (by omega) (by omega) (by omega) (by omega)) (ySub.cons rfl (ySub.cons rfl (ySub.cons rfl (ySub.cons rfl (ySub.cons rfl (ySub.cons rfl (ySub.nil)))))))) (by omega)
      · intro a3 a4 a5 hq A_hq M_bRg_hq M_bWf_hq f0 f1 f2 f3 f4 f5 f6 f7 f8 f9 hm
        refine yG.mono (N := 27 * m + 27) ?_ (by omega)
        refine yG.load xik rfl (fun _ _ => rfl) (v := yI (a5)) rfl rfl ?_
        refine yG.load xak rfl (fun _ _ => rfl) (v := yR 2073) rfl rfl ?_
        refine yG.getI A_hq.1 (w_M_ruleCount W H_2073) rfl rfl (fun z1 e_z1 i_z1 l_z1 u_z1 => ?_)
        refine yG.icmp rfl (t := 123) rfl ⟨by omega, by omega⟩ ⟨by omega, by omega⟩ (fun c2 => ?_) (fun c2 => ?_)
        · have c2 : (a5 : Int) ≥ z1 := c2
          refine yG.num (c := 0) rfl (fun _ _ => rfl) (by decide) ?_
          refine yG.ret rfl (fun _ _ => rfl) ?_
          exact (yP.bool (by omega) ⟨⟨⟨⟨0, rfl, by omega, by omega, trivial⟩, A_hq⟩, M_bWf_hq⟩, M_bRg_hq⟩)
        · have c2 : (a5 : Int) < z1 := c2
          refine yG.load xak rfl (fun _ _ => rfl) (v := yR 2073) rfl rfl ?_
          refine yG.getO A_hq.1 (w_M_ruleAct W H_2073) rfl rfl (fun r3 H_r3 O_r3 q_r3 => ?_)
          obtain rfl := u_M_ruleAct W H_r3
          refine yG.load xik rfl (fun _ _ => rfl) (v := yI (a5)) rfl rfl ?_
          refine yG.iald A_hq.1 (v_M_ruleAct W H_r3) rfl (by omega) (by omega) (fun z4 e_z4 i_z4 l_z4 u_z4 => ?_)
          refine yG.load xik rfl (fun _ _ => rfl) (v := yI (3)) rfl rfl ?_
          refine yG.icmp rfl (t := 117) rfl ⟨by omega, by omega⟩ ⟨by omega, by omega⟩ (fun c5 => ?_) (fun c5 => ?_)
          · have c5 : (z4 : Int) ≠ 3 := c5
            refine yG.iinc rfl (a := a5) rfl (L' := [(5, yI (a5 + 1)), (0, yR 2073), (1, yI (3)), (2, yI (p2)), (3, yI (a3)), (4, yI (a4))]) rfl ?_
            refine yG.goto rfl (t := 71) rfl ?_
            exact yG.mono (yG.sub (i_71 (a3) (a4) (a5 + 1)  hq A_hq M_bRg_hq M_bWf_hq   (by omega) (by omega) (by omega) (by omega) (by omega) (by omega) (by omega) (by omega) (by omega) (by omega) (by omega)) (ySub.cons rfl (ySub.cons rfl (ySub.cons rfl (ySub.cons rfl (ySub.cons rfl (ySub.cons rfl (ySub.nil)))))))) (by omega)
          · have c5 : (z4 : Int) = 3 := c5
            refine yG.load xak rfl (fun _ _ => rfl) (v := yR 2073) rfl rfl ?_
            refine yG.load xik rfl (fun _ _ => rfl) (v := yI (a5)) rfl rfl ?_
            refine yG.load xik rfl (fun _ _ => rfl) (v := yI (p2)) rfl rfl ?_
            refine yG.invV (rest := []) A_hq.1 (bOb (d_M W) H_2073) rfl rfl rfl rfl (c_GModel_holds W d A_hq.1 M_bRg_hq M_bWf_hq (M_bRc.fr A_hq (by decide)) (M_bPr.fr A_hq (by decide)) H_2073 (a5) (p2) (by omega) (by omega) (by omega) (by omega) (by omega) (by omega)) (fun rv h6 q9 => ?_)
            obtain ⟨q9, M_bRg_h6⟩ := q9
            obtain ⟨⟨z7, rfl, l_z7, u_z7, R_z7⟩, B_h6⟩ := q9
            have A_h6 := A_hq.tr B_h6 (by decide)
            have M_bWf_h6 := M_bWf_hq.fr B_h6 (by decide)
            show yG _ _ _ _ _ _ _ _ _ _ (yI z7 :: []) _
            refine yG.ifz rfl (t := 117) rfl ⟨by omega, by omega⟩ (fun c8 => ?_) (fun c8 => ?_)
            · have c8 : (z7 : Int) = 0 := c8
              refine yG.iinc rfl (a := a5) rfl (L' := [(5, yI (a5 + 1)), (0, yR 2073), (1, yI (3)), (2, yI (p2)), (3, yI (a3)), (4, yI (a4))]) rfl ?_
              refine yG.goto rfl (t := 71) rfl ?_
              exact yG.mono (yG.sub (i_71 (a3) (a4) (a5 + 1)  h6 A_h6 M_bRg_h6 M_bWf_h6   (by omega) (by omega) (by omega) (by omega) (by omega) (by omega) (by omega) (by omega) (by omega) (by omega) (by omega)) (ySub.cons rfl (ySub.cons rfl (ySub.cons rfl (ySub.cons rfl (ySub.cons rfl (ySub.cons rfl (ySub.nil)))))))) (by omega)
            · have c8 : (z7 : Int) ≠ 0 := c8
              refine yG.load xak rfl (fun _ _ => rfl) (v := yR 2073) rfl rfl ?_
              refine yG.load xik rfl (fun _ _ => rfl) (v := yI (a5)) rfl rfl ?_
              refine yG.putI A_h6.1 (w_M_barredBy W H_2073) (W.2.1 _ _ H_2073 (by decide) (by decide)) rfl rfl (.inl rfl) ⟨by omega, by omega⟩ (by omega) (by omega) (fun h9 T_h9 b_h9 f_h9 y_h9 => ?_)
              have M_bRg_h9 := M_bRg_h6.fr (bAx.put (Wl := [(83076749736557242056487941267521536, 135)]) (bAx.rf A_h6.1) T_h9 b_h9 f_h9 H_2073 (by decide)) (by decide)
              have M_bWf_h9 := M_bWf_h6.fr (bAx.put (Wl := [(83076749736557242056487941267521536, 135)]) (bAx.rf A_h6.1) T_h9 b_h9 f_h9 H_2073 (by decide)) (by decide)
              have A_h9 := A_h6.put T_h9 b_h9 f_h9 H_2073 (by decide)
              refine yG.load xak rfl (fun _ _ => rfl) (v := yR 2073) rfl rfl ?_
              refine yG.getO A_h9.1 (w_M_field W H_2073) rfl rfl (fun r10 H_r10 O_r10 q_r10 => ?_)
              obtain rfl := u_M_field W H_r10
              refine yG.load xik rfl (fun _ _ => rfl) (v := yI (a3)) rfl rfl ?_
              refine yG.load xik rfl (fun _ _ => rfl) (v := yI (a4)) rfl rfl ?_
              refine yG.iastF A_h9.1 (v_M_field W H_r10) (show yfT ((a3 : Int).toNat) = (0, (0, 1)) from ((yfT_ix (s := 0) (k := 0) (by omega) (by omega) (by omega) (by decide)).trans rfl)) (W.2.1 _ _ H_r10 (by decide) (by decide)) rfl (by omega) (by omega) ⟨by omega, by omega⟩ (by omega) (by omega) (fun h11 T_h11 b_h11 f_h11 y_h11 => ?_)
              have M_bRg_h11 := M_bRg_h9.fr (bAx.put (Wl := [(5444517870735015415413993718908291383296, 256)]) (bAx.rf A_h9.1) T_h11 b_h11 f_h11 H_r10 (bAll_ok (by decide) _)) (by decide)
              have M_bWf_h11 : bWf G h11 := M_bWf_h9.putx y_h11 (fun j hj h9 hb => by unfold mBp at hb; omega) (fun j hj h9 hb => by unfold mXp at hb; omega)
              have A_h11 := A_h9.put T_h11 b_h11 f_h11 H_r10 (bAll_ok (by decide) _)
              refine yG.num (c := 1) rfl (fun _ _ => rfl) (by decide) ?_
              refine yG.ret rfl (fun _ _ => rfl) ?_
              exact (yP.bool (by omega) ⟨⟨⟨⟨1, rfl, by omega, by omega, trivial⟩, A_h11⟩, M_bWf_h11⟩, M_bRg_h11⟩)
  refine yC.of (M := (xt_X13_isBarred, (6, (4, (14, []))))) rfl rfl (N := 783) (yfuel (by decide)) ?_
  show yG 89 xfts (xcall 89 xfts xpools xms (d + 10)) (xpool xp_RX13) [] xt_X13_isBarred (yP 4 (fun rv hp' => (fun rv hp' => (bQi G [(83076749736557242056487941267521536, 10), (83076749736557242056487941267521536, 11), (83076749736557242056487941267521536, 38), (83076749736557242056487941267521536, 40), (83076749736557242056487941267521536, 45), (83076749736557242056487941267521536, 46), (83076749736557242056487941267521536, 47), (83076749736557242056487941267521536, 135), (408162263241783541402858104586602178094999744488059883564826624, 256)] hp 0 1 (fun _ => True)) rv hp' ∧ bWf G hp') rv hp' ∧ bRg G hp')) 783 0 [(0, yR 2073), (1, yI (3)), (2, yI (p2))] [] hp
  obtain ⟨i_46, i_71⟩ := H 28
  refine yG.load xik rfl (fun _ _ => rfl) (v := yI (3)) rfl rfl ?_
  refine yG.load xik rfl (fun _ _ => rfl) (v := yI (p2)) rfl rfl ?_
  refine yG.invS (rest := []) rfl rfl rfl rfl (c_GModel_fieldOf_3 W (d + 8) A_hp.1 (p2) (by omega) (by omega)) (fun rv hp9 q9 => ?_)
  obtain ⟨⟨z1, rfl, l_z1, u_z1, R_z1⟩, e9⟩ := q9
  rw [e9]
  show yG _ _ _ _ _ _ _ _ _ _ (yI z1 :: []) _
  refine yG.store1 xik (L' := [(3, yI (z1)), (0, yR 2073), (1, yI (3)), (2, yI (p2))]) rfl (fun _ _ => rfl) rfl rfl ?_
  refine yG.load xak rfl (fun _ _ => rfl) (v := yR 2073) rfl rfl ?_
  refine yG.num (c := -1) rfl (fun _ _ => rfl) (by decide) ?_
  refine yG.putI A_hp.1 (w_M_barredBy W H_2073) (W.2.1 _ _ H_2073 (by decide) (by decide)) rfl rfl (.inl rfl) ⟨by omega, by omega⟩ (by omega) (by omega) (fun h2 T_h2 b_h2 f_h2 y_h2 => ?_)
  have M_bRg_h2 := M_bRg_hp.fr (bAx.put (Wl := [(83076749736557242056487941267521536, 135)]) (bAx.rf A_hp.1) T_h2 b_h2 f_h2 H_2073 (by decide)) (by decide)
  have M_bWf_h2 := M_bWf_hp.fr (bAx.put (Wl := [(83076749736557242056487941267521536, 135)]) (bAx.rf A_hp.1) T_h2 b_h2 f_h2 H_2073 (by decide)) (by decide)
  have A_h2 := A_hp.put T_h2 b_h2 f_h2 H_2073 (by decide)
  refine yG.load xak rfl (fun _ _ => rfl) (v := yR 2073) rfl rfl ?_
  refine yG.getO A_h2.1 (w_M_field W H_2073) rfl rfl (fun r3 H_r3 O_r3 q_r3 => ?_)
  obtain rfl := u_M_field W H_r3
  refine yG.load xik rfl (fun _ _ => rfl) (v := yI (z1)) rfl rfl ?_
  refine yG.ialdF A_h2.1 (v_M_field W H_r3) (lo := 0) (hi := 1) ((yfT_ix (s := 0) (k := 0) (by omega) (by omega) (by omega) (by decide)).trans rfl) rfl (by omega) (by omega) (fun z4 e_z4 i_z4 l_z4 u_z4 => ?_)
  refine yG.load xik rfl (fun _ _ => rfl) (v := yI (3)) rfl rfl ?_
  refine yG.invS (rest := [yI (z4)]) rfl rfl rfl rfl (c_GModel_valueOf W (d + 9) A_h2.1 (3) (by omega) (by omega)) (fun rv hp9 q9 => ?_)
  obtain ⟨⟨z5, rfl, l_z5, u_z5, R_z5⟩, e9⟩ := q9
  rw [e9]
  show yG _ _ _ _ _ _ _ _ _ _ (yI z5 :: [yI (z4)]) _
  refine yG.icmp rfl (t := 26) rfl ⟨by omega, by omega⟩ ⟨by omega, by omega⟩ (fun c6 => ?_) (fun c6 => ?_)
  · have c6 : (z4 : Int) ≠ z5 := c6
    refine yG.load xak rfl (fun _ _ => rfl) (v := yR 2073) rfl rfl ?_
    refine yG.getS9 A_h2.1 (w_M_field W H_2073) q_r3 rfl rfl ?_
    refine yG.load xik rfl (fun _ _ => rfl) (v := yI (z1)) rfl rfl ?_
    refine yG.ialdF A_h2.1 (v_M_field W H_r3) (lo := 0) (hi := 1) ((yfT_ix (s := 0) (k := 0) (by omega) (by omega) (by omega) (by decide)).trans rfl) rfl (by omega) (by omega) (fun z7 e_z7 i_z7 l_z7 u_z7 => ?_)
    refine yG.store1 xik (L' := [(4, yI (z7)), (3, yI (z1)), (0, yR 2073), (1, yI (3)), (2, yI (p2))]) rfl (fun _ _ => rfl) rfl rfl ?_
    refine yG.load xak rfl (fun _ _ => rfl) (v := yR 2073) rfl rfl ?_
    refine yG.getI A_h2.1 (w_M_ruleCount W H_2073) rfl rfl (fun z8 e_z8 i_z8 l_z8 u_z8 => ?_)
    refine yG.ifz rfl (t := 46) rfl ⟨by omega, by omega⟩ (fun c9 => ?_) (fun c9 => ?_)
    · have c9 : (z8 : Int) ≤ 0 := c9
      exact yG.mono (yG.sub (i_46 (z1) (z7)  h2 A_h2 M_bRg_h2 M_bWf_h2   (by omega) (by omega) (by omega) (by omega) (by omega) (by omega) (by omega) (by omega) (by omega)) (ySub.cons rfl (ySub.cons rfl (ySub.cons rfl (ySub.cons rfl (ySub.cons rfl (ySub.nil))))))) (by omega)
    · have c9 : (z8 : Int) > 0 := c9
      refine yG.load xak rfl (fun _ _ => rfl) (v := yR 2073) rfl rfl ?_
      refine yG.num (c := 0) rfl (fun _ _ => rfl) (by decide) ?_
      refine yG.invV (rest := []) A_h2.1 (bOb (d_M W) H_2073) rfl rfl rfl rfl (c_GModel_see W (d + 6) A_h2.1 H_2073 (0) (by omega) (by omega)) (fun rv h10 q9 => ?_)
      obtain ⟨⟨rfl, R_z11⟩, B_h10⟩ := q9
      have A_h10 := A_h2.tr B_h10 (by decide)
      have M_bRg_h10 := M_bRg_h2.fr B_h10 (by decide)
      have M_bWf_h10 := M_bWf_h2.fr B_h10 (by decide)
      have qq1 : zsl h10 2073 23 = yR 2089 := (B_h10.sl H_2073 (by decide)).trans q_r3
      have : ys h10 2089 (z1 : Int).toNat = ys h2 2089 (z1 : Int).toNat := B_h10.ys H_r3 (bNo_ok (by decide) _)
      show yG _ _ _ _ _ _ _ _ _ _ [] _
      exact yG.mono (yG.sub (i_46 (z1) (z7)  h10 A_h10 M_bRg_h10 M_bWf_h10   (by omega) (by omega) (by omega) (by omega) (by omega) (by omega) (by omega) (by omega) (by omega)) (ySub.cons rfl (ySub.cons rfl (ySub.cons rfl (ySub.cons rfl (ySub.cons rfl (ySub.nil))))))) (by omega)
  · have c6 : (z4 : Int) = z5 := c6
    refine yG.num (c := 1) rfl (fun _ _ => rfl) (by decide) ?_
    refine yG.ret rfl (fun _ _ => rfl) ?_
    exact (yP.bool (by omega) ⟨⟨⟨⟨1, rfl, by omega, by omega, trivial⟩, A_h2⟩, M_bWf_h2⟩, M_bRg_h2⟩)
theorem c_GModel_isOfBar_4 {hp : xH} (W : mW G) (d : Nat) (hT : zTy G hp) : yC (xcall 89 xfts xpools xms (d + 1)) 434 [yI (4)] hp (bQpi hp 0 0 (fun _ => True)) := by
  have A_hp : bAx G [] hp hp := bAx.rf hT
  refine yC.of (M := (xt_X13_isOfBar, (1, (4, (14, []))))) rfl rfl (N := 30) (yfuel (by decide)) ?_
  show yG 89 xfts (xcall 89 xfts xpools xms d) (xpool xp_RX13) [] xt_X13_isOfBar (yP 4 (bQpi hp 0 0 (fun _ => True))) 30 0 [(0, yI (4))] [] hp
  refine yG.load xik rfl (fun _ _ => rfl) (v := yI (4)) rfl rfl ?_
  refine yG.num (c := 2) rfl (fun _ _ => rfl) (by decide) ?_
  refine yG.icmp rfl (t := 10) rfl ⟨by omega, by omega⟩ ⟨by omega, by omega⟩ (fun c1 => ?_) (fun c1 => ?_)
  · have c1 : (4 : Int) = 2 := c1
    exfalso; omega
  · have c1 : (4 : Int) ≠ 2 := c1
    refine yG.load xik rfl (fun _ _ => rfl) (v := yI (4)) rfl rfl ?_
    refine yG.num (c := 3) rfl (fun _ _ => rfl) (by decide) ?_
    refine yG.icmp rfl (t := 14) rfl ⟨by omega, by omega⟩ ⟨by omega, by omega⟩ (fun c2 => ?_) (fun c2 => ?_)
    · have c2 : (4 : Int) ≠ 3 := c2
      refine yG.num (c := 0) rfl (fun _ _ => rfl) (by decide) ?_
      refine yG.ret rfl (fun _ _ => rfl) ?_
      exact (yP.bool (by omega) ⟨⟨0, rfl, by omega, by omega, trivial⟩, rfl⟩)
    · have c2 : (4 : Int) = 3 := c2
      exfalso; omega
theorem c_GModel_fieldOf_4 {hp : xH} (W : mW G) (d : Nat) (hT : zTy G hp) (p1 : Int) (h1l : 0 ≤ p1) (h1u : p1 ≤ 23) : yC (xcall 89 xfts xpools xms (d + 2)) 398 [yI (4), yI (p1)] hp (bQpi hp 266 519 (fun z => 0 ≤ 0 - p1 + z - 266 ∧ 0 ≤ p1 - z + 496 ∧ 0 ≤ 0 - 11 * p1 + z - 266 ∧ 0 ≤ 11 * p1 - z + 266)) := by
  have A_hp : bAx G [] hp hp := bAx.rf hT
  refine yC.of (M := (xt_X13_fieldOf, (2, (1, (14, []))))) rfl rfl (N := 45) (yfuel (by decide)) ?_
  show yG 89 xfts (xcall 89 xfts xpools xms (d + 1)) (xpool xp_RX13) [] xt_X13_fieldOf (yP 1 (bQpi hp 266 519 (fun z => 0 ≤ 0 - p1 + z - 266 ∧ 0 ≤ p1 - z + 496 ∧ 0 ≤ 0 - 11 * p1 + z - 266 ∧ 0 ≤ 11 * p1 - z + 266))) 45 0 [(0, yI (4)), (1, yI (p1))] [] hp
  refine yG.load xik rfl (fun _ _ => rfl) (v := yI (4)) rfl rfl ?_
  refine yG.invS (rest := []) rfl rfl rfl rfl (c_GModel_isOfBar_4 W d A_hp.1) (fun rv hp9 q9 => ?_)
  obtain ⟨⟨z1, rfl, l_z1, u_z1, R_z1⟩, e9⟩ := q9
  rw [e9]
  show yG _ _ _ _ _ _ _ _ _ _ (yI z1 :: []) _
  refine yG.ifz rfl (t := 16) rfl ⟨by omega, by omega⟩ (fun c2 => ?_) (fun c2 => ?_)
  · have c2 : (z1 : Int) = 0 := c2
    refine yG.num (c := 1) rfl (fun _ _ => rfl) (by decide) ?_
    refine yG.load xik rfl (fun _ _ => rfl) (v := yI (p1)) rfl rfl ?_
    refine yG.load xik rfl (fun _ _ => rfl) (v := yI (4)) rfl rfl ?_
    refine yG.ifz rfl (t := 27) rfl ⟨by omega, by omega⟩ (fun c3 => ?_) (fun c3 => ?_)
    · have c3 : (4 : Int) = 0 := c3
      exfalso; omega
    · have c3 : (4 : Int) ≠ 0 := c3
      refine yG.load xik rfl (fun _ _ => rfl) (v := yI (4)) rfl rfl ?_
      refine yG.num (c := 1) rfl (fun _ _ => rfl) (by decide) ?_
      refine yG.icmp rfl (t := 31) rfl ⟨by omega, by omega⟩ ⟨by omega, by omega⟩ (fun c4 => ?_) (fun c4 => ?_)
      · have c4 : (4 : Int) ≠ 1 := c4
        refine yG.num (c := 2) rfl (fun _ _ => rfl) (by decide) ?_
        refine yG.invS (rest := []) rfl rfl rfl rfl (c_GModel_f W d A_hp.1 (1) (p1) (2) (by omega) (by omega) (by omega) (by omega) (by omega) (by omega)) (fun rv hp9 q9 => ?_)
        obtain ⟨⟨z5, rfl, l_z5, u_z5, R_z5⟩, e9⟩ := q9
        rw [e9]
        show yG _ _ _ _ _ _ _ _ _ _ (yI z5 :: []) _
        refine yG.ret rfl (fun _ _ => rfl) ?_
        exact (yP.int ⟨by omega, by omega⟩ ⟨⟨z5, rfl, by omega, by omega, by omega⟩, rfl⟩)
      · have c4 : (4 : Int) = 1 := c4
        exfalso; omega
  · have c2 : (z1 : Int) ≠ 0 := c2
    exfalso; omega
theorem c_GModel_isBarred_4 {hp : xH} (W : mW G) (d : Nat) (hT : zTy G hp) (M_bRg : bRg G hp) (M_bWf : bWf G hp) (M_bRc : bRc G hp) (M_bPr : bPr G hp) (H_2073 : bRo G 116 2073) (p2 : Int) (h2l : 0 ≤ p2) (h2u : p2 ≤ 23) (g90 : 2 ≤ 4 → 4 ≤ 3 → p2 ≤ 15) : yC (xcall 89 xfts xpools xms (d + 11)) 423 [yR 2073, yI (4), yI (p2)] hp (fun rv hp' => (fun rv hp' => (bQi G [(83076749736557242056487941267521536, 10), (83076749736557242056487941267521536, 11), (83076749736557242056487941267521536, 38), (83076749736557242056487941267521536, 40), (83076749736557242056487941267521536, 45), (83076749736557242056487941267521536, 46), (83076749736557242056487941267521536, 47), (83076749736557242056487941267521536, 135), (408162263241783541402858104586602178094999744488059883564826624, 256)] hp 0 1 (fun _ => True)) rv hp' ∧ bWf G hp') rv hp' ∧ bRg G hp') := by
  have A_hp : bAx G [(83076749736557242056487941267521536, 10), (83076749736557242056487941267521536, 11), (83076749736557242056487941267521536, 38), (83076749736557242056487941267521536, 40), (83076749736557242056487941267521536, 45), (83076749736557242056487941267521536, 46), (83076749736557242056487941267521536, 47), (83076749736557242056487941267521536, 135), (408162263241783541402858104586602178094999744488059883564826624, 256)] hp hp := bAx.rf hT
  have M_bRg_hp := M_bRg
  have M_bWf_hp := M_bWf
  have H : ∀ m : Nat, (∀ a3 : Int, ∀ a4 : Int, ∀ hq, bAx G [(83076749736557242056487941267521536, 10), (83076749736557242056487941267521536, 11), (83076749736557242056487941267521536, 38), (83076749736557242056487941267521536, 40), (83076749736557242056487941267521536, 45), (83076749736557242056487941267521536, 46), (83076749736557242056487941267521536, 47), (83076749736557242056487941267521536, 135), (408162263241783541402858104586602178094999744488059883564826624, 256)] hp hq → bRg G hq → bWf G hq → 266 ≤ a3 → (-519) ≤ 0 - a3 → 0 ≤ a4 → (-1) ≤ 0 - a4 → 0 ≤ p2 → (-23) ≤ 0 - p2 → 266 ≤ a3 - 11 * p2 → (-266) ≤ 0 - a3 + 11 * p2 → 26 < (m : Int) → yG 89 xfts (xcall 89 xfts xpools xms (d + 10)) (xpool xp_RX13) [] xt_X13_isBarred (yP 4 (fun rv hp' => (fun rv hp' => (bQi G [(83076749736557242056487941267521536, 10), (83076749736557242056487941267521536, 11), (83076749736557242056487941267521536, 38), (83076749736557242056487941267521536, 40), (83076749736557242056487941267521536, 45), (83076749736557242056487941267521536, 46), (83076749736557242056487941267521536, 47), (83076749736557242056487941267521536, 135), (408162263241783541402858104586602178094999744488059883564826624, 256)] hp 0 1 (fun _ => True)) rv hp' ∧ bWf G hp') rv hp' ∧ bRg G hp')) (27 * m) 46 [(0, yR 2073), (1, yI (4)), (2, yI (p2)), (3, yI (a3)), (4, yI (a4))] [] hq) ∧ (∀ a3 : Int, ∀ a4 : Int, ∀ a5 : Int, ∀ hq, bAx G [(83076749736557242056487941267521536, 10), (83076749736557242056487941267521536, 11), (83076749736557242056487941267521536, 38), (83076749736557242056487941267521536, 40), (83076749736557242056487941267521536, 45), (83076749736557242056487941267521536, 46), (83076749736557242056487941267521536, 47), (83076749736557242056487941267521536, 135), (408162263241783541402858104586602178094999744488059883564826624, 256)] hp hq → bRg G hq → bWf G hq → 266 ≤ a3 → (-519) ≤ 0 - a3 → 0 ≤ a4 → (-1) ≤ 0 - a4 → 0 ≤ a5 → (-12) ≤ 0 - a5 → 0 ≤ p2 → (-23) ≤ 0 - p2 → 266 ≤ a3 - 11 * p2 → (-266) ≤ 0 - a3 + 11 * p2 → 0 - 2 * a5 + 25 < (m : Int) → yG 89 xfts (xcall 89 xfts xpools xms (d + 10)) (xpool xp_RX13) [] xt_X13_isBarred (yP 4 (fun rv hp' => (fun rv hp' => (bQi G [(83076749736557242056487941267521536, 10), (83076749736557242056487941267521536, 11), (83076749736557242056487941267521536, 38), (83076749736557242056487941267521536, 40), (83076749736557242056487941267521536, 45), (83076749736557242056487941267521536, 46), (83076749736557242056487941267521536, 47), (83076749736557242056487941267521536, 135), (408162263241783541402858104586602178094999744488059883564826624, 256)] hp 0 1 (fun _ => True)) rv hp' ∧ bWf G hp') rv hp' ∧ bRg G hp')) (27 * m) 71 [(0, yR 2073), (1, yI (4)), (2, yI (p2)), (3, yI (a3)), (4, yI (a4)), (5, yI (a5))] [] hq) := by
    intro m
    induction m with
    | zero =>
      refine ⟨?_, ?_⟩ <;> (intros; exfalso; omega)
    | succ m ih =>
      obtain ⟨i_46, i_71⟩ := ih
      refine ⟨?_, ?_⟩
      · intro a3 a4 hq A_hq M_bRg_hq M_bWf_hq f0 f1 f2 f3 f4 f5 f6 f7 hm
        refine yG.mono (N := 27 * m + 27) ?_ (by omega)
        refine yG.load xak rfl (fun _ _ => rfl) (v := yR 2073) rfl rfl ?_
        refine yG.getO A_hq.1 (w_M_field W H_2073) rfl rfl (fun r1 H_r1 O_r1 q_r1 => ?_)
        obtain rfl := u_M_field W H_r1
        refine yG.load xik rfl (fun _ _ => rfl) (v := yI (a3)) rfl rfl ?_
        refine yG.load xik rfl (fun _ _ => rfl) (v := yI (4)) rfl rfl ?_
        refine yG.invS (rest := [yI (a3), yR 2089]) rfl rfl rfl rfl (c_GModel_valueOf W (d + 9) A_hq.1 (4) (by omega) (by omega)) (fun rv hp9 q9 => ?_)
        obtain ⟨⟨z2, rfl, l_z2, u_z2, R_z2⟩, e9⟩ := q9
        rw [e9]
        show yG _ _ _ _ _ _ _ _ _ _ (yI z2 :: [yI (a3), yR 2089]) _
        refine yG.iastF A_hq.1 (v_M_field W H_r1) (show yfT ((a3 : Int).toNat) = (0, (0, 1)) from ((yfT_ix (s := 1) (k := 2) (by omega) (by omega) (by omega) (by decide)).trans rfl)) (W.2.1 _ _ H_r1 (by decide) (by decide)) rfl (by omega) (by omega) ⟨by omega, by omega⟩ (by omega) (by omega) (fun h3 T_h3 b_h3 f_h3 y_h3 => ?_)
        have M_bRg_h3 := M_bRg_hq.fr (bAx.put (Wl := [(5444517870735015415413993718908291383296, 256)]) (bAx.rf A_hq.1) T_h3 b_h3 f_h3 H_r1 (bAll_ok (by decide) _)) (by decide)
        have M_bWf_h3 : bWf G h3 := M_bWf_hq.putx y_h3 (fun j hj h9 hb => by unfold mBp at hb; omega) (fun j hj h9 hb => by unfold mXp at hb; omega)
        have A_h3 := A_hq.put T_h3 b_h3 f_h3 H_r1 (bAll_ok (by decide) _)
        refine yG.load xak rfl (fun _ _ => rfl) (v := yR 2073) rfl rfl ?_
        refine yG.getI A_h3.1 (w_M_ruleCount W H_2073) rfl rfl (fun z4 e_z4 i_z4 l_z4 u_z4 => ?_)
        refine yG.ifz rfl (t := 68) rfl ⟨by omega, by omega⟩ (fun c5 => ?_) (fun c5 => ?_)
        · have c5 : (z4 : Int) ≤ 0 := c5
          refine yG.num (c := 0) rfl (fun _ _ => rfl) (by decide) ?_
          refine yG.store1 xik (L' := [(5, yI (0)), (0, yR 2073), (1, yI (4)), (2, yI (p2)), (3, yI (a3)), (4, yI (a4))]) rfl (fun _ _ => rfl) rfl rfl ?_
          exact yG.mono (yG.sub (i_71 (a3) (a4) (0)  h3 A_h3 M_bRg_h3 M_bWf_h3   (by omega) (by omega) (by omega) (by omega) (by omega) (by omega) (by omega) (by omega) (by omega) (by omega) (by omega)) (ySub.cons rfl (ySub.cons rfl (ySub.cons rfl (ySub.cons rfl (ySub.cons rfl (ySub.cons rfl (ySub.nil)))))))) (by omega)
        · have c5 : (z4 : Int) > 0 := c5
          refine yG.load xak rfl (fun _ _ => rfl) (v := yR 2073) rfl rfl ?_
          refine yG.num (c := 1) rfl (fun _ _ => rfl) (by decide) ?_
          refine yG.invV (rest := []) A_h3.1 (bOb (d_M W) H_2073) rfl rfl rfl rfl (c_GModel_see W (d + 6) A_h3.1 H_2073 (1) (by omega) (by omega)) (fun rv h6 q9 => ?_)
          obtain ⟨⟨rfl, R_z7⟩, B_h6⟩ := q9
          have A_h6 := A_h3.tr B_h6 (by decide)
          have M_bRg_h6 := M_bRg_h3.fr B_h6 (by decide)
          have M_bWf_h6 := M_bWf_h3.fr B_h6 (by decide)
          show yG _ _ _ _ _ _ _ _ _ _ [] _
          refine yG.num (c := 0) rfl (fun _ _ => rfl) (by decide) ?_
          refine yG.store1 xik (L' := [(5, yI (0)), (0, yR 2073), (1, yI (4)), (2, yI (p2)), (3, yI (a3)), (4, yI (a4))]) rfl (fun _ _ => rfl) rfl rfl ?_
          exact yG.mono (yG.sub (i_71 (a3) (a4) (0)  h6 A_h6 M_bRg_h6 M_bWf_h6   (by omega) (by omega) (by omega) (by omega) (by omega) (by omega) (by omega) (by omega) (by omega) (by omega) (by omega)) (ySub.cons rfl (ySub.cons rfl (ySub.cons rfl (ySub.cons rfl (ySub.cons rfl (ySub.cons rfl (ySub.nil)))))))) (by omega)
      · intro a3 a4 a5 hq A_hq M_bRg_hq M_bWf_hq f0 f1 f2 f3 f4 f5 f6 f7 f8 f9 hm
        refine yG.mono (N := 27 * m + 27) ?_ (by omega)
        refine yG.load xik rfl (fun _ _ => rfl) (v := yI (a5)) rfl rfl ?_
        refine yG.load xak rfl (fun _ _ => rfl) (v := yR 2073) rfl rfl ?_
        refine yG.getI A_hq.1 (w_M_ruleCount W H_2073) rfl rfl (fun z1 e_z1 i_z1 l_z1 u_z1 => ?_)
        refine yG.icmp rfl (t := 123) rfl ⟨by omega, by omega⟩ ⟨by omega, by omega⟩ (fun c2 => ?_) (fun c2 => ?_)
        · have c2 : (a5 : Int) ≥ z1 := c2
          refine yG.num (c := 0) rfl (fun _ _ => rfl) (by decide) ?_
          refine yG.ret rfl (fun _ _ => rfl) ?_
          exact (yP.bool (by omega) ⟨⟨⟨⟨0, rfl, by omega, by omega, trivial⟩, A_hq⟩, M_bWf_hq⟩, M_bRg_hq⟩)
        · have c2 : (a5 : Int) < z1 := c2
          refine yG.load xak rfl (fun _ _ => rfl) (v := yR 2073) rfl rfl ?_
          refine yG.getO A_hq.1 (w_M_ruleAct W H_2073) rfl rfl (fun r3 H_r3 O_r3 q_r3 => ?_)
          obtain rfl := u_M_ruleAct W H_r3
          refine yG.load xik rfl (fun _ _ => rfl) (v := yI (a5)) rfl rfl ?_
          refine yG.iald A_hq.1 (v_M_ruleAct W H_r3) rfl (by omega) (by omega) (fun z4 e_z4 i_z4 l_z4 u_z4 => ?_)
          refine yG.load xik rfl (fun _ _ => rfl) (v := yI (4)) rfl rfl ?_
          refine yG.icmp rfl (t := 117) rfl ⟨by omega, by omega⟩ ⟨by omega, by omega⟩ (fun c5 => ?_) (fun c5 => ?_)
          · have c5 : (z4 : Int) ≠ 4 := c5
            refine yG.iinc rfl (a := a5) rfl (L' := [(5, yI (a5 + 1)), (0, yR 2073), (1, yI (4)), (2, yI (p2)), (3, yI (a3)), (4, yI (a4))]) rfl ?_
            refine yG.goto rfl (t := 71) rfl ?_
            exact yG.mono (yG.sub (i_71 (a3) (a4) (a5 + 1)  hq A_hq M_bRg_hq M_bWf_hq   (by omega) (by omega) (by omega) (by omega) (by omega) (by omega) (by omega) (by omega) (by omega) (by omega) (by omega)) (ySub.cons rfl (ySub.cons rfl (ySub.cons rfl (ySub.cons rfl (ySub.cons rfl (ySub.cons rfl (ySub.nil)))))))) (by omega)
          · have c5 : (z4 : Int) = 4 := c5
            refine yG.load xak rfl (fun _ _ => rfl) (v := yR 2073) rfl rfl ?_
            refine yG.load xik rfl (fun _ _ => rfl) (v := yI (a5)) rfl rfl ?_
            refine yG.load xik rfl (fun _ _ => rfl) (v := yI (p2)) rfl rfl ?_
            refine yG.invV (rest := []) A_hq.1 (bOb (d_M W) H_2073) rfl rfl rfl rfl (c_GModel_holds W d A_hq.1 M_bRg_hq M_bWf_hq (M_bRc.fr A_hq (by decide)) (M_bPr.fr A_hq (by decide)) H_2073 (a5) (p2) (by omega) (by omega) (by omega) (by omega) (by omega) (by omega)) (fun rv h6 q9 => ?_)
            obtain ⟨q9, M_bRg_h6⟩ := q9
            obtain ⟨⟨z7, rfl, l_z7, u_z7, R_z7⟩, B_h6⟩ := q9
            have A_h6 := A_hq.tr B_h6 (by decide)
            have M_bWf_h6 := M_bWf_hq.fr B_h6 (by decide)
            show yG _ _ _ _ _ _ _ _ _ _ (yI z7 :: []) _
            refine yG.ifz rfl (t := 117) rfl ⟨by omega, by omega⟩ (fun c8 => ?_) (fun c8 => ?_)
            · have c8 : (z7 : Int) = 0 := c8
              refine yG.iinc rfl (a := a5) rfl (L' := [(5, yI (a5 + 1)), (0, yR 2073), (1, yI (4)), (2, yI (p2)), (3, yI (a3)), (4, yI (a4))]) rfl ?_
              refine yG.goto rfl (t := 71) rfl ?_
              exact yG.mono (yG.sub (i_71 (a3) (a4) (a5 + 1)  h6 A_h6 M_bRg_h6 M_bWf_h6   (by omega) (by omega) (by omega) (by omega) (by omega) (by omega) (by omega) (by omega) (by omega) (by omega) (by omega)) (ySub.cons rfl (ySub.cons rfl (ySub.cons rfl (ySub.cons rfl (ySub.cons rfl (ySub.cons rfl (ySub.nil)))))))) (by omega)
            · have c8 : (z7 : Int) ≠ 0 := c8
              refine yG.load xak rfl (fun _ _ => rfl) (v := yR 2073) rfl rfl ?_
              refine yG.load xik rfl (fun _ _ => rfl) (v := yI (a5)) rfl rfl ?_
              refine yG.putI A_h6.1 (w_M_barredBy W H_2073) (W.2.1 _ _ H_2073 (by decide) (by decide)) rfl rfl (.inl rfl) ⟨by omega, by omega⟩ (by omega) (by omega) (fun h9 T_h9 b_h9 f_h9 y_h9 => ?_)
              have M_bRg_h9 := M_bRg_h6.fr (bAx.put (Wl := [(83076749736557242056487941267521536, 135)]) (bAx.rf A_h6.1) T_h9 b_h9 f_h9 H_2073 (by decide)) (by decide)
              have M_bWf_h9 := M_bWf_h6.fr (bAx.put (Wl := [(83076749736557242056487941267521536, 135)]) (bAx.rf A_h6.1) T_h9 b_h9 f_h9 H_2073 (by decide)) (by decide)
              have A_h9 := A_h6.put T_h9 b_h9 f_h9 H_2073 (by decide)
              refine yG.load xak rfl (fun _ _ => rfl) (v := yR 2073) rfl rfl ?_
              refine yG.getO A_h9.1 (w_M_field W H_2073) rfl rfl (fun r10 H_r10 O_r10 q_r10 => ?_)
              obtain rfl := u_M_field W H_r10
              refine yG.load xik rfl (fun _ _ => rfl) (v := yI (a3)) rfl rfl ?_
              refine yG.load xik rfl (fun _ _ => rfl) (v := yI (a4)) rfl rfl ?_
              refine yG.iastF A_h9.1 (v_M_field W H_r10) (show yfT ((a3 : Int).toNat) = (0, (0, 1)) from ((yfT_ix (s := 1) (k := 2) (by omega) (by omega) (by omega) (by decide)).trans rfl)) (W.2.1 _ _ H_r10 (by decide) (by decide)) rfl (by omega) (by omega) ⟨by omega, by omega⟩ (by omega) (by omega) (fun h11 T_h11 b_h11 f_h11 y_h11 => ?_)
              have M_bRg_h11 := M_bRg_h9.fr (bAx.put (Wl := [(5444517870735015415413993718908291383296, 256)]) (bAx.rf A_h9.1) T_h11 b_h11 f_h11 H_r10 (bAll_ok (by decide) _)) (by decide)
              have M_bWf_h11 : bWf G h11 := M_bWf_h9.putx y_h11 (fun j hj h9 hb => by unfold mBp at hb; omega) (fun j hj h9 hb => by unfold mXp at hb; omega)
              have A_h11 := A_h9.put T_h11 b_h11 f_h11 H_r10 (bAll_ok (by decide) _)
              refine yG.num (c := 1) rfl (fun _ _ => rfl) (by decide) ?_
              refine yG.ret rfl (fun _ _ => rfl) ?_
              exact (yP.bool (by omega) ⟨⟨⟨⟨1, rfl, by omega, by omega, trivial⟩, A_h11⟩, M_bWf_h11⟩, M_bRg_h11⟩)
  refine yC.of (M := (xt_X13_isBarred, (6, (4, (14, []))))) rfl rfl (N := 783) (yfuel (by decide)) ?_
  show yG 89 xfts (xcall 89 xfts xpools xms (d + 10)) (xpool xp_RX13) [] xt_X13_isBarred (yP 4 (fun rv hp' => (fun rv hp' => (bQi G [(83076749736557242056487941267521536, 10), (83076749736557242056487941267521536, 11), (83076749736557242056487941267521536, 38), (83076749736557242056487941267521536, 40), (83076749736557242056487941267521536, 45), (83076749736557242056487941267521536, 46), (83076749736557242056487941267521536, 47), (83076749736557242056487941267521536, 135), (408162263241783541402858104586602178094999744488059883564826624, 256)] hp 0 1 (fun _ => True)) rv hp' ∧ bWf G hp') rv hp' ∧ bRg G hp')) 783 0 [(0, yR 2073), (1, yI (4)), (2, yI (p2))] [] hp
  obtain ⟨i_46, i_71⟩ := H 28
  refine yG.load xik rfl (fun _ _ => rfl) (v := yI (4)) rfl rfl ?_
  refine yG.load xik rfl (fun _ _ => rfl) (v := yI (p2)) rfl rfl ?_
  refine yG.invS (rest := []) rfl rfl rfl rfl (c_GModel_fieldOf_4 W (d + 8) A_hp.1 (p2) (by omega) (by omega)) (fun rv hp9 q9 => ?_)
  obtain ⟨⟨z1, rfl, l_z1, u_z1, R_z1⟩, e9⟩ := q9
  rw [e9]
  show yG _ _ _ _ _ _ _ _ _ _ (yI z1 :: []) _
  refine yG.store1 xik (L' := [(3, yI (z1)), (0, yR 2073), (1, yI (4)), (2, yI (p2))]) rfl (fun _ _ => rfl) rfl rfl ?_
  refine yG.load xak rfl (fun _ _ => rfl) (v := yR 2073) rfl rfl ?_
  refine yG.num (c := -1) rfl (fun _ _ => rfl) (by decide) ?_
  refine yG.putI A_hp.1 (w_M_barredBy W H_2073) (W.2.1 _ _ H_2073 (by decide) (by decide)) rfl rfl (.inl rfl) ⟨by omega, by omega⟩ (by omega) (by omega) (fun h2 T_h2 b_h2 f_h2 y_h2 => ?_)
  have M_bRg_h2 := M_bRg_hp.fr (bAx.put (Wl := [(83076749736557242056487941267521536, 135)]) (bAx.rf A_hp.1) T_h2 b_h2 f_h2 H_2073 (by decide)) (by decide)
  have M_bWf_h2 := M_bWf_hp.fr (bAx.put (Wl := [(83076749736557242056487941267521536, 135)]) (bAx.rf A_hp.1) T_h2 b_h2 f_h2 H_2073 (by decide)) (by decide)
  have A_h2 := A_hp.put T_h2 b_h2 f_h2 H_2073 (by decide)
  refine yG.load xak rfl (fun _ _ => rfl) (v := yR 2073) rfl rfl ?_
  refine yG.getO A_h2.1 (w_M_field W H_2073) rfl rfl (fun r3 H_r3 O_r3 q_r3 => ?_)
  obtain rfl := u_M_field W H_r3
  refine yG.load xik rfl (fun _ _ => rfl) (v := yI (z1)) rfl rfl ?_
  refine yG.ialdF A_h2.1 (v_M_field W H_r3) (lo := 0) (hi := 1) ((yfT_ix (s := 1) (k := 2) (by omega) (by omega) (by omega) (by decide)).trans rfl) rfl (by omega) (by omega) (fun z4 e_z4 i_z4 l_z4 u_z4 => ?_)
  refine yG.load xik rfl (fun _ _ => rfl) (v := yI (4)) rfl rfl ?_
  refine yG.invS (rest := [yI (z4)]) rfl rfl rfl rfl (c_GModel_valueOf W (d + 9) A_h2.1 (4) (by omega) (by omega)) (fun rv hp9 q9 => ?_)
  obtain ⟨⟨z5, rfl, l_z5, u_z5, R_z5⟩, e9⟩ := q9
  rw [e9]
  show yG _ _ _ _ _ _ _ _ _ _ (yI z5 :: [yI (z4)]) _
  refine yG.icmp rfl (t := 26) rfl ⟨by omega, by omega⟩ ⟨by omega, by omega⟩ (fun c6 => ?_) (fun c6 => ?_)
  · have c6 : (z4 : Int) ≠ z5 := c6
    refine yG.load xak rfl (fun _ _ => rfl) (v := yR 2073) rfl rfl ?_
    refine yG.getS9 A_h2.1 (w_M_field W H_2073) q_r3 rfl rfl ?_
    refine yG.load xik rfl (fun _ _ => rfl) (v := yI (z1)) rfl rfl ?_
    refine yG.ialdF A_h2.1 (v_M_field W H_r3) (lo := 0) (hi := 1) ((yfT_ix (s := 1) (k := 2) (by omega) (by omega) (by omega) (by decide)).trans rfl) rfl (by omega) (by omega) (fun z7 e_z7 i_z7 l_z7 u_z7 => ?_)
    refine yG.store1 xik (L' := [(4, yI (z7)), (3, yI (z1)), (0, yR 2073), (1, yI (4)), (2, yI (p2))]) rfl (fun _ _ => rfl) rfl rfl ?_
    refine yG.load xak rfl (fun _ _ => rfl) (v := yR 2073) rfl rfl ?_
    refine yG.getI A_h2.1 (w_M_ruleCount W H_2073) rfl rfl (fun z8 e_z8 i_z8 l_z8 u_z8 => ?_)
    refine yG.ifz rfl (t := 46) rfl ⟨by omega, by omega⟩ (fun c9 => ?_) (fun c9 => ?_)
    · have c9 : (z8 : Int) ≤ 0 := c9
      exact yG.mono (yG.sub (i_46 (z1) (z7)  h2 A_h2 M_bRg_h2 M_bWf_h2   (by omega) (by omega) (by omega) (by omega) (by omega) (by omega) (by omega) (by omega) (by omega)) (ySub.cons rfl (ySub.cons rfl (ySub.cons rfl (ySub.cons rfl (ySub.cons rfl (ySub.nil))))))) (by omega)
    · have c9 : (z8 : Int) > 0 := c9
      refine yG.load xak rfl (fun _ _ => rfl) (v := yR 2073) rfl rfl ?_
      refine yG.num (c := 0) rfl (fun _ _ => rfl) (by decide) ?_
      refine yG.invV (rest := []) A_h2.1 (bOb (d_M W) H_2073) rfl rfl rfl rfl (c_GModel_see W (d + 6) A_h2.1 H_2073 (0) (by omega) (by omega)) (fun rv h10 q9 => ?_)
      obtain ⟨⟨rfl, R_z11⟩, B_h10⟩ := q9
      have A_h10 := A_h2.tr B_h10 (by decide)
      have M_bRg_h10 := M_bRg_h2.fr B_h10 (by decide)
      have M_bWf_h10 := M_bWf_h2.fr B_h10 (by decide)
      have qq1 : zsl h10 2073 23 = yR 2089 := (B_h10.sl H_2073 (by decide)).trans q_r3
      have : ys h10 2089 (z1 : Int).toNat = ys h2 2089 (z1 : Int).toNat := B_h10.ys H_r3 (bNo_ok (by decide) _)
      show yG _ _ _ _ _ _ _ _ _ _ [] _
      exact yG.mono (yG.sub (i_46 (z1) (z7)  h10 A_h10 M_bRg_h10 M_bWf_h10   (by omega) (by omega) (by omega) (by omega) (by omega) (by omega) (by omega) (by omega) (by omega)) (ySub.cons rfl (ySub.cons rfl (ySub.cons rfl (ySub.cons rfl (ySub.cons rfl (ySub.nil))))))) (by omega)
  · have c6 : (z4 : Int) = z5 := c6
    refine yG.num (c := 1) rfl (fun _ _ => rfl) (by decide) ?_
    refine yG.ret rfl (fun _ _ => rfl) ?_
    exact (yP.bool (by omega) ⟨⟨⟨⟨1, rfl, by omega, by omega, trivial⟩, A_h2⟩, M_bWf_h2⟩, M_bRg_h2⟩)
theorem c_GModel_isOfBar_5 {hp : xH} (W : mW G) (d : Nat) (hT : zTy G hp) : yC (xcall 89 xfts xpools xms (d + 1)) 434 [yI (5)] hp (bQpi hp 0 0 (fun _ => True)) := by
  have A_hp : bAx G [] hp hp := bAx.rf hT
  refine yC.of (M := (xt_X13_isOfBar, (1, (4, (14, []))))) rfl rfl (N := 30) (yfuel (by decide)) ?_
  show yG 89 xfts (xcall 89 xfts xpools xms d) (xpool xp_RX13) [] xt_X13_isOfBar (yP 4 (bQpi hp 0 0 (fun _ => True))) 30 0 [(0, yI (5))] [] hp
  refine yG.load xik rfl (fun _ _ => rfl) (v := yI (5)) rfl rfl ?_
  refine yG.num (c := 2) rfl (fun _ _ => rfl) (by decide) ?_
  refine yG.icmp rfl (t := 10) rfl ⟨by omega, by omega⟩ ⟨by omega, by omega⟩ (fun c1 => ?_) (fun c1 => ?_)
  · have c1 : (5 : Int) = 2 := c1
    exfalso; omega
  · have c1 : (5 : Int) ≠ 2 := c1
    refine yG.load xik rfl (fun _ _ => rfl) (v := yI (5)) rfl rfl ?_
    refine yG.num (c := 3) rfl (fun _ _ => rfl) (by decide) ?_
    refine yG.icmp rfl (t := 14) rfl ⟨by omega, by omega⟩ ⟨by omega, by omega⟩ (fun c2 => ?_) (fun c2 => ?_)
    · have c2 : (5 : Int) ≠ 3 := c2
      refine yG.num (c := 0) rfl (fun _ _ => rfl) (by decide) ?_
      refine yG.ret rfl (fun _ _ => rfl) ?_
      exact (yP.bool (by omega) ⟨⟨0, rfl, by omega, by omega, trivial⟩, rfl⟩)
    · have c2 : (5 : Int) = 3 := c2
      exfalso; omega
theorem c_GModel_fieldOf_5 {hp : xH} (W : mW G) (d : Nat) (hT : zTy G hp) (p1 : Int) (h1l : 0 ≤ p1) (h1u : p1 ≤ 23) : yC (xcall 89 xfts xpools xms (d + 2)) 398 [yI (5), yI (p1)] hp (bQpi hp 266 519 (fun z => 0 ≤ 0 - p1 + z - 266 ∧ 0 ≤ p1 - z + 496 ∧ 0 ≤ 0 - 11 * p1 + z - 266 ∧ 0 ≤ 11 * p1 - z + 266)) := by
  have A_hp : bAx G [] hp hp := bAx.rf hT
  refine yC.of (M := (xt_X13_fieldOf, (2, (1, (14, []))))) rfl rfl (N := 45) (yfuel (by decide)) ?_
  show yG 89 xfts (xcall 89 xfts xpools xms (d + 1)) (xpool xp_RX13) [] xt_X13_fieldOf (yP 1 (bQpi hp 266 519 (fun z => 0 ≤ 0 - p1 + z - 266 ∧ 0 ≤ p1 - z + 496 ∧ 0 ≤ 0 - 11 * p1 + z - 266 ∧ 0 ≤ 11 * p1 - z + 266))) 45 0 [(0, yI (5)), (1, yI (p1))] [] hp
  refine yG.load xik rfl (fun _ _ => rfl) (v := yI (5)) rfl rfl ?_
  refine yG.invS (rest := []) rfl rfl rfl rfl (c_GModel_isOfBar_5 W d A_hp.1) (fun rv hp9 q9 => ?_)
  obtain ⟨⟨z1, rfl, l_z1, u_z1, R_z1⟩, e9⟩ := q9
  rw [e9]
  show yG _ _ _ _ _ _ _ _ _ _ (yI z1 :: []) _
  refine yG.ifz rfl (t := 16) rfl ⟨by omega, by omega⟩ (fun c2 => ?_) (fun c2 => ?_)
  · have c2 : (z1 : Int) = 0 := c2
    refine yG.num (c := 1) rfl (fun _ _ => rfl) (by decide) ?_
    refine yG.load xik rfl (fun _ _ => rfl) (v := yI (p1)) rfl rfl ?_
    refine yG.load xik rfl (fun _ _ => rfl) (v := yI (5)) rfl rfl ?_
    refine yG.ifz rfl (t := 27) rfl ⟨by omega, by omega⟩ (fun c3 => ?_) (fun c3 => ?_)
    · have c3 : (5 : Int) = 0 := c3
      exfalso; omega
    · have c3 : (5 : Int) ≠ 0 := c3
      refine yG.load xik rfl (fun _ _ => rfl) (v := yI (5)) rfl rfl ?_
      refine yG.num (c := 1) rfl (fun _ _ => rfl) (by decide) ?_
      refine yG.icmp rfl (t := 31) rfl ⟨by omega, by omega⟩ ⟨by omega, by omega⟩ (fun c4 => ?_) (fun c4 => ?_)
      · have c4 : (5 : Int) ≠ 1 := c4
        refine yG.num (c := 2) rfl (fun _ _ => rfl) (by decide) ?_
        refine yG.invS (rest := []) rfl rfl rfl rfl (c_GModel_f W d A_hp.1 (1) (p1) (2) (by omega) (by omega) (by omega) (by omega) (by omega) (by omega)) (fun rv hp9 q9 => ?_)
        obtain ⟨⟨z5, rfl, l_z5, u_z5, R_z5⟩, e9⟩ := q9
        rw [e9]
        show yG _ _ _ _ _ _ _ _ _ _ (yI z5 :: []) _
        refine yG.ret rfl (fun _ _ => rfl) ?_
        exact (yP.int ⟨by omega, by omega⟩ ⟨⟨z5, rfl, by omega, by omega, by omega⟩, rfl⟩)
      · have c4 : (5 : Int) = 1 := c4
        exfalso; omega
  · have c2 : (z1 : Int) ≠ 0 := c2
    exfalso; omega
theorem c_GModel_isBarred_5 {hp : xH} (W : mW G) (d : Nat) (hT : zTy G hp) (M_bRg : bRg G hp) (M_bWf : bWf G hp) (M_bRc : bRc G hp) (M_bPr : bPr G hp) (H_2073 : bRo G 116 2073) (p2 : Int) (h2l : 0 ≤ p2) (h2u : p2 ≤ 23) (g90 : 2 ≤ 5 → 5 ≤ 3 → p2 ≤ 15) : yC (xcall 89 xfts xpools xms (d + 11)) 423 [yR 2073, yI (5), yI (p2)] hp (fun rv hp' => (fun rv hp' => (bQi G [(83076749736557242056487941267521536, 10), (83076749736557242056487941267521536, 11), (83076749736557242056487941267521536, 38), (83076749736557242056487941267521536, 40), (83076749736557242056487941267521536, 45), (83076749736557242056487941267521536, 46), (83076749736557242056487941267521536, 47), (83076749736557242056487941267521536, 135), (408162263241783541402858104586602178094999744488059883564826624, 256)] hp 0 1 (fun _ => True)) rv hp' ∧ bWf G hp') rv hp' ∧ bRg G hp') := by
  have A_hp : bAx G [(83076749736557242056487941267521536, 10), (83076749736557242056487941267521536, 11), (83076749736557242056487941267521536, 38), (83076749736557242056487941267521536, 40), (83076749736557242056487941267521536, 45), (83076749736557242056487941267521536, 46), (83076749736557242056487941267521536, 47), (83076749736557242056487941267521536, 135), (408162263241783541402858104586602178094999744488059883564826624, 256)] hp hp := bAx.rf hT
  have M_bRg_hp := M_bRg
  have M_bWf_hp := M_bWf
  have H : ∀ m : Nat, (∀ a3 : Int, ∀ a4 : Int, ∀ hq, bAx G [(83076749736557242056487941267521536, 10), (83076749736557242056487941267521536, 11), (83076749736557242056487941267521536, 38), (83076749736557242056487941267521536, 40), (83076749736557242056487941267521536, 45), (83076749736557242056487941267521536, 46), (83076749736557242056487941267521536, 47), (83076749736557242056487941267521536, 135), (408162263241783541402858104586602178094999744488059883564826624, 256)] hp hq → bRg G hq → bWf G hq → 266 ≤ a3 → (-519) ≤ 0 - a3 → 0 ≤ a4 → (-1) ≤ 0 - a4 → 0 ≤ p2 → (-23) ≤ 0 - p2 → 266 ≤ a3 - 11 * p2 → (-266) ≤ 0 - a3 + 11 * p2 → 26 < (m : Int) → yG 89 xfts (xcall 89 xfts xpools xms (d + 10)) (xpool xp_RX13) [] xt_X13_isBarred (yP 4 (fun rv hp' => (fun rv hp' => (bQi G [(83076749736557242056487941267521536, 10), (83076749736557242056487941267521536, 11), (83076749736557242056487941267521536, 38), (83076749736557242056487941267521536, 40), (83076749736557242056487941267521536, 45), (83076749736557242056487941267521536, 46), (83076749736557242056487941267521536, 47), (83076749736557242056487941267521536, 135), (408162263241783541402858104586602178094999744488059883564826624, 256)] hp 0 1 (fun _ => True)) rv hp' ∧ bWf G hp') rv hp' ∧ bRg G hp')) (27 * m) 46 [(0, yR 2073), (1, yI (5)), (2, yI (p2)), (3, yI (a3)), (4, yI (a4))] [] hq) ∧ (∀ a3 : Int, ∀ a4 : Int, ∀ a5 : Int, ∀ hq, bAx G [(83076749736557242056487941267521536, 10), (83076749736557242056487941267521536, 11), (83076749736557242056487941267521536, 38), (83076749736557242056487941267521536, 40), (83076749736557242056487941267521536, 45), (83076749736557242056487941267521536, 46), (83076749736557242056487941267521536, 47), (83076749736557242056487941267521536, 135), (408162263241783541402858104586602178094999744488059883564826624, 256)] hp hq → bRg G hq → bWf G hq → 266 ≤ a3 → (-519) ≤ 0 - a3 → 0 ≤ a4 → (-1) ≤ 0 - a4 → 0 ≤ a5 → (-12) ≤ 0 - a5 → 0 ≤ p2 → (-23) ≤ 0 - p2 → 266 ≤ a3 - 11 * p2 → (-266) ≤ 0 - a3 + 11 * p2 → 0 - 2 * a5 + 25 < (m : Int) → yG 89 xfts (xcall 89 xfts xpools xms (d + 10)) (xpool xp_RX13) [] xt_X13_isBarred (yP 4 (fun rv hp' => (fun rv hp' => (bQi G [(83076749736557242056487941267521536, 10), (83076749736557242056487941267521536, 11), (83076749736557242056487941267521536, 38), (83076749736557242056487941267521536, 40), (83076749736557242056487941267521536, 45), (83076749736557242056487941267521536, 46), (83076749736557242056487941267521536, 47), (83076749736557242056487941267521536, 135), (408162263241783541402858104586602178094999744488059883564826624, 256)] hp 0 1 (fun _ => True)) rv hp' ∧ bWf G hp') rv hp' ∧ bRg G hp')) (27 * m) 71 [(0, yR 2073), (1, yI (5)), (2, yI (p2)), (3, yI (a3)), (4, yI (a4)), (5, yI (a5))] [] hq) := by
    intro m
    induction m with
    | zero =>
      refine ⟨?_, ?_⟩ <;> (intros; exfalso; omega)
    | succ m ih =>
      obtain ⟨i_46, i_71⟩ := ih
      refine ⟨?_, ?_⟩
      · intro a3 a4 hq A_hq M_bRg_hq M_bWf_hq f0 f1 f2 f3 f4 f5 f6 f7 hm
        refine yG.mono (N := 27 * m + 27) ?_ (by omega)
        refine yG.load xak rfl (fun _ _ => rfl) (v := yR 2073) rfl rfl ?_
        refine yG.getO A_hq.1 (w_M_field W H_2073) rfl rfl (fun r1 H_r1 O_r1 q_r1 => ?_)
        obtain rfl := u_M_field W H_r1
        refine yG.load xik rfl (fun _ _ => rfl) (v := yI (a3)) rfl rfl ?_
        refine yG.load xik rfl (fun _ _ => rfl) (v := yI (5)) rfl rfl ?_
        refine yG.invS (rest := [yI (a3), yR 2089]) rfl rfl rfl rfl (c_GModel_valueOf W (d + 9) A_hq.1 (5) (by omega) (by omega)) (fun rv hp9 q9 => ?_)
        obtain ⟨⟨z2, rfl, l_z2, u_z2, R_z2⟩, e9⟩ := q9
        rw [e9]
        show yG _ _ _ _ _ _ _ _ _ _ (yI z2 :: [yI (a3), yR 2089]) _
        refine yG.iastF A_hq.1 (v_M_field W H_r1) (show yfT ((a3 : Int).toNat) = (0, (0, 1)) from ((yfT_ix (s := 1) (k := 2) (by omega) (by omega) (by omega) (by decide)).trans rfl)) (W.2.1 _ _ H_r1 (by decide) (by decide)) rfl (by omega) (by omega) ⟨by omega, by omega⟩ (by omega) (by omega) (fun h3 T_h3 b_h3 f_h3 y_h3 => ?_)
        have M_bRg_h3 := M_bRg_hq.fr (bAx.put (Wl := [(5444517870735015415413993718908291383296, 256)]) (bAx.rf A_hq.1) T_h3 b_h3 f_h3 H_r1 (bAll_ok (by decide) _)) (by decide)
        have M_bWf_h3 : bWf G h3 := M_bWf_hq.putx y_h3 (fun j hj h9 hb => by unfold mBp at hb; omega) (fun j hj h9 hb => by unfold mXp at hb; omega)
        have A_h3 := A_hq.put T_h3 b_h3 f_h3 H_r1 (bAll_ok (by decide) _)
        refine yG.load xak rfl (fun _ _ => rfl) (v := yR 2073) rfl rfl ?_
        refine yG.getI A_h3.1 (w_M_ruleCount W H_2073) rfl rfl (fun z4 e_z4 i_z4 l_z4 u_z4 => ?_)
        refine yG.ifz rfl (t := 68) rfl ⟨by omega, by omega⟩ (fun c5 => ?_) (fun c5 => ?_)
        · have c5 : (z4 : Int) ≤ 0 := c5
          refine yG.num (c := 0) rfl (fun _ _ => rfl) (by decide) ?_
          refine yG.store1 xik (L' := [(5, yI (0)), (0, yR 2073), (1, yI (5)), (2, yI (p2)), (3, yI (a3)), (4, yI (a4))]) rfl (fun _ _ => rfl) rfl rfl ?_
          exact yG.mono (yG.sub (i_71 (a3) (a4) (0)  h3 A_h3 M_bRg_h3 M_bWf_h3   (by omega) (by omega) (by omega) (by omega) (by omega) (by omega) (by omega) (by omega) (by omega) (by omega) (by omega)) (ySub.cons rfl (ySub.cons rfl (ySub.cons rfl (ySub.cons rfl (ySub.cons rfl (ySub.cons rfl (ySub.nil)))))))) (by omega)
        · have c5 : (z4 : Int) > 0 := c5
          refine yG.load xak rfl (fun _ _ => rfl) (v := yR 2073) rfl rfl ?_
          refine yG.num (c := 1) rfl (fun _ _ => rfl) (by decide) ?_
          refine yG.invV (rest := []) A_h3.1 (bOb (d_M W) H_2073) rfl rfl rfl rfl (c_GModel_see W (d + 6) A_h3.1 H_2073 (1) (by omega) (by omega)) (fun rv h6 q9 => ?_)
          obtain ⟨⟨rfl, R_z7⟩, B_h6⟩ := q9
          have A_h6 := A_h3.tr B_h6 (by decide)
          have M_bRg_h6 := M_bRg_h3.fr B_h6 (by decide)
          have M_bWf_h6 := M_bWf_h3.fr B_h6 (by decide)
          show yG _ _ _ _ _ _ _ _ _ _ [] _
          refine yG.num (c := 0) rfl (fun _ _ => rfl) (by decide) ?_
          refine yG.store1 xik (L' := [(5, yI (0)), (0, yR 2073), (1, yI (5)), (2, yI (p2)), (3, yI (a3)), (4, yI (a4))]) rfl (fun _ _ => rfl) rfl rfl ?_
          exact yG.mono (yG.sub (i_71 (a3) (a4) (0)  h6 A_h6 M_bRg_h6 M_bWf_h6   (by omega) (by omega) (by omega) (by omega) (by omega) (by omega) (by omega) (by omega) (by omega) (by omega) (by omega)) (ySub.cons rfl (ySub.cons rfl (ySub.cons rfl (ySub.cons rfl (ySub.cons rfl (ySub.cons rfl (ySub.nil)))))))) (by omega)
      · intro a3 a4 a5 hq A_hq M_bRg_hq M_bWf_hq f0 f1 f2 f3 f4 f5 f6 f7 f8 f9 hm
        refine yG.mono (N := 27 * m + 27) ?_ (by omega)
        refine yG.load xik rfl (fun _ _ => rfl) (v := yI (a5)) rfl rfl ?_
        refine yG.load xak rfl (fun _ _ => rfl) (v := yR 2073) rfl rfl ?_
        refine yG.getI A_hq.1 (w_M_ruleCount W H_2073) rfl rfl (fun z1 e_z1 i_z1 l_z1 u_z1 => ?_)
        refine yG.icmp rfl (t := 123) rfl ⟨by omega, by omega⟩ ⟨by omega, by omega⟩ (fun c2 => ?_) (fun c2 => ?_)
        · have c2 : (a5 : Int) ≥ z1 := c2
          refine yG.num (c := 0) rfl (fun _ _ => rfl) (by decide) ?_
          refine yG.ret rfl (fun _ _ => rfl) ?_
          exact (yP.bool (by omega) ⟨⟨⟨⟨0, rfl, by omega, by omega, trivial⟩, A_hq⟩, M_bWf_hq⟩, M_bRg_hq⟩)
        · have c2 : (a5 : Int) < z1 := c2
          refine yG.load xak rfl (fun _ _ => rfl) (v := yR 2073) rfl rfl ?_
          refine yG.getO A_hq.1 (w_M_ruleAct W H_2073) rfl rfl (fun r3 H_r3 O_r3 q_r3 => ?_)
          obtain rfl := u_M_ruleAct W H_r3
          refine yG.load xik rfl (fun _ _ => rfl) (v := yI (a5)) rfl rfl ?_
          refine yG.iald A_hq.1 (v_M_ruleAct W H_r3) rfl (by omega) (by omega) (fun z4 e_z4 i_z4 l_z4 u_z4 => ?_)
          refine yG.load xik rfl (fun _ _ => rfl) (v := yI (5)) rfl rfl ?_
          refine yG.icmp rfl (t := 117) rfl ⟨by omega, by omega⟩ ⟨by omega, by omega⟩ (fun c5 => ?_) (fun c5 => ?_)
          · have c5 : (z4 : Int) ≠ 5 := c5
            refine yG.iinc rfl (a := a5) rfl (L' := [(5, yI (a5 + 1)), (0, yR 2073), (1, yI (5)), (2, yI (p2)), (3, yI (a3)), (4, yI (a4))]) rfl ?_
            refine yG.goto rfl (t := 71) rfl ?_
            exact yG.mono (yG.sub (i_71 (a3) (a4) (a5 + 1)  hq A_hq M_bRg_hq M_bWf_hq   (by omega) (by omega) (by omega) (by omega) (by omega) (by omega) (by omega) (by omega) (by omega) (by omega) (by omega)) (ySub.cons rfl (ySub.cons rfl (ySub.cons rfl (ySub.cons rfl (ySub.cons rfl (ySub.cons rfl (ySub.nil)))))))) (by omega)
          · have c5 : (z4 : Int) = 5 := c5
            refine yG.load xak rfl (fun _ _ => rfl) (v := yR 2073) rfl rfl ?_
            refine yG.load xik rfl (fun _ _ => rfl) (v := yI (a5)) rfl rfl ?_
            refine yG.load xik rfl (fun _ _ => rfl) (v := yI (p2)) rfl rfl ?_
            refine yG.invV (rest := []) A_hq.1 (bOb (d_M W) H_2073) rfl rfl rfl rfl (c_GModel_holds W d A_hq.1 M_bRg_hq M_bWf_hq (M_bRc.fr A_hq (by decide)) (M_bPr.fr A_hq (by decide)) H_2073 (a5) (p2) (by omega) (by omega) (by omega) (by omega) (by omega) (by omega)) (fun rv h6 q9 => ?_)
            obtain ⟨q9, M_bRg_h6⟩ := q9
            obtain ⟨⟨z7, rfl, l_z7, u_z7, R_z7⟩, B_h6⟩ := q9
            have A_h6 := A_hq.tr B_h6 (by decide)
            have M_bWf_h6 := M_bWf_hq.fr B_h6 (by decide)
            show yG _ _ _ _ _ _ _ _ _ _ (yI z7 :: []) _
            refine yG.ifz rfl (t := 117) rfl ⟨by omega, by omega⟩ (fun c8 => ?_) (fun c8 => ?_)
            · have c8 : (z7 : Int) = 0 := c8
              refine yG.iinc rfl (a := a5) rfl (L' := [(5, yI (a5 + 1)), (0, yR 2073), (1, yI (5)), (2, yI (p2)), (3, yI (a3)), (4, yI (a4))]) rfl ?_
              refine yG.goto rfl (t := 71) rfl ?_
              exact yG.mono (yG.sub (i_71 (a3) (a4) (a5 + 1)  h6 A_h6 M_bRg_h6 M_bWf_h6   (by omega) (by omega) (by omega) (by omega) (by omega) (by omega) (by omega) (by omega) (by omega) (by omega) (by omega)) (ySub.cons rfl (ySub.cons rfl (ySub.cons rfl (ySub.cons rfl (ySub.cons rfl (ySub.cons rfl (ySub.nil)))))))) (by omega)
            · have c8 : (z7 : Int) ≠ 0 := c8
              refine yG.load xak rfl (fun _ _ => rfl) (v := yR 2073) rfl rfl ?_
              refine yG.load xik rfl (fun _ _ => rfl) (v := yI (a5)) rfl rfl ?_
              refine yG.putI A_h6.1 (w_M_barredBy W H_2073) (W.2.1 _ _ H_2073 (by decide) (by decide)) rfl rfl (.inl rfl) ⟨by omega, by omega⟩ (by omega) (by omega) (fun h9 T_h9 b_h9 f_h9 y_h9 => ?_)
              have M_bRg_h9 := M_bRg_h6.fr (bAx.put (Wl := [(83076749736557242056487941267521536, 135)]) (bAx.rf A_h6.1) T_h9 b_h9 f_h9 H_2073 (by decide)) (by decide)
              have M_bWf_h9 := M_bWf_h6.fr (bAx.put (Wl := [(83076749736557242056487941267521536, 135)]) (bAx.rf A_h6.1) T_h9 b_h9 f_h9 H_2073 (by decide)) (by decide)
              have A_h9 := A_h6.put T_h9 b_h9 f_h9 H_2073 (by decide)
              refine yG.load xak rfl (fun _ _ => rfl) (v := yR 2073) rfl rfl ?_
              refine yG.getO A_h9.1 (w_M_field W H_2073) rfl rfl (fun r10 H_r10 O_r10 q_r10 => ?_)
              obtain rfl := u_M_field W H_r10
              refine yG.load xik rfl (fun _ _ => rfl) (v := yI (a3)) rfl rfl ?_
              refine yG.load xik rfl (fun _ _ => rfl) (v := yI (a4)) rfl rfl ?_
              refine yG.iastF A_h9.1 (v_M_field W H_r10) (show yfT ((a3 : Int).toNat) = (0, (0, 1)) from ((yfT_ix (s := 1) (k := 2) (by omega) (by omega) (by omega) (by decide)).trans rfl)) (W.2.1 _ _ H_r10 (by decide) (by decide)) rfl (by omega) (by omega) ⟨by omega, by omega⟩ (by omega) (by omega) (fun h11 T_h11 b_h11 f_h11 y_h11 => ?_)
              have M_bRg_h11 := M_bRg_h9.fr (bAx.put (Wl := [(5444517870735015415413993718908291383296, 256)]) (bAx.rf A_h9.1) T_h11 b_h11 f_h11 H_r10 (bAll_ok (by decide) _)) (by decide)
              have M_bWf_h11 : bWf G h11 := M_bWf_h9.putx y_h11 (fun j hj h9 hb => by unfold mBp at hb; omega) (fun j hj h9 hb => by unfold mXp at hb; omega)
              have A_h11 := A_h9.put T_h11 b_h11 f_h11 H_r10 (bAll_ok (by decide) _)
              refine yG.num (c := 1) rfl (fun _ _ => rfl) (by decide) ?_
              refine yG.ret rfl (fun _ _ => rfl) ?_
              exact (yP.bool (by omega) ⟨⟨⟨⟨1, rfl, by omega, by omega, trivial⟩, A_h11⟩, M_bWf_h11⟩, M_bRg_h11⟩)
  refine yC.of (M := (xt_X13_isBarred, (6, (4, (14, []))))) rfl rfl (N := 783) (yfuel (by decide)) ?_
  show yG 89 xfts (xcall 89 xfts xpools xms (d + 10)) (xpool xp_RX13) [] xt_X13_isBarred (yP 4 (fun rv hp' => (fun rv hp' => (bQi G [(83076749736557242056487941267521536, 10), (83076749736557242056487941267521536, 11), (83076749736557242056487941267521536, 38), (83076749736557242056487941267521536, 40), (83076749736557242056487941267521536, 45), (83076749736557242056487941267521536, 46), (83076749736557242056487941267521536, 47), (83076749736557242056487941267521536, 135), (408162263241783541402858104586602178094999744488059883564826624, 256)] hp 0 1 (fun _ => True)) rv hp' ∧ bWf G hp') rv hp' ∧ bRg G hp')) 783 0 [(0, yR 2073), (1, yI (5)), (2, yI (p2))] [] hp
  obtain ⟨i_46, i_71⟩ := H 28
  refine yG.load xik rfl (fun _ _ => rfl) (v := yI (5)) rfl rfl ?_
  refine yG.load xik rfl (fun _ _ => rfl) (v := yI (p2)) rfl rfl ?_
  refine yG.invS (rest := []) rfl rfl rfl rfl (c_GModel_fieldOf_5 W (d + 8) A_hp.1 (p2) (by omega) (by omega)) (fun rv hp9 q9 => ?_)
  obtain ⟨⟨z1, rfl, l_z1, u_z1, R_z1⟩, e9⟩ := q9
  rw [e9]
  show yG _ _ _ _ _ _ _ _ _ _ (yI z1 :: []) _
  refine yG.store1 xik (L' := [(3, yI (z1)), (0, yR 2073), (1, yI (5)), (2, yI (p2))]) rfl (fun _ _ => rfl) rfl rfl ?_
  refine yG.load xak rfl (fun _ _ => rfl) (v := yR 2073) rfl rfl ?_
  refine yG.num (c := -1) rfl (fun _ _ => rfl) (by decide) ?_
  refine yG.putI A_hp.1 (w_M_barredBy W H_2073) (W.2.1 _ _ H_2073 (by decide) (by decide)) rfl rfl (.inl rfl) ⟨by omega, by omega⟩ (by omega) (by omega) (fun h2 T_h2 b_h2 f_h2 y_h2 => ?_)
  have M_bRg_h2 := M_bRg_hp.fr (bAx.put (Wl := [(83076749736557242056487941267521536, 135)]) (bAx.rf A_hp.1) T_h2 b_h2 f_h2 H_2073 (by decide)) (by decide)
  have M_bWf_h2 := M_bWf_hp.fr (bAx.put (Wl := [(83076749736557242056487941267521536, 135)]) (bAx.rf A_hp.1) T_h2 b_h2 f_h2 H_2073 (by decide)) (by decide)
  have A_h2 := A_hp.put T_h2 b_h2 f_h2 H_2073 (by decide)
  refine yG.load xak rfl (fun _ _ => rfl) (v := yR 2073) rfl rfl ?_
  refine yG.getO A_h2.1 (w_M_field W H_2073) rfl rfl (fun r3 H_r3 O_r3 q_r3 => ?_)
  obtain rfl := u_M_field W H_r3
  refine yG.load xik rfl (fun _ _ => rfl) (v := yI (z1)) rfl rfl ?_
  refine yG.ialdF A_h2.1 (v_M_field W H_r3) (lo := 0) (hi := 1) ((yfT_ix (s := 1) (k := 2) (by omega) (by omega) (by omega) (by decide)).trans rfl) rfl (by omega) (by omega) (fun z4 e_z4 i_z4 l_z4 u_z4 => ?_)
  refine yG.load xik rfl (fun _ _ => rfl) (v := yI (5)) rfl rfl ?_
  refine yG.invS (rest := [yI (z4)]) rfl rfl rfl rfl (c_GModel_valueOf W (d + 9) A_h2.1 (5) (by omega) (by omega)) (fun rv hp9 q9 => ?_)
  obtain ⟨⟨z5, rfl, l_z5, u_z5, R_z5⟩, e9⟩ := q9
  rw [e9]
  show yG _ _ _ _ _ _ _ _ _ _ (yI z5 :: [yI (z4)]) _
  refine yG.icmp rfl (t := 26) rfl ⟨by omega, by omega⟩ ⟨by omega, by omega⟩ (fun c6 => ?_) (fun c6 => ?_)
  · have c6 : (z4 : Int) ≠ z5 := c6
    refine yG.load xak rfl (fun _ _ => rfl) (v := yR 2073) rfl rfl ?_
    refine yG.getS9 A_h2.1 (w_M_field W H_2073) q_r3 rfl rfl ?_
    refine yG.load xik rfl (fun _ _ => rfl) (v := yI (z1)) rfl rfl ?_
    refine yG.ialdF A_h2.1 (v_M_field W H_r3) (lo := 0) (hi := 1) ((yfT_ix (s := 1) (k := 2) (by omega) (by omega) (by omega) (by decide)).trans rfl) rfl (by omega) (by omega) (fun z7 e_z7 i_z7 l_z7 u_z7 => ?_)
    refine yG.store1 xik (L' := [(4, yI (z7)), (3, yI (z1)), (0, yR 2073), (1, yI (5)), (2, yI (p2))]) rfl (fun _ _ => rfl) rfl rfl ?_
    refine yG.load xak rfl (fun _ _ => rfl) (v := yR 2073) rfl rfl ?_
    refine yG.getI A_h2.1 (w_M_ruleCount W H_2073) rfl rfl (fun z8 e_z8 i_z8 l_z8 u_z8 => ?_)
    refine yG.ifz rfl (t := 46) rfl ⟨by omega, by omega⟩ (fun c9 => ?_) (fun c9 => ?_)
    · have c9 : (z8 : Int) ≤ 0 := c9
      exact yG.mono (yG.sub (i_46 (z1) (z7)  h2 A_h2 M_bRg_h2 M_bWf_h2   (by omega) (by omega) (by omega) (by omega) (by omega) (by omega) (by omega) (by omega) (by omega)) (ySub.cons rfl (ySub.cons rfl (ySub.cons rfl (ySub.cons rfl (ySub.cons rfl (ySub.nil))))))) (by omega)
    · have c9 : (z8 : Int) > 0 := c9
      refine yG.load xak rfl (fun _ _ => rfl) (v := yR 2073) rfl rfl ?_
      refine yG.num (c := 0) rfl (fun _ _ => rfl) (by decide) ?_
      refine yG.invV (rest := []) A_h2.1 (bOb (d_M W) H_2073) rfl rfl rfl rfl (c_GModel_see W (d + 6) A_h2.1 H_2073 (0) (by omega) (by omega)) (fun rv h10 q9 => ?_)
      obtain ⟨⟨rfl, R_z11⟩, B_h10⟩ := q9
      have A_h10 := A_h2.tr B_h10 (by decide)
      have M_bRg_h10 := M_bRg_h2.fr B_h10 (by decide)
      have M_bWf_h10 := M_bWf_h2.fr B_h10 (by decide)
      have qq1 : zsl h10 2073 23 = yR 2089 := (B_h10.sl H_2073 (by decide)).trans q_r3
      have : ys h10 2089 (z1 : Int).toNat = ys h2 2089 (z1 : Int).toNat := B_h10.ys H_r3 (bNo_ok (by decide) _)
      show yG _ _ _ _ _ _ _ _ _ _ [] _
      exact yG.mono (yG.sub (i_46 (z1) (z7)  h10 A_h10 M_bRg_h10 M_bWf_h10   (by omega) (by omega) (by omega) (by omega) (by omega) (by omega) (by omega) (by omega) (by omega)) (ySub.cons rfl (ySub.cons rfl (ySub.cons rfl (ySub.cons rfl (ySub.cons rfl (ySub.nil))))))) (by omega)
  · have c6 : (z4 : Int) = z5 := c6
    refine yG.num (c := 1) rfl (fun _ _ => rfl) (by decide) ?_
    refine yG.ret rfl (fun _ _ => rfl) ?_
    exact (yP.bool (by omega) ⟨⟨⟨⟨1, rfl, by omega, by omega, trivial⟩, A_h2⟩, M_bWf_h2⟩, M_bRg_h2⟩)
theorem c_GModel_isBarred {hp : xH} (W : mW G) (d : Nat) (hT : zTy G hp) (M_bRg : bRg G hp) (M_bWf : bWf G hp) (M_bRc : bRc G hp) (M_bPr : bPr G hp) (H_2073 : bRo G 116 2073) (p1 p2 : Int) (h1l : 0 ≤ p1) (h1u : p1 ≤ 5) (h2l : 0 ≤ p2) (h2u : p2 ≤ 23) (g90 : 2 ≤ p1 → p1 ≤ 3 → p2 ≤ 15) : yC (xcall 89 xfts xpools xms (d + 11)) 423 [yR 2073, yI (p1), yI (p2)] hp (fun rv hp' => (fun rv hp' => (bQi G [(83076749736557242056487941267521536, 10), (83076749736557242056487941267521536, 11), (83076749736557242056487941267521536, 38), (83076749736557242056487941267521536, 40), (83076749736557242056487941267521536, 45), (83076749736557242056487941267521536, 46), (83076749736557242056487941267521536, 47), (83076749736557242056487941267521536, 135), (408162263241783541402858104586602178094999744488059883564826624, 256)] hp 0 1 (fun _ => True)) rv hp' ∧ bWf G hp') rv hp' ∧ bRg G hp') := by
  rcases (show p1 = 0 ∨ p1 = 1 ∨ p1 = 2 ∨ p1 = 3 ∨ p1 = 4 ∨ p1 = 5 by omega) with rfl | rfl | rfl | rfl | rfl | rfl
  · exact c_GModel_isBarred_0 W d hT M_bRg M_bWf M_bRc M_bPr H_2073 p2 h2l h2u (by omega)
  · exact c_GModel_isBarred_1 W d hT M_bRg M_bWf M_bRc M_bPr H_2073 p2 h2l h2u (by omega)
  · exact c_GModel_isBarred_2 W d hT M_bRg M_bWf M_bRc M_bPr H_2073 p2 h2l h2u (by omega)
  · exact c_GModel_isBarred_3 W d hT M_bRg M_bWf M_bRc M_bPr H_2073 p2 h2l h2u (by omega)
  · exact c_GModel_isBarred_4 W d hT M_bRg M_bWf M_bRc M_bPr H_2073 p2 h2l h2u (by omega)
  · exact c_GModel_isBarred_5 W d hT M_bRg M_bWf M_bRc M_bPr H_2073 p2 h2l h2u (by omega)
theorem c_GModel_remember_w {hp : xH} (W : mW G) (d : Nat) (hT : zTy G hp) (M_bWf : bWf G hp) (H_2073 : bRo G 116 2073) : yC (xcall 89 xfts xpools xms (d + 1)) 492 [yR 2073] hp (fun rv hp' => (fun rv hp' => (rv = none ∧ True) ∧ bAx G [(411376139330301510538742295639337626245683966408394965837152256, 256)] hp hp') rv hp' ∧ bWb G hp') := by
  have A_hp : bAx G [(411376139330301510538742295639337626245683966408394965837152256, 256)] hp hp := bAx.rf hT
  have H : ∀ m : Nat, (∀ a1 : Int, ∀ hq, bAx G [(411376139330301510538742295639337626245683966408394965837152256, 256)] hp hq → 0 ≤ a1 → (-1320) ≤ 0 - a1 → (∀ j : Nat, (j : Int) < a1 → ys hq 2165 j = ys hp 2089 j) → 0 - 2 * a1 + 2641 < (m : Int) → yG 89 xfts (xcall 89 xfts xpools xms d) (xpool xp_RX13) [] xt_X13_remember (yP 0 (fun rv hp' => (fun rv hp' => (rv = none ∧ True) ∧ bAx G [(411376139330301510538742295639337626245683966408394965837152256, 256)] hp hp') rv hp' ∧ bWb G hp')) (15 * m) 2 [(0, yR 2073), (1, yI (a1))] [] hq) := by
    intro m
    induction m with
    | zero =>
      intros; exfalso; omega
    | succ m ih =>
      have i_2 := ih
      clear ih
      intro a1 hq A_hq f0 f1 X_2 hm
      refine yG.mono (N := 15 * m + 15) ?_ (by omega)
      refine yG.load xik rfl (fun _ _ => rfl) (v := yI (a1)) rfl rfl ?_
      refine yG.num (c := 1320) rfl (fun _ _ => rfl) (by decide) ?_
      refine yG.icmp rfl (t := 27) rfl ⟨by omega, by omega⟩ ⟨by omega, by omega⟩ (fun c1 => ?_) (fun c1 => ?_)
      · have c1 : (a1 : Int) ≥ 1320 := c1
        refine yG.ret rfl (fun _ _ => rfl) ?_
        have qq1 : ∀ c, ys hq 2165 c = ys hq 2165 c := fun c => rfl
        have qq2 : ∀ c, ys hq 2088 c = ys hq 2088 c := fun c => rfl
        have M_bWb_hq : bWb G hq := fun j hj h2 => by
          rw [(fun j => (qq2 j).trans (A_hq.ys (s_M_count W) (bNo_ok (by decide) j))) (j / 264)] at h2
          rw [(fun j => (qq2 j).trans (A_hq.ys (s_M_count W) (bNo_ok (by decide) j))) 0, Nat.zero_add, qq1 j, X_2 j (by omega)]
          have := M_bWf.1 j hj h2
          rwa [Nat.zero_add] at this
        exact (yP.void ⟨⟨⟨rfl, trivial⟩, A_hq⟩, M_bWb_hq⟩)
      · have c1 : (a1 : Int) < 1320 := c1
        refine yG.load xak rfl (fun _ _ => rfl) (v := yR 2073) rfl rfl ?_
        refine yG.getO A_hq.1 (w_M_fieldsBefore W H_2073) rfl rfl (fun r2 H_r2 O_r2 q_r2 => ?_)
        obtain rfl := u_M_fieldsBefore W H_r2
        refine yG.load xik rfl (fun _ _ => rfl) (v := yI (a1)) rfl rfl ?_
        refine yG.load xak rfl (fun _ _ => rfl) (v := yR 2073) rfl rfl ?_
        refine yG.getO A_hq.1 (w_M_field W H_2073) rfl rfl (fun r3 H_r3 O_r3 q_r3 => ?_)
        obtain rfl := u_M_field W H_r3
        refine yG.load xik rfl (fun _ _ => rfl) (v := yI (a1)) rfl rfl ?_
        refine yG.ialdT A_hq.1 (v_M_field W H_r3) (yhull2 (tf := yfT) (yfT_h _)) rfl (by omega) (by omega) (fun z4 lo_z4 hi_z4 e_z4 i_z4 T_z4 l_z4 u_z4 => ?_)
        obtain ⟨L_z4, U_z4⟩ := yhull (tf := yfT) (yfT_h _) T_z4
        refine yG.iastF A_hq.1 (v_M_fieldsBefore W H_r2) ((show yfT ((a1 : Int).toNat) = yfT ((a1 : Int).toNat) from congrArg yfT (by omega)).trans T_z4) (W.2.1 _ _ H_r2 (by decide) (by decide)) rfl (by omega) (by omega) ⟨by omega, by omega⟩ (by omega) (by omega) (fun h5 T_h5 b_h5 f_h5 y_h5 => ?_)
        have A_h5 := A_hq.put T_h5 b_h5 f_h5 H_r2 (bAll_ok (by decide) _)
        refine yG.iinc rfl (a := a1) rfl (L' := [(1, yI (a1 + 1)), (0, yR 2073)]) rfl ?_
        refine yG.goto rfl (t := 2) rfl ?_
        have qq3 : ∀ j : Nat, (j : Int) < a1 + 1 → ys h5 2165 j = ys hp 2089 j := fun j hj => by
          have e9 := y_h5 2165 j
          by_cases e7 : j = (a1 : Int).toNat
          · rw [if_pos ⟨rfl, by omega⟩] at e9; rw [e9, e_z4, A_hq.ys (s_M_field W) (bNo_ok (by decide) _)]; congr 1; omega
          · rw [if_neg (fun e => e7 (by have := e.2; omega))] at e9; rw [e9]; exact X_2 j (by omega)
        exact yG.mono (yG.sub (i_2 (a1 + 1)  h5 A_h5   (by omega) (by omega) qq3 (by omega)) (ySub.cons rfl (ySub.cons rfl (ySub.nil)))) (by omega)
  refine yC.of (M := (xt_X13_remember, (2, (0, (14, []))))) rfl rfl (N := 39660) (yfuel (by decide)) ?_
  show yG 89 xfts (xcall 89 xfts xpools xms d) (xpool xp_RX13) [] xt_X13_remember (yP 0 (fun rv hp' => (fun rv hp' => (rv = none ∧ True) ∧ bAx G [(411376139330301510538742295639337626245683966408394965837152256, 256)] hp hp') rv hp' ∧ bWb G hp')) 39660 0 [(0, yR 2073)] [] hp
  have i_2 := H 2643
  refine yG.num (c := 0) rfl (fun _ _ => rfl) (by decide) ?_
  refine yG.store1 xik (L' := [(1, yI (0)), (0, yR 2073)]) rfl (fun _ _ => rfl) rfl rfl ?_
  exact yG.mono (yG.sub (i_2 (0)  hp A_hp   (by omega) (by omega) (fun j hj => by exfalso; omega) (by omega)) (ySub.cons rfl (ySub.cons rfl (ySub.nil)))) (by omega)
theorem c_GModel_comeBack_w {hp : xH} (W : mW G) (d : Nat) (hT : zTy G hp) (M_bWf : bWf G hp) (M_bWb : bWb G hp) (H_2073 : bRo G 116 2073) : yC (xcall 89 xfts xpools xms (d + 1)) 371 [yR 2073] hp (fun rv hp' => (fun rv hp' => (rv = none ∧ True) ∧ bAx G [(83076749736557242056487941267521536, 40), (5444517870735015415413993718908291383296, 256)] hp hp') rv hp' ∧ bWf G hp') := by
  have A_hp : bAx G [(83076749736557242056487941267521536, 40), (5444517870735015415413993718908291383296, 256)] hp hp := bAx.rf hT
  have H : ∀ m : Nat, (∀ a1 : Int, ∀ hq, bAx G [(83076749736557242056487941267521536, 40), (5444517870735015415413993718908291383296, 256)] hp hq → 0 ≤ a1 → (-1320) ≤ 0 - a1 → (∀ j : Nat, (j : Int) < a1 → ys hq 2089 j = ys hp 2165 (0 + j)) → 0 - 2 * a1 + 2641 < (m : Int) → yG 89 xfts (xcall 89 xfts xpools xms d) (xpool xp_RX13) [] xt_X13_comeBack (yP 0 (fun rv hp' => (fun rv hp' => (rv = none ∧ True) ∧ bAx G [(83076749736557242056487941267521536, 40), (5444517870735015415413993718908291383296, 256)] hp hp') rv hp' ∧ bWf G hp')) (15 * m) 2 [(0, yR 2073), (1, yI (a1))] [] hq) := by
    intro m
    induction m with
    | zero =>
      intros; exfalso; omega
    | succ m ih =>
      have i_2 := ih
      clear ih
      intro a1 hq A_hq f0 f1 X_2 hm
      refine yG.mono (N := 15 * m + 15) ?_ (by omega)
      refine yG.load xik rfl (fun _ _ => rfl) (v := yI (a1)) rfl rfl ?_
      refine yG.num (c := 1320) rfl (fun _ _ => rfl) (by decide) ?_
      refine yG.icmp rfl (t := 27) rfl ⟨by omega, by omega⟩ ⟨by omega, by omega⟩ (fun c1 => ?_) (fun c1 => ?_)
      · have c1 : (a1 : Int) ≥ 1320 := c1
        refine yG.load xak rfl (fun _ _ => rfl) (v := yR 2073) rfl rfl ?_
        refine yG.num (c := 0) rfl (fun _ _ => rfl) (by decide) ?_
        refine yG.putI A_hq.1 (w_M_hasFlows W H_2073) (W.2.1 _ _ H_2073 (by decide) (by decide)) rfl rfl (.inr ⟨rfl, rfl, rfl⟩) ⟨by omega, by omega⟩ (by omega) (by omega) (fun h2 T_h2 b_h2 f_h2 y_h2 => ?_)
        have A_h2 := A_hq.put T_h2 b_h2 f_h2 H_2073 (by decide)
        refine yG.ret rfl (fun _ _ => rfl) ?_
        have qq1 : ∀ c, ys h2 2089 c = ys hq 2089 c := fun c => (y_h2 2089 c).trans (if_neg (fun z => bRo.ne (s_M_field W) H_2073 (by decide) z.1))
        have qq2 : ∀ c, ys h2 2088 c = ys hq 2088 c := fun c => (y_h2 2088 c).trans (if_neg (fun z => bRo.ne (s_M_count W) H_2073 (by decide) z.1))
        have qq3 : ∀ c, ys h2 2096 c = ys hq 2096 c := fun c => (y_h2 2096 c).trans (if_neg (fun z => bRo.ne (s_M_kept W) H_2073 (by decide) z.1))
        have qq4 : ∀ c, ys h2 2097 c = ys hq 2097 c := fun c => (y_h2 2097 c).trans (if_neg (fun z => bRo.ne (s_M_isKept W) H_2073 (by decide) z.1))
        have M_bWf_h2 : bWf G h2 := M_bWf.set M_bWb (fun j hj => (qq1 j).trans (X_2 j (by omega))) (fun j => (qq2 j).trans (A_hq.ys (s_M_count W) (bNo_ok (by decide) j))) (fun j => (qq3 j).trans (A_hq.ys (s_M_kept W) (bNo_ok (by decide) j))) (fun j => (qq4 j).trans (A_hq.ys (s_M_isKept W) (bNo_ok (by decide) j)))
        exact (yP.void ⟨⟨⟨rfl, trivial⟩, A_h2⟩, M_bWf_h2⟩)
      · have c1 : (a1 : Int) < 1320 := c1
        refine yG.load xak rfl (fun _ _ => rfl) (v := yR 2073) rfl rfl ?_
        refine yG.getO A_hq.1 (w_M_field W H_2073) rfl rfl (fun r3 H_r3 O_r3 q_r3 => ?_)
        obtain rfl := u_M_field W H_r3
        refine yG.load xik rfl (fun _ _ => rfl) (v := yI (a1)) rfl rfl ?_
        refine yG.load xak rfl (fun _ _ => rfl) (v := yR 2073) rfl rfl ?_
        refine yG.getO A_hq.1 (w_M_fieldsBefore W H_2073) rfl rfl (fun r4 H_r4 O_r4 q_r4 => ?_)
        obtain rfl := u_M_fieldsBefore W H_r4
        refine yG.load xik rfl (fun _ _ => rfl) (v := yI (a1)) rfl rfl ?_
        refine yG.ialdT A_hq.1 (v_M_fieldsBefore W H_r4) (yhull2 (tf := yfT) (yfT_h _)) rfl (by omega) (by omega) (fun z5 lo_z5 hi_z5 e_z5 i_z5 T_z5 l_z5 u_z5 => ?_)
        obtain ⟨L_z5, U_z5⟩ := yhull (tf := yfT) (yfT_h _) T_z5
        refine yG.iastF A_hq.1 (v_M_field W H_r3) ((show yfT ((a1 : Int).toNat) = yfT ((a1 : Int).toNat) from congrArg yfT (by omega)).trans T_z5) (W.2.1 _ _ H_r3 (by decide) (by decide)) rfl (by omega) (by omega) ⟨by omega, by omega⟩ (by omega) (by omega) (fun h6 T_h6 b_h6 f_h6 y_h6 => ?_)
        have A_h6 := A_hq.put T_h6 b_h6 f_h6 H_r3 (bAll_ok (by decide) _)
        refine yG.iinc rfl (a := a1) rfl (L' := [(1, yI (a1 + 1)), (0, yR 2073)]) rfl ?_
        refine yG.goto rfl (t := 2) rfl ?_
        have qq5 : ∀ j : Nat, (j : Int) < a1 + 1 → ys h6 2089 j = ys hp 2165 (0 + j) := fun j hj => by
          have e9 := y_h6 2089 j
          by_cases e7 : j = (a1 : Int).toNat
          · rw [if_pos ⟨rfl, by omega⟩] at e9; rw [e9, e_z5, A_hq.ys (s_M_fieldsBefore W) (bNo_ok (by decide) _)]; congr 1; omega
          · rw [if_neg (fun e => e7 (by have := e.2; omega))] at e9; rw [e9]; exact X_2 j (by omega)
        exact yG.mono (yG.sub (i_2 (a1 + 1)  h6 A_h6   (by omega) (by omega) qq5 (by omega)) (ySub.cons rfl (ySub.cons rfl (ySub.nil)))) (by omega)
  refine yC.of (M := (xt_X13_comeBack, (2, (0, (14, []))))) rfl rfl (N := 39660) (yfuel (by decide)) ?_
  show yG 89 xfts (xcall 89 xfts xpools xms d) (xpool xp_RX13) [] xt_X13_comeBack (yP 0 (fun rv hp' => (fun rv hp' => (rv = none ∧ True) ∧ bAx G [(83076749736557242056487941267521536, 40), (5444517870735015415413993718908291383296, 256)] hp hp') rv hp' ∧ bWf G hp')) 39660 0 [(0, yR 2073)] [] hp
  have i_2 := H 2643
  refine yG.num (c := 0) rfl (fun _ _ => rfl) (by decide) ?_
  refine yG.store1 xik (L' := [(1, yI (0)), (0, yR 2073)]) rfl (fun _ _ => rfl) rfl rfl ?_
  exact yG.mono (yG.sub (i_2 (0)  hp A_hp   (by omega) (by omega) (fun j hj => by exfalso; omega) (by omega)) (ySub.cons rfl (ySub.cons rfl (ySub.nil)))) (by omega)
theorem c_GModel_back_w {hp : xH} (W : mW G) (d : Nat) (hT : zTy G hp) (M_bWf : bWf G hp) (H_2073 : bRo G 116 2073) (p1 : Int) (h1l : (-2147483648) ≤ p1) (h1u : p1 ≤ 2147483647) : yC (xcall 89 xfts xpools xms (d + 2)) 354 [yR 2073, yI (p1)] hp (fun rv hp' => (fun rv hp' => (rv = none ∧ True) ∧ bAx G [(83076749736557242056487941267521536, 0), (83076749736557242056487941267521536, 40), (83076749736557242056487941267521536, 49), (83076749736557242056487941267521536, 62), (83076749736557242056487941267521536, 77), (83076749736557242056487941267521536, 90), (83076749736557242056487941267521536, 101), (5444517870735015415413993718908291383296, 256)] hp hp') rv hp' ∧ bWf G hp') := by
  have A_hp : bAx G [(83076749736557242056487941267521536, 0), (83076749736557242056487941267521536, 40), (83076749736557242056487941267521536, 49), (83076749736557242056487941267521536, 62), (83076749736557242056487941267521536, 77), (83076749736557242056487941267521536, 90), (83076749736557242056487941267521536, 101), (5444517870735015415413993718908291383296, 256)] hp hp := bAx.rf hT
  have H : ∀ m : Nat, (∀ a2 : Int, ∀ hq, bAx G [(83076749736557242056487941267521536, 0), (83076749736557242056487941267521536, 40), (83076749736557242056487941267521536, 49), (83076749736557242056487941267521536, 62), (83076749736557242056487941267521536, 77), (83076749736557242056487941267521536, 90), (83076749736557242056487941267521536, 101), (5444517870735015415413993718908291383296, 256)] hp hq → 0 ≤ a2 → (-1320) ≤ 0 - a2 → 0 ≤ p1 → (-2) ≤ 0 - p1 → (∀ j : Nat, (j : Int) < a2 → ys hq 2089 j = ys hp 2096 (1320 * (p1 : Int).toNat + j)) ∧ ys hp 2097 (p1 : Int).toNat ≠ 0 → 0 - 2 * a2 + 2641 < (m : Int) → yG 89 xfts (xcall 89 xfts xpools xms (d + 1)) (xpool xp_RX13) [] xt_X13_back (yP 0 (fun rv hp' => (fun rv hp' => (rv = none ∧ True) ∧ bAx G [(83076749736557242056487941267521536, 0), (83076749736557242056487941267521536, 40), (83076749736557242056487941267521536, 49), (83076749736557242056487941267521536, 62), (83076749736557242056487941267521536, 77), (83076749736557242056487941267521536, 90), (83076749736557242056487941267521536, 101), (5444517870735015415413993718908291383296, 256)] hp hp') rv hp' ∧ bWf G hp')) (21 * m) 44 [(0, yR 2073), (1, yI (p1)), (2, yI (a2))] [] hq) := by
    intro m
    induction m with
    | zero =>
      intros; exfalso; omega
    | succ m ih =>
      have i_44 := ih
      clear ih
      intro a2 hq A_hq f0 f1 f2 f3 X_44 hm
      refine yG.mono (N := 21 * m + 21) ?_ (by omega)
      refine yG.load xik rfl (fun _ _ => rfl) (v := yI (a2)) rfl rfl ?_
      refine yG.num (c := 1320) rfl (fun _ _ => rfl) (by decide) ?_
      refine yG.icmp rfl (t := 75) rfl ⟨by omega, by omega⟩ ⟨by omega, by omega⟩ (fun c1 => ?_) (fun c1 => ?_)
      · have c1 : (a2 : Int) ≥ 1320 := c1
        refine yG.load xak rfl (fun _ _ => rfl) (v := yR 2073) rfl rfl ?_
        refine yG.invV (rest := []) A_hq.1 (bOb (d_M W) H_2073) rfl rfl rfl rfl (c_GModel_changed W d A_hq.1 H_2073) (fun rv h2 q9 => ?_)
        obtain ⟨⟨rfl, R_z3⟩, B_h2⟩ := q9
        have A_h2 := A_hq.tr B_h2 (by decide)
        show yG _ _ _ _ _ _ _ _ _ _ [] _
        refine yG.ret rfl (fun _ _ => rfl) ?_
        have qq1 : ∀ c, ys h2 2089 c = ys hq 2089 c := fun c => B_h2.ys (s_M_field W) (bNo_ok (by decide) c)
        have qq2 : ∀ c, ys h2 2088 c = ys hq 2088 c := fun c => B_h2.ys (s_M_count W) (bNo_ok (by decide) c)
        have qq3 : ∀ c, ys h2 2096 c = ys hq 2096 c := fun c => B_h2.ys (s_M_kept W) (bNo_ok (by decide) c)
        have qq4 : ∀ c, ys h2 2097 c = ys hq 2097 c := fun c => B_h2.ys (s_M_isKept W) (bNo_ok (by decide) c)
        have M_bWf_h2 : bWf G h2 := M_bWf.set (M_bWf.2 (p1 : Int).toNat (by omega) X_44.2) (fun j hj => (qq1 j).trans (X_44.1 j (by omega))) (fun j => (qq2 j).trans (A_hq.ys (s_M_count W) (bNo_ok (by decide) j))) (fun j => (qq3 j).trans (A_hq.ys (s_M_kept W) (bNo_ok (by decide) j))) (fun j => (qq4 j).trans (A_hq.ys (s_M_isKept W) (bNo_ok (by decide) j)))
        exact (yP.void ⟨⟨⟨rfl, trivial⟩, A_h2⟩, M_bWf_h2⟩)
      · have c1 : (a2 : Int) < 1320 := c1
        refine yG.load xak rfl (fun _ _ => rfl) (v := yR 2073) rfl rfl ?_
        refine yG.getO A_hq.1 (w_M_field W H_2073) rfl rfl (fun r4 H_r4 O_r4 q_r4 => ?_)
        obtain rfl := u_M_field W H_r4
        refine yG.load xik rfl (fun _ _ => rfl) (v := yI (a2)) rfl rfl ?_
        refine yG.load xak rfl (fun _ _ => rfl) (v := yR 2073) rfl rfl ?_
        refine yG.getO A_hq.1 (w_M_kept W H_2073) rfl rfl (fun r5 H_r5 O_r5 q_r5 => ?_)
        obtain rfl := u_M_kept W H_r5
        refine yG.num (c := 1320) rfl (fun _ _ => rfl) (by decide) ?_
        refine yG.load xik rfl (fun _ _ => rfl) (v := yI (p1)) rfl rfl ?_
        refine yG.imul rfl ?_
        refine yG.load xik rfl (fun _ _ => rfl) (v := yI (a2)) rfl rfl ?_
        refine yG.iadd rfl ?_
        refine yG.ialdT A_hq.1 (v_M_kept W H_r5) (yhull2 (tf := yfT) (yfT_h _)) rfl (by omega) (by omega) (fun z6 lo_z6 hi_z6 e_z6 i_z6 T_z6 l_z6 u_z6 => ?_)
        obtain ⟨L_z6, U_z6⟩ := yhull (tf := yfT) (yfT_h _) T_z6
        refine yG.iastF A_hq.1 (v_M_field W H_r4) ((show yfT ((a2 : Int).toNat) = (fun j => yfT (j % 1320)) (((1320 * p1) + a2 : Int).toNat) from congrArg yfT (by omega)).trans T_z6) (W.2.1 _ _ H_r4 (by decide) (by decide)) rfl (by omega) (by omega) ⟨by omega, by omega⟩ (by omega) (by omega) (fun h7 T_h7 b_h7 f_h7 y_h7 => ?_)
        have A_h7 := A_hq.put T_h7 b_h7 f_h7 H_r4 (bAll_ok (by decide) _)
        refine yG.iinc rfl (a := a2) rfl (L' := [(2, yI (a2 + 1)), (0, yR 2073), (1, yI (p1))]) rfl ?_
        refine yG.goto rfl (t := 44) rfl ?_
        have qq5 : ∀ j : Nat, (j : Int) < a2 + 1 → ys h7 2089 j = ys hp 2096 (1320 * (p1 : Int).toNat + j) := fun j hj => by
          have e9 := y_h7 2089 j
          by_cases e7 : j = (a2 : Int).toNat
          · rw [if_pos ⟨rfl, by omega⟩] at e9; rw [e9, e_z6, A_hq.ys (s_M_kept W) (bNo_ok (by decide) _)]; congr 1; omega
          · rw [if_neg (fun e => e7 (by have := e.2; omega))] at e9; rw [e9]; exact X_44.1 j (by omega)
        exact yG.mono (yG.sub (i_44 (a2 + 1)  h7 A_h7   (by omega) (by omega) (by omega) (by omega) ⟨qq5, X_44.2⟩ (by omega)) (ySub.cons rfl (ySub.cons rfl (ySub.cons rfl (ySub.nil))))) (by omega)
  refine yC.of (M := (xt_X13_back, (3, (0, (14, []))))) rfl rfl (N := 55524) (yfuel (by decide)) ?_
  show yG 89 xfts (xcall 89 xfts xpools xms (d + 1)) (xpool xp_RX13) [] xt_X13_back (yP 0 (fun rv hp' => (fun rv hp' => (rv = none ∧ True) ∧ bAx G [(83076749736557242056487941267521536, 0), (83076749736557242056487941267521536, 40), (83076749736557242056487941267521536, 49), (83076749736557242056487941267521536, 62), (83076749736557242056487941267521536, 77), (83076749736557242056487941267521536, 90), (83076749736557242056487941267521536, 101), (5444517870735015415413993718908291383296, 256)] hp hp') rv hp' ∧ bWf G hp')) 55524 0 [(0, yR 2073), (1, yI (p1))] [] hp
  have i_44 := H 2643
  refine yG.load xak rfl (fun _ _ => rfl) (v := yR 2073) rfl rfl ?_
  refine yG.load xik rfl (fun _ _ => rfl) (v := yI (p1)) rfl rfl ?_
  refine yG.i2l rfl ⟨by omega, by omega⟩ ?_
  refine yG.numl (c := 0) rfl (fun _ _ => rfl) (by decide) ?_
  refine yG.numl (c := 2) rfl (fun _ _ => rfl) (by decide) ?_
  refine yG.invS (rest := [yR 2073]) rfl rfl rfl rfl (c_GModel_in W d A_hp.1 (p1) (0) (2) (by omega) (by omega) (by omega) (by omega) (by omega) (by omega)) (fun rv hp9 q9 => ?_)
  obtain ⟨⟨z1, rfl, l_z1, u_z1, R_z1⟩, e9⟩ := q9
  rw [e9]
  show yG _ _ _ _ _ _ _ _ _ _ (yI z1 :: [yR 2073]) _
  refine yG.ifz rfl (t := 17) rfl ⟨by omega, by omega⟩ (fun c2 => ?_) (fun c2 => ?_)
  · have c2 : (z1 : Int) ≠ 0 := c2
    replace R_z1 := R_z1 (by omega)
    refine yG.load xak rfl (fun _ _ => rfl) (v := yR 2073) rfl rfl ?_
    refine yG.getO A_hp.1 (w_M_isKept W H_2073) rfl rfl (fun r3 H_r3 O_r3 q_r3 => ?_)
    obtain rfl := u_M_isKept W H_r3
    refine yG.load xik rfl (fun _ _ => rfl) (v := yI (p1)) rfl rfl ?_
    refine yG.bald A_hp.1 (v_M_isKept W H_r3) rfl (by omega) (by omega) (fun z4 e_z4 i_z4 l_z4 u_z4 => ?_)
    refine yG.ifz rfl (t := 30) rfl ⟨by omega, by omega⟩ (fun c5 => ?_) (fun c5 => ?_)
    · have c5 : (z4 : Int) ≠ 0 := c5
      refine yG.num (c := 0) rfl (fun _ _ => rfl) (by decide) ?_
      refine yG.putI A_hp.1 (w_M_thrown W H_2073) (W.2.1 _ _ H_2073 (by decide) (by decide)) rfl rfl (.inl rfl) ⟨by omega, by omega⟩ (by omega) (by omega) (fun h6 T_h6 b_h6 f_h6 y_h6 => ?_)
      have A_h6 := A_hp.put T_h6 b_h6 f_h6 H_2073 (by decide)
      have : ys h6 2073 0 = 0 := (y_h6 2073 0).trans (if_pos ⟨rfl, rfl⟩)
      refine yG.load xak rfl (fun _ _ => rfl) (v := yR 2073) rfl rfl ?_
      refine yG.getI A_h6.1 (w_M_thrown W H_2073) rfl rfl (fun z7 e_z7 i_z7 l_z7 u_z7 => ?_)
      refine yG.ifz rfl (t := 42) rfl ⟨by omega, by omega⟩ (fun c8 => ?_) (fun c8 => ?_)
      · have c8 : (z7 : Int) ≤ 0 := c8
        refine yG.num (c := 0) rfl (fun _ _ => rfl) (by decide) ?_
        refine yG.store1 xik (L' := [(2, yI (0)), (0, yR 2073), (1, yI (p1))]) rfl (fun _ _ => rfl) rfl rfl ?_
        exact yG.mono (yG.sub (i_44 (0)  h6 A_h6   (by omega) (by omega) (by omega) (by omega) ⟨fun j hj => by exfalso; omega, (by omega)⟩ (by omega)) (ySub.cons rfl (ySub.cons rfl (ySub.cons rfl (ySub.nil))))) (by omega)
      · have c8 : (z7 : Int) > 0 := c8
        exfalso; omega
    · have c5 : (z4 : Int) = 0 := c5
      refine yG.num (c := 2) rfl (fun _ _ => rfl) (by decide) ?_
      refine yG.goto rfl (t := 31) rfl ?_
      refine yG.putI A_hp.1 (w_M_thrown W H_2073) (W.2.1 _ _ H_2073 (by decide) (by decide)) rfl rfl (.inl rfl) ⟨by omega, by omega⟩ (by omega) (by omega) (fun h9 T_h9 b_h9 f_h9 y_h9 => ?_)
      have A_h9 := A_hp.put T_h9 b_h9 f_h9 H_2073 (by decide)
      have : ys h9 2073 0 = 2 := (y_h9 2073 0).trans (if_pos ⟨rfl, rfl⟩)
      refine yG.load xak rfl (fun _ _ => rfl) (v := yR 2073) rfl rfl ?_
      refine yG.getI A_h9.1 (w_M_thrown W H_2073) rfl rfl (fun z10 e_z10 i_z10 l_z10 u_z10 => ?_)
      refine yG.ifz rfl (t := 42) rfl ⟨by omega, by omega⟩ (fun c11 => ?_) (fun c11 => ?_)
      · have c11 : (z10 : Int) ≤ 0 := c11
        exfalso; omega
      · have c11 : (z10 : Int) > 0 := c11
        refine yG.ret rfl (fun _ _ => rfl) ?_
        have qq1 : ∀ c, ys h9 2088 c = ys hp 2088 c := fun c => (y_h9 2088 c).trans (if_neg (fun z => bRo.ne (s_M_count W) H_2073 (by decide) z.1))
        have qq2 : ∀ c, ys h9 2089 c = ys hp 2089 c := fun c => (y_h9 2089 c).trans (if_neg (fun z => bRo.ne (s_M_field W) H_2073 (by decide) z.1))
        have qq3 : ∀ c, ys h9 2096 c = ys hp 2096 c := fun c => (y_h9 2096 c).trans (if_neg (fun z => bRo.ne (s_M_kept W) H_2073 (by decide) z.1))
        have qq4 : ∀ c, ys h9 2097 c = ys hp 2097 c := fun c => (y_h9 2097 c).trans (if_neg (fun z => bRo.ne (s_M_isKept W) H_2073 (by decide) z.1))
        have M_bWf_h9 : bWf G h9 := M_bWf.cg qq1 (fun j _ _ => qq2 j) qq3 qq4
        exact (yP.void ⟨⟨⟨rfl, trivial⟩, A_h9⟩, M_bWf_h9⟩)
  · have c2 : (z1 : Int) = 0 := c2
    clear R_z1
    refine yG.num (c := 1) rfl (fun _ _ => rfl) (by decide) ?_
    refine yG.goto rfl (t := 31) rfl ?_
    refine yG.putI A_hp.1 (w_M_thrown W H_2073) (W.2.1 _ _ H_2073 (by decide) (by decide)) rfl rfl (.inl rfl) ⟨by omega, by omega⟩ (by omega) (by omega) (fun h12 T_h12 b_h12 f_h12 y_h12 => ?_)
    have A_h12 := A_hp.put T_h12 b_h12 f_h12 H_2073 (by decide)
    have : ys h12 2073 0 = 1 := (y_h12 2073 0).trans (if_pos ⟨rfl, rfl⟩)
    refine yG.load xak rfl (fun _ _ => rfl) (v := yR 2073) rfl rfl ?_
    refine yG.getI A_h12.1 (w_M_thrown W H_2073) rfl rfl (fun z13 e_z13 i_z13 l_z13 u_z13 => ?_)
    refine yG.ifz rfl (t := 42) rfl ⟨by omega, by omega⟩ (fun c14 => ?_) (fun c14 => ?_)
    · have c14 : (z13 : Int) ≤ 0 := c14
      exfalso; omega
    · have c14 : (z13 : Int) > 0 := c14
      refine yG.ret rfl (fun _ _ => rfl) ?_
      have qq5 : ∀ c, ys h12 2088 c = ys hp 2088 c := fun c => (y_h12 2088 c).trans (if_neg (fun z => bRo.ne (s_M_count W) H_2073 (by decide) z.1))
      have qq6 : ∀ c, ys h12 2089 c = ys hp 2089 c := fun c => (y_h12 2089 c).trans (if_neg (fun z => bRo.ne (s_M_field W) H_2073 (by decide) z.1))
      have qq7 : ∀ c, ys h12 2096 c = ys hp 2096 c := fun c => (y_h12 2096 c).trans (if_neg (fun z => bRo.ne (s_M_kept W) H_2073 (by decide) z.1))
      have qq8 : ∀ c, ys h12 2097 c = ys hp 2097 c := fun c => (y_h12 2097 c).trans (if_neg (fun z => bRo.ne (s_M_isKept W) H_2073 (by decide) z.1))
      have M_bWf_h12 : bWf G h12 := M_bWf.cg qq5 (fun j _ _ => qq6 j) qq7 qq8
      exact (yP.void ⟨⟨⟨rfl, trivial⟩, A_h12⟩, M_bWf_h12⟩)
theorem c_GModel_keep_w {hp : xH} (W : mW G) (d : Nat) (hT : zTy G hp) (M_bWf : bWf G hp) (H_2073 : bRo G 116 2073) (p1 : Int) (h1l : (-2147483648) ≤ p1) (h1u : p1 ≤ 2147483647) : yC (xcall 89 xfts xpools xms (d + 2)) 442 [yR 2073, yI (p1)] hp (fun rv hp' => (fun rv hp' => (rv = none ∧ True) ∧ bAx G [(83076749736557242056487941267521536, 0), (2090694862362245919518973588060783891185664, 256)] hp hp') rv hp' ∧ bWf G hp') := by
  have A_hp : bAx G [(83076749736557242056487941267521536, 0), (2090694862362245919518973588060783891185664, 256)] hp hp := bAx.rf hT
  have H : ∀ m : Nat, (∀ a2 : Int, ∀ hq, bAx G [(83076749736557242056487941267521536, 0), (2090694862362245919518973588060783891185664, 256)] hp hq → 0 ≤ a2 → (-1320) ≤ 0 - a2 → 0 ≤ p1 → (-2) ≤ 0 - p1 → (∀ j : Nat, (j : Int) < a2 → ys hq 2096 (1320 * (p1 : Int).toNat + j) = ys hp 2089 j) ∧ ((∀ j : Nat, (j : Int) < 1320 * p1 ∨ 1320 * p1 + 1320 ≤ j → ys hq 2096 j = ys hp 2096 j) ∧ (∀ i : Nat, i ≠ (p1 : Int).toNat → ys hq 2097 i = ys hp 2097 i)) → 0 - 2 * a2 + 2641 < (m : Int) → yG 89 xfts (xcall 89 xfts xpools xms (d + 1)) (xpool xp_RX13) [] xt_X13_keep (yP 0 (fun rv hp' => (fun rv hp' => (rv = none ∧ True) ∧ bAx G [(83076749736557242056487941267521536, 0), (2090694862362245919518973588060783891185664, 256)] hp hp') rv hp' ∧ bWf G hp')) (22 * m) 38 [(0, yR 2073), (1, yI (p1)), (2, yI (a2))] [] hq) := by
    intro m
    induction m with
    | zero =>
      intros; exfalso; omega
    | succ m ih =>
      have i_38 := ih
      clear ih
      intro a2 hq A_hq f0 f1 f2 f3 X_38 hm
      refine yG.mono (N := 22 * m + 22) ?_ (by omega)
      refine yG.load xik rfl (fun _ _ => rfl) (v := yI (a2)) rfl rfl ?_
      refine yG.num (c := 1320) rfl (fun _ _ => rfl) (by decide) ?_
      refine yG.icmp rfl (t := 69) rfl ⟨by omega, by omega⟩ ⟨by omega, by omega⟩ (fun c1 => ?_) (fun c1 => ?_)
      · have c1 : (a2 : Int) ≥ 1320 := c1
        refine yG.ret rfl (fun _ _ => rfl) ?_
        have M_bWf_hq : bWf G hq := M_bWf.kp (k := (p1 : Int).toNat) (fun j hj => X_38.1 j (by omega)) (fun j g => X_38.2.1 j (by omega)) (fun j => A_hq.ys (s_M_field W) (bNo_ok (by decide) j)) (fun j => A_hq.ys (s_M_count W) (bNo_ok (by decide) j)) (fun i g => X_38.2.2 i g)
        exact (yP.void ⟨⟨⟨rfl, trivial⟩, A_hq⟩, M_bWf_hq⟩)
      · have c1 : (a2 : Int) < 1320 := c1
        refine yG.load xak rfl (fun _ _ => rfl) (v := yR 2073) rfl rfl ?_
        refine yG.getO A_hq.1 (w_M_kept W H_2073) rfl rfl (fun r2 H_r2 O_r2 q_r2 => ?_)
        obtain rfl := u_M_kept W H_r2
        refine yG.num (c := 1320) rfl (fun _ _ => rfl) (by decide) ?_
        refine yG.load xik rfl (fun _ _ => rfl) (v := yI (p1)) rfl rfl ?_
        refine yG.imul rfl ?_
        refine yG.load xik rfl (fun _ _ => rfl) (v := yI (a2)) rfl rfl ?_
        refine yG.iadd rfl ?_
        refine yG.load xak rfl (fun _ _ => rfl) (v := yR 2073) rfl rfl ?_
        refine yG.getO A_hq.1 (w_M_field W H_2073) rfl rfl (fun r3 H_r3 O_r3 q_r3 => ?_)
        obtain rfl := u_M_field W H_r3
        refine yG.load xik rfl (fun _ _ => rfl) (v := yI (a2)) rfl rfl ?_
        refine yG.ialdT A_hq.1 (v_M_field W H_r3) (yhull2 (tf := yfT) (yfT_h _)) rfl (by omega) (by omega) (fun z4 lo_z4 hi_z4 e_z4 i_z4 T_z4 l_z4 u_z4 => ?_)
        obtain ⟨L_z4, U_z4⟩ := yhull (tf := yfT) (yfT_h _) T_z4
        refine yG.iastF A_hq.1 (v_M_kept W H_r2) ((show (fun j => yfT (j % 1320)) (((1320 * p1) + a2 : Int).toNat) = yfT ((a2 : Int).toNat) from congrArg yfT (by omega)).trans T_z4) (W.2.1 _ _ H_r2 (by decide) (by decide)) rfl (by omega) (by omega) ⟨by omega, by omega⟩ (by omega) (by omega) (fun h5 T_h5 b_h5 f_h5 y_h5 => ?_)
        have A_h5 := A_hq.put T_h5 b_h5 f_h5 H_r2 (bAll_ok (by decide) _)
        refine yG.iinc rfl (a := a2) rfl (L' := [(2, yI (a2 + 1)), (0, yR 2073), (1, yI (p1))]) rfl ?_
        refine yG.goto rfl (t := 38) rfl ?_
        have qq1 : ∀ j : Nat, (j : Int) < a2 + 1 → ys h5 2096 (1320 * (p1 : Int).toNat + j) = ys hp 2089 j := fun j hj => by
          have e9 := y_h5 2096 (1320 * (p1 : Int).toNat + j)
          by_cases e7 : j = (a2 : Int).toNat
          · rw [if_pos ⟨rfl, by omega⟩] at e9; rw [e9, e_z4, A_hq.ys (s_M_field W) (bNo_ok (by decide) _)]; congr 1; omega
          · rw [if_neg (fun e => e7 (by have := e.2; omega))] at e9; rw [e9]; exact X_38.1 j (by omega)
        exact yG.mono (yG.sub (i_38 (a2 + 1)  h5 A_h5   (by omega) (by omega) (by omega) (by omega) ⟨qq1, ⟨(fun j g => ((y_h5 2096 j).trans (if_neg (fun e => by have := e.2; omega))).trans (X_38.2.1 j g)), (fun i g => ((y_h5 2097 i).trans (if_neg (fun e => absurd e.1 (by decide)))).trans (X_38.2.2 i g))⟩⟩ (by omega)) (ySub.cons rfl (ySub.cons rfl (ySub.cons rfl (ySub.nil))))) (by omega)
  refine yC.of (M := (xt_X13_keep, (3, (0, (14, []))))) rfl rfl (N := 58168) (yfuel (by decide)) ?_
  show yG 89 xfts (xcall 89 xfts xpools xms (d + 1)) (xpool xp_RX13) [] xt_X13_keep (yP 0 (fun rv hp' => (fun rv hp' => (rv = none ∧ True) ∧ bAx G [(83076749736557242056487941267521536, 0), (2090694862362245919518973588060783891185664, 256)] hp hp') rv hp' ∧ bWf G hp')) 58168 0 [(0, yR 2073), (1, yI (p1))] [] hp
  have i_38 := H 2643
  refine yG.load xak rfl (fun _ _ => rfl) (v := yR 2073) rfl rfl ?_
  refine yG.load xik rfl (fun _ _ => rfl) (v := yI (p1)) rfl rfl ?_
  refine yG.i2l rfl ⟨by omega, by omega⟩ ?_
  refine yG.numl (c := 0) rfl (fun _ _ => rfl) (by decide) ?_
  refine yG.numl (c := 2) rfl (fun _ _ => rfl) (by decide) ?_
  refine yG.invS (rest := [yR 2073]) rfl rfl rfl rfl (c_GModel_in W d A_hp.1 (p1) (0) (2) (by omega) (by omega) (by omega) (by omega) (by omega) (by omega)) (fun rv hp9 q9 => ?_)
  obtain ⟨⟨z1, rfl, l_z1, u_z1, R_z1⟩, e9⟩ := q9
  rw [e9]
  show yG _ _ _ _ _ _ _ _ _ _ (yI z1 :: [yR 2073]) _
  refine yG.ifz rfl (t := 17) rfl ⟨by omega, by omega⟩ (fun c2 => ?_) (fun c2 => ?_)
  · have c2 : (z1 : Int) = 0 := c2
    clear R_z1
    refine yG.num (c := 1) rfl (fun _ _ => rfl) (by decide) ?_
    refine yG.putI A_hp.1 (w_M_thrown W H_2073) (W.2.1 _ _ H_2073 (by decide) (by decide)) rfl rfl (.inl rfl) ⟨by omega, by omega⟩ (by omega) (by omega) (fun h3 T_h3 b_h3 f_h3 y_h3 => ?_)
    have A_h3 := A_hp.put T_h3 b_h3 f_h3 H_2073 (by decide)
    have : ys h3 2073 0 = 1 := (y_h3 2073 0).trans (if_pos ⟨rfl, rfl⟩)
    refine yG.load xak rfl (fun _ _ => rfl) (v := yR 2073) rfl rfl ?_
    refine yG.getI A_h3.1 (w_M_thrown W H_2073) rfl rfl (fun z4 e_z4 i_z4 l_z4 u_z4 => ?_)
    refine yG.ifz rfl (t := 29) rfl ⟨by omega, by omega⟩ (fun c5 => ?_) (fun c5 => ?_)
    · have c5 : (z4 : Int) ≤ 0 := c5
      exfalso; omega
    · have c5 : (z4 : Int) > 0 := c5
      refine yG.ret rfl (fun _ _ => rfl) ?_
      have qq1 : ∀ c, ys h3 2088 c = ys hp 2088 c := fun c => (y_h3 2088 c).trans (if_neg (fun z => bRo.ne (s_M_count W) H_2073 (by decide) z.1))
      have qq2 : ∀ c, ys h3 2089 c = ys hp 2089 c := fun c => (y_h3 2089 c).trans (if_neg (fun z => bRo.ne (s_M_field W) H_2073 (by decide) z.1))
      have qq3 : ∀ c, ys h3 2096 c = ys hp 2096 c := fun c => (y_h3 2096 c).trans (if_neg (fun z => bRo.ne (s_M_kept W) H_2073 (by decide) z.1))
      have qq4 : ∀ c, ys h3 2097 c = ys hp 2097 c := fun c => (y_h3 2097 c).trans (if_neg (fun z => bRo.ne (s_M_isKept W) H_2073 (by decide) z.1))
      have M_bWf_h3 : bWf G h3 := M_bWf.cg qq1 (fun j _ _ => qq2 j) qq3 qq4
      exact (yP.void ⟨⟨⟨rfl, trivial⟩, A_h3⟩, M_bWf_h3⟩)
  · have c2 : (z1 : Int) ≠ 0 := c2
    replace R_z1 := R_z1 (by omega)
    refine yG.num (c := 0) rfl (fun _ _ => rfl) (by decide) ?_
    refine yG.goto rfl (t := 18) rfl ?_
    refine yG.putI A_hp.1 (w_M_thrown W H_2073) (W.2.1 _ _ H_2073 (by decide) (by decide)) rfl rfl (.inl rfl) ⟨by omega, by omega⟩ (by omega) (by omega) (fun h6 T_h6 b_h6 f_h6 y_h6 => ?_)
    have A_h6 := A_hp.put T_h6 b_h6 f_h6 H_2073 (by decide)
    have : ys h6 2073 0 = 0 := (y_h6 2073 0).trans (if_pos ⟨rfl, rfl⟩)
    refine yG.load xak rfl (fun _ _ => rfl) (v := yR 2073) rfl rfl ?_
    refine yG.getI A_h6.1 (w_M_thrown W H_2073) rfl rfl (fun z7 e_z7 i_z7 l_z7 u_z7 => ?_)
    refine yG.ifz rfl (t := 29) rfl ⟨by omega, by omega⟩ (fun c8 => ?_) (fun c8 => ?_)
    · have c8 : (z7 : Int) ≤ 0 := c8
      refine yG.load xak rfl (fun _ _ => rfl) (v := yR 2073) rfl rfl ?_
      refine yG.getO A_h6.1 (w_M_isKept W H_2073) rfl rfl (fun r9 H_r9 O_r9 q_r9 => ?_)
      obtain rfl := u_M_isKept W H_r9
      refine yG.load xik rfl (fun _ _ => rfl) (v := yI (p1)) rfl rfl ?_
      refine yG.num (c := 1) rfl (fun _ _ => rfl) (by decide) ?_
      refine yG.bast A_h6.1 (v_M_isKept W H_r9) (W.2.1 _ _ H_r9 (by decide) (by decide)) rfl (by omega) (by omega) ⟨by omega, by omega⟩ (by omega) (by omega) (fun h10 T_h10 b_h10 f_h10 y_h10 => ?_)
      have A_h10 := A_h6.put T_h10 b_h10 f_h10 H_r9 (bAll_ok (by decide) _)
      have : ys h10 2073 0 = ys h6 2073 0 := (y_h10 2073 0).trans (if_neg (fun e => (bRo.ne H_2073 H_r9 (by decide)) e.1))
      refine yG.num (c := 0) rfl (fun _ _ => rfl) (by decide) ?_
      refine yG.store1 xik (L' := [(2, yI (0)), (0, yR 2073), (1, yI (p1))]) rfl (fun _ _ => rfl) rfl rfl ?_
      have qq5 : ∀ i : Nat, i ≠ (p1 : Int).toNat → ys h10 2097 i = ys hp 2097 i := fun i g => by
        rw [y_h10 2097 i, if_neg (fun e => g e.2), y_h6 2097 i, if_neg (fun z => bRo.ne (s_M_isKept W) H_2073 (by decide) z.1)]
      have qq6 : ∀ c, ys h10 2096 c = ys hp 2096 c := fun c => ((y_h10 2096 c).trans (if_neg (fun z => bRo.ne (s_M_kept W) H_r9 (by decide) z.1))).trans ((y_h6 2096 c).trans (if_neg (fun z => bRo.ne (s_M_kept W) H_2073 (by decide) z.1)))
      exact yG.mono (yG.sub (i_38 (0)  h10 A_h10   (by omega) (by omega) (by omega) (by omega) ⟨fun j hj => by exfalso; omega, ⟨(fun j _ => qq6 j), qq5⟩⟩ (by omega)) (ySub.cons rfl (ySub.cons rfl (ySub.cons rfl (ySub.nil))))) (by omega)
    · have c8 : (z7 : Int) > 0 := c8
      exfalso; omega
theorem c_GModel_set_w {hp : xH} (W : mW G) (d : Nat) (hT : zTy G hp) (M_bWf : bWf G hp) (H_2073 : bRo G 116 2073) (p1 p2 p3 p4 : Int) (h1l : (-2147483648) ≤ p1) (h1u : p1 ≤ 2147483647) (h2l : (-2147483648) ≤ p2) (h2u : p2 ≤ 2147483647) (h3l : (-2147483648) ≤ p3) (h3u : p3 ≤ 2147483647) (h4l : (-2147483648) ≤ p4) (h4u : p4 ≤ 2147483647) : yC (xcall 89 xfts xpools xms (d + 4)) 505 [yR 2073, yI (p1), yI (p2), yI (p3), yI (p4)] hp (fun rv hp' => (bQi G [(83076749736557242056487941267521536, 0), (83076749736557242056487941267521536, 40), (83076749736557242056487941267521536, 49), (83076749736557242056487941267521536, 62), (83076749736557242056487941267521536, 77), (83076749736557242056487941267521536, 90), (83076749736557242056487941267521536, 101), (5444517870735015415413993718908291383296, 256)] hp 0 999999 (fun z => 0 ≤ p1 - z + 2147483648 ∧ 0 ≤ p2 - z + 2147483648 ∧ 0 ≤ p3 - z + 2147483648 ∧ 0 ≤ p4 - z + 2147483648)) rv hp' ∧ bWf G hp') := by
  have A_hp : bAx G [(83076749736557242056487941267521536, 0), (83076749736557242056487941267521536, 40), (83076749736557242056487941267521536, 49), (83076749736557242056487941267521536, 62), (83076749736557242056487941267521536, 77), (83076749736557242056487941267521536, 90), (83076749736557242056487941267521536, 101), (5444517870735015415413993718908291383296, 256)] hp hp := bAx.rf hT
  have M_bWf_hp := M_bWf
  refine yC.of (M := (xt_X13_set, (6, (1, (14, []))))) rfl rfl (N := 114) (yfuel (by decide)) ?_
  show yG 89 xfts (xcall 89 xfts xpools xms (d + 3)) (xpool xp_RX13) [] xt_X13_set (yP 1 (fun rv hp' => (bQi G [(83076749736557242056487941267521536, 0), (83076749736557242056487941267521536, 40), (83076749736557242056487941267521536, 49), (83076749736557242056487941267521536, 62), (83076749736557242056487941267521536, 77), (83076749736557242056487941267521536, 90), (83076749736557242056487941267521536, 101), (5444517870735015415413993718908291383296, 256)] hp 0 999999 (fun z => 0 ≤ p1 - z + 2147483648 ∧ 0 ≤ p2 - z + 2147483648 ∧ 0 ≤ p3 - z + 2147483648 ∧ 0 ≤ p4 - z + 2147483648)) rv hp' ∧ bWf G hp')) 114 0 [(0, yR 2073), (1, yI (p1)), (2, yI (p2)), (3, yI (p3)), (4, yI (p4))] [] hp
  rcases (show p1 ≤ (-1) ∨ p1 ≥ 5 ∨ p1 = 0 ∨ p1 = 1 ∨ p1 = 2 ∨ p1 = 3 ∨ p1 = 4 by omega) with c1 | c1 | c1 | c1 | c1 | c1 | c1
  · skip
    rcases (show p3 ≤ (-1) ∨ p3 ≥ 11 ∨ p3 = 0 ∨ p3 = 1 ∨ p3 = 2 ∨ p3 = 3 ∨ p3 = 4 ∨ p3 = 5 ∨ p3 = 6 ∨ p3 = 7 ∨ p3 = 8 ∨ p3 = 9 ∨ p3 = 10 by omega) with c2 | c2 | c2 | c2 | c2 | c2 | c2 | c2 | c2 | c2 | c2 | c2 | c2
    · skip
      refine yG.load xak rfl (fun _ _ => rfl) (v := yR 2073) rfl rfl ?_
      refine yG.load xak rfl (fun _ _ => rfl) (v := yR 2073) rfl rfl ?_
      refine yG.load xik rfl (fun _ _ => rfl) (v := yI (p1)) rfl rfl ?_
      refine yG.load xik rfl (fun _ _ => rfl) (v := yI (p2)) rfl rfl ?_
      refine yG.invV (rest := [yR 2073]) A_hp.1 (bOb (d_M W) H_2073) rfl rfl rfl rfl (c_GModel_isObject W (d + 1) A_hp.1 H_2073 (p1) (p2) (by omega) (by omega) (by omega) (by omega)) (fun rv hp9 q9 => ?_)
      obtain ⟨⟨z3, rfl, l_z3, u_z3, R_z3⟩, e9⟩ := q9
      rw [e9]
      show yG _ _ _ _ _ _ _ _ _ _ (yI z3 :: [yR 2073]) _
      refine yG.ifz rfl (t := 14) rfl ⟨by omega, by omega⟩ (fun c4 => ?_) (fun c4 => ?_)
      · have c4 : (z3 : Int) ≠ 0 := c4
        replace R_z3 := R_z3 (by omega)
        exfalso; omega
      · have c4 : (z3 : Int) = 0 := c4
        clear R_z3
        refine yG.num (c := 1) rfl (fun _ _ => rfl) (by decide) ?_
        refine yG.goto rfl (t := 31) rfl ?_
        refine yG.putI A_hp.1 (w_M_thrown W H_2073) (W.2.1 _ _ H_2073 (by decide) (by decide)) rfl rfl (.inl rfl) ⟨by omega, by omega⟩ (by omega) (by omega) (fun h5 T_h5 b_h5 f_h5 y_h5 => ?_)
        have M_bWf_h5 := M_bWf_hp.fr (bAx.put (Wl := [(83076749736557242056487941267521536, 0)]) (bAx.rf A_hp.1) T_h5 b_h5 f_h5 H_2073 (by decide)) (by decide)
        have A_h5 := A_hp.put T_h5 b_h5 f_h5 H_2073 (by decide)
        have : ys h5 2073 0 = 1 := (y_h5 2073 0).trans (if_pos ⟨rfl, rfl⟩)
        refine yG.load xak rfl (fun _ _ => rfl) (v := yR 2073) rfl rfl ?_
        refine yG.getI A_h5.1 (w_M_thrown W H_2073) rfl rfl (fun z6 e_z6 i_z6 l_z6 u_z6 => ?_)
        refine yG.ifz rfl (t := 43) rfl ⟨by omega, by omega⟩ (fun c7 => ?_) (fun c7 => ?_)
        · have c7 : (z6 : Int) ≤ 0 := c7
          exfalso; omega
        · have c7 : (z6 : Int) > 0 := c7
          refine yG.num (c := 0) rfl (fun _ _ => rfl) (by decide) ?_
          refine yG.ret rfl (fun _ _ => rfl) ?_
          exact (yP.int ⟨by omega, by omega⟩ ⟨⟨⟨0, rfl, by omega, by omega, by omega⟩, A_h5⟩, M_bWf_h5⟩)
    · skip
      refine yG.load xak rfl (fun _ _ => rfl) (v := yR 2073) rfl rfl ?_
      refine yG.load xak rfl (fun _ _ => rfl) (v := yR 2073) rfl rfl ?_
      refine yG.load xik rfl (fun _ _ => rfl) (v := yI (p1)) rfl rfl ?_
      refine yG.load xik rfl (fun _ _ => rfl) (v := yI (p2)) rfl rfl ?_
      refine yG.invV (rest := [yR 2073]) A_hp.1 (bOb (d_M W) H_2073) rfl rfl rfl rfl (c_GModel_isObject W (d + 1) A_hp.1 H_2073 (p1) (p2) (by omega) (by omega) (by omega) (by omega)) (fun rv hp9 q9 => ?_)
      obtain ⟨⟨z8, rfl, l_z8, u_z8, R_z8⟩, e9⟩ := q9
      rw [e9]
      show yG _ _ _ _ _ _ _ _ _ _ (yI z8 :: [yR 2073]) _
      refine yG.ifz rfl (t := 14) rfl ⟨by omega, by omega⟩ (fun c9 => ?_) (fun c9 => ?_)
      · have c9 : (z8 : Int) ≠ 0 := c9
        replace R_z8 := R_z8 (by omega)
        exfalso; omega
      · have c9 : (z8 : Int) = 0 := c9
        clear R_z8
        refine yG.num (c := 1) rfl (fun _ _ => rfl) (by decide) ?_
        refine yG.goto rfl (t := 31) rfl ?_
        refine yG.putI A_hp.1 (w_M_thrown W H_2073) (W.2.1 _ _ H_2073 (by decide) (by decide)) rfl rfl (.inl rfl) ⟨by omega, by omega⟩ (by omega) (by omega) (fun h10 T_h10 b_h10 f_h10 y_h10 => ?_)
        have M_bWf_h10 := M_bWf_hp.fr (bAx.put (Wl := [(83076749736557242056487941267521536, 0)]) (bAx.rf A_hp.1) T_h10 b_h10 f_h10 H_2073 (by decide)) (by decide)
        have A_h10 := A_hp.put T_h10 b_h10 f_h10 H_2073 (by decide)
        have : ys h10 2073 0 = 1 := (y_h10 2073 0).trans (if_pos ⟨rfl, rfl⟩)
        refine yG.load xak rfl (fun _ _ => rfl) (v := yR 2073) rfl rfl ?_
        refine yG.getI A_h10.1 (w_M_thrown W H_2073) rfl rfl (fun z11 e_z11 i_z11 l_z11 u_z11 => ?_)
        refine yG.ifz rfl (t := 43) rfl ⟨by omega, by omega⟩ (fun c12 => ?_) (fun c12 => ?_)
        · have c12 : (z11 : Int) ≤ 0 := c12
          exfalso; omega
        · have c12 : (z11 : Int) > 0 := c12
          refine yG.num (c := 0) rfl (fun _ _ => rfl) (by decide) ?_
          refine yG.ret rfl (fun _ _ => rfl) ?_
          exact (yP.int ⟨by omega, by omega⟩ ⟨⟨⟨0, rfl, by omega, by omega, by omega⟩, A_h10⟩, M_bWf_h10⟩)
    · subst c2
      refine yG.load xak rfl (fun _ _ => rfl) (v := yR 2073) rfl rfl ?_
      refine yG.load xak rfl (fun _ _ => rfl) (v := yR 2073) rfl rfl ?_
      refine yG.load xik rfl (fun _ _ => rfl) (v := yI (p1)) rfl rfl ?_
      refine yG.load xik rfl (fun _ _ => rfl) (v := yI (p2)) rfl rfl ?_
      refine yG.invV (rest := [yR 2073]) A_hp.1 (bOb (d_M W) H_2073) rfl rfl rfl rfl (c_GModel_isObject W (d + 1) A_hp.1 H_2073 (p1) (p2) (by omega) (by omega) (by omega) (by omega)) (fun rv hp9 q9 => ?_)
      obtain ⟨⟨z13, rfl, l_z13, u_z13, R_z13⟩, e9⟩ := q9
      rw [e9]
      show yG _ _ _ _ _ _ _ _ _ _ (yI z13 :: [yR 2073]) _
      refine yG.ifz rfl (t := 14) rfl ⟨by omega, by omega⟩ (fun c14 => ?_) (fun c14 => ?_)
      · have c14 : (z13 : Int) ≠ 0 := c14
        replace R_z13 := R_z13 (by omega)
        exfalso; omega
      · have c14 : (z13 : Int) = 0 := c14
        clear R_z13
        refine yG.num (c := 1) rfl (fun _ _ => rfl) (by decide) ?_
        refine yG.goto rfl (t := 31) rfl ?_
        refine yG.putI A_hp.1 (w_M_thrown W H_2073) (W.2.1 _ _ H_2073 (by decide) (by decide)) rfl rfl (.inl rfl) ⟨by omega, by omega⟩ (by omega) (by omega) (fun h15 T_h15 b_h15 f_h15 y_h15 => ?_)
        have M_bWf_h15 := M_bWf_hp.fr (bAx.put (Wl := [(83076749736557242056487941267521536, 0)]) (bAx.rf A_hp.1) T_h15 b_h15 f_h15 H_2073 (by decide)) (by decide)
        have A_h15 := A_hp.put T_h15 b_h15 f_h15 H_2073 (by decide)
        have : ys h15 2073 0 = 1 := (y_h15 2073 0).trans (if_pos ⟨rfl, rfl⟩)
        refine yG.load xak rfl (fun _ _ => rfl) (v := yR 2073) rfl rfl ?_
        refine yG.getI A_h15.1 (w_M_thrown W H_2073) rfl rfl (fun z16 e_z16 i_z16 l_z16 u_z16 => ?_)
        refine yG.ifz rfl (t := 43) rfl ⟨by omega, by omega⟩ (fun c17 => ?_) (fun c17 => ?_)
        · have c17 : (z16 : Int) ≤ 0 := c17
          exfalso; omega
        · have c17 : (z16 : Int) > 0 := c17
          refine yG.num (c := 0) rfl (fun _ _ => rfl) (by decide) ?_
          refine yG.ret rfl (fun _ _ => rfl) ?_
          exact (yP.int ⟨by omega, by omega⟩ ⟨⟨⟨0, rfl, by omega, by omega, by omega⟩, A_h15⟩, M_bWf_h15⟩)
    · subst c2
      refine yG.load xak rfl (fun _ _ => rfl) (v := yR 2073) rfl rfl ?_
      refine yG.load xak rfl (fun _ _ => rfl) (v := yR 2073) rfl rfl ?_
      refine yG.load xik rfl (fun _ _ => rfl) (v := yI (p1)) rfl rfl ?_
      refine yG.load xik rfl (fun _ _ => rfl) (v := yI (p2)) rfl rfl ?_
      refine yG.invV (rest := [yR 2073]) A_hp.1 (bOb (d_M W) H_2073) rfl rfl rfl rfl (c_GModel_isObject W (d + 1) A_hp.1 H_2073 (p1) (p2) (by omega) (by omega) (by omega) (by omega)) (fun rv hp9 q9 => ?_)
      obtain ⟨⟨z18, rfl, l_z18, u_z18, R_z18⟩, e9⟩ := q9
      rw [e9]
      show yG _ _ _ _ _ _ _ _ _ _ (yI z18 :: [yR 2073]) _
      refine yG.ifz rfl (t := 14) rfl ⟨by omega, by omega⟩ (fun c19 => ?_) (fun c19 => ?_)
      · have c19 : (z18 : Int) ≠ 0 := c19
        replace R_z18 := R_z18 (by omega)
        exfalso; omega
      · have c19 : (z18 : Int) = 0 := c19
        clear R_z18
        refine yG.num (c := 1) rfl (fun _ _ => rfl) (by decide) ?_
        refine yG.goto rfl (t := 31) rfl ?_
        refine yG.putI A_hp.1 (w_M_thrown W H_2073) (W.2.1 _ _ H_2073 (by decide) (by decide)) rfl rfl (.inl rfl) ⟨by omega, by omega⟩ (by omega) (by omega) (fun h20 T_h20 b_h20 f_h20 y_h20 => ?_)
        have M_bWf_h20 := M_bWf_hp.fr (bAx.put (Wl := [(83076749736557242056487941267521536, 0)]) (bAx.rf A_hp.1) T_h20 b_h20 f_h20 H_2073 (by decide)) (by decide)
        have A_h20 := A_hp.put T_h20 b_h20 f_h20 H_2073 (by decide)
        have : ys h20 2073 0 = 1 := (y_h20 2073 0).trans (if_pos ⟨rfl, rfl⟩)
        refine yG.load xak rfl (fun _ _ => rfl) (v := yR 2073) rfl rfl ?_
        refine yG.getI A_h20.1 (w_M_thrown W H_2073) rfl rfl (fun z21 e_z21 i_z21 l_z21 u_z21 => ?_)
        refine yG.ifz rfl (t := 43) rfl ⟨by omega, by omega⟩ (fun c22 => ?_) (fun c22 => ?_)
        · have c22 : (z21 : Int) ≤ 0 := c22
          exfalso; omega
        · have c22 : (z21 : Int) > 0 := c22
          refine yG.num (c := 0) rfl (fun _ _ => rfl) (by decide) ?_
          refine yG.ret rfl (fun _ _ => rfl) ?_
          exact (yP.int ⟨by omega, by omega⟩ ⟨⟨⟨0, rfl, by omega, by omega, by omega⟩, A_h20⟩, M_bWf_h20⟩)
    · subst c2
      refine yG.load xak rfl (fun _ _ => rfl) (v := yR 2073) rfl rfl ?_
      refine yG.load xak rfl (fun _ _ => rfl) (v := yR 2073) rfl rfl ?_
      refine yG.load xik rfl (fun _ _ => rfl) (v := yI (p1)) rfl rfl ?_
      refine yG.load xik rfl (fun _ _ => rfl) (v := yI (p2)) rfl rfl ?_
      refine yG.invV (rest := [yR 2073]) A_hp.1 (bOb (d_M W) H_2073) rfl rfl rfl rfl (c_GModel_isObject W (d + 1) A_hp.1 H_2073 (p1) (p2) (by omega) (by omega) (by omega) (by omega)) (fun rv hp9 q9 => ?_)
      obtain ⟨⟨z23, rfl, l_z23, u_z23, R_z23⟩, e9⟩ := q9
      rw [e9]
      show yG _ _ _ _ _ _ _ _ _ _ (yI z23 :: [yR 2073]) _
      refine yG.ifz rfl (t := 14) rfl ⟨by omega, by omega⟩ (fun c24 => ?_) (fun c24 => ?_)
      · have c24 : (z23 : Int) ≠ 0 := c24
        replace R_z23 := R_z23 (by omega)
        exfalso; omega
      · have c24 : (z23 : Int) = 0 := c24
        clear R_z23
        refine yG.num (c := 1) rfl (fun _ _ => rfl) (by decide) ?_
        refine yG.goto rfl (t := 31) rfl ?_
        refine yG.putI A_hp.1 (w_M_thrown W H_2073) (W.2.1 _ _ H_2073 (by decide) (by decide)) rfl rfl (.inl rfl) ⟨by omega, by omega⟩ (by omega) (by omega) (fun h25 T_h25 b_h25 f_h25 y_h25 => ?_)
        have M_bWf_h25 := M_bWf_hp.fr (bAx.put (Wl := [(83076749736557242056487941267521536, 0)]) (bAx.rf A_hp.1) T_h25 b_h25 f_h25 H_2073 (by decide)) (by decide)
        have A_h25 := A_hp.put T_h25 b_h25 f_h25 H_2073 (by decide)
        have : ys h25 2073 0 = 1 := (y_h25 2073 0).trans (if_pos ⟨rfl, rfl⟩)
        refine yG.load xak rfl (fun _ _ => rfl) (v := yR 2073) rfl rfl ?_
        refine yG.getI A_h25.1 (w_M_thrown W H_2073) rfl rfl (fun z26 e_z26 i_z26 l_z26 u_z26 => ?_)
        refine yG.ifz rfl (t := 43) rfl ⟨by omega, by omega⟩ (fun c27 => ?_) (fun c27 => ?_)
        · have c27 : (z26 : Int) ≤ 0 := c27
          exfalso; omega
        · have c27 : (z26 : Int) > 0 := c27
          refine yG.num (c := 0) rfl (fun _ _ => rfl) (by decide) ?_
          refine yG.ret rfl (fun _ _ => rfl) ?_
          exact (yP.int ⟨by omega, by omega⟩ ⟨⟨⟨0, rfl, by omega, by omega, by omega⟩, A_h25⟩, M_bWf_h25⟩)
    · subst c2
      refine yG.load xak rfl (fun _ _ => rfl) (v := yR 2073) rfl rfl ?_
      refine yG.load xak rfl (fun _ _ => rfl) (v := yR 2073) rfl rfl ?_
      refine yG.load xik rfl (fun _ _ => rfl) (v := yI (p1)) rfl rfl ?_
      refine yG.load xik rfl (fun _ _ => rfl) (v := yI (p2)) rfl rfl ?_
      refine yG.invV (rest := [yR 2073]) A_hp.1 (bOb (d_M W) H_2073) rfl rfl rfl rfl (c_GModel_isObject W (d + 1) A_hp.1 H_2073 (p1) (p2) (by omega) (by omega) (by omega) (by omega)) (fun rv hp9 q9 => ?_)
      obtain ⟨⟨z28, rfl, l_z28, u_z28, R_z28⟩, e9⟩ := q9
      rw [e9]
      show yG _ _ _ _ _ _ _ _ _ _ (yI z28 :: [yR 2073]) _
      refine yG.ifz rfl (t := 14) rfl ⟨by omega, by omega⟩ (fun c29 => ?_) (fun c29 => ?_)
      · have c29 : (z28 : Int) ≠ 0 := c29
        replace R_z28 := R_z28 (by omega)
        exfalso; omega
      · have c29 : (z28 : Int) = 0 := c29
        clear R_z28
        refine yG.num (c := 1) rfl (fun _ _ => rfl) (by decide) ?_
        refine yG.goto rfl (t := 31) rfl ?_
        refine yG.putI A_hp.1 (w_M_thrown W H_2073) (W.2.1 _ _ H_2073 (by decide) (by decide)) rfl rfl (.inl rfl) ⟨by omega, by omega⟩ (by omega) (by omega) (fun h30 T_h30 b_h30 f_h30 y_h30 => ?_)
        have M_bWf_h30 := M_bWf_hp.fr (bAx.put (Wl := [(83076749736557242056487941267521536, 0)]) (bAx.rf A_hp.1) T_h30 b_h30 f_h30 H_2073 (by decide)) (by decide)
        have A_h30 := A_hp.put T_h30 b_h30 f_h30 H_2073 (by decide)
        have : ys h30 2073 0 = 1 := (y_h30 2073 0).trans (if_pos ⟨rfl, rfl⟩)
        refine yG.load xak rfl (fun _ _ => rfl) (v := yR 2073) rfl rfl ?_
        refine yG.getI A_h30.1 (w_M_thrown W H_2073) rfl rfl (fun z31 e_z31 i_z31 l_z31 u_z31 => ?_)
        refine yG.ifz rfl (t := 43) rfl ⟨by omega, by omega⟩ (fun c32 => ?_) (fun c32 => ?_)
        · have c32 : (z31 : Int) ≤ 0 := c32
          exfalso; omega
        · have c32 : (z31 : Int) > 0 := c32
          refine yG.num (c := 0) rfl (fun _ _ => rfl) (by decide) ?_
          refine yG.ret rfl (fun _ _ => rfl) ?_
          exact (yP.int ⟨by omega, by omega⟩ ⟨⟨⟨0, rfl, by omega, by omega, by omega⟩, A_h30⟩, M_bWf_h30⟩)
    · subst c2
      refine yG.load xak rfl (fun _ _ => rfl) (v := yR 2073) rfl rfl ?_
      refine yG.load xak rfl (fun _ _ => rfl) (v := yR 2073) rfl rfl ?_
      refine yG.load xik rfl (fun _ _ => rfl) (v := yI (p1)) rfl rfl ?_
      refine yG.load xik rfl (fun _ _ => rfl) (v := yI (p2)) rfl rfl ?_
      refine yG.invV (rest := [yR 2073]) A_hp.1 (bOb (d_M W) H_2073) rfl rfl rfl rfl (c_GModel_isObject W (d + 1) A_hp.1 H_2073 (p1) (p2) (by omega) (by omega) (by omega) (by omega)) (fun rv hp9 q9 => ?_)
      obtain ⟨⟨z33, rfl, l_z33, u_z33, R_z33⟩, e9⟩ := q9
      rw [e9]
      show yG _ _ _ _ _ _ _ _ _ _ (yI z33 :: [yR 2073]) _
      refine yG.ifz rfl (t := 14) rfl ⟨by omega, by omega⟩ (fun c34 => ?_) (fun c34 => ?_)
      · have c34 : (z33 : Int) ≠ 0 := c34
        replace R_z33 := R_z33 (by omega)
        exfalso; omega
      · have c34 : (z33 : Int) = 0 := c34
        clear R_z33
        refine yG.num (c := 1) rfl (fun _ _ => rfl) (by decide) ?_
        refine yG.goto rfl (t := 31) rfl ?_
        refine yG.putI A_hp.1 (w_M_thrown W H_2073) (W.2.1 _ _ H_2073 (by decide) (by decide)) rfl rfl (.inl rfl) ⟨by omega, by omega⟩ (by omega) (by omega) (fun h35 T_h35 b_h35 f_h35 y_h35 => ?_)
        have M_bWf_h35 := M_bWf_hp.fr (bAx.put (Wl := [(83076749736557242056487941267521536, 0)]) (bAx.rf A_hp.1) T_h35 b_h35 f_h35 H_2073 (by decide)) (by decide)
        have A_h35 := A_hp.put T_h35 b_h35 f_h35 H_2073 (by decide)
        have : ys h35 2073 0 = 1 := (y_h35 2073 0).trans (if_pos ⟨rfl, rfl⟩)
        refine yG.load xak rfl (fun _ _ => rfl) (v := yR 2073) rfl rfl ?_
        refine yG.getI A_h35.1 (w_M_thrown W H_2073) rfl rfl (fun z36 e_z36 i_z36 l_z36 u_z36 => ?_)
        refine yG.ifz rfl (t := 43) rfl ⟨by omega, by omega⟩ (fun c37 => ?_) (fun c37 => ?_)
        · have c37 : (z36 : Int) ≤ 0 := c37
          exfalso; omega
        · have c37 : (z36 : Int) > 0 := c37
          refine yG.num (c := 0) rfl (fun _ _ => rfl) (by decide) ?_
          refine yG.ret rfl (fun _ _ => rfl) ?_
          exact (yP.int ⟨by omega, by omega⟩ ⟨⟨⟨0, rfl, by omega, by omega, by omega⟩, A_h35⟩, M_bWf_h35⟩)
    · subst c2
      refine yG.load xak rfl (fun _ _ => rfl) (v := yR 2073) rfl rfl ?_
      refine yG.load xak rfl (fun _ _ => rfl) (v := yR 2073) rfl rfl ?_
      refine yG.load xik rfl (fun _ _ => rfl) (v := yI (p1)) rfl rfl ?_
      refine yG.load xik rfl (fun _ _ => rfl) (v := yI (p2)) rfl rfl ?_
      refine yG.invV (rest := [yR 2073]) A_hp.1 (bOb (d_M W) H_2073) rfl rfl rfl rfl (c_GModel_isObject W (d + 1) A_hp.1 H_2073 (p1) (p2) (by omega) (by omega) (by omega) (by omega)) (fun rv hp9 q9 => ?_)
      obtain ⟨⟨z38, rfl, l_z38, u_z38, R_z38⟩, e9⟩ := q9
      rw [e9]
      show yG _ _ _ _ _ _ _ _ _ _ (yI z38 :: [yR 2073]) _
      refine yG.ifz rfl (t := 14) rfl ⟨by omega, by omega⟩ (fun c39 => ?_) (fun c39 => ?_)
      · have c39 : (z38 : Int) ≠ 0 := c39
        replace R_z38 := R_z38 (by omega)
        exfalso; omega
      · have c39 : (z38 : Int) = 0 := c39
        clear R_z38
        refine yG.num (c := 1) rfl (fun _ _ => rfl) (by decide) ?_
        refine yG.goto rfl (t := 31) rfl ?_
        refine yG.putI A_hp.1 (w_M_thrown W H_2073) (W.2.1 _ _ H_2073 (by decide) (by decide)) rfl rfl (.inl rfl) ⟨by omega, by omega⟩ (by omega) (by omega) (fun h40 T_h40 b_h40 f_h40 y_h40 => ?_)
        have M_bWf_h40 := M_bWf_hp.fr (bAx.put (Wl := [(83076749736557242056487941267521536, 0)]) (bAx.rf A_hp.1) T_h40 b_h40 f_h40 H_2073 (by decide)) (by decide)
        have A_h40 := A_hp.put T_h40 b_h40 f_h40 H_2073 (by decide)
        have : ys h40 2073 0 = 1 := (y_h40 2073 0).trans (if_pos ⟨rfl, rfl⟩)
        refine yG.load xak rfl (fun _ _ => rfl) (v := yR 2073) rfl rfl ?_
        refine yG.getI A_h40.1 (w_M_thrown W H_2073) rfl rfl (fun z41 e_z41 i_z41 l_z41 u_z41 => ?_)
        refine yG.ifz rfl (t := 43) rfl ⟨by omega, by omega⟩ (fun c42 => ?_) (fun c42 => ?_)
        · have c42 : (z41 : Int) ≤ 0 := c42
          exfalso; omega
        · have c42 : (z41 : Int) > 0 := c42
          refine yG.num (c := 0) rfl (fun _ _ => rfl) (by decide) ?_
          refine yG.ret rfl (fun _ _ => rfl) ?_
          exact (yP.int ⟨by omega, by omega⟩ ⟨⟨⟨0, rfl, by omega, by omega, by omega⟩, A_h40⟩, M_bWf_h40⟩)
    · subst c2
      refine yG.load xak rfl (fun _ _ => rfl) (v := yR 2073) rfl rfl ?_
      refine yG.load xak rfl (fun _ _ => rfl) (v := yR 2073) rfl rfl ?_
      refine yG.load xik rfl (fun _ _ => rfl) (v := yI (p1)) rfl rfl ?_
      refine yG.load xik rfl (fun _ _ => rfl) (v := yI (p2)) rfl rfl ?_
      refine yG.invV (rest := [yR 2073]) A_hp.1 (bOb (d_M W) H_2073) rfl rfl rfl rfl (c_GModel_isObject W (d + 1) A_hp.1 H_2073 (p1) (p2) (by omega) (by omega) (by omega) (by omega)) (fun rv hp9 q9 => ?_)
      obtain ⟨⟨z43, rfl, l_z43, u_z43, R_z43⟩, e9⟩ := q9
      rw [e9]
      show yG _ _ _ _ _ _ _ _ _ _ (yI z43 :: [yR 2073]) _
      refine yG.ifz rfl (t := 14) rfl ⟨by omega, by omega⟩ (fun c44 => ?_) (fun c44 => ?_)
      · have c44 : (z43 : Int) ≠ 0 := c44
        replace R_z43 := R_z43 (by omega)
        exfalso; omega
      · have c44 : (z43 : Int) = 0 := c44
        clear R_z43
        refine yG.num (c := 1) rfl (fun _ _ => rfl) (by decide) ?_
        refine yG.goto rfl (t := 31) rfl ?_
        refine yG.putI A_hp.1 (w_M_thrown W H_2073) (W.2.1 _ _ H_2073 (by decide) (by decide)) rfl rfl (.inl rfl) ⟨by omega, by omega⟩ (by omega) (by omega) (fun h45 T_h45 b_h45 f_h45 y_h45 => ?_)
        have M_bWf_h45 := M_bWf_hp.fr (bAx.put (Wl := [(83076749736557242056487941267521536, 0)]) (bAx.rf A_hp.1) T_h45 b_h45 f_h45 H_2073 (by decide)) (by decide)
        have A_h45 := A_hp.put T_h45 b_h45 f_h45 H_2073 (by decide)
        have : ys h45 2073 0 = 1 := (y_h45 2073 0).trans (if_pos ⟨rfl, rfl⟩)
        refine yG.load xak rfl (fun _ _ => rfl) (v := yR 2073) rfl rfl ?_
        refine yG.getI A_h45.1 (w_M_thrown W H_2073) rfl rfl (fun z46 e_z46 i_z46 l_z46 u_z46 => ?_)
        refine yG.ifz rfl (t := 43) rfl ⟨by omega, by omega⟩ (fun c47 => ?_) (fun c47 => ?_)
        · have c47 : (z46 : Int) ≤ 0 := c47
          exfalso; omega
        · have c47 : (z46 : Int) > 0 := c47
          refine yG.num (c := 0) rfl (fun _ _ => rfl) (by decide) ?_
          refine yG.ret rfl (fun _ _ => rfl) ?_
          exact (yP.int ⟨by omega, by omega⟩ ⟨⟨⟨0, rfl, by omega, by omega, by omega⟩, A_h45⟩, M_bWf_h45⟩)
    · subst c2
      refine yG.load xak rfl (fun _ _ => rfl) (v := yR 2073) rfl rfl ?_
      refine yG.load xak rfl (fun _ _ => rfl) (v := yR 2073) rfl rfl ?_
      refine yG.load xik rfl (fun _ _ => rfl) (v := yI (p1)) rfl rfl ?_
      refine yG.load xik rfl (fun _ _ => rfl) (v := yI (p2)) rfl rfl ?_
      refine yG.invV (rest := [yR 2073]) A_hp.1 (bOb (d_M W) H_2073) rfl rfl rfl rfl (c_GModel_isObject W (d + 1) A_hp.1 H_2073 (p1) (p2) (by omega) (by omega) (by omega) (by omega)) (fun rv hp9 q9 => ?_)
      obtain ⟨⟨z48, rfl, l_z48, u_z48, R_z48⟩, e9⟩ := q9
      rw [e9]
      show yG _ _ _ _ _ _ _ _ _ _ (yI z48 :: [yR 2073]) _
      refine yG.ifz rfl (t := 14) rfl ⟨by omega, by omega⟩ (fun c49 => ?_) (fun c49 => ?_)
      · have c49 : (z48 : Int) ≠ 0 := c49
        replace R_z48 := R_z48 (by omega)
        exfalso; omega
      · have c49 : (z48 : Int) = 0 := c49
        clear R_z48
        refine yG.num (c := 1) rfl (fun _ _ => rfl) (by decide) ?_
        refine yG.goto rfl (t := 31) rfl ?_
        refine yG.putI A_hp.1 (w_M_thrown W H_2073) (W.2.1 _ _ H_2073 (by decide) (by decide)) rfl rfl (.inl rfl) ⟨by omega, by omega⟩ (by omega) (by omega) (fun h50 T_h50 b_h50 f_h50 y_h50 => ?_)
        have M_bWf_h50 := M_bWf_hp.fr (bAx.put (Wl := [(83076749736557242056487941267521536, 0)]) (bAx.rf A_hp.1) T_h50 b_h50 f_h50 H_2073 (by decide)) (by decide)
        have A_h50 := A_hp.put T_h50 b_h50 f_h50 H_2073 (by decide)
        have : ys h50 2073 0 = 1 := (y_h50 2073 0).trans (if_pos ⟨rfl, rfl⟩)
        refine yG.load xak rfl (fun _ _ => rfl) (v := yR 2073) rfl rfl ?_
        refine yG.getI A_h50.1 (w_M_thrown W H_2073) rfl rfl (fun z51 e_z51 i_z51 l_z51 u_z51 => ?_)
        refine yG.ifz rfl (t := 43) rfl ⟨by omega, by omega⟩ (fun c52 => ?_) (fun c52 => ?_)
        · have c52 : (z51 : Int) ≤ 0 := c52
          exfalso; omega
        · have c52 : (z51 : Int) > 0 := c52
          refine yG.num (c := 0) rfl (fun _ _ => rfl) (by decide) ?_
          refine yG.ret rfl (fun _ _ => rfl) ?_
          exact (yP.int ⟨by omega, by omega⟩ ⟨⟨⟨0, rfl, by omega, by omega, by omega⟩, A_h50⟩, M_bWf_h50⟩)
    · subst c2
      refine yG.load xak rfl (fun _ _ => rfl) (v := yR 2073) rfl rfl ?_
      refine yG.load xak rfl (fun _ _ => rfl) (v := yR 2073) rfl rfl ?_
      refine yG.load xik rfl (fun _ _ => rfl) (v := yI (p1)) rfl rfl ?_
      refine yG.load xik rfl (fun _ _ => rfl) (v := yI (p2)) rfl rfl ?_
      refine yG.invV (rest := [yR 2073]) A_hp.1 (bOb (d_M W) H_2073) rfl rfl rfl rfl (c_GModel_isObject W (d + 1) A_hp.1 H_2073 (p1) (p2) (by omega) (by omega) (by omega) (by omega)) (fun rv hp9 q9 => ?_)
      obtain ⟨⟨z53, rfl, l_z53, u_z53, R_z53⟩, e9⟩ := q9
      rw [e9]
      show yG _ _ _ _ _ _ _ _ _ _ (yI z53 :: [yR 2073]) _
      refine yG.ifz rfl (t := 14) rfl ⟨by omega, by omega⟩ (fun c54 => ?_) (fun c54 => ?_)
      · have c54 : (z53 : Int) ≠ 0 := c54
        replace R_z53 := R_z53 (by omega)
        exfalso; omega
      · have c54 : (z53 : Int) = 0 := c54
        clear R_z53
        refine yG.num (c := 1) rfl (fun _ _ => rfl) (by decide) ?_
        refine yG.goto rfl (t := 31) rfl ?_
        refine yG.putI A_hp.1 (w_M_thrown W H_2073) (W.2.1 _ _ H_2073 (by decide) (by decide)) rfl rfl (.inl rfl) ⟨by omega, by omega⟩ (by omega) (by omega) (fun h55 T_h55 b_h55 f_h55 y_h55 => ?_)
        have M_bWf_h55 := M_bWf_hp.fr (bAx.put (Wl := [(83076749736557242056487941267521536, 0)]) (bAx.rf A_hp.1) T_h55 b_h55 f_h55 H_2073 (by decide)) (by decide)
        have A_h55 := A_hp.put T_h55 b_h55 f_h55 H_2073 (by decide)
        have : ys h55 2073 0 = 1 := (y_h55 2073 0).trans (if_pos ⟨rfl, rfl⟩)
        refine yG.load xak rfl (fun _ _ => rfl) (v := yR 2073) rfl rfl ?_
        refine yG.getI A_h55.1 (w_M_thrown W H_2073) rfl rfl (fun z56 e_z56 i_z56 l_z56 u_z56 => ?_)
        refine yG.ifz rfl (t := 43) rfl ⟨by omega, by omega⟩ (fun c57 => ?_) (fun c57 => ?_)
        · have c57 : (z56 : Int) ≤ 0 := c57
          exfalso; omega
        · have c57 : (z56 : Int) > 0 := c57
          refine yG.num (c := 0) rfl (fun _ _ => rfl) (by decide) ?_
          refine yG.ret rfl (fun _ _ => rfl) ?_
          exact (yP.int ⟨by omega, by omega⟩ ⟨⟨⟨0, rfl, by omega, by omega, by omega⟩, A_h55⟩, M_bWf_h55⟩)
    · subst c2
      refine yG.load xak rfl (fun _ _ => rfl) (v := yR 2073) rfl rfl ?_
      refine yG.load xak rfl (fun _ _ => rfl) (v := yR 2073) rfl rfl ?_
      refine yG.load xik rfl (fun _ _ => rfl) (v := yI (p1)) rfl rfl ?_
      refine yG.load xik rfl (fun _ _ => rfl) (v := yI (p2)) rfl rfl ?_
      refine yG.invV (rest := [yR 2073]) A_hp.1 (bOb (d_M W) H_2073) rfl rfl rfl rfl (c_GModel_isObject W (d + 1) A_hp.1 H_2073 (p1) (p2) (by omega) (by omega) (by omega) (by omega)) (fun rv hp9 q9 => ?_)
      obtain ⟨⟨z58, rfl, l_z58, u_z58, R_z58⟩, e9⟩ := q9
      rw [e9]
      show yG _ _ _ _ _ _ _ _ _ _ (yI z58 :: [yR 2073]) _
      refine yG.ifz rfl (t := 14) rfl ⟨by omega, by omega⟩ (fun c59 => ?_) (fun c59 => ?_)
      · have c59 : (z58 : Int) ≠ 0 := c59
        replace R_z58 := R_z58 (by omega)
        exfalso; omega
      · have c59 : (z58 : Int) = 0 := c59
        clear R_z58
        refine yG.num (c := 1) rfl (fun _ _ => rfl) (by decide) ?_
        refine yG.goto rfl (t := 31) rfl ?_
        refine yG.putI A_hp.1 (w_M_thrown W H_2073) (W.2.1 _ _ H_2073 (by decide) (by decide)) rfl rfl (.inl rfl) ⟨by omega, by omega⟩ (by omega) (by omega) (fun h60 T_h60 b_h60 f_h60 y_h60 => ?_)
        have M_bWf_h60 := M_bWf_hp.fr (bAx.put (Wl := [(83076749736557242056487941267521536, 0)]) (bAx.rf A_hp.1) T_h60 b_h60 f_h60 H_2073 (by decide)) (by decide)
        have A_h60 := A_hp.put T_h60 b_h60 f_h60 H_2073 (by decide)
        have : ys h60 2073 0 = 1 := (y_h60 2073 0).trans (if_pos ⟨rfl, rfl⟩)
        refine yG.load xak rfl (fun _ _ => rfl) (v := yR 2073) rfl rfl ?_
        refine yG.getI A_h60.1 (w_M_thrown W H_2073) rfl rfl (fun z61 e_z61 i_z61 l_z61 u_z61 => ?_)
        refine yG.ifz rfl (t := 43) rfl ⟨by omega, by omega⟩ (fun c62 => ?_) (fun c62 => ?_)
        · have c62 : (z61 : Int) ≤ 0 := c62
          exfalso; omega
        · have c62 : (z61 : Int) > 0 := c62
          refine yG.num (c := 0) rfl (fun _ _ => rfl) (by decide) ?_
          refine yG.ret rfl (fun _ _ => rfl) ?_
          exact (yP.int ⟨by omega, by omega⟩ ⟨⟨⟨0, rfl, by omega, by omega, by omega⟩, A_h60⟩, M_bWf_h60⟩)
    · subst c2
      refine yG.load xak rfl (fun _ _ => rfl) (v := yR 2073) rfl rfl ?_
      refine yG.load xak rfl (fun _ _ => rfl) (v := yR 2073) rfl rfl ?_
      refine yG.load xik rfl (fun _ _ => rfl) (v := yI (p1)) rfl rfl ?_
      refine yG.load xik rfl (fun _ _ => rfl) (v := yI (p2)) rfl rfl ?_
      refine yG.invV (rest := [yR 2073]) A_hp.1 (bOb (d_M W) H_2073) rfl rfl rfl rfl (c_GModel_isObject W (d + 1) A_hp.1 H_2073 (p1) (p2) (by omega) (by omega) (by omega) (by omega)) (fun rv hp9 q9 => ?_)
      obtain ⟨⟨z63, rfl, l_z63, u_z63, R_z63⟩, e9⟩ := q9
      rw [e9]
      show yG _ _ _ _ _ _ _ _ _ _ (yI z63 :: [yR 2073]) _
      refine yG.ifz rfl (t := 14) rfl ⟨by omega, by omega⟩ (fun c64 => ?_) (fun c64 => ?_)
      · have c64 : (z63 : Int) ≠ 0 := c64
        replace R_z63 := R_z63 (by omega)
        exfalso; omega
      · have c64 : (z63 : Int) = 0 := c64
        clear R_z63
        refine yG.num (c := 1) rfl (fun _ _ => rfl) (by decide) ?_
        refine yG.goto rfl (t := 31) rfl ?_
        refine yG.putI A_hp.1 (w_M_thrown W H_2073) (W.2.1 _ _ H_2073 (by decide) (by decide)) rfl rfl (.inl rfl) ⟨by omega, by omega⟩ (by omega) (by omega) (fun h65 T_h65 b_h65 f_h65 y_h65 => ?_)
        have M_bWf_h65 := M_bWf_hp.fr (bAx.put (Wl := [(83076749736557242056487941267521536, 0)]) (bAx.rf A_hp.1) T_h65 b_h65 f_h65 H_2073 (by decide)) (by decide)
        have A_h65 := A_hp.put T_h65 b_h65 f_h65 H_2073 (by decide)
        have : ys h65 2073 0 = 1 := (y_h65 2073 0).trans (if_pos ⟨rfl, rfl⟩)
        refine yG.load xak rfl (fun _ _ => rfl) (v := yR 2073) rfl rfl ?_
        refine yG.getI A_h65.1 (w_M_thrown W H_2073) rfl rfl (fun z66 e_z66 i_z66 l_z66 u_z66 => ?_)
        refine yG.ifz rfl (t := 43) rfl ⟨by omega, by omega⟩ (fun c67 => ?_) (fun c67 => ?_)
        · have c67 : (z66 : Int) ≤ 0 := c67
          exfalso; omega
        · have c67 : (z66 : Int) > 0 := c67
          refine yG.num (c := 0) rfl (fun _ _ => rfl) (by decide) ?_
          refine yG.ret rfl (fun _ _ => rfl) ?_
          exact (yP.int ⟨by omega, by omega⟩ ⟨⟨⟨0, rfl, by omega, by omega, by omega⟩, A_h65⟩, M_bWf_h65⟩)
  · skip
    rcases (show p3 ≤ (-1) ∨ p3 ≥ 11 ∨ p3 = 0 ∨ p3 = 1 ∨ p3 = 2 ∨ p3 = 3 ∨ p3 = 4 ∨ p3 = 5 ∨ p3 = 6 ∨ p3 = 7 ∨ p3 = 8 ∨ p3 = 9 ∨ p3 = 10 by omega) with c68 | c68 | c68 | c68 | c68 | c68 | c68 | c68 | c68 | c68 | c68 | c68 | c68
    · skip
      refine yG.load xak rfl (fun _ _ => rfl) (v := yR 2073) rfl rfl ?_
      refine yG.load xak rfl (fun _ _ => rfl) (v := yR 2073) rfl rfl ?_
      refine yG.load xik rfl (fun _ _ => rfl) (v := yI (p1)) rfl rfl ?_
      refine yG.load xik rfl (fun _ _ => rfl) (v := yI (p2)) rfl rfl ?_
      refine yG.invV (rest := [yR 2073]) A_hp.1 (bOb (d_M W) H_2073) rfl rfl rfl rfl (c_GModel_isObject W (d + 1) A_hp.1 H_2073 (p1) (p2) (by omega) (by omega) (by omega) (by omega)) (fun rv hp9 q9 => ?_)
      obtain ⟨⟨z69, rfl, l_z69, u_z69, R_z69⟩, e9⟩ := q9
      rw [e9]
      show yG _ _ _ _ _ _ _ _ _ _ (yI z69 :: [yR 2073]) _
      refine yG.ifz rfl (t := 14) rfl ⟨by omega, by omega⟩ (fun c70 => ?_) (fun c70 => ?_)
      · have c70 : (z69 : Int) ≠ 0 := c70
        replace R_z69 := R_z69 (by omega)
        exfalso; omega
      · have c70 : (z69 : Int) = 0 := c70
        clear R_z69
        refine yG.num (c := 1) rfl (fun _ _ => rfl) (by decide) ?_
        refine yG.goto rfl (t := 31) rfl ?_
        refine yG.putI A_hp.1 (w_M_thrown W H_2073) (W.2.1 _ _ H_2073 (by decide) (by decide)) rfl rfl (.inl rfl) ⟨by omega, by omega⟩ (by omega) (by omega) (fun h71 T_h71 b_h71 f_h71 y_h71 => ?_)
        have M_bWf_h71 := M_bWf_hp.fr (bAx.put (Wl := [(83076749736557242056487941267521536, 0)]) (bAx.rf A_hp.1) T_h71 b_h71 f_h71 H_2073 (by decide)) (by decide)
        have A_h71 := A_hp.put T_h71 b_h71 f_h71 H_2073 (by decide)
        have : ys h71 2073 0 = 1 := (y_h71 2073 0).trans (if_pos ⟨rfl, rfl⟩)
        refine yG.load xak rfl (fun _ _ => rfl) (v := yR 2073) rfl rfl ?_
        refine yG.getI A_h71.1 (w_M_thrown W H_2073) rfl rfl (fun z72 e_z72 i_z72 l_z72 u_z72 => ?_)
        refine yG.ifz rfl (t := 43) rfl ⟨by omega, by omega⟩ (fun c73 => ?_) (fun c73 => ?_)
        · have c73 : (z72 : Int) ≤ 0 := c73
          exfalso; omega
        · have c73 : (z72 : Int) > 0 := c73
          refine yG.num (c := 0) rfl (fun _ _ => rfl) (by decide) ?_
          refine yG.ret rfl (fun _ _ => rfl) ?_
          exact (yP.int ⟨by omega, by omega⟩ ⟨⟨⟨0, rfl, by omega, by omega, by omega⟩, A_h71⟩, M_bWf_h71⟩)
    · skip
      refine yG.load xak rfl (fun _ _ => rfl) (v := yR 2073) rfl rfl ?_
      refine yG.load xak rfl (fun _ _ => rfl) (v := yR 2073) rfl rfl ?_
      refine yG.load xik rfl (fun _ _ => rfl) (v := yI (p1)) rfl rfl ?_
      refine yG.load xik rfl (fun _ _ => rfl) (v := yI (p2)) rfl rfl ?_
      refine yG.invV (rest := [yR 2073]) A_hp.1 (bOb (d_M W) H_2073) rfl rfl rfl rfl (c_GModel_isObject W (d + 1) A_hp.1 H_2073 (p1) (p2) (by omega) (by omega) (by omega) (by omega)) (fun rv hp9 q9 => ?_)
      obtain ⟨⟨z74, rfl, l_z74, u_z74, R_z74⟩, e9⟩ := q9
      rw [e9]
      show yG _ _ _ _ _ _ _ _ _ _ (yI z74 :: [yR 2073]) _
      refine yG.ifz rfl (t := 14) rfl ⟨by omega, by omega⟩ (fun c75 => ?_) (fun c75 => ?_)
      · have c75 : (z74 : Int) ≠ 0 := c75
        replace R_z74 := R_z74 (by omega)
        exfalso; omega
      · have c75 : (z74 : Int) = 0 := c75
        clear R_z74
        refine yG.num (c := 1) rfl (fun _ _ => rfl) (by decide) ?_
        refine yG.goto rfl (t := 31) rfl ?_
        refine yG.putI A_hp.1 (w_M_thrown W H_2073) (W.2.1 _ _ H_2073 (by decide) (by decide)) rfl rfl (.inl rfl) ⟨by omega, by omega⟩ (by omega) (by omega) (fun h76 T_h76 b_h76 f_h76 y_h76 => ?_)
        have M_bWf_h76 := M_bWf_hp.fr (bAx.put (Wl := [(83076749736557242056487941267521536, 0)]) (bAx.rf A_hp.1) T_h76 b_h76 f_h76 H_2073 (by decide)) (by decide)
        have A_h76 := A_hp.put T_h76 b_h76 f_h76 H_2073 (by decide)
        have : ys h76 2073 0 = 1 := (y_h76 2073 0).trans (if_pos ⟨rfl, rfl⟩)
        refine yG.load xak rfl (fun _ _ => rfl) (v := yR 2073) rfl rfl ?_
        refine yG.getI A_h76.1 (w_M_thrown W H_2073) rfl rfl (fun z77 e_z77 i_z77 l_z77 u_z77 => ?_)
        refine yG.ifz rfl (t := 43) rfl ⟨by omega, by omega⟩ (fun c78 => ?_) (fun c78 => ?_)
        · have c78 : (z77 : Int) ≤ 0 := c78
          exfalso; omega
        · have c78 : (z77 : Int) > 0 := c78
          refine yG.num (c := 0) rfl (fun _ _ => rfl) (by decide) ?_
          refine yG.ret rfl (fun _ _ => rfl) ?_
          exact (yP.int ⟨by omega, by omega⟩ ⟨⟨⟨0, rfl, by omega, by omega, by omega⟩, A_h76⟩, M_bWf_h76⟩)
    · subst c68
      refine yG.load xak rfl (fun _ _ => rfl) (v := yR 2073) rfl rfl ?_
      refine yG.load xak rfl (fun _ _ => rfl) (v := yR 2073) rfl rfl ?_
      refine yG.load xik rfl (fun _ _ => rfl) (v := yI (p1)) rfl rfl ?_
      refine yG.load xik rfl (fun _ _ => rfl) (v := yI (p2)) rfl rfl ?_
      refine yG.invV (rest := [yR 2073]) A_hp.1 (bOb (d_M W) H_2073) rfl rfl rfl rfl (c_GModel_isObject W (d + 1) A_hp.1 H_2073 (p1) (p2) (by omega) (by omega) (by omega) (by omega)) (fun rv hp9 q9 => ?_)
      obtain ⟨⟨z79, rfl, l_z79, u_z79, R_z79⟩, e9⟩ := q9
      rw [e9]
      show yG _ _ _ _ _ _ _ _ _ _ (yI z79 :: [yR 2073]) _
      refine yG.ifz rfl (t := 14) rfl ⟨by omega, by omega⟩ (fun c80 => ?_) (fun c80 => ?_)
      · have c80 : (z79 : Int) ≠ 0 := c80
        replace R_z79 := R_z79 (by omega)
        exfalso; omega
      · have c80 : (z79 : Int) = 0 := c80
        clear R_z79
        refine yG.num (c := 1) rfl (fun _ _ => rfl) (by decide) ?_
        refine yG.goto rfl (t := 31) rfl ?_
        refine yG.putI A_hp.1 (w_M_thrown W H_2073) (W.2.1 _ _ H_2073 (by decide) (by decide)) rfl rfl (.inl rfl) ⟨by omega, by omega⟩ (by omega) (by omega) (fun h81 T_h81 b_h81 f_h81 y_h81 => ?_)
        have M_bWf_h81 := M_bWf_hp.fr (bAx.put (Wl := [(83076749736557242056487941267521536, 0)]) (bAx.rf A_hp.1) T_h81 b_h81 f_h81 H_2073 (by decide)) (by decide)
        have A_h81 := A_hp.put T_h81 b_h81 f_h81 H_2073 (by decide)
        have : ys h81 2073 0 = 1 := (y_h81 2073 0).trans (if_pos ⟨rfl, rfl⟩)
        refine yG.load xak rfl (fun _ _ => rfl) (v := yR 2073) rfl rfl ?_
        refine yG.getI A_h81.1 (w_M_thrown W H_2073) rfl rfl (fun z82 e_z82 i_z82 l_z82 u_z82 => ?_)
        refine yG.ifz rfl (t := 43) rfl ⟨by omega, by omega⟩ (fun c83 => ?_) (fun c83 => ?_)
        · have c83 : (z82 : Int) ≤ 0 := c83
          exfalso; omega
        · have c83 : (z82 : Int) > 0 := c83
          refine yG.num (c := 0) rfl (fun _ _ => rfl) (by decide) ?_
          refine yG.ret rfl (fun _ _ => rfl) ?_
          exact (yP.int ⟨by omega, by omega⟩ ⟨⟨⟨0, rfl, by omega, by omega, by omega⟩, A_h81⟩, M_bWf_h81⟩)
    · subst c68
      refine yG.load xak rfl (fun _ _ => rfl) (v := yR 2073) rfl rfl ?_
      refine yG.load xak rfl (fun _ _ => rfl) (v := yR 2073) rfl rfl ?_
      refine yG.load xik rfl (fun _ _ => rfl) (v := yI (p1)) rfl rfl ?_
      refine yG.load xik rfl (fun _ _ => rfl) (v := yI (p2)) rfl rfl ?_
      refine yG.invV (rest := [yR 2073]) A_hp.1 (bOb (d_M W) H_2073) rfl rfl rfl rfl (c_GModel_isObject W (d + 1) A_hp.1 H_2073 (p1) (p2) (by omega) (by omega) (by omega) (by omega)) (fun rv hp9 q9 => ?_)
      obtain ⟨⟨z84, rfl, l_z84, u_z84, R_z84⟩, e9⟩ := q9
      rw [e9]
      show yG _ _ _ _ _ _ _ _ _ _ (yI z84 :: [yR 2073]) _
      refine yG.ifz rfl (t := 14) rfl ⟨by omega, by omega⟩ (fun c85 => ?_) (fun c85 => ?_)
      · have c85 : (z84 : Int) ≠ 0 := c85
        replace R_z84 := R_z84 (by omega)
        exfalso; omega
      · have c85 : (z84 : Int) = 0 := c85
        clear R_z84
        refine yG.num (c := 1) rfl (fun _ _ => rfl) (by decide) ?_
        refine yG.goto rfl (t := 31) rfl ?_
        refine yG.putI A_hp.1 (w_M_thrown W H_2073) (W.2.1 _ _ H_2073 (by decide) (by decide)) rfl rfl (.inl rfl) ⟨by omega, by omega⟩ (by omega) (by omega) (fun h86 T_h86 b_h86 f_h86 y_h86 => ?_)
        have M_bWf_h86 := M_bWf_hp.fr (bAx.put (Wl := [(83076749736557242056487941267521536, 0)]) (bAx.rf A_hp.1) T_h86 b_h86 f_h86 H_2073 (by decide)) (by decide)
        have A_h86 := A_hp.put T_h86 b_h86 f_h86 H_2073 (by decide)
        have : ys h86 2073 0 = 1 := (y_h86 2073 0).trans (if_pos ⟨rfl, rfl⟩)
        refine yG.load xak rfl (fun _ _ => rfl) (v := yR 2073) rfl rfl ?_
        refine yG.getI A_h86.1 (w_M_thrown W H_2073) rfl rfl (fun z87 e_z87 i_z87 l_z87 u_z87 => ?_)
        refine yG.ifz rfl (t := 43) rfl ⟨by omega, by omega⟩ (fun c88 => ?_) (fun c88 => ?_)
        · have c88 : (z87 : Int) ≤ 0 := c88
          exfalso; omega
        · have c88 : (z87 : Int) > 0 := c88
          refine yG.num (c := 0) rfl (fun _ _ => rfl) (by decide) ?_
          refine yG.ret rfl (fun _ _ => rfl) ?_
          exact (yP.int ⟨by omega, by omega⟩ ⟨⟨⟨0, rfl, by omega, by omega, by omega⟩, A_h86⟩, M_bWf_h86⟩)
    · subst c68
      refine yG.load xak rfl (fun _ _ => rfl) (v := yR 2073) rfl rfl ?_
      refine yG.load xak rfl (fun _ _ => rfl) (v := yR 2073) rfl rfl ?_
      refine yG.load xik rfl (fun _ _ => rfl) (v := yI (p1)) rfl rfl ?_
      refine yG.load xik rfl (fun _ _ => rfl) (v := yI (p2)) rfl rfl ?_
      refine yG.invV (rest := [yR 2073]) A_hp.1 (bOb (d_M W) H_2073) rfl rfl rfl rfl (c_GModel_isObject W (d + 1) A_hp.1 H_2073 (p1) (p2) (by omega) (by omega) (by omega) (by omega)) (fun rv hp9 q9 => ?_)
      obtain ⟨⟨z89, rfl, l_z89, u_z89, R_z89⟩, e9⟩ := q9
      rw [e9]
      show yG _ _ _ _ _ _ _ _ _ _ (yI z89 :: [yR 2073]) _
      refine yG.ifz rfl (t := 14) rfl ⟨by omega, by omega⟩ (fun c90 => ?_) (fun c90 => ?_)
      · have c90 : (z89 : Int) ≠ 0 := c90
        replace R_z89 := R_z89 (by omega)
        exfalso; omega
      · have c90 : (z89 : Int) = 0 := c90
        clear R_z89
        refine yG.num (c := 1) rfl (fun _ _ => rfl) (by decide) ?_
        refine yG.goto rfl (t := 31) rfl ?_
        refine yG.putI A_hp.1 (w_M_thrown W H_2073) (W.2.1 _ _ H_2073 (by decide) (by decide)) rfl rfl (.inl rfl) ⟨by omega, by omega⟩ (by omega) (by omega) (fun h91 T_h91 b_h91 f_h91 y_h91 => ?_)
        have M_bWf_h91 := M_bWf_hp.fr (bAx.put (Wl := [(83076749736557242056487941267521536, 0)]) (bAx.rf A_hp.1) T_h91 b_h91 f_h91 H_2073 (by decide)) (by decide)
        have A_h91 := A_hp.put T_h91 b_h91 f_h91 H_2073 (by decide)
        have : ys h91 2073 0 = 1 := (y_h91 2073 0).trans (if_pos ⟨rfl, rfl⟩)
        refine yG.load xak rfl (fun _ _ => rfl) (v := yR 2073) rfl rfl ?_
        refine yG.getI A_h91.1 (w_M_thrown W H_2073) rfl rfl (fun z92 e_z92 i_z92 l_z92 u_z92 => ?_)
        refine yG.ifz rfl (t := 43) rfl ⟨by omega, by omega⟩ (fun c93 => ?_) (fun c93 => ?_)
        · have c93 : (z92 : Int) ≤ 0 := c93
          exfalso; omega
        · have c93 : (z92 : Int) > 0 := c93
          refine yG.num (c := 0) rfl (fun _ _ => rfl) (by decide) ?_
          refine yG.ret rfl (fun _ _ => rfl) ?_
          exact (yP.int ⟨by omega, by omega⟩ ⟨⟨⟨0, rfl, by omega, by omega, by omega⟩, A_h91⟩, M_bWf_h91⟩)
    · subst c68
      refine yG.load xak rfl (fun _ _ => rfl) (v := yR 2073) rfl rfl ?_
      refine yG.load xak rfl (fun _ _ => rfl) (v := yR 2073) rfl rfl ?_
      refine yG.load xik rfl (fun _ _ => rfl) (v := yI (p1)) rfl rfl ?_
      refine yG.load xik rfl (fun _ _ => rfl) (v := yI (p2)) rfl rfl ?_
      refine yG.invV (rest := [yR 2073]) A_hp.1 (bOb (d_M W) H_2073) rfl rfl rfl rfl (c_GModel_isObject W (d + 1) A_hp.1 H_2073 (p1) (p2) (by omega) (by omega) (by omega) (by omega)) (fun rv hp9 q9 => ?_)
      obtain ⟨⟨z94, rfl, l_z94, u_z94, R_z94⟩, e9⟩ := q9
      rw [e9]
      show yG _ _ _ _ _ _ _ _ _ _ (yI z94 :: [yR 2073]) _
      refine yG.ifz rfl (t := 14) rfl ⟨by omega, by omega⟩ (fun c95 => ?_) (fun c95 => ?_)
      · have c95 : (z94 : Int) ≠ 0 := c95
        replace R_z94 := R_z94 (by omega)
        exfalso; omega
      · have c95 : (z94 : Int) = 0 := c95
        clear R_z94
        refine yG.num (c := 1) rfl (fun _ _ => rfl) (by decide) ?_
        refine yG.goto rfl (t := 31) rfl ?_
        refine yG.putI A_hp.1 (w_M_thrown W H_2073) (W.2.1 _ _ H_2073 (by decide) (by decide)) rfl rfl (.inl rfl) ⟨by omega, by omega⟩ (by omega) (by omega) (fun h96 T_h96 b_h96 f_h96 y_h96 => ?_)
        have M_bWf_h96 := M_bWf_hp.fr (bAx.put (Wl := [(83076749736557242056487941267521536, 0)]) (bAx.rf A_hp.1) T_h96 b_h96 f_h96 H_2073 (by decide)) (by decide)
        have A_h96 := A_hp.put T_h96 b_h96 f_h96 H_2073 (by decide)
        have : ys h96 2073 0 = 1 := (y_h96 2073 0).trans (if_pos ⟨rfl, rfl⟩)
        refine yG.load xak rfl (fun _ _ => rfl) (v := yR 2073) rfl rfl ?_
        refine yG.getI A_h96.1 (w_M_thrown W H_2073) rfl rfl (fun z97 e_z97 i_z97 l_z97 u_z97 => ?_)
        refine yG.ifz rfl (t := 43) rfl ⟨by omega, by omega⟩ (fun c98 => ?_) (fun c98 => ?_)
        · have c98 : (z97 : Int) ≤ 0 := c98
          exfalso; omega
        · have c98 : (z97 : Int) > 0 := c98
          refine yG.num (c := 0) rfl (fun _ _ => rfl) (by decide) ?_
          refine yG.ret rfl (fun _ _ => rfl) ?_
          exact (yP.int ⟨by omega, by omega⟩ ⟨⟨⟨0, rfl, by omega, by omega, by omega⟩, A_h96⟩, M_bWf_h96⟩)
    · subst c68
      refine yG.load xak rfl (fun _ _ => rfl) (v := yR 2073) rfl rfl ?_
      refine yG.load xak rfl (fun _ _ => rfl) (v := yR 2073) rfl rfl ?_
      refine yG.load xik rfl (fun _ _ => rfl) (v := yI (p1)) rfl rfl ?_
      refine yG.load xik rfl (fun _ _ => rfl) (v := yI (p2)) rfl rfl ?_
      refine yG.invV (rest := [yR 2073]) A_hp.1 (bOb (d_M W) H_2073) rfl rfl rfl rfl (c_GModel_isObject W (d + 1) A_hp.1 H_2073 (p1) (p2) (by omega) (by omega) (by omega) (by omega)) (fun rv hp9 q9 => ?_)
      obtain ⟨⟨z99, rfl, l_z99, u_z99, R_z99⟩, e9⟩ := q9
      rw [e9]
      show yG _ _ _ _ _ _ _ _ _ _ (yI z99 :: [yR 2073]) _
      refine yG.ifz rfl (t := 14) rfl ⟨by omega, by omega⟩ (fun c100 => ?_) (fun c100 => ?_)
      · have c100 : (z99 : Int) ≠ 0 := c100
        replace R_z99 := R_z99 (by omega)
        exfalso; omega
      · have c100 : (z99 : Int) = 0 := c100
        clear R_z99
        refine yG.num (c := 1) rfl (fun _ _ => rfl) (by decide) ?_
        refine yG.goto rfl (t := 31) rfl ?_
        refine yG.putI A_hp.1 (w_M_thrown W H_2073) (W.2.1 _ _ H_2073 (by decide) (by decide)) rfl rfl (.inl rfl) ⟨by omega, by omega⟩ (by omega) (by omega) (fun h101 T_h101 b_h101 f_h101 y_h101 => ?_)
        have M_bWf_h101 := M_bWf_hp.fr (bAx.put (Wl := [(83076749736557242056487941267521536, 0)]) (bAx.rf A_hp.1) T_h101 b_h101 f_h101 H_2073 (by decide)) (by decide)
        have A_h101 := A_hp.put T_h101 b_h101 f_h101 H_2073 (by decide)
        have : ys h101 2073 0 = 1 := (y_h101 2073 0).trans (if_pos ⟨rfl, rfl⟩)
        refine yG.load xak rfl (fun _ _ => rfl) (v := yR 2073) rfl rfl ?_
        refine yG.getI A_h101.1 (w_M_thrown W H_2073) rfl rfl (fun z102 e_z102 i_z102 l_z102 u_z102 => ?_)
        refine yG.ifz rfl (t := 43) rfl ⟨by omega, by omega⟩ (fun c103 => ?_) (fun c103 => ?_)
        · have c103 : (z102 : Int) ≤ 0 := c103
          exfalso; omega
        · have c103 : (z102 : Int) > 0 := c103
          refine yG.num (c := 0) rfl (fun _ _ => rfl) (by decide) ?_
          refine yG.ret rfl (fun _ _ => rfl) ?_
          exact (yP.int ⟨by omega, by omega⟩ ⟨⟨⟨0, rfl, by omega, by omega, by omega⟩, A_h101⟩, M_bWf_h101⟩)
    · subst c68
      refine yG.load xak rfl (fun _ _ => rfl) (v := yR 2073) rfl rfl ?_
      refine yG.load xak rfl (fun _ _ => rfl) (v := yR 2073) rfl rfl ?_
      refine yG.load xik rfl (fun _ _ => rfl) (v := yI (p1)) rfl rfl ?_
      refine yG.load xik rfl (fun _ _ => rfl) (v := yI (p2)) rfl rfl ?_
      refine yG.invV (rest := [yR 2073]) A_hp.1 (bOb (d_M W) H_2073) rfl rfl rfl rfl (c_GModel_isObject W (d + 1) A_hp.1 H_2073 (p1) (p2) (by omega) (by omega) (by omega) (by omega)) (fun rv hp9 q9 => ?_)
      obtain ⟨⟨z104, rfl, l_z104, u_z104, R_z104⟩, e9⟩ := q9
      rw [e9]
      show yG _ _ _ _ _ _ _ _ _ _ (yI z104 :: [yR 2073]) _
      refine yG.ifz rfl (t := 14) rfl ⟨by omega, by omega⟩ (fun c105 => ?_) (fun c105 => ?_)
      · have c105 : (z104 : Int) ≠ 0 := c105
        replace R_z104 := R_z104 (by omega)
        exfalso; omega
      · have c105 : (z104 : Int) = 0 := c105
        clear R_z104
        refine yG.num (c := 1) rfl (fun _ _ => rfl) (by decide) ?_
        refine yG.goto rfl (t := 31) rfl ?_
        refine yG.putI A_hp.1 (w_M_thrown W H_2073) (W.2.1 _ _ H_2073 (by decide) (by decide)) rfl rfl (.inl rfl) ⟨by omega, by omega⟩ (by omega) (by omega) (fun h106 T_h106 b_h106 f_h106 y_h106 => ?_)
        have M_bWf_h106 := M_bWf_hp.fr (bAx.put (Wl := [(83076749736557242056487941267521536, 0)]) (bAx.rf A_hp.1) T_h106 b_h106 f_h106 H_2073 (by decide)) (by decide)
        have A_h106 := A_hp.put T_h106 b_h106 f_h106 H_2073 (by decide)
        have : ys h106 2073 0 = 1 := (y_h106 2073 0).trans (if_pos ⟨rfl, rfl⟩)
        refine yG.load xak rfl (fun _ _ => rfl) (v := yR 2073) rfl rfl ?_
        refine yG.getI A_h106.1 (w_M_thrown W H_2073) rfl rfl (fun z107 e_z107 i_z107 l_z107 u_z107 => ?_)
        refine yG.ifz rfl (t := 43) rfl ⟨by omega, by omega⟩ (fun c108 => ?_) (fun c108 => ?_)
        · have c108 : (z107 : Int) ≤ 0 := c108
          exfalso; omega
        · have c108 : (z107 : Int) > 0 := c108
          refine yG.num (c := 0) rfl (fun _ _ => rfl) (by decide) ?_
          refine yG.ret rfl (fun _ _ => rfl) ?_
          exact (yP.int ⟨by omega, by omega⟩ ⟨⟨⟨0, rfl, by omega, by omega, by omega⟩, A_h106⟩, M_bWf_h106⟩)
    · subst c68
      refine yG.load xak rfl (fun _ _ => rfl) (v := yR 2073) rfl rfl ?_
      refine yG.load xak rfl (fun _ _ => rfl) (v := yR 2073) rfl rfl ?_
      refine yG.load xik rfl (fun _ _ => rfl) (v := yI (p1)) rfl rfl ?_
      refine yG.load xik rfl (fun _ _ => rfl) (v := yI (p2)) rfl rfl ?_
      refine yG.invV (rest := [yR 2073]) A_hp.1 (bOb (d_M W) H_2073) rfl rfl rfl rfl (c_GModel_isObject W (d + 1) A_hp.1 H_2073 (p1) (p2) (by omega) (by omega) (by omega) (by omega)) (fun rv hp9 q9 => ?_)
      obtain ⟨⟨z109, rfl, l_z109, u_z109, R_z109⟩, e9⟩ := q9
      rw [e9]
      show yG _ _ _ _ _ _ _ _ _ _ (yI z109 :: [yR 2073]) _
      refine yG.ifz rfl (t := 14) rfl ⟨by omega, by omega⟩ (fun c110 => ?_) (fun c110 => ?_)
      · have c110 : (z109 : Int) ≠ 0 := c110
        replace R_z109 := R_z109 (by omega)
        exfalso; omega
      · have c110 : (z109 : Int) = 0 := c110
        clear R_z109
        refine yG.num (c := 1) rfl (fun _ _ => rfl) (by decide) ?_
        refine yG.goto rfl (t := 31) rfl ?_
        refine yG.putI A_hp.1 (w_M_thrown W H_2073) (W.2.1 _ _ H_2073 (by decide) (by decide)) rfl rfl (.inl rfl) ⟨by omega, by omega⟩ (by omega) (by omega) (fun h111 T_h111 b_h111 f_h111 y_h111 => ?_)
        have M_bWf_h111 := M_bWf_hp.fr (bAx.put (Wl := [(83076749736557242056487941267521536, 0)]) (bAx.rf A_hp.1) T_h111 b_h111 f_h111 H_2073 (by decide)) (by decide)
        have A_h111 := A_hp.put T_h111 b_h111 f_h111 H_2073 (by decide)
        have : ys h111 2073 0 = 1 := (y_h111 2073 0).trans (if_pos ⟨rfl, rfl⟩)
        refine yG.load xak rfl (fun _ _ => rfl) (v := yR 2073) rfl rfl ?_
        refine yG.getI A_h111.1 (w_M_thrown W H_2073) rfl rfl (fun z112 e_z112 i_z112 l_z112 u_z112 => ?_)
        refine yG.ifz rfl (t := 43) rfl ⟨by omega, by omega⟩ (fun c113 => ?_) (fun c113 => ?_)
        · have c113 : (z112 : Int) ≤ 0 := c113
          exfalso; omega
        · have c113 : (z112 : Int) > 0 := c113
          refine yG.num (c := 0) rfl (fun _ _ => rfl) (by decide) ?_
          refine yG.ret rfl (fun _ _ => rfl) ?_
          exact (yP.int ⟨by omega, by omega⟩ ⟨⟨⟨0, rfl, by omega, by omega, by omega⟩, A_h111⟩, M_bWf_h111⟩)
    · subst c68
      refine yG.load xak rfl (fun _ _ => rfl) (v := yR 2073) rfl rfl ?_
      refine yG.load xak rfl (fun _ _ => rfl) (v := yR 2073) rfl rfl ?_
      refine yG.load xik rfl (fun _ _ => rfl) (v := yI (p1)) rfl rfl ?_
      refine yG.load xik rfl (fun _ _ => rfl) (v := yI (p2)) rfl rfl ?_
      refine yG.invV (rest := [yR 2073]) A_hp.1 (bOb (d_M W) H_2073) rfl rfl rfl rfl (c_GModel_isObject W (d + 1) A_hp.1 H_2073 (p1) (p2) (by omega) (by omega) (by omega) (by omega)) (fun rv hp9 q9 => ?_)
      obtain ⟨⟨z114, rfl, l_z114, u_z114, R_z114⟩, e9⟩ := q9
      rw [e9]
      show yG _ _ _ _ _ _ _ _ _ _ (yI z114 :: [yR 2073]) _
      refine yG.ifz rfl (t := 14) rfl ⟨by omega, by omega⟩ (fun c115 => ?_) (fun c115 => ?_)
      · have c115 : (z114 : Int) ≠ 0 := c115
        replace R_z114 := R_z114 (by omega)
        exfalso; omega
      · have c115 : (z114 : Int) = 0 := c115
        clear R_z114
        refine yG.num (c := 1) rfl (fun _ _ => rfl) (by decide) ?_
        refine yG.goto rfl (t := 31) rfl ?_
        refine yG.putI A_hp.1 (w_M_thrown W H_2073) (W.2.1 _ _ H_2073 (by decide) (by decide)) rfl rfl (.inl rfl) ⟨by omega, by omega⟩ (by omega) (by omega) (fun h116 T_h116 b_h116 f_h116 y_h116 => ?_)
        have M_bWf_h116 := M_bWf_hp.fr (bAx.put (Wl := [(83076749736557242056487941267521536, 0)]) (bAx.rf A_hp.1) T_h116 b_h116 f_h116 H_2073 (by decide)) (by decide)
        have A_h116 := A_hp.put T_h116 b_h116 f_h116 H_2073 (by decide)
        have : ys h116 2073 0 = 1 := (y_h116 2073 0).trans (if_pos ⟨rfl, rfl⟩)
        refine yG.load xak rfl (fun _ _ => rfl) (v := yR 2073) rfl rfl ?_
        refine yG.getI A_h116.1 (w_M_thrown W H_2073) rfl rfl (fun z117 e_z117 i_z117 l_z117 u_z117 => ?_)
        refine yG.ifz rfl (t := 43) rfl ⟨by omega, by omega⟩ (fun c118 => ?_) (fun c118 => ?_)
        · have c118 : (z117 : Int) ≤ 0 := c118
          exfalso; omega
        · have c118 : (z117 : Int) > 0 := c118
          refine yG.num (c := 0) rfl (fun _ _ => rfl) (by decide) ?_
          refine yG.ret rfl (fun _ _ => rfl) ?_
          exact (yP.int ⟨by omega, by omega⟩ ⟨⟨⟨0, rfl, by omega, by omega, by omega⟩, A_h116⟩, M_bWf_h116⟩)
    · subst c68
      refine yG.load xak rfl (fun _ _ => rfl) (v := yR 2073) rfl rfl ?_
      refine yG.load xak rfl (fun _ _ => rfl) (v := yR 2073) rfl rfl ?_
      refine yG.load xik rfl (fun _ _ => rfl) (v := yI (p1)) rfl rfl ?_
      refine yG.load xik rfl (fun _ _ => rfl) (v := yI (p2)) rfl rfl ?_
      refine yG.invV (rest := [yR 2073]) A_hp.1 (bOb (d_M W) H_2073) rfl rfl rfl rfl (c_GModel_isObject W (d + 1) A_hp.1 H_2073 (p1) (p2) (by omega) (by omega) (by omega) (by omega)) (fun rv hp9 q9 => ?_)
      obtain ⟨⟨z119, rfl, l_z119, u_z119, R_z119⟩, e9⟩ := q9
      rw [e9]
      show yG _ _ _ _ _ _ _ _ _ _ (yI z119 :: [yR 2073]) _
      refine yG.ifz rfl (t := 14) rfl ⟨by omega, by omega⟩ (fun c120 => ?_) (fun c120 => ?_)
      · have c120 : (z119 : Int) ≠ 0 := c120
        replace R_z119 := R_z119 (by omega)
        exfalso; omega
      · have c120 : (z119 : Int) = 0 := c120
        clear R_z119
        refine yG.num (c := 1) rfl (fun _ _ => rfl) (by decide) ?_
        refine yG.goto rfl (t := 31) rfl ?_
        refine yG.putI A_hp.1 (w_M_thrown W H_2073) (W.2.1 _ _ H_2073 (by decide) (by decide)) rfl rfl (.inl rfl) ⟨by omega, by omega⟩ (by omega) (by omega) (fun h121 T_h121 b_h121 f_h121 y_h121 => ?_)
        have M_bWf_h121 := M_bWf_hp.fr (bAx.put (Wl := [(83076749736557242056487941267521536, 0)]) (bAx.rf A_hp.1) T_h121 b_h121 f_h121 H_2073 (by decide)) (by decide)
        have A_h121 := A_hp.put T_h121 b_h121 f_h121 H_2073 (by decide)
        have : ys h121 2073 0 = 1 := (y_h121 2073 0).trans (if_pos ⟨rfl, rfl⟩)
        refine yG.load xak rfl (fun _ _ => rfl) (v := yR 2073) rfl rfl ?_
        refine yG.getI A_h121.1 (w_M_thrown W H_2073) rfl rfl (fun z122 e_z122 i_z122 l_z122 u_z122 => ?_)
        refine yG.ifz rfl (t := 43) rfl ⟨by omega, by omega⟩ (fun c123 => ?_) (fun c123 => ?_)
        · have c123 : (z122 : Int) ≤ 0 := c123
          exfalso; omega
        · have c123 : (z122 : Int) > 0 := c123
          refine yG.num (c := 0) rfl (fun _ _ => rfl) (by decide) ?_
          refine yG.ret rfl (fun _ _ => rfl) ?_
          exact (yP.int ⟨by omega, by omega⟩ ⟨⟨⟨0, rfl, by omega, by omega, by omega⟩, A_h121⟩, M_bWf_h121⟩)
    · subst c68
      refine yG.load xak rfl (fun _ _ => rfl) (v := yR 2073) rfl rfl ?_
      refine yG.load xak rfl (fun _ _ => rfl) (v := yR 2073) rfl rfl ?_
      refine yG.load xik rfl (fun _ _ => rfl) (v := yI (p1)) rfl rfl ?_
      refine yG.load xik rfl (fun _ _ => rfl) (v := yI (p2)) rfl rfl ?_
      refine yG.invV (rest := [yR 2073]) A_hp.1 (bOb (d_M W) H_2073) rfl rfl rfl rfl (c_GModel_isObject W (d + 1) A_hp.1 H_2073 (p1) (p2) (by omega) (by omega) (by omega) (by omega)) (fun rv hp9 q9 => ?_)
      obtain ⟨⟨z124, rfl, l_z124, u_z124, R_z124⟩, e9⟩ := q9
      rw [e9]
      show yG _ _ _ _ _ _ _ _ _ _ (yI z124 :: [yR 2073]) _
      refine yG.ifz rfl (t := 14) rfl ⟨by omega, by omega⟩ (fun c125 => ?_) (fun c125 => ?_)
      · have c125 : (z124 : Int) ≠ 0 := c125
        replace R_z124 := R_z124 (by omega)
        exfalso; omega
      · have c125 : (z124 : Int) = 0 := c125
        clear R_z124
        refine yG.num (c := 1) rfl (fun _ _ => rfl) (by decide) ?_
        refine yG.goto rfl (t := 31) rfl ?_
        refine yG.putI A_hp.1 (w_M_thrown W H_2073) (W.2.1 _ _ H_2073 (by decide) (by decide)) rfl rfl (.inl rfl) ⟨by omega, by omega⟩ (by omega) (by omega) (fun h126 T_h126 b_h126 f_h126 y_h126 => ?_)
        have M_bWf_h126 := M_bWf_hp.fr (bAx.put (Wl := [(83076749736557242056487941267521536, 0)]) (bAx.rf A_hp.1) T_h126 b_h126 f_h126 H_2073 (by decide)) (by decide)
        have A_h126 := A_hp.put T_h126 b_h126 f_h126 H_2073 (by decide)
        have : ys h126 2073 0 = 1 := (y_h126 2073 0).trans (if_pos ⟨rfl, rfl⟩)
        refine yG.load xak rfl (fun _ _ => rfl) (v := yR 2073) rfl rfl ?_
        refine yG.getI A_h126.1 (w_M_thrown W H_2073) rfl rfl (fun z127 e_z127 i_z127 l_z127 u_z127 => ?_)
        refine yG.ifz rfl (t := 43) rfl ⟨by omega, by omega⟩ (fun c128 => ?_) (fun c128 => ?_)
        · have c128 : (z127 : Int) ≤ 0 := c128
          exfalso; omega
        · have c128 : (z127 : Int) > 0 := c128
          refine yG.num (c := 0) rfl (fun _ _ => rfl) (by decide) ?_
          refine yG.ret rfl (fun _ _ => rfl) ?_
          exact (yP.int ⟨by omega, by omega⟩ ⟨⟨⟨0, rfl, by omega, by omega, by omega⟩, A_h126⟩, M_bWf_h126⟩)
    · subst c68
      refine yG.load xak rfl (fun _ _ => rfl) (v := yR 2073) rfl rfl ?_
      refine yG.load xak rfl (fun _ _ => rfl) (v := yR 2073) rfl rfl ?_
      refine yG.load xik rfl (fun _ _ => rfl) (v := yI (p1)) rfl rfl ?_
      refine yG.load xik rfl (fun _ _ => rfl) (v := yI (p2)) rfl rfl ?_
      refine yG.invV (rest := [yR 2073]) A_hp.1 (bOb (d_M W) H_2073) rfl rfl rfl rfl (c_GModel_isObject W (d + 1) A_hp.1 H_2073 (p1) (p2) (by omega) (by omega) (by omega) (by omega)) (fun rv hp9 q9 => ?_)
      obtain ⟨⟨z129, rfl, l_z129, u_z129, R_z129⟩, e9⟩ := q9
      rw [e9]
      show yG _ _ _ _ _ _ _ _ _ _ (yI z129 :: [yR 2073]) _
      refine yG.ifz rfl (t := 14) rfl ⟨by omega, by omega⟩ (fun c130 => ?_) (fun c130 => ?_)
      · have c130 : (z129 : Int) ≠ 0 := c130
        replace R_z129 := R_z129 (by omega)
        exfalso; omega
      · have c130 : (z129 : Int) = 0 := c130
        clear R_z129
        refine yG.num (c := 1) rfl (fun _ _ => rfl) (by decide) ?_
        refine yG.goto rfl (t := 31) rfl ?_
        refine yG.putI A_hp.1 (w_M_thrown W H_2073) (W.2.1 _ _ H_2073 (by decide) (by decide)) rfl rfl (.inl rfl) ⟨by omega, by omega⟩ (by omega) (by omega) (fun h131 T_h131 b_h131 f_h131 y_h131 => ?_)
        have M_bWf_h131 := M_bWf_hp.fr (bAx.put (Wl := [(83076749736557242056487941267521536, 0)]) (bAx.rf A_hp.1) T_h131 b_h131 f_h131 H_2073 (by decide)) (by decide)
        have A_h131 := A_hp.put T_h131 b_h131 f_h131 H_2073 (by decide)
        have : ys h131 2073 0 = 1 := (y_h131 2073 0).trans (if_pos ⟨rfl, rfl⟩)
        refine yG.load xak rfl (fun _ _ => rfl) (v := yR 2073) rfl rfl ?_
        refine yG.getI A_h131.1 (w_M_thrown W H_2073) rfl rfl (fun z132 e_z132 i_z132 l_z132 u_z132 => ?_)
        refine yG.ifz rfl (t := 43) rfl ⟨by omega, by omega⟩ (fun c133 => ?_) (fun c133 => ?_)
        · have c133 : (z132 : Int) ≤ 0 := c133
          exfalso; omega
        · have c133 : (z132 : Int) > 0 := c133
          refine yG.num (c := 0) rfl (fun _ _ => rfl) (by decide) ?_
          refine yG.ret rfl (fun _ _ => rfl) ?_
          exact (yP.int ⟨by omega, by omega⟩ ⟨⟨⟨0, rfl, by omega, by omega, by omega⟩, A_h131⟩, M_bWf_h131⟩)
  · subst c1
    rcases (show p3 ≤ (-1) ∨ p3 ≥ 11 ∨ p3 = 0 ∨ p3 = 1 ∨ p3 = 2 ∨ p3 = 3 ∨ p3 = 4 ∨ p3 = 5 ∨ p3 = 6 ∨ p3 = 7 ∨ p3 = 8 ∨ p3 = 9 ∨ p3 = 10 by omega) with c134 | c134 | c134 | c134 | c134 | c134 | c134 | c134 | c134 | c134 | c134 | c134 | c134
    · skip
      refine yG.load xak rfl (fun _ _ => rfl) (v := yR 2073) rfl rfl ?_
      refine yG.load xak rfl (fun _ _ => rfl) (v := yR 2073) rfl rfl ?_
      refine yG.load xik rfl (fun _ _ => rfl) (v := yI (0)) rfl rfl ?_
      refine yG.load xik rfl (fun _ _ => rfl) (v := yI (p2)) rfl rfl ?_
      refine yG.invV (rest := [yR 2073]) A_hp.1 (bOb (d_M W) H_2073) rfl rfl rfl rfl (c_GModel_isObject W (d + 1) A_hp.1 H_2073 (0) (p2) (by omega) (by omega) (by omega) (by omega)) (fun rv hp9 q9 => ?_)
      obtain ⟨⟨z135, rfl, l_z135, u_z135, R_z135⟩, e9⟩ := q9
      rw [e9]
      show yG _ _ _ _ _ _ _ _ _ _ (yI z135 :: [yR 2073]) _
      refine yG.ifz rfl (t := 14) rfl ⟨by omega, by omega⟩ (fun c136 => ?_) (fun c136 => ?_)
      · have c136 : (z135 : Int) ≠ 0 := c136
        replace R_z135 := R_z135 (by omega)
        refine yG.load xak rfl (fun _ _ => rfl) (v := yR 2073) rfl rfl ?_
        refine yG.load xik rfl (fun _ _ => rfl) (v := yI (0)) rfl rfl ?_
        refine yG.load xik rfl (fun _ _ => rfl) (v := yI (p2)) rfl rfl ?_
        refine yG.load xik rfl (fun _ _ => rfl) (v := yI (p3)) rfl rfl ?_
        refine yG.load xik rfl (fun _ _ => rfl) (v := yI (p4)) rfl rfl ?_
        refine yG.invV (rest := [yR 2073]) A_hp.1 (bOb (d_M W) H_2073) rfl rfl rfl rfl (c_GModel_mayBe_0_l W (d + 2) A_hp.1 H_2073 (p2) (p3) (p4) (by omega) (by omega) (by omega) (by omega) (by omega) (by omega)) (fun rv hp9 q9 => ?_)
        obtain ⟨⟨z137, rfl, l_z137, u_z137, R_z137⟩, e9⟩ := q9
        rw [e9]
        show yG _ _ _ _ _ _ _ _ _ _ (yI z137 :: [yR 2073]) _
        refine yG.ifz rfl (t := 30) rfl ⟨by omega, by omega⟩ (fun c138 => ?_) (fun c138 => ?_)
        · have c138 : (z137 : Int) ≠ 0 := c138
          exfalso; omega
        · have c138 : (z137 : Int) = 0 := c138
          refine yG.num (c := 2) rfl (fun _ _ => rfl) (by decide) ?_
          refine yG.goto rfl (t := 31) rfl ?_
          refine yG.putI A_hp.1 (w_M_thrown W H_2073) (W.2.1 _ _ H_2073 (by decide) (by decide)) rfl rfl (.inl rfl) ⟨by omega, by omega⟩ (by omega) (by omega) (fun h139 T_h139 b_h139 f_h139 y_h139 => ?_)
          have M_bWf_h139 := M_bWf_hp.fr (bAx.put (Wl := [(83076749736557242056487941267521536, 0)]) (bAx.rf A_hp.1) T_h139 b_h139 f_h139 H_2073 (by decide)) (by decide)
          have A_h139 := A_hp.put T_h139 b_h139 f_h139 H_2073 (by decide)
          have : ys h139 2073 0 = 2 := (y_h139 2073 0).trans (if_pos ⟨rfl, rfl⟩)
          refine yG.load xak rfl (fun _ _ => rfl) (v := yR 2073) rfl rfl ?_
          refine yG.getI A_h139.1 (w_M_thrown W H_2073) rfl rfl (fun z140 e_z140 i_z140 l_z140 u_z140 => ?_)
          refine yG.ifz rfl (t := 43) rfl ⟨by omega, by omega⟩ (fun c141 => ?_) (fun c141 => ?_)
          · have c141 : (z140 : Int) ≤ 0 := c141
            exfalso; omega
          · have c141 : (z140 : Int) > 0 := c141
            refine yG.num (c := 0) rfl (fun _ _ => rfl) (by decide) ?_
            refine yG.ret rfl (fun _ _ => rfl) ?_
            exact (yP.int ⟨by omega, by omega⟩ ⟨⟨⟨0, rfl, by omega, by omega, by omega⟩, A_h139⟩, M_bWf_h139⟩)
      · have c136 : (z135 : Int) = 0 := c136
        clear R_z135
        refine yG.num (c := 1) rfl (fun _ _ => rfl) (by decide) ?_
        refine yG.goto rfl (t := 31) rfl ?_
        refine yG.putI A_hp.1 (w_M_thrown W H_2073) (W.2.1 _ _ H_2073 (by decide) (by decide)) rfl rfl (.inl rfl) ⟨by omega, by omega⟩ (by omega) (by omega) (fun h142 T_h142 b_h142 f_h142 y_h142 => ?_)
        have M_bWf_h142 := M_bWf_hp.fr (bAx.put (Wl := [(83076749736557242056487941267521536, 0)]) (bAx.rf A_hp.1) T_h142 b_h142 f_h142 H_2073 (by decide)) (by decide)
        have A_h142 := A_hp.put T_h142 b_h142 f_h142 H_2073 (by decide)
        have : ys h142 2073 0 = 1 := (y_h142 2073 0).trans (if_pos ⟨rfl, rfl⟩)
        refine yG.load xak rfl (fun _ _ => rfl) (v := yR 2073) rfl rfl ?_
        refine yG.getI A_h142.1 (w_M_thrown W H_2073) rfl rfl (fun z143 e_z143 i_z143 l_z143 u_z143 => ?_)
        refine yG.ifz rfl (t := 43) rfl ⟨by omega, by omega⟩ (fun c144 => ?_) (fun c144 => ?_)
        · have c144 : (z143 : Int) ≤ 0 := c144
          exfalso; omega
        · have c144 : (z143 : Int) > 0 := c144
          refine yG.num (c := 0) rfl (fun _ _ => rfl) (by decide) ?_
          refine yG.ret rfl (fun _ _ => rfl) ?_
          exact (yP.int ⟨by omega, by omega⟩ ⟨⟨⟨0, rfl, by omega, by omega, by omega⟩, A_h142⟩, M_bWf_h142⟩)
    · skip
      refine yG.load xak rfl (fun _ _ => rfl) (v := yR 2073) rfl rfl ?_
      refine yG.load xak rfl (fun _ _ => rfl) (v := yR 2073) rfl rfl ?_
      refine yG.load xik rfl (fun _ _ => rfl) (v := yI (0)) rfl rfl ?_
      refine yG.load xik rfl (fun _ _ => rfl) (v := yI (p2)) rfl rfl ?_
      refine yG.invV (rest := [yR 2073]) A_hp.1 (bOb (d_M W) H_2073) rfl rfl rfl rfl (c_GModel_isObject W (d + 1) A_hp.1 H_2073 (0) (p2) (by omega) (by omega) (by omega) (by omega)) (fun rv hp9 q9 => ?_)
      obtain ⟨⟨z145, rfl, l_z145, u_z145, R_z145⟩, e9⟩ := q9
      rw [e9]
      show yG _ _ _ _ _ _ _ _ _ _ (yI z145 :: [yR 2073]) _
      refine yG.ifz rfl (t := 14) rfl ⟨by omega, by omega⟩ (fun c146 => ?_) (fun c146 => ?_)
      · have c146 : (z145 : Int) ≠ 0 := c146
        replace R_z145 := R_z145 (by omega)
        refine yG.load xak rfl (fun _ _ => rfl) (v := yR 2073) rfl rfl ?_
        refine yG.load xik rfl (fun _ _ => rfl) (v := yI (0)) rfl rfl ?_
        refine yG.load xik rfl (fun _ _ => rfl) (v := yI (p2)) rfl rfl ?_
        refine yG.load xik rfl (fun _ _ => rfl) (v := yI (p3)) rfl rfl ?_
        refine yG.load xik rfl (fun _ _ => rfl) (v := yI (p4)) rfl rfl ?_
        refine yG.invV (rest := [yR 2073]) A_hp.1 (bOb (d_M W) H_2073) rfl rfl rfl rfl (c_GModel_mayBe_0_h W (d + 2) A_hp.1 H_2073 (p2) (p3) (p4) (by omega) (by omega) (by omega) (by omega) (by omega) (by omega)) (fun rv hp9 q9 => ?_)
        obtain ⟨⟨z147, rfl, l_z147, u_z147, R_z147⟩, e9⟩ := q9
        rw [e9]
        show yG _ _ _ _ _ _ _ _ _ _ (yI z147 :: [yR 2073]) _
        refine yG.ifz rfl (t := 30) rfl ⟨by omega, by omega⟩ (fun c148 => ?_) (fun c148 => ?_)
        · have c148 : (z147 : Int) ≠ 0 := c148
          exfalso; omega
        · have c148 : (z147 : Int) = 0 := c148
          refine yG.num (c := 2) rfl (fun _ _ => rfl) (by decide) ?_
          refine yG.goto rfl (t := 31) rfl ?_
          refine yG.putI A_hp.1 (w_M_thrown W H_2073) (W.2.1 _ _ H_2073 (by decide) (by decide)) rfl rfl (.inl rfl) ⟨by omega, by omega⟩ (by omega) (by omega) (fun h149 T_h149 b_h149 f_h149 y_h149 => ?_)
          have M_bWf_h149 := M_bWf_hp.fr (bAx.put (Wl := [(83076749736557242056487941267521536, 0)]) (bAx.rf A_hp.1) T_h149 b_h149 f_h149 H_2073 (by decide)) (by decide)
          have A_h149 := A_hp.put T_h149 b_h149 f_h149 H_2073 (by decide)
          have : ys h149 2073 0 = 2 := (y_h149 2073 0).trans (if_pos ⟨rfl, rfl⟩)
          refine yG.load xak rfl (fun _ _ => rfl) (v := yR 2073) rfl rfl ?_
          refine yG.getI A_h149.1 (w_M_thrown W H_2073) rfl rfl (fun z150 e_z150 i_z150 l_z150 u_z150 => ?_)
          refine yG.ifz rfl (t := 43) rfl ⟨by omega, by omega⟩ (fun c151 => ?_) (fun c151 => ?_)
          · have c151 : (z150 : Int) ≤ 0 := c151
            exfalso; omega
          · have c151 : (z150 : Int) > 0 := c151
            refine yG.num (c := 0) rfl (fun _ _ => rfl) (by decide) ?_
            refine yG.ret rfl (fun _ _ => rfl) ?_
            exact (yP.int ⟨by omega, by omega⟩ ⟨⟨⟨0, rfl, by omega, by omega, by omega⟩, A_h149⟩, M_bWf_h149⟩)
      · have c146 : (z145 : Int) = 0 := c146
        clear R_z145
        refine yG.num (c := 1) rfl (fun _ _ => rfl) (by decide) ?_
        refine yG.goto rfl (t := 31) rfl ?_
        refine yG.putI A_hp.1 (w_M_thrown W H_2073) (W.2.1 _ _ H_2073 (by decide) (by decide)) rfl rfl (.inl rfl) ⟨by omega, by omega⟩ (by omega) (by omega) (fun h152 T_h152 b_h152 f_h152 y_h152 => ?_)
        have M_bWf_h152 := M_bWf_hp.fr (bAx.put (Wl := [(83076749736557242056487941267521536, 0)]) (bAx.rf A_hp.1) T_h152 b_h152 f_h152 H_2073 (by decide)) (by decide)
        have A_h152 := A_hp.put T_h152 b_h152 f_h152 H_2073 (by decide)
        have : ys h152 2073 0 = 1 := (y_h152 2073 0).trans (if_pos ⟨rfl, rfl⟩)
        refine yG.load xak rfl (fun _ _ => rfl) (v := yR 2073) rfl rfl ?_
        refine yG.getI A_h152.1 (w_M_thrown W H_2073) rfl rfl (fun z153 e_z153 i_z153 l_z153 u_z153 => ?_)
        refine yG.ifz rfl (t := 43) rfl ⟨by omega, by omega⟩ (fun c154 => ?_) (fun c154 => ?_)
        · have c154 : (z153 : Int) ≤ 0 := c154
          exfalso; omega
        · have c154 : (z153 : Int) > 0 := c154
          refine yG.num (c := 0) rfl (fun _ _ => rfl) (by decide) ?_
          refine yG.ret rfl (fun _ _ => rfl) ?_
          exact (yP.int ⟨by omega, by omega⟩ ⟨⟨⟨0, rfl, by omega, by omega, by omega⟩, A_h152⟩, M_bWf_h152⟩)
    · subst c134
      refine yG.load xak rfl (fun _ _ => rfl) (v := yR 2073) rfl rfl ?_
      refine yG.load xak rfl (fun _ _ => rfl) (v := yR 2073) rfl rfl ?_
      refine yG.load xik rfl (fun _ _ => rfl) (v := yI (0)) rfl rfl ?_
      refine yG.load xik rfl (fun _ _ => rfl) (v := yI (p2)) rfl rfl ?_
      refine yG.invV (rest := [yR 2073]) A_hp.1 (bOb (d_M W) H_2073) rfl rfl rfl rfl (c_GModel_isObject W (d + 1) A_hp.1 H_2073 (0) (p2) (by omega) (by omega) (by omega) (by omega)) (fun rv hp9 q9 => ?_)
      obtain ⟨⟨z155, rfl, l_z155, u_z155, R_z155⟩, e9⟩ := q9
      rw [e9]
      show yG _ _ _ _ _ _ _ _ _ _ (yI z155 :: [yR 2073]) _
      refine yG.ifz rfl (t := 14) rfl ⟨by omega, by omega⟩ (fun c156 => ?_) (fun c156 => ?_)
      · have c156 : (z155 : Int) ≠ 0 := c156
        replace R_z155 := R_z155 (by omega)
        refine yG.load xak rfl (fun _ _ => rfl) (v := yR 2073) rfl rfl ?_
        refine yG.load xik rfl (fun _ _ => rfl) (v := yI (0)) rfl rfl ?_
        refine yG.load xik rfl (fun _ _ => rfl) (v := yI (p2)) rfl rfl ?_
        refine yG.load xik rfl (fun _ _ => rfl) (v := yI (0)) rfl rfl ?_
        refine yG.load xik rfl (fun _ _ => rfl) (v := yI (p4)) rfl rfl ?_
        refine yG.invV (rest := [yR 2073]) A_hp.1 (bOb (d_M W) H_2073) rfl rfl rfl rfl (c_GModel_mayBe_0_0 W (d + 2) A_hp.1 H_2073 (p2) (p4) (by omega) (by omega) (by omega) (by omega)) (fun rv hp9 q9 => ?_)
        obtain ⟨⟨z157, rfl, l_z157, u_z157, R_z157⟩, e9⟩ := q9
        rw [e9]
        show yG _ _ _ _ _ _ _ _ _ _ (yI z157 :: [yR 2073]) _
        refine yG.ifz rfl (t := 30) rfl ⟨by omega, by omega⟩ (fun c158 => ?_) (fun c158 => ?_)
        · have c158 : (z157 : Int) ≠ 0 := c158
          exfalso; omega
        · have c158 : (z157 : Int) = 0 := c158
          refine yG.num (c := 2) rfl (fun _ _ => rfl) (by decide) ?_
          refine yG.goto rfl (t := 31) rfl ?_
          refine yG.putI A_hp.1 (w_M_thrown W H_2073) (W.2.1 _ _ H_2073 (by decide) (by decide)) rfl rfl (.inl rfl) ⟨by omega, by omega⟩ (by omega) (by omega) (fun h159 T_h159 b_h159 f_h159 y_h159 => ?_)
          have M_bWf_h159 := M_bWf_hp.fr (bAx.put (Wl := [(83076749736557242056487941267521536, 0)]) (bAx.rf A_hp.1) T_h159 b_h159 f_h159 H_2073 (by decide)) (by decide)
          have A_h159 := A_hp.put T_h159 b_h159 f_h159 H_2073 (by decide)
          have : ys h159 2073 0 = 2 := (y_h159 2073 0).trans (if_pos ⟨rfl, rfl⟩)
          refine yG.load xak rfl (fun _ _ => rfl) (v := yR 2073) rfl rfl ?_
          refine yG.getI A_h159.1 (w_M_thrown W H_2073) rfl rfl (fun z160 e_z160 i_z160 l_z160 u_z160 => ?_)
          refine yG.ifz rfl (t := 43) rfl ⟨by omega, by omega⟩ (fun c161 => ?_) (fun c161 => ?_)
          · have c161 : (z160 : Int) ≤ 0 := c161
            exfalso; omega
          · have c161 : (z160 : Int) > 0 := c161
            refine yG.num (c := 0) rfl (fun _ _ => rfl) (by decide) ?_
            refine yG.ret rfl (fun _ _ => rfl) ?_
            exact (yP.int ⟨by omega, by omega⟩ ⟨⟨⟨0, rfl, by omega, by omega, by omega⟩, A_h159⟩, M_bWf_h159⟩)
      · have c156 : (z155 : Int) = 0 := c156
        clear R_z155
        refine yG.num (c := 1) rfl (fun _ _ => rfl) (by decide) ?_
        refine yG.goto rfl (t := 31) rfl ?_
        refine yG.putI A_hp.1 (w_M_thrown W H_2073) (W.2.1 _ _ H_2073 (by decide) (by decide)) rfl rfl (.inl rfl) ⟨by omega, by omega⟩ (by omega) (by omega) (fun h162 T_h162 b_h162 f_h162 y_h162 => ?_)
        have M_bWf_h162 := M_bWf_hp.fr (bAx.put (Wl := [(83076749736557242056487941267521536, 0)]) (bAx.rf A_hp.1) T_h162 b_h162 f_h162 H_2073 (by decide)) (by decide)
        have A_h162 := A_hp.put T_h162 b_h162 f_h162 H_2073 (by decide)
        have : ys h162 2073 0 = 1 := (y_h162 2073 0).trans (if_pos ⟨rfl, rfl⟩)
        refine yG.load xak rfl (fun _ _ => rfl) (v := yR 2073) rfl rfl ?_
        refine yG.getI A_h162.1 (w_M_thrown W H_2073) rfl rfl (fun z163 e_z163 i_z163 l_z163 u_z163 => ?_)
        refine yG.ifz rfl (t := 43) rfl ⟨by omega, by omega⟩ (fun c164 => ?_) (fun c164 => ?_)
        · have c164 : (z163 : Int) ≤ 0 := c164
          exfalso; omega
        · have c164 : (z163 : Int) > 0 := c164
          refine yG.num (c := 0) rfl (fun _ _ => rfl) (by decide) ?_
          refine yG.ret rfl (fun _ _ => rfl) ?_
          exact (yP.int ⟨by omega, by omega⟩ ⟨⟨⟨0, rfl, by omega, by omega, by omega⟩, A_h162⟩, M_bWf_h162⟩)
    · subst c134
      refine yG.load xak rfl (fun _ _ => rfl) (v := yR 2073) rfl rfl ?_
      refine yG.load xak rfl (fun _ _ => rfl) (v := yR 2073) rfl rfl ?_
      refine yG.load xik rfl (fun _ _ => rfl) (v := yI (0)) rfl rfl ?_
      refine yG.load xik rfl (fun _ _ => rfl) (v := yI (p2)) rfl rfl ?_
      refine yG.invV (rest := [yR 2073]) A_hp.1 (bOb (d_M W) H_2073) rfl rfl rfl rfl (c_GModel_isObject W (d + 1) A_hp.1 H_2073 (0) (p2) (by omega) (by omega) (by omega) (by omega)) (fun rv hp9 q9 => ?_)
      obtain ⟨⟨z165, rfl, l_z165, u_z165, R_z165⟩, e9⟩ := q9
      rw [e9]
      show yG _ _ _ _ _ _ _ _ _ _ (yI z165 :: [yR 2073]) _
      refine yG.ifz rfl (t := 14) rfl ⟨by omega, by omega⟩ (fun c166 => ?_) (fun c166 => ?_)
      · have c166 : (z165 : Int) ≠ 0 := c166
        replace R_z165 := R_z165 (by omega)
        refine yG.load xak rfl (fun _ _ => rfl) (v := yR 2073) rfl rfl ?_
        refine yG.load xik rfl (fun _ _ => rfl) (v := yI (0)) rfl rfl ?_
        refine yG.load xik rfl (fun _ _ => rfl) (v := yI (p2)) rfl rfl ?_
        refine yG.load xik rfl (fun _ _ => rfl) (v := yI (1)) rfl rfl ?_
        refine yG.load xik rfl (fun _ _ => rfl) (v := yI (p4)) rfl rfl ?_
        refine yG.invV (rest := [yR 2073]) A_hp.1 (bOb (d_M W) H_2073) rfl rfl rfl rfl (c_GModel_mayBe_0_1 W (d + 2) A_hp.1 H_2073 (p2) (p4) (by omega) (by omega) (by omega) (by omega)) (fun rv hp9 q9 => ?_)
        obtain ⟨⟨z167, rfl, l_z167, u_z167, R_z167⟩, e9⟩ := q9
        rw [e9]
        show yG _ _ _ _ _ _ _ _ _ _ (yI z167 :: [yR 2073]) _
        refine yG.ifz rfl (t := 30) rfl ⟨by omega, by omega⟩ (fun c168 => ?_) (fun c168 => ?_)
        · have c168 : (z167 : Int) ≠ 0 := c168
          exfalso; omega
        · have c168 : (z167 : Int) = 0 := c168
          refine yG.num (c := 2) rfl (fun _ _ => rfl) (by decide) ?_
          refine yG.goto rfl (t := 31) rfl ?_
          refine yG.putI A_hp.1 (w_M_thrown W H_2073) (W.2.1 _ _ H_2073 (by decide) (by decide)) rfl rfl (.inl rfl) ⟨by omega, by omega⟩ (by omega) (by omega) (fun h169 T_h169 b_h169 f_h169 y_h169 => ?_)
          have M_bWf_h169 := M_bWf_hp.fr (bAx.put (Wl := [(83076749736557242056487941267521536, 0)]) (bAx.rf A_hp.1) T_h169 b_h169 f_h169 H_2073 (by decide)) (by decide)
          have A_h169 := A_hp.put T_h169 b_h169 f_h169 H_2073 (by decide)
          have : ys h169 2073 0 = 2 := (y_h169 2073 0).trans (if_pos ⟨rfl, rfl⟩)
          refine yG.load xak rfl (fun _ _ => rfl) (v := yR 2073) rfl rfl ?_
          refine yG.getI A_h169.1 (w_M_thrown W H_2073) rfl rfl (fun z170 e_z170 i_z170 l_z170 u_z170 => ?_)
          refine yG.ifz rfl (t := 43) rfl ⟨by omega, by omega⟩ (fun c171 => ?_) (fun c171 => ?_)
          · have c171 : (z170 : Int) ≤ 0 := c171
            exfalso; omega
          · have c171 : (z170 : Int) > 0 := c171
            refine yG.num (c := 0) rfl (fun _ _ => rfl) (by decide) ?_
            refine yG.ret rfl (fun _ _ => rfl) ?_
            exact (yP.int ⟨by omega, by omega⟩ ⟨⟨⟨0, rfl, by omega, by omega, by omega⟩, A_h169⟩, M_bWf_h169⟩)
      · have c166 : (z165 : Int) = 0 := c166
        clear R_z165
        refine yG.num (c := 1) rfl (fun _ _ => rfl) (by decide) ?_
        refine yG.goto rfl (t := 31) rfl ?_
        refine yG.putI A_hp.1 (w_M_thrown W H_2073) (W.2.1 _ _ H_2073 (by decide) (by decide)) rfl rfl (.inl rfl) ⟨by omega, by omega⟩ (by omega) (by omega) (fun h172 T_h172 b_h172 f_h172 y_h172 => ?_)
        have M_bWf_h172 := M_bWf_hp.fr (bAx.put (Wl := [(83076749736557242056487941267521536, 0)]) (bAx.rf A_hp.1) T_h172 b_h172 f_h172 H_2073 (by decide)) (by decide)
        have A_h172 := A_hp.put T_h172 b_h172 f_h172 H_2073 (by decide)
        have : ys h172 2073 0 = 1 := (y_h172 2073 0).trans (if_pos ⟨rfl, rfl⟩)
        refine yG.load xak rfl (fun _ _ => rfl) (v := yR 2073) rfl rfl ?_
        refine yG.getI A_h172.1 (w_M_thrown W H_2073) rfl rfl (fun z173 e_z173 i_z173 l_z173 u_z173 => ?_)
        refine yG.ifz rfl (t := 43) rfl ⟨by omega, by omega⟩ (fun c174 => ?_) (fun c174 => ?_)
        · have c174 : (z173 : Int) ≤ 0 := c174
          exfalso; omega
        · have c174 : (z173 : Int) > 0 := c174
          refine yG.num (c := 0) rfl (fun _ _ => rfl) (by decide) ?_
          refine yG.ret rfl (fun _ _ => rfl) ?_
          exact (yP.int ⟨by omega, by omega⟩ ⟨⟨⟨0, rfl, by omega, by omega, by omega⟩, A_h172⟩, M_bWf_h172⟩)
    · subst c134
      refine yG.load xak rfl (fun _ _ => rfl) (v := yR 2073) rfl rfl ?_
      refine yG.load xak rfl (fun _ _ => rfl) (v := yR 2073) rfl rfl ?_
      refine yG.load xik rfl (fun _ _ => rfl) (v := yI (0)) rfl rfl ?_
      refine yG.load xik rfl (fun _ _ => rfl) (v := yI (p2)) rfl rfl ?_
      refine yG.invV (rest := [yR 2073]) A_hp.1 (bOb (d_M W) H_2073) rfl rfl rfl rfl (c_GModel_isObject W (d + 1) A_hp.1 H_2073 (0) (p2) (by omega) (by omega) (by omega) (by omega)) (fun rv hp9 q9 => ?_)
      obtain ⟨⟨z175, rfl, l_z175, u_z175, R_z175⟩, e9⟩ := q9
      rw [e9]
      show yG _ _ _ _ _ _ _ _ _ _ (yI z175 :: [yR 2073]) _
      refine yG.ifz rfl (t := 14) rfl ⟨by omega, by omega⟩ (fun c176 => ?_) (fun c176 => ?_)
      · have c176 : (z175 : Int) ≠ 0 := c176
        replace R_z175 := R_z175 (by omega)
        refine yG.load xak rfl (fun _ _ => rfl) (v := yR 2073) rfl rfl ?_
        refine yG.load xik rfl (fun _ _ => rfl) (v := yI (0)) rfl rfl ?_
        refine yG.load xik rfl (fun _ _ => rfl) (v := yI (p2)) rfl rfl ?_
        refine yG.load xik rfl (fun _ _ => rfl) (v := yI (2)) rfl rfl ?_
        refine yG.load xik rfl (fun _ _ => rfl) (v := yI (p4)) rfl rfl ?_
        refine yG.invV (rest := [yR 2073]) A_hp.1 (bOb (d_M W) H_2073) rfl rfl rfl rfl (c_GModel_mayBe_0_2 W (d + 2) A_hp.1 H_2073 (p2) (p4) (by omega) (by omega) (by omega) (by omega)) (fun rv hp9 q9 => ?_)
        obtain ⟨⟨z177, rfl, l_z177, u_z177, R_z177⟩, e9⟩ := q9
        rw [e9]
        show yG _ _ _ _ _ _ _ _ _ _ (yI z177 :: [yR 2073]) _
        refine yG.ifz rfl (t := 30) rfl ⟨by omega, by omega⟩ (fun c178 => ?_) (fun c178 => ?_)
        · have c178 : (z177 : Int) ≠ 0 := c178
          exfalso; omega
        · have c178 : (z177 : Int) = 0 := c178
          refine yG.num (c := 2) rfl (fun _ _ => rfl) (by decide) ?_
          refine yG.goto rfl (t := 31) rfl ?_
          refine yG.putI A_hp.1 (w_M_thrown W H_2073) (W.2.1 _ _ H_2073 (by decide) (by decide)) rfl rfl (.inl rfl) ⟨by omega, by omega⟩ (by omega) (by omega) (fun h179 T_h179 b_h179 f_h179 y_h179 => ?_)
          have M_bWf_h179 := M_bWf_hp.fr (bAx.put (Wl := [(83076749736557242056487941267521536, 0)]) (bAx.rf A_hp.1) T_h179 b_h179 f_h179 H_2073 (by decide)) (by decide)
          have A_h179 := A_hp.put T_h179 b_h179 f_h179 H_2073 (by decide)
          have : ys h179 2073 0 = 2 := (y_h179 2073 0).trans (if_pos ⟨rfl, rfl⟩)
          refine yG.load xak rfl (fun _ _ => rfl) (v := yR 2073) rfl rfl ?_
          refine yG.getI A_h179.1 (w_M_thrown W H_2073) rfl rfl (fun z180 e_z180 i_z180 l_z180 u_z180 => ?_)
          refine yG.ifz rfl (t := 43) rfl ⟨by omega, by omega⟩ (fun c181 => ?_) (fun c181 => ?_)
          · have c181 : (z180 : Int) ≤ 0 := c181
            exfalso; omega
          · have c181 : (z180 : Int) > 0 := c181
            refine yG.num (c := 0) rfl (fun _ _ => rfl) (by decide) ?_
            refine yG.ret rfl (fun _ _ => rfl) ?_
            exact (yP.int ⟨by omega, by omega⟩ ⟨⟨⟨0, rfl, by omega, by omega, by omega⟩, A_h179⟩, M_bWf_h179⟩)
      · have c176 : (z175 : Int) = 0 := c176
        clear R_z175
        refine yG.num (c := 1) rfl (fun _ _ => rfl) (by decide) ?_
        refine yG.goto rfl (t := 31) rfl ?_
        refine yG.putI A_hp.1 (w_M_thrown W H_2073) (W.2.1 _ _ H_2073 (by decide) (by decide)) rfl rfl (.inl rfl) ⟨by omega, by omega⟩ (by omega) (by omega) (fun h182 T_h182 b_h182 f_h182 y_h182 => ?_)
        have M_bWf_h182 := M_bWf_hp.fr (bAx.put (Wl := [(83076749736557242056487941267521536, 0)]) (bAx.rf A_hp.1) T_h182 b_h182 f_h182 H_2073 (by decide)) (by decide)
        have A_h182 := A_hp.put T_h182 b_h182 f_h182 H_2073 (by decide)
        have : ys h182 2073 0 = 1 := (y_h182 2073 0).trans (if_pos ⟨rfl, rfl⟩)
        refine yG.load xak rfl (fun _ _ => rfl) (v := yR 2073) rfl rfl ?_
        refine yG.getI A_h182.1 (w_M_thrown W H_2073) rfl rfl (fun z183 e_z183 i_z183 l_z183 u_z183 => ?_)
        refine yG.ifz rfl (t := 43) rfl ⟨by omega, by omega⟩ (fun c184 => ?_) (fun c184 => ?_)
        · have c184 : (z183 : Int) ≤ 0 := c184
          exfalso; omega
        · have c184 : (z183 : Int) > 0 := c184
          refine yG.num (c := 0) rfl (fun _ _ => rfl) (by decide) ?_
          refine yG.ret rfl (fun _ _ => rfl) ?_
          exact (yP.int ⟨by omega, by omega⟩ ⟨⟨⟨0, rfl, by omega, by omega, by omega⟩, A_h182⟩, M_bWf_h182⟩)
    · subst c134
      refine yG.load xak rfl (fun _ _ => rfl) (v := yR 2073) rfl rfl ?_
      refine yG.load xak rfl (fun _ _ => rfl) (v := yR 2073) rfl rfl ?_
      refine yG.load xik rfl (fun _ _ => rfl) (v := yI (0)) rfl rfl ?_
      refine yG.load xik rfl (fun _ _ => rfl) (v := yI (p2)) rfl rfl ?_
      refine yG.invV (rest := [yR 2073]) A_hp.1 (bOb (d_M W) H_2073) rfl rfl rfl rfl (c_GModel_isObject W (d + 1) A_hp.1 H_2073 (0) (p2) (by omega) (by omega) (by omega) (by omega)) (fun rv hp9 q9 => ?_)
      obtain ⟨⟨z185, rfl, l_z185, u_z185, R_z185⟩, e9⟩ := q9
      rw [e9]
      show yG _ _ _ _ _ _ _ _ _ _ (yI z185 :: [yR 2073]) _
      refine yG.ifz rfl (t := 14) rfl ⟨by omega, by omega⟩ (fun c186 => ?_) (fun c186 => ?_)
      · have c186 : (z185 : Int) ≠ 0 := c186
        replace R_z185 := R_z185 (by omega)
        refine yG.load xak rfl (fun _ _ => rfl) (v := yR 2073) rfl rfl ?_
        refine yG.load xik rfl (fun _ _ => rfl) (v := yI (0)) rfl rfl ?_
        refine yG.load xik rfl (fun _ _ => rfl) (v := yI (p2)) rfl rfl ?_
        refine yG.load xik rfl (fun _ _ => rfl) (v := yI (3)) rfl rfl ?_
        refine yG.load xik rfl (fun _ _ => rfl) (v := yI (p4)) rfl rfl ?_
        refine yG.invV (rest := [yR 2073]) A_hp.1 (bOb (d_M W) H_2073) rfl rfl rfl rfl (c_GModel_mayBe_0_3 W (d + 2) A_hp.1 H_2073 (p2) (p4) (by omega) (by omega) (by omega) (by omega)) (fun rv hp9 q9 => ?_)
        obtain ⟨⟨z187, rfl, l_z187, u_z187, R_z187⟩, e9⟩ := q9
        rw [e9]
        show yG _ _ _ _ _ _ _ _ _ _ (yI z187 :: [yR 2073]) _
        refine yG.ifz rfl (t := 30) rfl ⟨by omega, by omega⟩ (fun c188 => ?_) (fun c188 => ?_)
        · have c188 : (z187 : Int) ≠ 0 := c188
          exfalso; omega
        · have c188 : (z187 : Int) = 0 := c188
          refine yG.num (c := 2) rfl (fun _ _ => rfl) (by decide) ?_
          refine yG.goto rfl (t := 31) rfl ?_
          refine yG.putI A_hp.1 (w_M_thrown W H_2073) (W.2.1 _ _ H_2073 (by decide) (by decide)) rfl rfl (.inl rfl) ⟨by omega, by omega⟩ (by omega) (by omega) (fun h189 T_h189 b_h189 f_h189 y_h189 => ?_)
          have M_bWf_h189 := M_bWf_hp.fr (bAx.put (Wl := [(83076749736557242056487941267521536, 0)]) (bAx.rf A_hp.1) T_h189 b_h189 f_h189 H_2073 (by decide)) (by decide)
          have A_h189 := A_hp.put T_h189 b_h189 f_h189 H_2073 (by decide)
          have : ys h189 2073 0 = 2 := (y_h189 2073 0).trans (if_pos ⟨rfl, rfl⟩)
          refine yG.load xak rfl (fun _ _ => rfl) (v := yR 2073) rfl rfl ?_
          refine yG.getI A_h189.1 (w_M_thrown W H_2073) rfl rfl (fun z190 e_z190 i_z190 l_z190 u_z190 => ?_)
          refine yG.ifz rfl (t := 43) rfl ⟨by omega, by omega⟩ (fun c191 => ?_) (fun c191 => ?_)
          · have c191 : (z190 : Int) ≤ 0 := c191
            exfalso; omega
          · have c191 : (z190 : Int) > 0 := c191
            refine yG.num (c := 0) rfl (fun _ _ => rfl) (by decide) ?_
            refine yG.ret rfl (fun _ _ => rfl) ?_
            exact (yP.int ⟨by omega, by omega⟩ ⟨⟨⟨0, rfl, by omega, by omega, by omega⟩, A_h189⟩, M_bWf_h189⟩)
      · have c186 : (z185 : Int) = 0 := c186
        clear R_z185
        refine yG.num (c := 1) rfl (fun _ _ => rfl) (by decide) ?_
        refine yG.goto rfl (t := 31) rfl ?_
        refine yG.putI A_hp.1 (w_M_thrown W H_2073) (W.2.1 _ _ H_2073 (by decide) (by decide)) rfl rfl (.inl rfl) ⟨by omega, by omega⟩ (by omega) (by omega) (fun h192 T_h192 b_h192 f_h192 y_h192 => ?_)
        have M_bWf_h192 := M_bWf_hp.fr (bAx.put (Wl := [(83076749736557242056487941267521536, 0)]) (bAx.rf A_hp.1) T_h192 b_h192 f_h192 H_2073 (by decide)) (by decide)
        have A_h192 := A_hp.put T_h192 b_h192 f_h192 H_2073 (by decide)
        have : ys h192 2073 0 = 1 := (y_h192 2073 0).trans (if_pos ⟨rfl, rfl⟩)
        refine yG.load xak rfl (fun _ _ => rfl) (v := yR 2073) rfl rfl ?_
        refine yG.getI A_h192.1 (w_M_thrown W H_2073) rfl rfl (fun z193 e_z193 i_z193 l_z193 u_z193 => ?_)
        refine yG.ifz rfl (t := 43) rfl ⟨by omega, by omega⟩ (fun c194 => ?_) (fun c194 => ?_)
        · have c194 : (z193 : Int) ≤ 0 := c194
          exfalso; omega
        · have c194 : (z193 : Int) > 0 := c194
          refine yG.num (c := 0) rfl (fun _ _ => rfl) (by decide) ?_
          refine yG.ret rfl (fun _ _ => rfl) ?_
          exact (yP.int ⟨by omega, by omega⟩ ⟨⟨⟨0, rfl, by omega, by omega, by omega⟩, A_h192⟩, M_bWf_h192⟩)
    · subst c134
      refine yG.load xak rfl (fun _ _ => rfl) (v := yR 2073) rfl rfl ?_
      refine yG.load xak rfl (fun _ _ => rfl) (v := yR 2073) rfl rfl ?_
      refine yG.load xik rfl (fun _ _ => rfl) (v := yI (0)) rfl rfl ?_
      refine yG.load xik rfl (fun _ _ => rfl) (v := yI (p2)) rfl rfl ?_
      refine yG.invV (rest := [yR 2073]) A_hp.1 (bOb (d_M W) H_2073) rfl rfl rfl rfl (c_GModel_isObject W (d + 1) A_hp.1 H_2073 (0) (p2) (by omega) (by omega) (by omega) (by omega)) (fun rv hp9 q9 => ?_)
      obtain ⟨⟨z195, rfl, l_z195, u_z195, R_z195⟩, e9⟩ := q9
      rw [e9]
      show yG _ _ _ _ _ _ _ _ _ _ (yI z195 :: [yR 2073]) _
      refine yG.ifz rfl (t := 14) rfl ⟨by omega, by omega⟩ (fun c196 => ?_) (fun c196 => ?_)
      · have c196 : (z195 : Int) ≠ 0 := c196
        replace R_z195 := R_z195 (by omega)
        refine yG.load xak rfl (fun _ _ => rfl) (v := yR 2073) rfl rfl ?_
        refine yG.load xik rfl (fun _ _ => rfl) (v := yI (0)) rfl rfl ?_
        refine yG.load xik rfl (fun _ _ => rfl) (v := yI (p2)) rfl rfl ?_
        refine yG.load xik rfl (fun _ _ => rfl) (v := yI (4)) rfl rfl ?_
        refine yG.load xik rfl (fun _ _ => rfl) (v := yI (p4)) rfl rfl ?_
        refine yG.invV (rest := [yR 2073]) A_hp.1 (bOb (d_M W) H_2073) rfl rfl rfl rfl (c_GModel_mayBe_0_4 W (d + 2) A_hp.1 H_2073 (p2) (p4) (by omega) (by omega) (by omega) (by omega)) (fun rv hp9 q9 => ?_)
        obtain ⟨⟨z197, rfl, l_z197, u_z197, R_z197⟩, e9⟩ := q9
        rw [e9]
        show yG _ _ _ _ _ _ _ _ _ _ (yI z197 :: [yR 2073]) _
        refine yG.ifz rfl (t := 30) rfl ⟨by omega, by omega⟩ (fun c198 => ?_) (fun c198 => ?_)
        · have c198 : (z197 : Int) ≠ 0 := c198
          exfalso; omega
        · have c198 : (z197 : Int) = 0 := c198
          refine yG.num (c := 2) rfl (fun _ _ => rfl) (by decide) ?_
          refine yG.goto rfl (t := 31) rfl ?_
          refine yG.putI A_hp.1 (w_M_thrown W H_2073) (W.2.1 _ _ H_2073 (by decide) (by decide)) rfl rfl (.inl rfl) ⟨by omega, by omega⟩ (by omega) (by omega) (fun h199 T_h199 b_h199 f_h199 y_h199 => ?_)
          have M_bWf_h199 := M_bWf_hp.fr (bAx.put (Wl := [(83076749736557242056487941267521536, 0)]) (bAx.rf A_hp.1) T_h199 b_h199 f_h199 H_2073 (by decide)) (by decide)
          have A_h199 := A_hp.put T_h199 b_h199 f_h199 H_2073 (by decide)
          have : ys h199 2073 0 = 2 := (y_h199 2073 0).trans (if_pos ⟨rfl, rfl⟩)
          refine yG.load xak rfl (fun _ _ => rfl) (v := yR 2073) rfl rfl ?_
          refine yG.getI A_h199.1 (w_M_thrown W H_2073) rfl rfl (fun z200 e_z200 i_z200 l_z200 u_z200 => ?_)
          refine yG.ifz rfl (t := 43) rfl ⟨by omega, by omega⟩ (fun c201 => ?_) (fun c201 => ?_)
          · have c201 : (z200 : Int) ≤ 0 := c201
            exfalso; omega
          · have c201 : (z200 : Int) > 0 := c201
            refine yG.num (c := 0) rfl (fun _ _ => rfl) (by decide) ?_
            refine yG.ret rfl (fun _ _ => rfl) ?_
            exact (yP.int ⟨by omega, by omega⟩ ⟨⟨⟨0, rfl, by omega, by omega, by omega⟩, A_h199⟩, M_bWf_h199⟩)
      · have c196 : (z195 : Int) = 0 := c196
        clear R_z195
        refine yG.num (c := 1) rfl (fun _ _ => rfl) (by decide) ?_
        refine yG.goto rfl (t := 31) rfl ?_
        refine yG.putI A_hp.1 (w_M_thrown W H_2073) (W.2.1 _ _ H_2073 (by decide) (by decide)) rfl rfl (.inl rfl) ⟨by omega, by omega⟩ (by omega) (by omega) (fun h202 T_h202 b_h202 f_h202 y_h202 => ?_)
        have M_bWf_h202 := M_bWf_hp.fr (bAx.put (Wl := [(83076749736557242056487941267521536, 0)]) (bAx.rf A_hp.1) T_h202 b_h202 f_h202 H_2073 (by decide)) (by decide)
        have A_h202 := A_hp.put T_h202 b_h202 f_h202 H_2073 (by decide)
        have : ys h202 2073 0 = 1 := (y_h202 2073 0).trans (if_pos ⟨rfl, rfl⟩)
        refine yG.load xak rfl (fun _ _ => rfl) (v := yR 2073) rfl rfl ?_
        refine yG.getI A_h202.1 (w_M_thrown W H_2073) rfl rfl (fun z203 e_z203 i_z203 l_z203 u_z203 => ?_)
        refine yG.ifz rfl (t := 43) rfl ⟨by omega, by omega⟩ (fun c204 => ?_) (fun c204 => ?_)
        · have c204 : (z203 : Int) ≤ 0 := c204
          exfalso; omega
        · have c204 : (z203 : Int) > 0 := c204
          refine yG.num (c := 0) rfl (fun _ _ => rfl) (by decide) ?_
          refine yG.ret rfl (fun _ _ => rfl) ?_
          exact (yP.int ⟨by omega, by omega⟩ ⟨⟨⟨0, rfl, by omega, by omega, by omega⟩, A_h202⟩, M_bWf_h202⟩)
    · subst c134
      refine yG.load xak rfl (fun _ _ => rfl) (v := yR 2073) rfl rfl ?_
      refine yG.load xak rfl (fun _ _ => rfl) (v := yR 2073) rfl rfl ?_
      refine yG.load xik rfl (fun _ _ => rfl) (v := yI (0)) rfl rfl ?_
      refine yG.load xik rfl (fun _ _ => rfl) (v := yI (p2)) rfl rfl ?_
      refine yG.invV (rest := [yR 2073]) A_hp.1 (bOb (d_M W) H_2073) rfl rfl rfl rfl (c_GModel_isObject W (d + 1) A_hp.1 H_2073 (0) (p2) (by omega) (by omega) (by omega) (by omega)) (fun rv hp9 q9 => ?_)
      obtain ⟨⟨z205, rfl, l_z205, u_z205, R_z205⟩, e9⟩ := q9
      rw [e9]
      show yG _ _ _ _ _ _ _ _ _ _ (yI z205 :: [yR 2073]) _
      refine yG.ifz rfl (t := 14) rfl ⟨by omega, by omega⟩ (fun c206 => ?_) (fun c206 => ?_)
      · have c206 : (z205 : Int) ≠ 0 := c206
        replace R_z205 := R_z205 (by omega)
        refine yG.load xak rfl (fun _ _ => rfl) (v := yR 2073) rfl rfl ?_
        refine yG.load xik rfl (fun _ _ => rfl) (v := yI (0)) rfl rfl ?_
        refine yG.load xik rfl (fun _ _ => rfl) (v := yI (p2)) rfl rfl ?_
        refine yG.load xik rfl (fun _ _ => rfl) (v := yI (5)) rfl rfl ?_
        refine yG.load xik rfl (fun _ _ => rfl) (v := yI (p4)) rfl rfl ?_
        refine yG.invV (rest := [yR 2073]) A_hp.1 (bOb (d_M W) H_2073) rfl rfl rfl rfl (c_GModel_mayBe_0_5 W (d + 2) A_hp.1 H_2073 (p2) (p4) (by omega) (by omega) (by omega) (by omega)) (fun rv hp9 q9 => ?_)
        obtain ⟨⟨z207, rfl, l_z207, u_z207, R_z207⟩, e9⟩ := q9
        rw [e9]
        show yG _ _ _ _ _ _ _ _ _ _ (yI z207 :: [yR 2073]) _
        refine yG.ifz rfl (t := 30) rfl ⟨by omega, by omega⟩ (fun c208 => ?_) (fun c208 => ?_)
        · have c208 : (z207 : Int) ≠ 0 := c208
          exfalso; omega
        · have c208 : (z207 : Int) = 0 := c208
          refine yG.num (c := 2) rfl (fun _ _ => rfl) (by decide) ?_
          refine yG.goto rfl (t := 31) rfl ?_
          refine yG.putI A_hp.1 (w_M_thrown W H_2073) (W.2.1 _ _ H_2073 (by decide) (by decide)) rfl rfl (.inl rfl) ⟨by omega, by omega⟩ (by omega) (by omega) (fun h209 T_h209 b_h209 f_h209 y_h209 => ?_)
          have M_bWf_h209 := M_bWf_hp.fr (bAx.put (Wl := [(83076749736557242056487941267521536, 0)]) (bAx.rf A_hp.1) T_h209 b_h209 f_h209 H_2073 (by decide)) (by decide)
          have A_h209 := A_hp.put T_h209 b_h209 f_h209 H_2073 (by decide)
          have : ys h209 2073 0 = 2 := (y_h209 2073 0).trans (if_pos ⟨rfl, rfl⟩)
          refine yG.load xak rfl (fun _ _ => rfl) (v := yR 2073) rfl rfl ?_
          refine yG.getI A_h209.1 (w_M_thrown W H_2073) rfl rfl (fun z210 e_z210 i_z210 l_z210 u_z210 => ?_)
          refine yG.ifz rfl (t := 43) rfl ⟨by omega, by omega⟩ (fun c211 => ?_) (fun c211 => ?_)
          · have c211 : (z210 : Int) ≤ 0 := c211
            exfalso; omega
          · have c211 : (z210 : Int) > 0 := c211
            refine yG.num (c := 0) rfl (fun _ _ => rfl) (by decide) ?_
            refine yG.ret rfl (fun _ _ => rfl) ?_
            exact (yP.int ⟨by omega, by omega⟩ ⟨⟨⟨0, rfl, by omega, by omega, by omega⟩, A_h209⟩, M_bWf_h209⟩)
      · have c206 : (z205 : Int) = 0 := c206
        clear R_z205
        refine yG.num (c := 1) rfl (fun _ _ => rfl) (by decide) ?_
        refine yG.goto rfl (t := 31) rfl ?_
        refine yG.putI A_hp.1 (w_M_thrown W H_2073) (W.2.1 _ _ H_2073 (by decide) (by decide)) rfl rfl (.inl rfl) ⟨by omega, by omega⟩ (by omega) (by omega) (fun h212 T_h212 b_h212 f_h212 y_h212 => ?_)
        have M_bWf_h212 := M_bWf_hp.fr (bAx.put (Wl := [(83076749736557242056487941267521536, 0)]) (bAx.rf A_hp.1) T_h212 b_h212 f_h212 H_2073 (by decide)) (by decide)
        have A_h212 := A_hp.put T_h212 b_h212 f_h212 H_2073 (by decide)
        have : ys h212 2073 0 = 1 := (y_h212 2073 0).trans (if_pos ⟨rfl, rfl⟩)
        refine yG.load xak rfl (fun _ _ => rfl) (v := yR 2073) rfl rfl ?_
        refine yG.getI A_h212.1 (w_M_thrown W H_2073) rfl rfl (fun z213 e_z213 i_z213 l_z213 u_z213 => ?_)
        refine yG.ifz rfl (t := 43) rfl ⟨by omega, by omega⟩ (fun c214 => ?_) (fun c214 => ?_)
        · have c214 : (z213 : Int) ≤ 0 := c214
          exfalso; omega
        · have c214 : (z213 : Int) > 0 := c214
          refine yG.num (c := 0) rfl (fun _ _ => rfl) (by decide) ?_
          refine yG.ret rfl (fun _ _ => rfl) ?_
          exact (yP.int ⟨by omega, by omega⟩ ⟨⟨⟨0, rfl, by omega, by omega, by omega⟩, A_h212⟩, M_bWf_h212⟩)
    · subst c134
      refine yG.load xak rfl (fun _ _ => rfl) (v := yR 2073) rfl rfl ?_
      refine yG.load xak rfl (fun _ _ => rfl) (v := yR 2073) rfl rfl ?_
      refine yG.load xik rfl (fun _ _ => rfl) (v := yI (0)) rfl rfl ?_
      refine yG.load xik rfl (fun _ _ => rfl) (v := yI (p2)) rfl rfl ?_
      refine yG.invV (rest := [yR 2073]) A_hp.1 (bOb (d_M W) H_2073) rfl rfl rfl rfl (c_GModel_isObject W (d + 1) A_hp.1 H_2073 (0) (p2) (by omega) (by omega) (by omega) (by omega)) (fun rv hp9 q9 => ?_)
      obtain ⟨⟨z215, rfl, l_z215, u_z215, R_z215⟩, e9⟩ := q9
      rw [e9]
      show yG _ _ _ _ _ _ _ _ _ _ (yI z215 :: [yR 2073]) _
      refine yG.ifz rfl (t := 14) rfl ⟨by omega, by omega⟩ (fun c216 => ?_) (fun c216 => ?_)
      · have c216 : (z215 : Int) ≠ 0 := c216
        replace R_z215 := R_z215 (by omega)
        refine yG.load xak rfl (fun _ _ => rfl) (v := yR 2073) rfl rfl ?_
        refine yG.load xik rfl (fun _ _ => rfl) (v := yI (0)) rfl rfl ?_
        refine yG.load xik rfl (fun _ _ => rfl) (v := yI (p2)) rfl rfl ?_
        refine yG.load xik rfl (fun _ _ => rfl) (v := yI (6)) rfl rfl ?_
        refine yG.load xik rfl (fun _ _ => rfl) (v := yI (p4)) rfl rfl ?_
        refine yG.invV (rest := [yR 2073]) A_hp.1 (bOb (d_M W) H_2073) rfl rfl rfl rfl (c_GModel_mayBe_0_6 W (d + 2) A_hp.1 H_2073 (p2) (p4) (by omega) (by omega) (by omega) (by omega)) (fun rv hp9 q9 => ?_)
        obtain ⟨⟨z217, rfl, l_z217, u_z217, R_z217⟩, e9⟩ := q9
        rw [e9]
        show yG _ _ _ _ _ _ _ _ _ _ (yI z217 :: [yR 2073]) _
        refine yG.ifz rfl (t := 30) rfl ⟨by omega, by omega⟩ (fun c218 => ?_) (fun c218 => ?_)
        · have c218 : (z217 : Int) ≠ 0 := c218
          exfalso; omega
        · have c218 : (z217 : Int) = 0 := c218
          refine yG.num (c := 2) rfl (fun _ _ => rfl) (by decide) ?_
          refine yG.goto rfl (t := 31) rfl ?_
          refine yG.putI A_hp.1 (w_M_thrown W H_2073) (W.2.1 _ _ H_2073 (by decide) (by decide)) rfl rfl (.inl rfl) ⟨by omega, by omega⟩ (by omega) (by omega) (fun h219 T_h219 b_h219 f_h219 y_h219 => ?_)
          have M_bWf_h219 := M_bWf_hp.fr (bAx.put (Wl := [(83076749736557242056487941267521536, 0)]) (bAx.rf A_hp.1) T_h219 b_h219 f_h219 H_2073 (by decide)) (by decide)
          have A_h219 := A_hp.put T_h219 b_h219 f_h219 H_2073 (by decide)
          have : ys h219 2073 0 = 2 := (y_h219 2073 0).trans (if_pos ⟨rfl, rfl⟩)
          refine yG.load xak rfl (fun _ _ => rfl) (v := yR 2073) rfl rfl ?_
          refine yG.getI A_h219.1 (w_M_thrown W H_2073) rfl rfl (fun z220 e_z220 i_z220 l_z220 u_z220 => ?_)
          refine yG.ifz rfl (t := 43) rfl ⟨by omega, by omega⟩ (fun c221 => ?_) (fun c221 => ?_)
          · have c221 : (z220 : Int) ≤ 0 := c221
            exfalso; omega
          · have c221 : (z220 : Int) > 0 := c221
            refine yG.num (c := 0) rfl (fun _ _ => rfl) (by decide) ?_
            refine yG.ret rfl (fun _ _ => rfl) ?_
            exact (yP.int ⟨by omega, by omega⟩ ⟨⟨⟨0, rfl, by omega, by omega, by omega⟩, A_h219⟩, M_bWf_h219⟩)
      · have c216 : (z215 : Int) = 0 := c216
        clear R_z215
        refine yG.num (c := 1) rfl (fun _ _ => rfl) (by decide) ?_
        refine yG.goto rfl (t := 31) rfl ?_
        refine yG.putI A_hp.1 (w_M_thrown W H_2073) (W.2.1 _ _ H_2073 (by decide) (by decide)) rfl rfl (.inl rfl) ⟨by omega, by omega⟩ (by omega) (by omega) (fun h222 T_h222 b_h222 f_h222 y_h222 => ?_)
        have M_bWf_h222 := M_bWf_hp.fr (bAx.put (Wl := [(83076749736557242056487941267521536, 0)]) (bAx.rf A_hp.1) T_h222 b_h222 f_h222 H_2073 (by decide)) (by decide)
        have A_h222 := A_hp.put T_h222 b_h222 f_h222 H_2073 (by decide)
        have : ys h222 2073 0 = 1 := (y_h222 2073 0).trans (if_pos ⟨rfl, rfl⟩)
        refine yG.load xak rfl (fun _ _ => rfl) (v := yR 2073) rfl rfl ?_
        refine yG.getI A_h222.1 (w_M_thrown W H_2073) rfl rfl (fun z223 e_z223 i_z223 l_z223 u_z223 => ?_)
        refine yG.ifz rfl (t := 43) rfl ⟨by omega, by omega⟩ (fun c224 => ?_) (fun c224 => ?_)
        · have c224 : (z223 : Int) ≤ 0 := c224
          exfalso; omega
        · have c224 : (z223 : Int) > 0 := c224
          refine yG.num (c := 0) rfl (fun _ _ => rfl) (by decide) ?_
          refine yG.ret rfl (fun _ _ => rfl) ?_
          exact (yP.int ⟨by omega, by omega⟩ ⟨⟨⟨0, rfl, by omega, by omega, by omega⟩, A_h222⟩, M_bWf_h222⟩)
    · subst c134
      refine yG.load xak rfl (fun _ _ => rfl) (v := yR 2073) rfl rfl ?_
      refine yG.load xak rfl (fun _ _ => rfl) (v := yR 2073) rfl rfl ?_
      refine yG.load xik rfl (fun _ _ => rfl) (v := yI (0)) rfl rfl ?_
      refine yG.load xik rfl (fun _ _ => rfl) (v := yI (p2)) rfl rfl ?_
      refine yG.invV (rest := [yR 2073]) A_hp.1 (bOb (d_M W) H_2073) rfl rfl rfl rfl (c_GModel_isObject W (d + 1) A_hp.1 H_2073 (0) (p2) (by omega) (by omega) (by omega) (by omega)) (fun rv hp9 q9 => ?_)
      obtain ⟨⟨z225, rfl, l_z225, u_z225, R_z225⟩, e9⟩ := q9
      rw [e9]
      show yG _ _ _ _ _ _ _ _ _ _ (yI z225 :: [yR 2073]) _
      refine yG.ifz rfl (t := 14) rfl ⟨by omega, by omega⟩ (fun c226 => ?_) (fun c226 => ?_)
      · have c226 : (z225 : Int) ≠ 0 := c226
        replace R_z225 := R_z225 (by omega)
        refine yG.load xak rfl (fun _ _ => rfl) (v := yR 2073) rfl rfl ?_
        refine yG.load xik rfl (fun _ _ => rfl) (v := yI (0)) rfl rfl ?_
        refine yG.load xik rfl (fun _ _ => rfl) (v := yI (p2)) rfl rfl ?_
        refine yG.load xik rfl (fun _ _ => rfl) (v := yI (7)) rfl rfl ?_
        refine yG.load xik rfl (fun _ _ => rfl) (v := yI (p4)) rfl rfl ?_
        refine yG.invV (rest := [yR 2073]) A_hp.1 (bOb (d_M W) H_2073) rfl rfl rfl rfl (c_GModel_mayBe_0_7 W (d + 2) A_hp.1 H_2073 (p2) (p4) (by omega) (by omega) (by omega) (by omega)) (fun rv hp9 q9 => ?_)
        obtain ⟨⟨z227, rfl, l_z227, u_z227, R_z227⟩, e9⟩ := q9
        rw [e9]
        show yG _ _ _ _ _ _ _ _ _ _ (yI z227 :: [yR 2073]) _
        refine yG.ifz rfl (t := 30) rfl ⟨by omega, by omega⟩ (fun c228 => ?_) (fun c228 => ?_)
        · have c228 : (z227 : Int) ≠ 0 := c228
          exfalso; omega
        · have c228 : (z227 : Int) = 0 := c228
          refine yG.num (c := 2) rfl (fun _ _ => rfl) (by decide) ?_
          refine yG.goto rfl (t := 31) rfl ?_
          refine yG.putI A_hp.1 (w_M_thrown W H_2073) (W.2.1 _ _ H_2073 (by decide) (by decide)) rfl rfl (.inl rfl) ⟨by omega, by omega⟩ (by omega) (by omega) (fun h229 T_h229 b_h229 f_h229 y_h229 => ?_)
          have M_bWf_h229 := M_bWf_hp.fr (bAx.put (Wl := [(83076749736557242056487941267521536, 0)]) (bAx.rf A_hp.1) T_h229 b_h229 f_h229 H_2073 (by decide)) (by decide)
          have A_h229 := A_hp.put T_h229 b_h229 f_h229 H_2073 (by decide)
          have : ys h229 2073 0 = 2 := (y_h229 2073 0).trans (if_pos ⟨rfl, rfl⟩)
          refine yG.load xak rfl (fun _ _ => rfl) (v := yR 2073) rfl rfl ?_
          refine yG.getI A_h229.1 (w_M_thrown W H_2073) rfl rfl (fun z230 e_z230 i_z230 l_z230 u_z230 => ?_)
          refine yG.ifz rfl (t := 43) rfl ⟨by omega, by omega⟩ (fun c231 => ?_) (fun c231 => ?_)
          · have c231 : (z230 : Int) ≤ 0 := c231
            exfalso; omega
          · have c231 : (z230 : Int) > 0 := c231
            refine yG.num (c := 0) rfl (fun _ _ => rfl) (by decide) ?_
            refine yG.ret rfl (fun _ _ => rfl) ?_
            exact (yP.int ⟨by omega, by omega⟩ ⟨⟨⟨0, rfl, by omega, by omega, by omega⟩, A_h229⟩, M_bWf_h229⟩)
      · have c226 : (z225 : Int) = 0 := c226
        clear R_z225
        refine yG.num (c := 1) rfl (fun _ _ => rfl) (by decide) ?_
        refine yG.goto rfl (t := 31) rfl ?_
        refine yG.putI A_hp.1 (w_M_thrown W H_2073) (W.2.1 _ _ H_2073 (by decide) (by decide)) rfl rfl (.inl rfl) ⟨by omega, by omega⟩ (by omega) (by omega) (fun h232 T_h232 b_h232 f_h232 y_h232 => ?_)
        have M_bWf_h232 := M_bWf_hp.fr (bAx.put (Wl := [(83076749736557242056487941267521536, 0)]) (bAx.rf A_hp.1) T_h232 b_h232 f_h232 H_2073 (by decide)) (by decide)
        have A_h232 := A_hp.put T_h232 b_h232 f_h232 H_2073 (by decide)
        have : ys h232 2073 0 = 1 := (y_h232 2073 0).trans (if_pos ⟨rfl, rfl⟩)
        refine yG.load xak rfl (fun _ _ => rfl) (v := yR 2073) rfl rfl ?_
        refine yG.getI A_h232.1 (w_M_thrown W H_2073) rfl rfl (fun z233 e_z233 i_z233 l_z233 u_z233 => ?_)
        refine yG.ifz rfl (t := 43) rfl ⟨by omega, by omega⟩ (fun c234 => ?_) (fun c234 => ?_)
        · have c234 : (z233 : Int) ≤ 0 := c234
          exfalso; omega
        · have c234 : (z233 : Int) > 0 := c234
          refine yG.num (c := 0) rfl (fun _ _ => rfl) (by decide) ?_
          refine yG.ret rfl (fun _ _ => rfl) ?_
          exact (yP.int ⟨by omega, by omega⟩ ⟨⟨⟨0, rfl, by omega, by omega, by omega⟩, A_h232⟩, M_bWf_h232⟩)
    · subst c134
      refine yG.load xak rfl (fun _ _ => rfl) (v := yR 2073) rfl rfl ?_
      refine yG.load xak rfl (fun _ _ => rfl) (v := yR 2073) rfl rfl ?_
      refine yG.load xik rfl (fun _ _ => rfl) (v := yI (0)) rfl rfl ?_
      refine yG.load xik rfl (fun _ _ => rfl) (v := yI (p2)) rfl rfl ?_
      refine yG.invV (rest := [yR 2073]) A_hp.1 (bOb (d_M W) H_2073) rfl rfl rfl rfl (c_GModel_isObject W (d + 1) A_hp.1 H_2073 (0) (p2) (by omega) (by omega) (by omega) (by omega)) (fun rv hp9 q9 => ?_)
      obtain ⟨⟨z235, rfl, l_z235, u_z235, R_z235⟩, e9⟩ := q9
      rw [e9]
      show yG _ _ _ _ _ _ _ _ _ _ (yI z235 :: [yR 2073]) _
      refine yG.ifz rfl (t := 14) rfl ⟨by omega, by omega⟩ (fun c236 => ?_) (fun c236 => ?_)
      · have c236 : (z235 : Int) ≠ 0 := c236
        replace R_z235 := R_z235 (by omega)
        refine yG.load xak rfl (fun _ _ => rfl) (v := yR 2073) rfl rfl ?_
        refine yG.load xik rfl (fun _ _ => rfl) (v := yI (0)) rfl rfl ?_
        refine yG.load xik rfl (fun _ _ => rfl) (v := yI (p2)) rfl rfl ?_
        refine yG.load xik rfl (fun _ _ => rfl) (v := yI (8)) rfl rfl ?_
        refine yG.load xik rfl (fun _ _ => rfl) (v := yI (p4)) rfl rfl ?_
        refine yG.invV (rest := [yR 2073]) A_hp.1 (bOb (d_M W) H_2073) rfl rfl rfl rfl (c_GModel_mayBe_0_8 W (d + 2) A_hp.1 H_2073 (p2) (p4) (by omega) (by omega) (by omega) (by omega)) (fun rv hp9 q9 => ?_)
        obtain ⟨⟨z237, rfl, l_z237, u_z237, R_z237⟩, e9⟩ := q9
        rw [e9]
        show yG _ _ _ _ _ _ _ _ _ _ (yI z237 :: [yR 2073]) _
        refine yG.ifz rfl (t := 30) rfl ⟨by omega, by omega⟩ (fun c238 => ?_) (fun c238 => ?_)
        · have c238 : (z237 : Int) ≠ 0 := c238
          exfalso; omega
        · have c238 : (z237 : Int) = 0 := c238
          refine yG.num (c := 2) rfl (fun _ _ => rfl) (by decide) ?_
          refine yG.goto rfl (t := 31) rfl ?_
          refine yG.putI A_hp.1 (w_M_thrown W H_2073) (W.2.1 _ _ H_2073 (by decide) (by decide)) rfl rfl (.inl rfl) ⟨by omega, by omega⟩ (by omega) (by omega) (fun h239 T_h239 b_h239 f_h239 y_h239 => ?_)
          have M_bWf_h239 := M_bWf_hp.fr (bAx.put (Wl := [(83076749736557242056487941267521536, 0)]) (bAx.rf A_hp.1) T_h239 b_h239 f_h239 H_2073 (by decide)) (by decide)
          have A_h239 := A_hp.put T_h239 b_h239 f_h239 H_2073 (by decide)
          have : ys h239 2073 0 = 2 := (y_h239 2073 0).trans (if_pos ⟨rfl, rfl⟩)
          refine yG.load xak rfl (fun _ _ => rfl) (v := yR 2073) rfl rfl ?_
          refine yG.getI A_h239.1 (w_M_thrown W H_2073) rfl rfl (fun z240 e_z240 i_z240 l_z240 u_z240 => ?_)
          refine yG.ifz rfl (t := 43) rfl ⟨by omega, by omega⟩ (fun c241 => ?_) (fun c241 => ?_)
          · have c241 : (z240 : Int) ≤ 0 := c241
            exfalso; omega
          · have c241 : (z240 : Int) > 0 := c241
            refine yG.num (c := 0) rfl (fun _ _ => rfl) (by decide) ?_
            refine yG.ret rfl (fun _ _ => rfl) ?_
            exact (yP.int ⟨by omega, by omega⟩ ⟨⟨⟨0, rfl, by omega, by omega, by omega⟩, A_h239⟩, M_bWf_h239⟩)
      · have c236 : (z235 : Int) = 0 := c236
        clear R_z235
        refine yG.num (c := 1) rfl (fun _ _ => rfl) (by decide) ?_
        refine yG.goto rfl (t := 31) rfl ?_
        refine yG.putI A_hp.1 (w_M_thrown W H_2073) (W.2.1 _ _ H_2073 (by decide) (by decide)) rfl rfl (.inl rfl) ⟨by omega, by omega⟩ (by omega) (by omega) (fun h242 T_h242 b_h242 f_h242 y_h242 => ?_)
        have M_bWf_h242 := M_bWf_hp.fr (bAx.put (Wl := [(83076749736557242056487941267521536, 0)]) (bAx.rf A_hp.1) T_h242 b_h242 f_h242 H_2073 (by decide)) (by decide)
        have A_h242 := A_hp.put T_h242 b_h242 f_h242 H_2073 (by decide)
        have : ys h242 2073 0 = 1 := (y_h242 2073 0).trans (if_pos ⟨rfl, rfl⟩)
        refine yG.load xak rfl (fun _ _ => rfl) (v := yR 2073) rfl rfl ?_
        refine yG.getI A_h242.1 (w_M_thrown W H_2073) rfl rfl (fun z243 e_z243 i_z243 l_z243 u_z243 => ?_)
        refine yG.ifz rfl (t := 43) rfl ⟨by omega, by omega⟩ (fun c244 => ?_) (fun c244 => ?_)
        · have c244 : (z243 : Int) ≤ 0 := c244
          exfalso; omega
        · have c244 : (z243 : Int) > 0 := c244
          refine yG.num (c := 0) rfl (fun _ _ => rfl) (by decide) ?_
          refine yG.ret rfl (fun _ _ => rfl) ?_
          exact (yP.int ⟨by omega, by omega⟩ ⟨⟨⟨0, rfl, by omega, by omega, by omega⟩, A_h242⟩, M_bWf_h242⟩)
    · subst c134
      refine yG.load xak rfl (fun _ _ => rfl) (v := yR 2073) rfl rfl ?_
      refine yG.load xak rfl (fun _ _ => rfl) (v := yR 2073) rfl rfl ?_
      refine yG.load xik rfl (fun _ _ => rfl) (v := yI (0)) rfl rfl ?_
      refine yG.load xik rfl (fun _ _ => rfl) (v := yI (p2)) rfl rfl ?_
      refine yG.invV (rest := [yR 2073]) A_hp.1 (bOb (d_M W) H_2073) rfl rfl rfl rfl (c_GModel_isObject W (d + 1) A_hp.1 H_2073 (0) (p2) (by omega) (by omega) (by omega) (by omega)) (fun rv hp9 q9 => ?_)
      obtain ⟨⟨z245, rfl, l_z245, u_z245, R_z245⟩, e9⟩ := q9
      rw [e9]
      show yG _ _ _ _ _ _ _ _ _ _ (yI z245 :: [yR 2073]) _
      refine yG.ifz rfl (t := 14) rfl ⟨by omega, by omega⟩ (fun c246 => ?_) (fun c246 => ?_)
      · have c246 : (z245 : Int) ≠ 0 := c246
        replace R_z245 := R_z245 (by omega)
        refine yG.load xak rfl (fun _ _ => rfl) (v := yR 2073) rfl rfl ?_
        refine yG.load xik rfl (fun _ _ => rfl) (v := yI (0)) rfl rfl ?_
        refine yG.load xik rfl (fun _ _ => rfl) (v := yI (p2)) rfl rfl ?_
        refine yG.load xik rfl (fun _ _ => rfl) (v := yI (9)) rfl rfl ?_
        refine yG.load xik rfl (fun _ _ => rfl) (v := yI (p4)) rfl rfl ?_
        refine yG.invV (rest := [yR 2073]) A_hp.1 (bOb (d_M W) H_2073) rfl rfl rfl rfl (c_GModel_mayBe_0_9 W (d + 2) A_hp.1 H_2073 (p2) (p4) (by omega) (by omega) (by omega) (by omega)) (fun rv hp9 q9 => ?_)
        obtain ⟨⟨z247, rfl, l_z247, u_z247, R_z247⟩, e9⟩ := q9
        rw [e9]
        show yG _ _ _ _ _ _ _ _ _ _ (yI z247 :: [yR 2073]) _
        refine yG.ifz rfl (t := 30) rfl ⟨by omega, by omega⟩ (fun c248 => ?_) (fun c248 => ?_)
        · have c248 : (z247 : Int) ≠ 0 := c248
          exfalso; omega
        · have c248 : (z247 : Int) = 0 := c248
          refine yG.num (c := 2) rfl (fun _ _ => rfl) (by decide) ?_
          refine yG.goto rfl (t := 31) rfl ?_
          refine yG.putI A_hp.1 (w_M_thrown W H_2073) (W.2.1 _ _ H_2073 (by decide) (by decide)) rfl rfl (.inl rfl) ⟨by omega, by omega⟩ (by omega) (by omega) (fun h249 T_h249 b_h249 f_h249 y_h249 => ?_)
          have M_bWf_h249 := M_bWf_hp.fr (bAx.put (Wl := [(83076749736557242056487941267521536, 0)]) (bAx.rf A_hp.1) T_h249 b_h249 f_h249 H_2073 (by decide)) (by decide)
          have A_h249 := A_hp.put T_h249 b_h249 f_h249 H_2073 (by decide)
          have : ys h249 2073 0 = 2 := (y_h249 2073 0).trans (if_pos ⟨rfl, rfl⟩)
          refine yG.load xak rfl (fun _ _ => rfl) (v := yR 2073) rfl rfl ?_
          refine yG.getI A_h249.1 (w_M_thrown W H_2073) rfl rfl (fun z250 e_z250 i_z250 l_z250 u_z250 => ?_)
          refine yG.ifz rfl (t := 43) rfl ⟨by omega, by omega⟩ (fun c251 => ?_) (fun c251 => ?_)
          · have c251 : (z250 : Int) ≤ 0 := c251
            exfalso; omega
          · have c251 : (z250 : Int) > 0 := c251
            refine yG.num (c := 0) rfl (fun _ _ => rfl) (by decide) ?_
            refine yG.ret rfl (fun _ _ => rfl) ?_
            exact (yP.int ⟨by omega, by omega⟩ ⟨⟨⟨0, rfl, by omega, by omega, by omega⟩, A_h249⟩, M_bWf_h249⟩)
      · have c246 : (z245 : Int) = 0 := c246
        clear R_z245
        refine yG.num (c := 1) rfl (fun _ _ => rfl) (by decide) ?_
        refine yG.goto rfl (t := 31) rfl ?_
        refine yG.putI A_hp.1 (w_M_thrown W H_2073) (W.2.1 _ _ H_2073 (by decide) (by decide)) rfl rfl (.inl rfl) ⟨by omega, by omega⟩ (by omega) (by omega) (fun h252 T_h252 b_h252 f_h252 y_h252 => ?_)
        have M_bWf_h252 := M_bWf_hp.fr (bAx.put (Wl := [(83076749736557242056487941267521536, 0)]) (bAx.rf A_hp.1) T_h252 b_h252 f_h252 H_2073 (by decide)) (by decide)
        have A_h252 := A_hp.put T_h252 b_h252 f_h252 H_2073 (by decide)
        have : ys h252 2073 0 = 1 := (y_h252 2073 0).trans (if_pos ⟨rfl, rfl⟩)
        refine yG.load xak rfl (fun _ _ => rfl) (v := yR 2073) rfl rfl ?_
        refine yG.getI A_h252.1 (w_M_thrown W H_2073) rfl rfl (fun z253 e_z253 i_z253 l_z253 u_z253 => ?_)
        refine yG.ifz rfl (t := 43) rfl ⟨by omega, by omega⟩ (fun c254 => ?_) (fun c254 => ?_)
        · have c254 : (z253 : Int) ≤ 0 := c254
          exfalso; omega
        · have c254 : (z253 : Int) > 0 := c254
          refine yG.num (c := 0) rfl (fun _ _ => rfl) (by decide) ?_
          refine yG.ret rfl (fun _ _ => rfl) ?_
          exact (yP.int ⟨by omega, by omega⟩ ⟨⟨⟨0, rfl, by omega, by omega, by omega⟩, A_h252⟩, M_bWf_h252⟩)
    · subst c134
      refine yG.load xak rfl (fun _ _ => rfl) (v := yR 2073) rfl rfl ?_
      refine yG.load xak rfl (fun _ _ => rfl) (v := yR 2073) rfl rfl ?_
      refine yG.load xik rfl (fun _ _ => rfl) (v := yI (0)) rfl rfl ?_
      refine yG.load xik rfl (fun _ _ => rfl) (v := yI (p2)) rfl rfl ?_
      refine yG.invV (rest := [yR 2073]) A_hp.1 (bOb (d_M W) H_2073) rfl rfl rfl rfl (c_GModel_isObject W (d + 1) A_hp.1 H_2073 (0) (p2) (by omega) (by omega) (by omega) (by omega)) (fun rv hp9 q9 => ?_)
      obtain ⟨⟨z255, rfl, l_z255, u_z255, R_z255⟩, e9⟩ := q9
      rw [e9]
      show yG _ _ _ _ _ _ _ _ _ _ (yI z255 :: [yR 2073]) _
      refine yG.ifz rfl (t := 14) rfl ⟨by omega, by omega⟩ (fun c256 => ?_) (fun c256 => ?_)
      · have c256 : (z255 : Int) ≠ 0 := c256
        replace R_z255 := R_z255 (by omega)
        refine yG.load xak rfl (fun _ _ => rfl) (v := yR 2073) rfl rfl ?_
        refine yG.load xik rfl (fun _ _ => rfl) (v := yI (0)) rfl rfl ?_
        refine yG.load xik rfl (fun _ _ => rfl) (v := yI (p2)) rfl rfl ?_
        refine yG.load xik rfl (fun _ _ => rfl) (v := yI (10)) rfl rfl ?_
        refine yG.load xik rfl (fun _ _ => rfl) (v := yI (p4)) rfl rfl ?_
        refine yG.invV (rest := [yR 2073]) A_hp.1 (bOb (d_M W) H_2073) rfl rfl rfl rfl (c_GModel_mayBe_0_10 W (d + 2) A_hp.1 H_2073 (p2) (p4) (by omega) (by omega) (by omega) (by omega)) (fun rv hp9 q9 => ?_)
        obtain ⟨⟨z257, rfl, l_z257, u_z257, R_z257⟩, e9⟩ := q9
        rw [e9]
        show yG _ _ _ _ _ _ _ _ _ _ (yI z257 :: [yR 2073]) _
        refine yG.ifz rfl (t := 30) rfl ⟨by omega, by omega⟩ (fun c258 => ?_) (fun c258 => ?_)
        · have c258 : (z257 : Int) ≠ 0 := c258
          exfalso; omega
        · have c258 : (z257 : Int) = 0 := c258
          refine yG.num (c := 2) rfl (fun _ _ => rfl) (by decide) ?_
          refine yG.goto rfl (t := 31) rfl ?_
          refine yG.putI A_hp.1 (w_M_thrown W H_2073) (W.2.1 _ _ H_2073 (by decide) (by decide)) rfl rfl (.inl rfl) ⟨by omega, by omega⟩ (by omega) (by omega) (fun h259 T_h259 b_h259 f_h259 y_h259 => ?_)
          have M_bWf_h259 := M_bWf_hp.fr (bAx.put (Wl := [(83076749736557242056487941267521536, 0)]) (bAx.rf A_hp.1) T_h259 b_h259 f_h259 H_2073 (by decide)) (by decide)
          have A_h259 := A_hp.put T_h259 b_h259 f_h259 H_2073 (by decide)
          have : ys h259 2073 0 = 2 := (y_h259 2073 0).trans (if_pos ⟨rfl, rfl⟩)
          refine yG.load xak rfl (fun _ _ => rfl) (v := yR 2073) rfl rfl ?_
          refine yG.getI A_h259.1 (w_M_thrown W H_2073) rfl rfl (fun z260 e_z260 i_z260 l_z260 u_z260 => ?_)
          refine yG.ifz rfl (t := 43) rfl ⟨by omega, by omega⟩ (fun c261 => ?_) (fun c261 => ?_)
          · have c261 : (z260 : Int) ≤ 0 := c261
            exfalso; omega
          · have c261 : (z260 : Int) > 0 := c261
            refine yG.num (c := 0) rfl (fun _ _ => rfl) (by decide) ?_
            refine yG.ret rfl (fun _ _ => rfl) ?_
            exact (yP.int ⟨by omega, by omega⟩ ⟨⟨⟨0, rfl, by omega, by omega, by omega⟩, A_h259⟩, M_bWf_h259⟩)
      · have c256 : (z255 : Int) = 0 := c256
        clear R_z255
        refine yG.num (c := 1) rfl (fun _ _ => rfl) (by decide) ?_
        refine yG.goto rfl (t := 31) rfl ?_
        refine yG.putI A_hp.1 (w_M_thrown W H_2073) (W.2.1 _ _ H_2073 (by decide) (by decide)) rfl rfl (.inl rfl) ⟨by omega, by omega⟩ (by omega) (by omega) (fun h262 T_h262 b_h262 f_h262 y_h262 => ?_)
        have M_bWf_h262 := M_bWf_hp.fr (bAx.put (Wl := [(83076749736557242056487941267521536, 0)]) (bAx.rf A_hp.1) T_h262 b_h262 f_h262 H_2073 (by decide)) (by decide)
        have A_h262 := A_hp.put T_h262 b_h262 f_h262 H_2073 (by decide)
        have : ys h262 2073 0 = 1 := (y_h262 2073 0).trans (if_pos ⟨rfl, rfl⟩)
        refine yG.load xak rfl (fun _ _ => rfl) (v := yR 2073) rfl rfl ?_
        refine yG.getI A_h262.1 (w_M_thrown W H_2073) rfl rfl (fun z263 e_z263 i_z263 l_z263 u_z263 => ?_)
        refine yG.ifz rfl (t := 43) rfl ⟨by omega, by omega⟩ (fun c264 => ?_) (fun c264 => ?_)
        · have c264 : (z263 : Int) ≤ 0 := c264
          exfalso; omega
        · have c264 : (z263 : Int) > 0 := c264
          refine yG.num (c := 0) rfl (fun _ _ => rfl) (by decide) ?_
          refine yG.ret rfl (fun _ _ => rfl) ?_
          exact (yP.int ⟨by omega, by omega⟩ ⟨⟨⟨0, rfl, by omega, by omega, by omega⟩, A_h262⟩, M_bWf_h262⟩)
  · subst c1
    rcases (show p3 ≤ (-1) ∨ p3 ≥ 11 ∨ p3 = 0 ∨ p3 = 1 ∨ p3 = 2 ∨ p3 = 3 ∨ p3 = 4 ∨ p3 = 5 ∨ p3 = 6 ∨ p3 = 7 ∨ p3 = 8 ∨ p3 = 9 ∨ p3 = 10 by omega) with c265 | c265 | c265 | c265 | c265 | c265 | c265 | c265 | c265 | c265 | c265 | c265 | c265
    · skip
      refine yG.load xak rfl (fun _ _ => rfl) (v := yR 2073) rfl rfl ?_
      refine yG.load xak rfl (fun _ _ => rfl) (v := yR 2073) rfl rfl ?_
      refine yG.load xik rfl (fun _ _ => rfl) (v := yI (1)) rfl rfl ?_
      refine yG.load xik rfl (fun _ _ => rfl) (v := yI (p2)) rfl rfl ?_
      refine yG.invV (rest := [yR 2073]) A_hp.1 (bOb (d_M W) H_2073) rfl rfl rfl rfl (c_GModel_isObject W (d + 1) A_hp.1 H_2073 (1) (p2) (by omega) (by omega) (by omega) (by omega)) (fun rv hp9 q9 => ?_)
      obtain ⟨⟨z266, rfl, l_z266, u_z266, R_z266⟩, e9⟩ := q9
      rw [e9]
      show yG _ _ _ _ _ _ _ _ _ _ (yI z266 :: [yR 2073]) _
      refine yG.ifz rfl (t := 14) rfl ⟨by omega, by omega⟩ (fun c267 => ?_) (fun c267 => ?_)
      · have c267 : (z266 : Int) ≠ 0 := c267
        replace R_z266 := R_z266 (by omega)
        refine yG.load xak rfl (fun _ _ => rfl) (v := yR 2073) rfl rfl ?_
        refine yG.load xik rfl (fun _ _ => rfl) (v := yI (1)) rfl rfl ?_
        refine yG.load xik rfl (fun _ _ => rfl) (v := yI (p2)) rfl rfl ?_
        refine yG.load xik rfl (fun _ _ => rfl) (v := yI (p3)) rfl rfl ?_
        refine yG.load xik rfl (fun _ _ => rfl) (v := yI (p4)) rfl rfl ?_
        refine yG.invV (rest := [yR 2073]) A_hp.1 (bOb (d_M W) H_2073) rfl rfl rfl rfl (c_GModel_mayBe_1_l W (d + 2) A_hp.1 H_2073 (p2) (p3) (p4) (by omega) (by omega) (by omega) (by omega) (by omega) (by omega)) (fun rv hp9 q9 => ?_)
        obtain ⟨⟨z268, rfl, l_z268, u_z268, R_z268⟩, e9⟩ := q9
        rw [e9]
        show yG _ _ _ _ _ _ _ _ _ _ (yI z268 :: [yR 2073]) _
        refine yG.ifz rfl (t := 30) rfl ⟨by omega, by omega⟩ (fun c269 => ?_) (fun c269 => ?_)
        · have c269 : (z268 : Int) ≠ 0 := c269
          exfalso; omega
        · have c269 : (z268 : Int) = 0 := c269
          refine yG.num (c := 2) rfl (fun _ _ => rfl) (by decide) ?_
          refine yG.goto rfl (t := 31) rfl ?_
          refine yG.putI A_hp.1 (w_M_thrown W H_2073) (W.2.1 _ _ H_2073 (by decide) (by decide)) rfl rfl (.inl rfl) ⟨by omega, by omega⟩ (by omega) (by omega) (fun h270 T_h270 b_h270 f_h270 y_h270 => ?_)
          have M_bWf_h270 := M_bWf_hp.fr (bAx.put (Wl := [(83076749736557242056487941267521536, 0)]) (bAx.rf A_hp.1) T_h270 b_h270 f_h270 H_2073 (by decide)) (by decide)
          have A_h270 := A_hp.put T_h270 b_h270 f_h270 H_2073 (by decide)
          have : ys h270 2073 0 = 2 := (y_h270 2073 0).trans (if_pos ⟨rfl, rfl⟩)
          refine yG.load xak rfl (fun _ _ => rfl) (v := yR 2073) rfl rfl ?_
          refine yG.getI A_h270.1 (w_M_thrown W H_2073) rfl rfl (fun z271 e_z271 i_z271 l_z271 u_z271 => ?_)
          refine yG.ifz rfl (t := 43) rfl ⟨by omega, by omega⟩ (fun c272 => ?_) (fun c272 => ?_)
          · have c272 : (z271 : Int) ≤ 0 := c272
            exfalso; omega
          · have c272 : (z271 : Int) > 0 := c272
            refine yG.num (c := 0) rfl (fun _ _ => rfl) (by decide) ?_
            refine yG.ret rfl (fun _ _ => rfl) ?_
            exact (yP.int ⟨by omega, by omega⟩ ⟨⟨⟨0, rfl, by omega, by omega, by omega⟩, A_h270⟩, M_bWf_h270⟩)
      · have c267 : (z266 : Int) = 0 := c267
        clear R_z266
        refine yG.num (c := 1) rfl (fun _ _ => rfl) (by decide) ?_
        refine yG.goto rfl (t := 31) rfl ?_
        refine yG.putI A_hp.1 (w_M_thrown W H_2073) (W.2.1 _ _ H_2073 (by decide) (by decide)) rfl rfl (.inl rfl) ⟨by omega, by omega⟩ (by omega) (by omega) (fun h273 T_h273 b_h273 f_h273 y_h273 => ?_)
        have M_bWf_h273 := M_bWf_hp.fr (bAx.put (Wl := [(83076749736557242056487941267521536, 0)]) (bAx.rf A_hp.1) T_h273 b_h273 f_h273 H_2073 (by decide)) (by decide)
        have A_h273 := A_hp.put T_h273 b_h273 f_h273 H_2073 (by decide)
        have : ys h273 2073 0 = 1 := (y_h273 2073 0).trans (if_pos ⟨rfl, rfl⟩)
        refine yG.load xak rfl (fun _ _ => rfl) (v := yR 2073) rfl rfl ?_
        refine yG.getI A_h273.1 (w_M_thrown W H_2073) rfl rfl (fun z274 e_z274 i_z274 l_z274 u_z274 => ?_)
        refine yG.ifz rfl (t := 43) rfl ⟨by omega, by omega⟩ (fun c275 => ?_) (fun c275 => ?_)
        · have c275 : (z274 : Int) ≤ 0 := c275
          exfalso; omega
        · have c275 : (z274 : Int) > 0 := c275
          refine yG.num (c := 0) rfl (fun _ _ => rfl) (by decide) ?_
          refine yG.ret rfl (fun _ _ => rfl) ?_
          exact (yP.int ⟨by omega, by omega⟩ ⟨⟨⟨0, rfl, by omega, by omega, by omega⟩, A_h273⟩, M_bWf_h273⟩)
    · skip
      refine yG.load xak rfl (fun _ _ => rfl) (v := yR 2073) rfl rfl ?_
      refine yG.load xak rfl (fun _ _ => rfl) (v := yR 2073) rfl rfl ?_
      refine yG.load xik rfl (fun _ _ => rfl) (v := yI (1)) rfl rfl ?_
      refine yG.load xik rfl (fun _ _ => rfl) (v := yI (p2)) rfl rfl ?_
      refine yG.invV (rest := [yR 2073]) A_hp.1 (bOb (d_M W) H_2073) rfl rfl rfl rfl (c_GModel_isObject W (d + 1) A_hp.1 H_2073 (1) (p2) (by omega) (by omega) (by omega) (by omega)) (fun rv hp9 q9 => ?_)
      obtain ⟨⟨z276, rfl, l_z276, u_z276, R_z276⟩, e9⟩ := q9
      rw [e9]
      show yG _ _ _ _ _ _ _ _ _ _ (yI z276 :: [yR 2073]) _
      refine yG.ifz rfl (t := 14) rfl ⟨by omega, by omega⟩ (fun c277 => ?_) (fun c277 => ?_)
      · have c277 : (z276 : Int) ≠ 0 := c277
        replace R_z276 := R_z276 (by omega)
        refine yG.load xak rfl (fun _ _ => rfl) (v := yR 2073) rfl rfl ?_
        refine yG.load xik rfl (fun _ _ => rfl) (v := yI (1)) rfl rfl ?_
        refine yG.load xik rfl (fun _ _ => rfl) (v := yI (p2)) rfl rfl ?_
        refine yG.load xik rfl (fun _ _ => rfl) (v := yI (p3)) rfl rfl ?_
        refine yG.load xik rfl (fun _ _ => rfl) (v := yI (p4)) rfl rfl ?_
        refine yG.invV (rest := [yR 2073]) A_hp.1 (bOb (d_M W) H_2073) rfl rfl rfl rfl (c_GModel_mayBe_1_h W (d + 2) A_hp.1 H_2073 (p2) (p3) (p4) (by omega) (by omega) (by omega) (by omega) (by omega) (by omega)) (fun rv hp9 q9 => ?_)
        obtain ⟨⟨z278, rfl, l_z278, u_z278, R_z278⟩, e9⟩ := q9
        rw [e9]
        show yG _ _ _ _ _ _ _ _ _ _ (yI z278 :: [yR 2073]) _
        refine yG.ifz rfl (t := 30) rfl ⟨by omega, by omega⟩ (fun c279 => ?_) (fun c279 => ?_)
        · have c279 : (z278 : Int) ≠ 0 := c279
          exfalso; omega
        · have c279 : (z278 : Int) = 0 := c279
          refine yG.num (c := 2) rfl (fun _ _ => rfl) (by decide) ?_
          refine yG.goto rfl (t := 31) rfl ?_
          refine yG.putI A_hp.1 (w_M_thrown W H_2073) (W.2.1 _ _ H_2073 (by decide) (by decide)) rfl rfl (.inl rfl) ⟨by omega, by omega⟩ (by omega) (by omega) (fun h280 T_h280 b_h280 f_h280 y_h280 => ?_)
          have M_bWf_h280 := M_bWf_hp.fr (bAx.put (Wl := [(83076749736557242056487941267521536, 0)]) (bAx.rf A_hp.1) T_h280 b_h280 f_h280 H_2073 (by decide)) (by decide)
          have A_h280 := A_hp.put T_h280 b_h280 f_h280 H_2073 (by decide)
          have : ys h280 2073 0 = 2 := (y_h280 2073 0).trans (if_pos ⟨rfl, rfl⟩)
          refine yG.load xak rfl (fun _ _ => rfl) (v := yR 2073) rfl rfl ?_
          refine yG.getI A_h280.1 (w_M_thrown W H_2073) rfl rfl (fun z281 e_z281 i_z281 l_z281 u_z281 => ?_)
          refine yG.ifz rfl (t := 43) rfl ⟨by omega, by omega⟩ (fun c282 => ?_) (fun c282 => ?_)
          · have c282 : (z281 : Int) ≤ 0 := c282
            exfalso; omega
          · have c282 : (z281 : Int) > 0 := c282
            refine yG.num (c := 0) rfl (fun _ _ => rfl) (by decide) ?_
            refine yG.ret rfl (fun _ _ => rfl) ?_
            exact (yP.int ⟨by omega, by omega⟩ ⟨⟨⟨0, rfl, by omega, by omega, by omega⟩, A_h280⟩, M_bWf_h280⟩)
      · have c277 : (z276 : Int) = 0 := c277
        clear R_z276
        refine yG.num (c := 1) rfl (fun _ _ => rfl) (by decide) ?_
        refine yG.goto rfl (t := 31) rfl ?_
        refine yG.putI A_hp.1 (w_M_thrown W H_2073) (W.2.1 _ _ H_2073 (by decide) (by decide)) rfl rfl (.inl rfl) ⟨by omega, by omega⟩ (by omega) (by omega) (fun h283 T_h283 b_h283 f_h283 y_h283 => ?_)
        have M_bWf_h283 := M_bWf_hp.fr (bAx.put (Wl := [(83076749736557242056487941267521536, 0)]) (bAx.rf A_hp.1) T_h283 b_h283 f_h283 H_2073 (by decide)) (by decide)
        have A_h283 := A_hp.put T_h283 b_h283 f_h283 H_2073 (by decide)
        have : ys h283 2073 0 = 1 := (y_h283 2073 0).trans (if_pos ⟨rfl, rfl⟩)
        refine yG.load xak rfl (fun _ _ => rfl) (v := yR 2073) rfl rfl ?_
        refine yG.getI A_h283.1 (w_M_thrown W H_2073) rfl rfl (fun z284 e_z284 i_z284 l_z284 u_z284 => ?_)
        refine yG.ifz rfl (t := 43) rfl ⟨by omega, by omega⟩ (fun c285 => ?_) (fun c285 => ?_)
        · have c285 : (z284 : Int) ≤ 0 := c285
          exfalso; omega
        · have c285 : (z284 : Int) > 0 := c285
          refine yG.num (c := 0) rfl (fun _ _ => rfl) (by decide) ?_
          refine yG.ret rfl (fun _ _ => rfl) ?_
          exact (yP.int ⟨by omega, by omega⟩ ⟨⟨⟨0, rfl, by omega, by omega, by omega⟩, A_h283⟩, M_bWf_h283⟩)
    · subst c265
      refine yG.load xak rfl (fun _ _ => rfl) (v := yR 2073) rfl rfl ?_
      refine yG.load xak rfl (fun _ _ => rfl) (v := yR 2073) rfl rfl ?_
      refine yG.load xik rfl (fun _ _ => rfl) (v := yI (1)) rfl rfl ?_
      refine yG.load xik rfl (fun _ _ => rfl) (v := yI (p2)) rfl rfl ?_
      refine yG.invV (rest := [yR 2073]) A_hp.1 (bOb (d_M W) H_2073) rfl rfl rfl rfl (c_GModel_isObject W (d + 1) A_hp.1 H_2073 (1) (p2) (by omega) (by omega) (by omega) (by omega)) (fun rv hp9 q9 => ?_)
      obtain ⟨⟨z286, rfl, l_z286, u_z286, R_z286⟩, e9⟩ := q9
      rw [e9]
      show yG _ _ _ _ _ _ _ _ _ _ (yI z286 :: [yR 2073]) _
      refine yG.ifz rfl (t := 14) rfl ⟨by omega, by omega⟩ (fun c287 => ?_) (fun c287 => ?_)
      · have c287 : (z286 : Int) ≠ 0 := c287
        replace R_z286 := R_z286 (by omega)
        refine yG.load xak rfl (fun _ _ => rfl) (v := yR 2073) rfl rfl ?_
        refine yG.load xik rfl (fun _ _ => rfl) (v := yI (1)) rfl rfl ?_
        refine yG.load xik rfl (fun _ _ => rfl) (v := yI (p2)) rfl rfl ?_
        refine yG.load xik rfl (fun _ _ => rfl) (v := yI (0)) rfl rfl ?_
        refine yG.load xik rfl (fun _ _ => rfl) (v := yI (p4)) rfl rfl ?_
        refine yG.invV (rest := [yR 2073]) A_hp.1 (bOb (d_M W) H_2073) rfl rfl rfl rfl (c_GModel_mayBe_1_0 W (d + 1) A_hp.1 H_2073 (p2) (p4) (by omega) (by omega) (by omega) (by omega)) (fun rv hp9 q9 => ?_)
        obtain ⟨⟨z288, rfl, l_z288, u_z288, R_z288⟩, e9⟩ := q9
        rw [e9]
        show yG _ _ _ _ _ _ _ _ _ _ (yI z288 :: [yR 2073]) _
        refine yG.ifz rfl (t := 30) rfl ⟨by omega, by omega⟩ (fun c289 => ?_) (fun c289 => ?_)
        · have c289 : (z288 : Int) ≠ 0 := c289
          replace R_z288 := R_z288 (by omega)
          refine yG.num (c := 0) rfl (fun _ _ => rfl) (by decide) ?_
          refine yG.putI A_hp.1 (w_M_thrown W H_2073) (W.2.1 _ _ H_2073 (by decide) (by decide)) rfl rfl (.inl rfl) ⟨by omega, by omega⟩ (by omega) (by omega) (fun h290 T_h290 b_h290 f_h290 y_h290 => ?_)
          have M_bWf_h290 := M_bWf_hp.fr (bAx.put (Wl := [(83076749736557242056487941267521536, 0)]) (bAx.rf A_hp.1) T_h290 b_h290 f_h290 H_2073 (by decide)) (by decide)
          have A_h290 := A_hp.put T_h290 b_h290 f_h290 H_2073 (by decide)
          have : ys h290 2073 0 = 0 := (y_h290 2073 0).trans (if_pos ⟨rfl, rfl⟩)
          refine yG.load xak rfl (fun _ _ => rfl) (v := yR 2073) rfl rfl ?_
          refine yG.getI A_h290.1 (w_M_thrown W H_2073) rfl rfl (fun z291 e_z291 i_z291 l_z291 u_z291 => ?_)
          refine yG.ifz rfl (t := 43) rfl ⟨by omega, by omega⟩ (fun c292 => ?_) (fun c292 => ?_)
          · have c292 : (z291 : Int) ≤ 0 := c292
            refine yG.load xak rfl (fun _ _ => rfl) (v := yR 2073) rfl rfl ?_
            refine yG.load xik rfl (fun _ _ => rfl) (v := yI (1)) rfl rfl ?_
            refine yG.load xik rfl (fun _ _ => rfl) (v := yI (p2)) rfl rfl ?_
            refine yG.load xik rfl (fun _ _ => rfl) (v := yI (0)) rfl rfl ?_
            refine yG.invV (rest := []) A_h290.1 (bOb (d_M W) H_2073) rfl rfl rfl rfl (c_GModel_of_1_0 W (d + 1) A_h290.1 H_2073 (p2) (by omega) (by omega)) (fun rv hp9 q9 => ?_)
            obtain ⟨⟨z293, rfl, l_z293, u_z293, R_z293⟩, e9⟩ := q9
            rw [e9]
            show yG _ _ _ _ _ _ _ _ _ _ (yI z293 :: []) _
            refine yG.store1 xik (L' := [(5, yI (z293)), (0, yR 2073), (1, yI (1)), (2, yI (p2)), (3, yI (0)), (4, yI (p4))]) rfl (fun _ _ => rfl) rfl rfl ?_
            refine yG.load xak rfl (fun _ _ => rfl) (v := yR 2073) rfl rfl ?_
            refine yG.getO A_h290.1 (w_M_field W H_2073) rfl rfl (fun r294 H_r294 O_r294 q_r294 => ?_)
            obtain rfl := u_M_field W H_r294
            refine yG.load xik rfl (fun _ _ => rfl) (v := yI (1)) rfl rfl ?_
            refine yG.load xik rfl (fun _ _ => rfl) (v := yI (p2)) rfl rfl ?_
            refine yG.load xik rfl (fun _ _ => rfl) (v := yI (0)) rfl rfl ?_
            refine yG.invS (rest := [yR 2089]) rfl rfl rfl rfl (c_GModel_f W (d + 2) A_h290.1 (1) (p2) (0) (by omega) (by omega) (by omega) (by omega) (by omega) (by omega)) (fun rv hp9 q9 => ?_)
            obtain ⟨⟨z295, rfl, l_z295, u_z295, R_z295⟩, e9⟩ := q9
            rw [e9]
            show yG _ _ _ _ _ _ _ _ _ _ (yI z295 :: [yR 2089]) _
            refine yG.load xik rfl (fun _ _ => rfl) (v := yI (p4)) rfl rfl ?_
            refine yG.iastF A_h290.1 (v_M_field W H_r294) (show yfT ((z295 : Int).toNat) = (0, (0, 2)) from ((yfT_ix (s := 1) (k := 0) (by omega) (by omega) (by omega) (by decide)).trans rfl)) (W.2.1 _ _ H_r294 (by decide) (by decide)) rfl (by omega) (by omega) ⟨by omega, by omega⟩ (by omega) (by omega) (fun h296 T_h296 b_h296 f_h296 y_h296 => ?_)
            have M_bWf_h296 : bWf G h296 := M_bWf_h290.putx y_h296 (fun j hj h9 hb => by unfold mBp at hb; omega) (fun j hj h9 hb => by unfold mXp at hb; omega)
            have A_h296 := A_h290.put T_h296 b_h296 f_h296 H_r294 (bAll_ok (by decide) _)
            have : ys h296 2073 0 = ys h290 2073 0 := (y_h296 2073 0).trans (if_neg (fun e => (bRo.ne H_2073 H_r294 (by decide)) e.1))
            refine yG.load xak rfl (fun _ _ => rfl) (v := yR 2073) rfl rfl ?_
            refine yG.invV (rest := []) A_h296.1 (bOb (d_M W) H_2073) rfl rfl rfl rfl (c_GModel_changed W (d + 2) A_h296.1 H_2073) (fun rv h297 q9 => ?_)
            obtain ⟨⟨rfl, R_z298⟩, B_h297⟩ := q9
            have A_h297 := A_h296.tr B_h297 (by decide)
            have M_bWf_h297 := M_bWf_h296.fr B_h297 (by decide)
            have : ys h297 2073 0 = ys h296 2073 0 := B_h297.ys H_2073 (by decide)
            show yG _ _ _ _ _ _ _ _ _ _ [] _
            refine yG.load xik rfl (fun _ _ => rfl) (v := yI (z293)) rfl rfl ?_
            refine yG.ret rfl (fun _ _ => rfl) ?_
            exact (yP.int ⟨by omega, by omega⟩ ⟨⟨⟨z293, rfl, by omega, by omega, by omega⟩, A_h297⟩, M_bWf_h297⟩)
          · have c292 : (z291 : Int) > 0 := c292
            exfalso; omega
        · have c289 : (z288 : Int) = 0 := c289
          clear R_z288
          refine yG.num (c := 2) rfl (fun _ _ => rfl) (by decide) ?_
          refine yG.goto rfl (t := 31) rfl ?_
          refine yG.putI A_hp.1 (w_M_thrown W H_2073) (W.2.1 _ _ H_2073 (by decide) (by decide)) rfl rfl (.inl rfl) ⟨by omega, by omega⟩ (by omega) (by omega) (fun h299 T_h299 b_h299 f_h299 y_h299 => ?_)
          have M_bWf_h299 := M_bWf_hp.fr (bAx.put (Wl := [(83076749736557242056487941267521536, 0)]) (bAx.rf A_hp.1) T_h299 b_h299 f_h299 H_2073 (by decide)) (by decide)
          have A_h299 := A_hp.put T_h299 b_h299 f_h299 H_2073 (by decide)
          have : ys h299 2073 0 = 2 := (y_h299 2073 0).trans (if_pos ⟨rfl, rfl⟩)
          refine yG.load xak rfl (fun _ _ => rfl) (v := yR 2073) rfl rfl ?_
          refine yG.getI A_h299.1 (w_M_thrown W H_2073) rfl rfl (fun z300 e_z300 i_z300 l_z300 u_z300 => ?_)
          refine yG.ifz rfl (t := 43) rfl ⟨by omega, by omega⟩ (fun c301 => ?_) (fun c301 => ?_)
          · have c301 : (z300 : Int) ≤ 0 := c301
            exfalso; omega
          · have c301 : (z300 : Int) > 0 := c301
            refine yG.num (c := 0) rfl (fun _ _ => rfl) (by decide) ?_
            refine yG.ret rfl (fun _ _ => rfl) ?_
            exact (yP.int ⟨by omega, by omega⟩ ⟨⟨⟨0, rfl, by omega, by omega, by omega⟩, A_h299⟩, M_bWf_h299⟩)
      · have c287 : (z286 : Int) = 0 := c287
        clear R_z286
        refine yG.num (c := 1) rfl (fun _ _ => rfl) (by decide) ?_
        refine yG.goto rfl (t := 31) rfl ?_
        refine yG.putI A_hp.1 (w_M_thrown W H_2073) (W.2.1 _ _ H_2073 (by decide) (by decide)) rfl rfl (.inl rfl) ⟨by omega, by omega⟩ (by omega) (by omega) (fun h302 T_h302 b_h302 f_h302 y_h302 => ?_)
        have M_bWf_h302 := M_bWf_hp.fr (bAx.put (Wl := [(83076749736557242056487941267521536, 0)]) (bAx.rf A_hp.1) T_h302 b_h302 f_h302 H_2073 (by decide)) (by decide)
        have A_h302 := A_hp.put T_h302 b_h302 f_h302 H_2073 (by decide)
        have : ys h302 2073 0 = 1 := (y_h302 2073 0).trans (if_pos ⟨rfl, rfl⟩)
        refine yG.load xak rfl (fun _ _ => rfl) (v := yR 2073) rfl rfl ?_
        refine yG.getI A_h302.1 (w_M_thrown W H_2073) rfl rfl (fun z303 e_z303 i_z303 l_z303 u_z303 => ?_)
        refine yG.ifz rfl (t := 43) rfl ⟨by omega, by omega⟩ (fun c304 => ?_) (fun c304 => ?_)
        · have c304 : (z303 : Int) ≤ 0 := c304
          exfalso; omega
        · have c304 : (z303 : Int) > 0 := c304
          refine yG.num (c := 0) rfl (fun _ _ => rfl) (by decide) ?_
          refine yG.ret rfl (fun _ _ => rfl) ?_
          exact (yP.int ⟨by omega, by omega⟩ ⟨⟨⟨0, rfl, by omega, by omega, by omega⟩, A_h302⟩, M_bWf_h302⟩)
    · subst c265
      refine yG.load xak rfl (fun _ _ => rfl) (v := yR 2073) rfl rfl ?_
      refine yG.load xak rfl (fun _ _ => rfl) (v := yR 2073) rfl rfl ?_
      refine yG.load xik rfl (fun _ _ => rfl) (v := yI (1)) rfl rfl ?_
      refine yG.load xik rfl (fun _ _ => rfl) (v := yI (p2)) rfl rfl ?_
      refine yG.invV (rest := [yR 2073]) A_hp.1 (bOb (d_M W) H_2073) rfl rfl rfl rfl (c_GModel_isObject W (d + 1) A_hp.1 H_2073 (1) (p2) (by omega) (by omega) (by omega) (by omega)) (fun rv hp9 q9 => ?_)
      obtain ⟨⟨z305, rfl, l_z305, u_z305, R_z305⟩, e9⟩ := q9
      rw [e9]
      show yG _ _ _ _ _ _ _ _ _ _ (yI z305 :: [yR 2073]) _
      refine yG.ifz rfl (t := 14) rfl ⟨by omega, by omega⟩ (fun c306 => ?_) (fun c306 => ?_)
      · have c306 : (z305 : Int) ≠ 0 := c306
        replace R_z305 := R_z305 (by omega)
        refine yG.load xak rfl (fun _ _ => rfl) (v := yR 2073) rfl rfl ?_
        refine yG.load xik rfl (fun _ _ => rfl) (v := yI (1)) rfl rfl ?_
        refine yG.load xik rfl (fun _ _ => rfl) (v := yI (p2)) rfl rfl ?_
        refine yG.load xik rfl (fun _ _ => rfl) (v := yI (1)) rfl rfl ?_
        refine yG.load xik rfl (fun _ _ => rfl) (v := yI (p4)) rfl rfl ?_
        refine yG.invV (rest := [yR 2073]) A_hp.1 (bOb (d_M W) H_2073) rfl rfl rfl rfl (c_GModel_mayBe_1_1 W (d + 1) A_hp.1 H_2073 (p2) (p4) (by omega) (by omega) (by omega) (by omega)) (fun rv hp9 q9 => ?_)
        obtain ⟨⟨z307, rfl, l_z307, u_z307, R_z307⟩, e9⟩ := q9
        rw [e9]
        show yG _ _ _ _ _ _ _ _ _ _ (yI z307 :: [yR 2073]) _
        refine yG.ifz rfl (t := 30) rfl ⟨by omega, by omega⟩ (fun c308 => ?_) (fun c308 => ?_)
        · have c308 : (z307 : Int) ≠ 0 := c308
          replace R_z307 := R_z307 (by omega)
          refine yG.num (c := 0) rfl (fun _ _ => rfl) (by decide) ?_
          refine yG.putI A_hp.1 (w_M_thrown W H_2073) (W.2.1 _ _ H_2073 (by decide) (by decide)) rfl rfl (.inl rfl) ⟨by omega, by omega⟩ (by omega) (by omega) (fun h309 T_h309 b_h309 f_h309 y_h309 => ?_)
          have M_bWf_h309 := M_bWf_hp.fr (bAx.put (Wl := [(83076749736557242056487941267521536, 0)]) (bAx.rf A_hp.1) T_h309 b_h309 f_h309 H_2073 (by decide)) (by decide)
          have A_h309 := A_hp.put T_h309 b_h309 f_h309 H_2073 (by decide)
          have : ys h309 2073 0 = 0 := (y_h309 2073 0).trans (if_pos ⟨rfl, rfl⟩)
          refine yG.load xak rfl (fun _ _ => rfl) (v := yR 2073) rfl rfl ?_
          refine yG.getI A_h309.1 (w_M_thrown W H_2073) rfl rfl (fun z310 e_z310 i_z310 l_z310 u_z310 => ?_)
          refine yG.ifz rfl (t := 43) rfl ⟨by omega, by omega⟩ (fun c311 => ?_) (fun c311 => ?_)
          · have c311 : (z310 : Int) ≤ 0 := c311
            refine yG.load xak rfl (fun _ _ => rfl) (v := yR 2073) rfl rfl ?_
            refine yG.load xik rfl (fun _ _ => rfl) (v := yI (1)) rfl rfl ?_
            refine yG.load xik rfl (fun _ _ => rfl) (v := yI (p2)) rfl rfl ?_
            refine yG.load xik rfl (fun _ _ => rfl) (v := yI (1)) rfl rfl ?_
            refine yG.invV (rest := []) A_h309.1 (bOb (d_M W) H_2073) rfl rfl rfl rfl (c_GModel_of_1_1 W (d + 1) A_h309.1 H_2073 (p2) (by omega) (by omega)) (fun rv hp9 q9 => ?_)
            obtain ⟨⟨z312, rfl, l_z312, u_z312, R_z312⟩, e9⟩ := q9
            rw [e9]
            show yG _ _ _ _ _ _ _ _ _ _ (yI z312 :: []) _
            refine yG.store1 xik (L' := [(5, yI (z312)), (0, yR 2073), (1, yI (1)), (2, yI (p2)), (3, yI (1)), (4, yI (p4))]) rfl (fun _ _ => rfl) rfl rfl ?_
            refine yG.load xak rfl (fun _ _ => rfl) (v := yR 2073) rfl rfl ?_
            refine yG.getO A_h309.1 (w_M_field W H_2073) rfl rfl (fun r313 H_r313 O_r313 q_r313 => ?_)
            obtain rfl := u_M_field W H_r313
            refine yG.load xik rfl (fun _ _ => rfl) (v := yI (1)) rfl rfl ?_
            refine yG.load xik rfl (fun _ _ => rfl) (v := yI (p2)) rfl rfl ?_
            refine yG.load xik rfl (fun _ _ => rfl) (v := yI (1)) rfl rfl ?_
            refine yG.invS (rest := [yR 2089]) rfl rfl rfl rfl (c_GModel_f W (d + 2) A_h309.1 (1) (p2) (1) (by omega) (by omega) (by omega) (by omega) (by omega) (by omega)) (fun rv hp9 q9 => ?_)
            obtain ⟨⟨z314, rfl, l_z314, u_z314, R_z314⟩, e9⟩ := q9
            rw [e9]
            show yG _ _ _ _ _ _ _ _ _ _ (yI z314 :: [yR 2089]) _
            refine yG.load xik rfl (fun _ _ => rfl) (v := yI (p4)) rfl rfl ?_
            refine yG.iastF A_h309.1 (v_M_field W H_r313) (show yfT ((z314 : Int).toNat) = (0, (0, 999999)) from ((yfT_ix (s := 1) (k := 1) (by omega) (by omega) (by omega) (by decide)).trans rfl)) (W.2.1 _ _ H_r313 (by decide) (by decide)) rfl (by omega) (by omega) ⟨by omega, by omega⟩ (by omega) (by omega) (fun h315 T_h315 b_h315 f_h315 y_h315 => ?_)
            have M_bWf_h315 : bWf G h315 := M_bWf_h309.putx y_h315 (fun j hj h9 hb => by unfold mBp at hb; omega) (fun j hj h9 hb => by unfold mXp at hb; omega)
            have A_h315 := A_h309.put T_h315 b_h315 f_h315 H_r313 (bAll_ok (by decide) _)
            have : ys h315 2073 0 = ys h309 2073 0 := (y_h315 2073 0).trans (if_neg (fun e => (bRo.ne H_2073 H_r313 (by decide)) e.1))
            refine yG.load xak rfl (fun _ _ => rfl) (v := yR 2073) rfl rfl ?_
            refine yG.invV (rest := []) A_h315.1 (bOb (d_M W) H_2073) rfl rfl rfl rfl (c_GModel_changed W (d + 2) A_h315.1 H_2073) (fun rv h316 q9 => ?_)
            obtain ⟨⟨rfl, R_z317⟩, B_h316⟩ := q9
            have A_h316 := A_h315.tr B_h316 (by decide)
            have M_bWf_h316 := M_bWf_h315.fr B_h316 (by decide)
            have : ys h316 2073 0 = ys h315 2073 0 := B_h316.ys H_2073 (by decide)
            show yG _ _ _ _ _ _ _ _ _ _ [] _
            refine yG.load xik rfl (fun _ _ => rfl) (v := yI (z312)) rfl rfl ?_
            refine yG.ret rfl (fun _ _ => rfl) ?_
            exact (yP.int ⟨by omega, by omega⟩ ⟨⟨⟨z312, rfl, by omega, by omega, by omega⟩, A_h316⟩, M_bWf_h316⟩)
          · have c311 : (z310 : Int) > 0 := c311
            exfalso; omega
        · have c308 : (z307 : Int) = 0 := c308
          clear R_z307
          refine yG.num (c := 2) rfl (fun _ _ => rfl) (by decide) ?_
          refine yG.goto rfl (t := 31) rfl ?_
          refine yG.putI A_hp.1 (w_M_thrown W H_2073) (W.2.1 _ _ H_2073 (by decide) (by decide)) rfl rfl (.inl rfl) ⟨by omega, by omega⟩ (by omega) (by omega) (fun h318 T_h318 b_h318 f_h318 y_h318 => ?_)
          have M_bWf_h318 := M_bWf_hp.fr (bAx.put (Wl := [(83076749736557242056487941267521536, 0)]) (bAx.rf A_hp.1) T_h318 b_h318 f_h318 H_2073 (by decide)) (by decide)
          have A_h318 := A_hp.put T_h318 b_h318 f_h318 H_2073 (by decide)
          have : ys h318 2073 0 = 2 := (y_h318 2073 0).trans (if_pos ⟨rfl, rfl⟩)
          refine yG.load xak rfl (fun _ _ => rfl) (v := yR 2073) rfl rfl ?_
          refine yG.getI A_h318.1 (w_M_thrown W H_2073) rfl rfl (fun z319 e_z319 i_z319 l_z319 u_z319 => ?_)
          refine yG.ifz rfl (t := 43) rfl ⟨by omega, by omega⟩ (fun c320 => ?_) (fun c320 => ?_)
          · have c320 : (z319 : Int) ≤ 0 := c320
            exfalso; omega
          · have c320 : (z319 : Int) > 0 := c320
            refine yG.num (c := 0) rfl (fun _ _ => rfl) (by decide) ?_
            refine yG.ret rfl (fun _ _ => rfl) ?_
            exact (yP.int ⟨by omega, by omega⟩ ⟨⟨⟨0, rfl, by omega, by omega, by omega⟩, A_h318⟩, M_bWf_h318⟩)
      · have c306 : (z305 : Int) = 0 := c306
        clear R_z305
        refine yG.num (c := 1) rfl (fun _ _ => rfl) (by decide) ?_
        refine yG.goto rfl (t := 31) rfl ?_
        refine yG.putI A_hp.1 (w_M_thrown W H_2073) (W.2.1 _ _ H_2073 (by decide) (by decide)) rfl rfl (.inl rfl) ⟨by omega, by omega⟩ (by omega) (by omega) (fun h321 T_h321 b_h321 f_h321 y_h321 => ?_)
        have M_bWf_h321 := M_bWf_hp.fr (bAx.put (Wl := [(83076749736557242056487941267521536, 0)]) (bAx.rf A_hp.1) T_h321 b_h321 f_h321 H_2073 (by decide)) (by decide)
        have A_h321 := A_hp.put T_h321 b_h321 f_h321 H_2073 (by decide)
        have : ys h321 2073 0 = 1 := (y_h321 2073 0).trans (if_pos ⟨rfl, rfl⟩)
        refine yG.load xak rfl (fun _ _ => rfl) (v := yR 2073) rfl rfl ?_
        refine yG.getI A_h321.1 (w_M_thrown W H_2073) rfl rfl (fun z322 e_z322 i_z322 l_z322 u_z322 => ?_)
        refine yG.ifz rfl (t := 43) rfl ⟨by omega, by omega⟩ (fun c323 => ?_) (fun c323 => ?_)
        · have c323 : (z322 : Int) ≤ 0 := c323
          exfalso; omega
        · have c323 : (z322 : Int) > 0 := c323
          refine yG.num (c := 0) rfl (fun _ _ => rfl) (by decide) ?_
          refine yG.ret rfl (fun _ _ => rfl) ?_
          exact (yP.int ⟨by omega, by omega⟩ ⟨⟨⟨0, rfl, by omega, by omega, by omega⟩, A_h321⟩, M_bWf_h321⟩)
    · subst c265
      refine yG.load xak rfl (fun _ _ => rfl) (v := yR 2073) rfl rfl ?_
      refine yG.load xak rfl (fun _ _ => rfl) (v := yR 2073) rfl rfl ?_
      refine yG.load xik rfl (fun _ _ => rfl) (v := yI (1)) rfl rfl ?_
      refine yG.load xik rfl (fun _ _ => rfl) (v := yI (p2)) rfl rfl ?_
      refine yG.invV (rest := [yR 2073]) A_hp.1 (bOb (d_M W) H_2073) rfl rfl rfl rfl (c_GModel_isObject W (d + 1) A_hp.1 H_2073 (1) (p2) (by omega) (by omega) (by omega) (by omega)) (fun rv hp9 q9 => ?_)
      obtain ⟨⟨z324, rfl, l_z324, u_z324, R_z324⟩, e9⟩ := q9
      rw [e9]
      show yG _ _ _ _ _ _ _ _ _ _ (yI z324 :: [yR 2073]) _
      refine yG.ifz rfl (t := 14) rfl ⟨by omega, by omega⟩ (fun c325 => ?_) (fun c325 => ?_)
      · have c325 : (z324 : Int) ≠ 0 := c325
        replace R_z324 := R_z324 (by omega)
        refine yG.load xak rfl (fun _ _ => rfl) (v := yR 2073) rfl rfl ?_
        refine yG.load xik rfl (fun _ _ => rfl) (v := yI (1)) rfl rfl ?_
        refine yG.load xik rfl (fun _ _ => rfl) (v := yI (p2)) rfl rfl ?_
        refine yG.load xik rfl (fun _ _ => rfl) (v := yI (2)) rfl rfl ?_
        refine yG.load xik rfl (fun _ _ => rfl) (v := yI (p4)) rfl rfl ?_
        refine yG.invV (rest := [yR 2073]) A_hp.1 (bOb (d_M W) H_2073) rfl rfl rfl rfl (c_GModel_mayBe_1_2 W (d + 2) A_hp.1 H_2073 (p2) (p4) (by omega) (by omega) (by omega) (by omega)) (fun rv hp9 q9 => ?_)
        obtain ⟨⟨z326, rfl, l_z326, u_z326, R_z326⟩, e9⟩ := q9
        rw [e9]
        show yG _ _ _ _ _ _ _ _ _ _ (yI z326 :: [yR 2073]) _
        refine yG.ifz rfl (t := 30) rfl ⟨by omega, by omega⟩ (fun c327 => ?_) (fun c327 => ?_)
        · have c327 : (z326 : Int) ≠ 0 := c327
          exfalso; omega
        · have c327 : (z326 : Int) = 0 := c327
          refine yG.num (c := 2) rfl (fun _ _ => rfl) (by decide) ?_
          refine yG.goto rfl (t := 31) rfl ?_
          refine yG.putI A_hp.1 (w_M_thrown W H_2073) (W.2.1 _ _ H_2073 (by decide) (by decide)) rfl rfl (.inl rfl) ⟨by omega, by omega⟩ (by omega) (by omega) (fun h328 T_h328 b_h328 f_h328 y_h328 => ?_)
          have M_bWf_h328 := M_bWf_hp.fr (bAx.put (Wl := [(83076749736557242056487941267521536, 0)]) (bAx.rf A_hp.1) T_h328 b_h328 f_h328 H_2073 (by decide)) (by decide)
          have A_h328 := A_hp.put T_h328 b_h328 f_h328 H_2073 (by decide)
          have : ys h328 2073 0 = 2 := (y_h328 2073 0).trans (if_pos ⟨rfl, rfl⟩)
          refine yG.load xak rfl (fun _ _ => rfl) (v := yR 2073) rfl rfl ?_
          refine yG.getI A_h328.1 (w_M_thrown W H_2073) rfl rfl (fun z329 e_z329 i_z329 l_z329 u_z329 => ?_)
          refine yG.ifz rfl (t := 43) rfl ⟨by omega, by omega⟩ (fun c330 => ?_) (fun c330 => ?_)
          · have c330 : (z329 : Int) ≤ 0 := c330
            exfalso; omega
          · have c330 : (z329 : Int) > 0 := c330
            refine yG.num (c := 0) rfl (fun _ _ => rfl) (by decide) ?_
            refine yG.ret rfl (fun _ _ => rfl) ?_
            exact (yP.int ⟨by omega, by omega⟩ ⟨⟨⟨0, rfl, by omega, by omega, by omega⟩, A_h328⟩, M_bWf_h328⟩)
      · have c325 : (z324 : Int) = 0 := c325
        clear R_z324
        refine yG.num (c := 1) rfl (fun _ _ => rfl) (by decide) ?_
        refine yG.goto rfl (t := 31) rfl ?_
        refine yG.putI A_hp.1 (w_M_thrown W H_2073) (W.2.1 _ _ H_2073 (by decide) (by decide)) rfl rfl (.inl rfl) ⟨by omega, by omega⟩ (by omega) (by omega) (fun h331 T_h331 b_h331 f_h331 y_h331 => ?_)
        have M_bWf_h331 := M_bWf_hp.fr (bAx.put (Wl := [(83076749736557242056487941267521536, 0)]) (bAx.rf A_hp.1) T_h331 b_h331 f_h331 H_2073 (by decide)) (by decide)
        have A_h331 := A_hp.put T_h331 b_h331 f_h331 H_2073 (by decide)
        have : ys h331 2073 0 = 1 := (y_h331 2073 0).trans (if_pos ⟨rfl, rfl⟩)
        refine yG.load xak rfl (fun _ _ => rfl) (v := yR 2073) rfl rfl ?_
        refine yG.getI A_h331.1 (w_M_thrown W H_2073) rfl rfl (fun z332 e_z332 i_z332 l_z332 u_z332 => ?_)
        refine yG.ifz rfl (t := 43) rfl ⟨by omega, by omega⟩ (fun c333 => ?_) (fun c333 => ?_)
        · have c333 : (z332 : Int) ≤ 0 := c333
          exfalso; omega
        · have c333 : (z332 : Int) > 0 := c333
          refine yG.num (c := 0) rfl (fun _ _ => rfl) (by decide) ?_
          refine yG.ret rfl (fun _ _ => rfl) ?_
          exact (yP.int ⟨by omega, by omega⟩ ⟨⟨⟨0, rfl, by omega, by omega, by omega⟩, A_h331⟩, M_bWf_h331⟩)
    · subst c265
      refine yG.load xak rfl (fun _ _ => rfl) (v := yR 2073) rfl rfl ?_
      refine yG.load xak rfl (fun _ _ => rfl) (v := yR 2073) rfl rfl ?_
      refine yG.load xik rfl (fun _ _ => rfl) (v := yI (1)) rfl rfl ?_
      refine yG.load xik rfl (fun _ _ => rfl) (v := yI (p2)) rfl rfl ?_
      refine yG.invV (rest := [yR 2073]) A_hp.1 (bOb (d_M W) H_2073) rfl rfl rfl rfl (c_GModel_isObject W (d + 1) A_hp.1 H_2073 (1) (p2) (by omega) (by omega) (by omega) (by omega)) (fun rv hp9 q9 => ?_)
      obtain ⟨⟨z334, rfl, l_z334, u_z334, R_z334⟩, e9⟩ := q9
      rw [e9]
      show yG _ _ _ _ _ _ _ _ _ _ (yI z334 :: [yR 2073]) _
      refine yG.ifz rfl (t := 14) rfl ⟨by omega, by omega⟩ (fun c335 => ?_) (fun c335 => ?_)
      · have c335 : (z334 : Int) ≠ 0 := c335
        replace R_z334 := R_z334 (by omega)
        refine yG.load xak rfl (fun _ _ => rfl) (v := yR 2073) rfl rfl ?_
        refine yG.load xik rfl (fun _ _ => rfl) (v := yI (1)) rfl rfl ?_
        refine yG.load xik rfl (fun _ _ => rfl) (v := yI (p2)) rfl rfl ?_
        refine yG.load xik rfl (fun _ _ => rfl) (v := yI (3)) rfl rfl ?_
        refine yG.load xik rfl (fun _ _ => rfl) (v := yI (p4)) rfl rfl ?_
        refine yG.invV (rest := [yR 2073]) A_hp.1 (bOb (d_M W) H_2073) rfl rfl rfl rfl (c_GModel_mayBe_1_3 W (d + 2) A_hp.1 H_2073 (p2) (p4) (by omega) (by omega) (by omega) (by omega)) (fun rv hp9 q9 => ?_)
        obtain ⟨⟨z336, rfl, l_z336, u_z336, R_z336⟩, e9⟩ := q9
        rw [e9]
        show yG _ _ _ _ _ _ _ _ _ _ (yI z336 :: [yR 2073]) _
        refine yG.ifz rfl (t := 30) rfl ⟨by omega, by omega⟩ (fun c337 => ?_) (fun c337 => ?_)
        · have c337 : (z336 : Int) ≠ 0 := c337
          exfalso; omega
        · have c337 : (z336 : Int) = 0 := c337
          refine yG.num (c := 2) rfl (fun _ _ => rfl) (by decide) ?_
          refine yG.goto rfl (t := 31) rfl ?_
          refine yG.putI A_hp.1 (w_M_thrown W H_2073) (W.2.1 _ _ H_2073 (by decide) (by decide)) rfl rfl (.inl rfl) ⟨by omega, by omega⟩ (by omega) (by omega) (fun h338 T_h338 b_h338 f_h338 y_h338 => ?_)
          have M_bWf_h338 := M_bWf_hp.fr (bAx.put (Wl := [(83076749736557242056487941267521536, 0)]) (bAx.rf A_hp.1) T_h338 b_h338 f_h338 H_2073 (by decide)) (by decide)
          have A_h338 := A_hp.put T_h338 b_h338 f_h338 H_2073 (by decide)
          have : ys h338 2073 0 = 2 := (y_h338 2073 0).trans (if_pos ⟨rfl, rfl⟩)
          refine yG.load xak rfl (fun _ _ => rfl) (v := yR 2073) rfl rfl ?_
          refine yG.getI A_h338.1 (w_M_thrown W H_2073) rfl rfl (fun z339 e_z339 i_z339 l_z339 u_z339 => ?_)
          refine yG.ifz rfl (t := 43) rfl ⟨by omega, by omega⟩ (fun c340 => ?_) (fun c340 => ?_)
          · have c340 : (z339 : Int) ≤ 0 := c340
            exfalso; omega
          · have c340 : (z339 : Int) > 0 := c340
            refine yG.num (c := 0) rfl (fun _ _ => rfl) (by decide) ?_
            refine yG.ret rfl (fun _ _ => rfl) ?_
            exact (yP.int ⟨by omega, by omega⟩ ⟨⟨⟨0, rfl, by omega, by omega, by omega⟩, A_h338⟩, M_bWf_h338⟩)
      · have c335 : (z334 : Int) = 0 := c335
        clear R_z334
        refine yG.num (c := 1) rfl (fun _ _ => rfl) (by decide) ?_
        refine yG.goto rfl (t := 31) rfl ?_
        refine yG.putI A_hp.1 (w_M_thrown W H_2073) (W.2.1 _ _ H_2073 (by decide) (by decide)) rfl rfl (.inl rfl) ⟨by omega, by omega⟩ (by omega) (by omega) (fun h341 T_h341 b_h341 f_h341 y_h341 => ?_)
        have M_bWf_h341 := M_bWf_hp.fr (bAx.put (Wl := [(83076749736557242056487941267521536, 0)]) (bAx.rf A_hp.1) T_h341 b_h341 f_h341 H_2073 (by decide)) (by decide)
        have A_h341 := A_hp.put T_h341 b_h341 f_h341 H_2073 (by decide)
        have : ys h341 2073 0 = 1 := (y_h341 2073 0).trans (if_pos ⟨rfl, rfl⟩)
        refine yG.load xak rfl (fun _ _ => rfl) (v := yR 2073) rfl rfl ?_
        refine yG.getI A_h341.1 (w_M_thrown W H_2073) rfl rfl (fun z342 e_z342 i_z342 l_z342 u_z342 => ?_)
        refine yG.ifz rfl (t := 43) rfl ⟨by omega, by omega⟩ (fun c343 => ?_) (fun c343 => ?_)
        · have c343 : (z342 : Int) ≤ 0 := c343
          exfalso; omega
        · have c343 : (z342 : Int) > 0 := c343
          refine yG.num (c := 0) rfl (fun _ _ => rfl) (by decide) ?_
          refine yG.ret rfl (fun _ _ => rfl) ?_
          exact (yP.int ⟨by omega, by omega⟩ ⟨⟨⟨0, rfl, by omega, by omega, by omega⟩, A_h341⟩, M_bWf_h341⟩)
    · subst c265
      refine yG.load xak rfl (fun _ _ => rfl) (v := yR 2073) rfl rfl ?_
      refine yG.load xak rfl (fun _ _ => rfl) (v := yR 2073) rfl rfl ?_
      refine yG.load xik rfl (fun _ _ => rfl) (v := yI (1)) rfl rfl ?_
      refine yG.load xik rfl (fun _ _ => rfl) (v := yI (p2)) rfl rfl ?_
      refine yG.invV (rest := [yR 2073]) A_hp.1 (bOb (d_M W) H_2073) rfl rfl rfl rfl (c_GModel_isObject W (d + 1) A_hp.1 H_2073 (1) (p2) (by omega) (by omega) (by omega) (by omega)) (fun rv hp9 q9 => ?_)
      obtain ⟨⟨z344, rfl, l_z344, u_z344, R_z344⟩, e9⟩ := q9
      rw [e9]
      show yG _ _ _ _ _ _ _ _ _ _ (yI z344 :: [yR 2073]) _
      refine yG.ifz rfl (t := 14) rfl ⟨by omega, by omega⟩ (fun c345 => ?_) (fun c345 => ?_)
      · have c345 : (z344 : Int) ≠ 0 := c345
        replace R_z344 := R_z344 (by omega)
        refine yG.load xak rfl (fun _ _ => rfl) (v := yR 2073) rfl rfl ?_
        refine yG.load xik rfl (fun _ _ => rfl) (v := yI (1)) rfl rfl ?_
        refine yG.load xik rfl (fun _ _ => rfl) (v := yI (p2)) rfl rfl ?_
        refine yG.load xik rfl (fun _ _ => rfl) (v := yI (4)) rfl rfl ?_
        refine yG.load xik rfl (fun _ _ => rfl) (v := yI (p4)) rfl rfl ?_
        refine yG.invV (rest := [yR 2073]) A_hp.1 (bOb (d_M W) H_2073) rfl rfl rfl rfl (c_GModel_mayBe_1_4 W (d + 2) A_hp.1 H_2073 (p2) (p4) (by omega) (by omega) (by omega) (by omega)) (fun rv hp9 q9 => ?_)
        obtain ⟨⟨z346, rfl, l_z346, u_z346, R_z346⟩, e9⟩ := q9
        rw [e9]
        show yG _ _ _ _ _ _ _ _ _ _ (yI z346 :: [yR 2073]) _
        refine yG.ifz rfl (t := 30) rfl ⟨by omega, by omega⟩ (fun c347 => ?_) (fun c347 => ?_)
        · have c347 : (z346 : Int) ≠ 0 := c347
          exfalso; omega
        · have c347 : (z346 : Int) = 0 := c347
          refine yG.num (c := 2) rfl (fun _ _ => rfl) (by decide) ?_
          refine yG.goto rfl (t := 31) rfl ?_
          refine yG.putI A_hp.1 (w_M_thrown W H_2073) (W.2.1 _ _ H_2073 (by decide) (by decide)) rfl rfl (.inl rfl) ⟨by omega, by omega⟩ (by omega) (by omega) (fun h348 T_h348 b_h348 f_h348 y_h348 => ?_)
          have M_bWf_h348 := M_bWf_hp.fr (bAx.put (Wl := [(83076749736557242056487941267521536, 0)]) (bAx.rf A_hp.1) T_h348 b_h348 f_h348 H_2073 (by decide)) (by decide)
          have A_h348 := A_hp.put T_h348 b_h348 f_h348 H_2073 (by decide)
          have : ys h348 2073 0 = 2 := (y_h348 2073 0).trans (if_pos ⟨rfl, rfl⟩)
          refine yG.load xak rfl (fun _ _ => rfl) (v := yR 2073) rfl rfl ?_
          refine yG.getI A_h348.1 (w_M_thrown W H_2073) rfl rfl (fun z349 e_z349 i_z349 l_z349 u_z349 => ?_)
          refine yG.ifz rfl (t := 43) rfl ⟨by omega, by omega⟩ (fun c350 => ?_) (fun c350 => ?_)
          · have c350 : (z349 : Int) ≤ 0 := c350
            exfalso; omega
          · have c350 : (z349 : Int) > 0 := c350
            refine yG.num (c := 0) rfl (fun _ _ => rfl) (by decide) ?_
            refine yG.ret rfl (fun _ _ => rfl) ?_
            exact (yP.int ⟨by omega, by omega⟩ ⟨⟨⟨0, rfl, by omega, by omega, by omega⟩, A_h348⟩, M_bWf_h348⟩)
      · have c345 : (z344 : Int) = 0 := c345
        clear R_z344
        refine yG.num (c := 1) rfl (fun _ _ => rfl) (by decide) ?_
        refine yG.goto rfl (t := 31) rfl ?_
        refine yG.putI A_hp.1 (w_M_thrown W H_2073) (W.2.1 _ _ H_2073 (by decide) (by decide)) rfl rfl (.inl rfl) ⟨by omega, by omega⟩ (by omega) (by omega) (fun h351 T_h351 b_h351 f_h351 y_h351 => ?_)
        have M_bWf_h351 := M_bWf_hp.fr (bAx.put (Wl := [(83076749736557242056487941267521536, 0)]) (bAx.rf A_hp.1) T_h351 b_h351 f_h351 H_2073 (by decide)) (by decide)
        have A_h351 := A_hp.put T_h351 b_h351 f_h351 H_2073 (by decide)
        have : ys h351 2073 0 = 1 := (y_h351 2073 0).trans (if_pos ⟨rfl, rfl⟩)
        refine yG.load xak rfl (fun _ _ => rfl) (v := yR 2073) rfl rfl ?_
        refine yG.getI A_h351.1 (w_M_thrown W H_2073) rfl rfl (fun z352 e_z352 i_z352 l_z352 u_z352 => ?_)
        refine yG.ifz rfl (t := 43) rfl ⟨by omega, by omega⟩ (fun c353 => ?_) (fun c353 => ?_)
        · have c353 : (z352 : Int) ≤ 0 := c353
          exfalso; omega
        · have c353 : (z352 : Int) > 0 := c353
          refine yG.num (c := 0) rfl (fun _ _ => rfl) (by decide) ?_
          refine yG.ret rfl (fun _ _ => rfl) ?_
          exact (yP.int ⟨by omega, by omega⟩ ⟨⟨⟨0, rfl, by omega, by omega, by omega⟩, A_h351⟩, M_bWf_h351⟩)
    · subst c265
      refine yG.load xak rfl (fun _ _ => rfl) (v := yR 2073) rfl rfl ?_
      refine yG.load xak rfl (fun _ _ => rfl) (v := yR 2073) rfl rfl ?_
      refine yG.load xik rfl (fun _ _ => rfl) (v := yI (1)) rfl rfl ?_
      refine yG.load xik rfl (fun _ _ => rfl) (v := yI (p2)) rfl rfl ?_
      refine yG.invV (rest := [yR 2073]) A_hp.1 (bOb (d_M W) H_2073) rfl rfl rfl rfl (c_GModel_isObject W (d + 1) A_hp.1 H_2073 (1) (p2) (by omega) (by omega) (by omega) (by omega)) (fun rv hp9 q9 => ?_)
      obtain ⟨⟨z354, rfl, l_z354, u_z354, R_z354⟩, e9⟩ := q9
      rw [e9]
      show yG _ _ _ _ _ _ _ _ _ _ (yI z354 :: [yR 2073]) _
      refine yG.ifz rfl (t := 14) rfl ⟨by omega, by omega⟩ (fun c355 => ?_) (fun c355 => ?_)
      · have c355 : (z354 : Int) ≠ 0 := c355
        replace R_z354 := R_z354 (by omega)
        refine yG.load xak rfl (fun _ _ => rfl) (v := yR 2073) rfl rfl ?_
        refine yG.load xik rfl (fun _ _ => rfl) (v := yI (1)) rfl rfl ?_
        refine yG.load xik rfl (fun _ _ => rfl) (v := yI (p2)) rfl rfl ?_
        refine yG.load xik rfl (fun _ _ => rfl) (v := yI (5)) rfl rfl ?_
        refine yG.load xik rfl (fun _ _ => rfl) (v := yI (p4)) rfl rfl ?_
        refine yG.invV (rest := [yR 2073]) A_hp.1 (bOb (d_M W) H_2073) rfl rfl rfl rfl (c_GModel_mayBe_1_5 W (d + 2) A_hp.1 H_2073 (p2) (p4) (by omega) (by omega) (by omega) (by omega)) (fun rv hp9 q9 => ?_)
        obtain ⟨⟨z356, rfl, l_z356, u_z356, R_z356⟩, e9⟩ := q9
        rw [e9]
        show yG _ _ _ _ _ _ _ _ _ _ (yI z356 :: [yR 2073]) _
        refine yG.ifz rfl (t := 30) rfl ⟨by omega, by omega⟩ (fun c357 => ?_) (fun c357 => ?_)
        · have c357 : (z356 : Int) ≠ 0 := c357
          exfalso; omega
        · have c357 : (z356 : Int) = 0 := c357
          refine yG.num (c := 2) rfl (fun _ _ => rfl) (by decide) ?_
          refine yG.goto rfl (t := 31) rfl ?_
          refine yG.putI A_hp.1 (w_M_thrown W H_2073) (W.2.1 _ _ H_2073 (by decide) (by decide)) rfl rfl (.inl rfl) ⟨by omega, by omega⟩ (by omega) (by omega) (fun h358 T_h358 b_h358 f_h358 y_h358 => ?_)
          have M_bWf_h358 := M_bWf_hp.fr (bAx.put (Wl := [(83076749736557242056487941267521536, 0)]) (bAx.rf A_hp.1) T_h358 b_h358 f_h358 H_2073 (by decide)) (by decide)
          have A_h358 := A_hp.put T_h358 b_h358 f_h358 H_2073 (by decide)
          have : ys h358 2073 0 = 2 := (y_h358 2073 0).trans (if_pos ⟨rfl, rfl⟩)
          refine yG.load xak rfl (fun _ _ => rfl) (v := yR 2073) rfl rfl ?_
          refine yG.getI A_h358.1 (w_M_thrown W H_2073) rfl rfl (fun z359 e_z359 i_z359 l_z359 u_z359 => ?_)
          refine yG.ifz rfl (t := 43) rfl ⟨by omega, by omega⟩ (fun c360 => ?_) (fun c360 => ?_)
          · have c360 : (z359 : Int) ≤ 0 := c360
            exfalso; omega
          · have c360 : (z359 : Int) > 0 := c360
            refine yG.num (c := 0) rfl (fun _ _ => rfl) (by decide) ?_
            refine yG.ret rfl (fun _ _ => rfl) ?_
            exact (yP.int ⟨by omega, by omega⟩ ⟨⟨⟨0, rfl, by omega, by omega, by omega⟩, A_h358⟩, M_bWf_h358⟩)
      · have c355 : (z354 : Int) = 0 := c355
        clear R_z354
        refine yG.num (c := 1) rfl (fun _ _ => rfl) (by decide) ?_
        refine yG.goto rfl (t := 31) rfl ?_
        refine yG.putI A_hp.1 (w_M_thrown W H_2073) (W.2.1 _ _ H_2073 (by decide) (by decide)) rfl rfl (.inl rfl) ⟨by omega, by omega⟩ (by omega) (by omega) (fun h361 T_h361 b_h361 f_h361 y_h361 => ?_)
        have M_bWf_h361 := M_bWf_hp.fr (bAx.put (Wl := [(83076749736557242056487941267521536, 0)]) (bAx.rf A_hp.1) T_h361 b_h361 f_h361 H_2073 (by decide)) (by decide)
        have A_h361 := A_hp.put T_h361 b_h361 f_h361 H_2073 (by decide)
        have : ys h361 2073 0 = 1 := (y_h361 2073 0).trans (if_pos ⟨rfl, rfl⟩)
        refine yG.load xak rfl (fun _ _ => rfl) (v := yR 2073) rfl rfl ?_
        refine yG.getI A_h361.1 (w_M_thrown W H_2073) rfl rfl (fun z362 e_z362 i_z362 l_z362 u_z362 => ?_)
        refine yG.ifz rfl (t := 43) rfl ⟨by omega, by omega⟩ (fun c363 => ?_) (fun c363 => ?_)
        · have c363 : (z362 : Int) ≤ 0 := c363
          exfalso; omega
        · have c363 : (z362 : Int) > 0 := c363
          refine yG.num (c := 0) rfl (fun _ _ => rfl) (by decide) ?_
          refine yG.ret rfl (fun _ _ => rfl) ?_
          exact (yP.int ⟨by omega, by omega⟩ ⟨⟨⟨0, rfl, by omega, by omega, by omega⟩, A_h361⟩, M_bWf_h361⟩)
    · subst c265
      refine yG.load xak rfl (fun _ _ => rfl) (v := yR 2073) rfl rfl ?_
      refine yG.load xak rfl (fun _ _ => rfl) (v := yR 2073) rfl rfl ?_
      refine yG.load xik rfl (fun _ _ => rfl) (v := yI (1)) rfl rfl ?_
      refine yG.load xik rfl (fun _ _ => rfl) (v := yI (p2)) rfl rfl ?_
      refine yG.invV (rest := [yR 2073]) A_hp.1 (bOb (d_M W) H_2073) rfl rfl rfl rfl (c_GModel_isObject W (d + 1) A_hp.1 H_2073 (1) (p2) (by omega) (by omega) (by omega) (by omega)) (fun rv hp9 q9 => ?_)
      obtain ⟨⟨z364, rfl, l_z364, u_z364, R_z364⟩, e9⟩ := q9
      rw [e9]
      show yG _ _ _ _ _ _ _ _ _ _ (yI z364 :: [yR 2073]) _
      refine yG.ifz rfl (t := 14) rfl ⟨by omega, by omega⟩ (fun c365 => ?_) (fun c365 => ?_)
      · have c365 : (z364 : Int) ≠ 0 := c365
        replace R_z364 := R_z364 (by omega)
        refine yG.load xak rfl (fun _ _ => rfl) (v := yR 2073) rfl rfl ?_
        refine yG.load xik rfl (fun _ _ => rfl) (v := yI (1)) rfl rfl ?_
        refine yG.load xik rfl (fun _ _ => rfl) (v := yI (p2)) rfl rfl ?_
        refine yG.load xik rfl (fun _ _ => rfl) (v := yI (6)) rfl rfl ?_
        refine yG.load xik rfl (fun _ _ => rfl) (v := yI (p4)) rfl rfl ?_
        refine yG.invV (rest := [yR 2073]) A_hp.1 (bOb (d_M W) H_2073) rfl rfl rfl rfl (c_GModel_mayBe_1_6 W (d + 2) A_hp.1 H_2073 (p2) (p4) (by omega) (by omega) (by omega) (by omega)) (fun rv hp9 q9 => ?_)
        obtain ⟨⟨z366, rfl, l_z366, u_z366, R_z366⟩, e9⟩ := q9
        rw [e9]
        show yG _ _ _ _ _ _ _ _ _ _ (yI z366 :: [yR 2073]) _
        refine yG.ifz rfl (t := 30) rfl ⟨by omega, by omega⟩ (fun c367 => ?_) (fun c367 => ?_)
        · have c367 : (z366 : Int) ≠ 0 := c367
          exfalso; omega
        · have c367 : (z366 : Int) = 0 := c367
          refine yG.num (c := 2) rfl (fun _ _ => rfl) (by decide) ?_
          refine yG.goto rfl (t := 31) rfl ?_
          refine yG.putI A_hp.1 (w_M_thrown W H_2073) (W.2.1 _ _ H_2073 (by decide) (by decide)) rfl rfl (.inl rfl) ⟨by omega, by omega⟩ (by omega) (by omega) (fun h368 T_h368 b_h368 f_h368 y_h368 => ?_)
          have M_bWf_h368 := M_bWf_hp.fr (bAx.put (Wl := [(83076749736557242056487941267521536, 0)]) (bAx.rf A_hp.1) T_h368 b_h368 f_h368 H_2073 (by decide)) (by decide)
          have A_h368 := A_hp.put T_h368 b_h368 f_h368 H_2073 (by decide)
          have : ys h368 2073 0 = 2 := (y_h368 2073 0).trans (if_pos ⟨rfl, rfl⟩)
          refine yG.load xak rfl (fun _ _ => rfl) (v := yR 2073) rfl rfl ?_
          refine yG.getI A_h368.1 (w_M_thrown W H_2073) rfl rfl (fun z369 e_z369 i_z369 l_z369 u_z369 => ?_)
          refine yG.ifz rfl (t := 43) rfl ⟨by omega, by omega⟩ (fun c370 => ?_) (fun c370 => ?_)
          · have c370 : (z369 : Int) ≤ 0 := c370
            exfalso; omega
          · have c370 : (z369 : Int) > 0 := c370
            refine yG.num (c := 0) rfl (fun _ _ => rfl) (by decide) ?_
            refine yG.ret rfl (fun _ _ => rfl) ?_
            exact (yP.int ⟨by omega, by omega⟩ ⟨⟨⟨0, rfl, by omega, by omega, by omega⟩, A_h368⟩, M_bWf_h368⟩)
      · have c365 : (z364 : Int) = 0 := c365
        clear R_z364
        refine yG.num (c := 1) rfl (fun _ _ => rfl) (by decide) ?_
        refine yG.goto rfl (t := 31) rfl ?_
        refine yG.putI A_hp.1 (w_M_thrown W H_2073) (W.2.1 _ _ H_2073 (by decide) (by decide)) rfl rfl (.inl rfl) ⟨by omega, by omega⟩ (by omega) (by omega) (fun h371 T_h371 b_h371 f_h371 y_h371 => ?_)
        have M_bWf_h371 := M_bWf_hp.fr (bAx.put (Wl := [(83076749736557242056487941267521536, 0)]) (bAx.rf A_hp.1) T_h371 b_h371 f_h371 H_2073 (by decide)) (by decide)
        have A_h371 := A_hp.put T_h371 b_h371 f_h371 H_2073 (by decide)
        have : ys h371 2073 0 = 1 := (y_h371 2073 0).trans (if_pos ⟨rfl, rfl⟩)
        refine yG.load xak rfl (fun _ _ => rfl) (v := yR 2073) rfl rfl ?_
        refine yG.getI A_h371.1 (w_M_thrown W H_2073) rfl rfl (fun z372 e_z372 i_z372 l_z372 u_z372 => ?_)
        refine yG.ifz rfl (t := 43) rfl ⟨by omega, by omega⟩ (fun c373 => ?_) (fun c373 => ?_)
        · have c373 : (z372 : Int) ≤ 0 := c373
          exfalso; omega
        · have c373 : (z372 : Int) > 0 := c373
          refine yG.num (c := 0) rfl (fun _ _ => rfl) (by decide) ?_
          refine yG.ret rfl (fun _ _ => rfl) ?_
          exact (yP.int ⟨by omega, by omega⟩ ⟨⟨⟨0, rfl, by omega, by omega, by omega⟩, A_h371⟩, M_bWf_h371⟩)
    · subst c265
      refine yG.load xak rfl (fun _ _ => rfl) (v := yR 2073) rfl rfl ?_
      refine yG.load xak rfl (fun _ _ => rfl) (v := yR 2073) rfl rfl ?_
      refine yG.load xik rfl (fun _ _ => rfl) (v := yI (1)) rfl rfl ?_
      refine yG.load xik rfl (fun _ _ => rfl) (v := yI (p2)) rfl rfl ?_
      refine yG.invV (rest := [yR 2073]) A_hp.1 (bOb (d_M W) H_2073) rfl rfl rfl rfl (c_GModel_isObject W (d + 1) A_hp.1 H_2073 (1) (p2) (by omega) (by omega) (by omega) (by omega)) (fun rv hp9 q9 => ?_)
      obtain ⟨⟨z374, rfl, l_z374, u_z374, R_z374⟩, e9⟩ := q9
      rw [e9]
      show yG _ _ _ _ _ _ _ _ _ _ (yI z374 :: [yR 2073]) _
      refine yG.ifz rfl (t := 14) rfl ⟨by omega, by omega⟩ (fun c375 => ?_) (fun c375 => ?_)
      · have c375 : (z374 : Int) ≠ 0 := c375
        replace R_z374 := R_z374 (by omega)
        refine yG.load xak rfl (fun _ _ => rfl) (v := yR 2073) rfl rfl ?_
        refine yG.load xik rfl (fun _ _ => rfl) (v := yI (1)) rfl rfl ?_
        refine yG.load xik rfl (fun _ _ => rfl) (v := yI (p2)) rfl rfl ?_
        refine yG.load xik rfl (fun _ _ => rfl) (v := yI (7)) rfl rfl ?_
        refine yG.load xik rfl (fun _ _ => rfl) (v := yI (p4)) rfl rfl ?_
        refine yG.invV (rest := [yR 2073]) A_hp.1 (bOb (d_M W) H_2073) rfl rfl rfl rfl (c_GModel_mayBe_1_7 W (d + 2) A_hp.1 H_2073 (p2) (p4) (by omega) (by omega) (by omega) (by omega)) (fun rv hp9 q9 => ?_)
        obtain ⟨⟨z376, rfl, l_z376, u_z376, R_z376⟩, e9⟩ := q9
        rw [e9]
        show yG _ _ _ _ _ _ _ _ _ _ (yI z376 :: [yR 2073]) _
        refine yG.ifz rfl (t := 30) rfl ⟨by omega, by omega⟩ (fun c377 => ?_) (fun c377 => ?_)
        · have c377 : (z376 : Int) ≠ 0 := c377
          exfalso; omega
        · have c377 : (z376 : Int) = 0 := c377
          refine yG.num (c := 2) rfl (fun _ _ => rfl) (by decide) ?_
          refine yG.goto rfl (t := 31) rfl ?_
          refine yG.putI A_hp.1 (w_M_thrown W H_2073) (W.2.1 _ _ H_2073 (by decide) (by decide)) rfl rfl (.inl rfl) ⟨by omega, by omega⟩ (by omega) (by omega) (fun h378 T_h378 b_h378 f_h378 y_h378 => ?_)
          have M_bWf_h378 := M_bWf_hp.fr (bAx.put (Wl := [(83076749736557242056487941267521536, 0)]) (bAx.rf A_hp.1) T_h378 b_h378 f_h378 H_2073 (by decide)) (by decide)
          have A_h378 := A_hp.put T_h378 b_h378 f_h378 H_2073 (by decide)
          have : ys h378 2073 0 = 2 := (y_h378 2073 0).trans (if_pos ⟨rfl, rfl⟩)
          refine yG.load xak rfl (fun _ _ => rfl) (v := yR 2073) rfl rfl ?_
          refine yG.getI A_h378.1 (w_M_thrown W H_2073) rfl rfl (fun z379 e_z379 i_z379 l_z379 u_z379 => ?_)
          refine yG.ifz rfl (t := 43) rfl ⟨by omega, by omega⟩ (fun c380 => ?_) (fun c380 => ?_)
          · have c380 : (z379 : Int) ≤ 0 := c380
            exfalso; omega
          · have c380 : (z379 : Int) > 0 := c380
            refine yG.num (c := 0) rfl (fun _ _ => rfl) (by decide) ?_
            refine yG.ret rfl (fun _ _ => rfl) ?_
            exact (yP.int ⟨by omega, by omega⟩ ⟨⟨⟨0, rfl, by omega, by omega, by omega⟩, A_h378⟩, M_bWf_h378⟩)
      · have c375 : (z374 : Int) = 0 := c375
        clear R_z374
        refine yG.num (c := 1) rfl (fun _ _ => rfl) (by decide) ?_
        refine yG.goto rfl (t := 31) rfl ?_
        refine yG.putI A_hp.1 (w_M_thrown W H_2073) (W.2.1 _ _ H_2073 (by decide) (by decide)) rfl rfl (.inl rfl) ⟨by omega, by omega⟩ (by omega) (by omega) (fun h381 T_h381 b_h381 f_h381 y_h381 => ?_)
        have M_bWf_h381 := M_bWf_hp.fr (bAx.put (Wl := [(83076749736557242056487941267521536, 0)]) (bAx.rf A_hp.1) T_h381 b_h381 f_h381 H_2073 (by decide)) (by decide)
        have A_h381 := A_hp.put T_h381 b_h381 f_h381 H_2073 (by decide)
        have : ys h381 2073 0 = 1 := (y_h381 2073 0).trans (if_pos ⟨rfl, rfl⟩)
        refine yG.load xak rfl (fun _ _ => rfl) (v := yR 2073) rfl rfl ?_
        refine yG.getI A_h381.1 (w_M_thrown W H_2073) rfl rfl (fun z382 e_z382 i_z382 l_z382 u_z382 => ?_)
        refine yG.ifz rfl (t := 43) rfl ⟨by omega, by omega⟩ (fun c383 => ?_) (fun c383 => ?_)
        · have c383 : (z382 : Int) ≤ 0 := c383
          exfalso; omega
        · have c383 : (z382 : Int) > 0 := c383
          refine yG.num (c := 0) rfl (fun _ _ => rfl) (by decide) ?_
          refine yG.ret rfl (fun _ _ => rfl) ?_
          exact (yP.int ⟨by omega, by omega⟩ ⟨⟨⟨0, rfl, by omega, by omega, by omega⟩, A_h381⟩, M_bWf_h381⟩)
    · subst c265
      refine yG.load xak rfl (fun _ _ => rfl) (v := yR 2073) rfl rfl ?_
      refine yG.load xak rfl (fun _ _ => rfl) (v := yR 2073) rfl rfl ?_
      refine yG.load xik rfl (fun _ _ => rfl) (v := yI (1)) rfl rfl ?_
      refine yG.load xik rfl (fun _ _ => rfl) (v := yI (p2)) rfl rfl ?_
      refine yG.invV (rest := [yR 2073]) A_hp.1 (bOb (d_M W) H_2073) rfl rfl rfl rfl (c_GModel_isObject W (d + 1) A_hp.1 H_2073 (1) (p2) (by omega) (by omega) (by omega) (by omega)) (fun rv hp9 q9 => ?_)
      obtain ⟨⟨z384, rfl, l_z384, u_z384, R_z384⟩, e9⟩ := q9
      rw [e9]
      show yG _ _ _ _ _ _ _ _ _ _ (yI z384 :: [yR 2073]) _
      refine yG.ifz rfl (t := 14) rfl ⟨by omega, by omega⟩ (fun c385 => ?_) (fun c385 => ?_)
      · have c385 : (z384 : Int) ≠ 0 := c385
        replace R_z384 := R_z384 (by omega)
        refine yG.load xak rfl (fun _ _ => rfl) (v := yR 2073) rfl rfl ?_
        refine yG.load xik rfl (fun _ _ => rfl) (v := yI (1)) rfl rfl ?_
        refine yG.load xik rfl (fun _ _ => rfl) (v := yI (p2)) rfl rfl ?_
        refine yG.load xik rfl (fun _ _ => rfl) (v := yI (8)) rfl rfl ?_
        refine yG.load xik rfl (fun _ _ => rfl) (v := yI (p4)) rfl rfl ?_
        refine yG.invV (rest := [yR 2073]) A_hp.1 (bOb (d_M W) H_2073) rfl rfl rfl rfl (c_GModel_mayBe_1_8 W (d + 2) A_hp.1 H_2073 (p2) (p4) (by omega) (by omega) (by omega) (by omega)) (fun rv hp9 q9 => ?_)
        obtain ⟨⟨z386, rfl, l_z386, u_z386, R_z386⟩, e9⟩ := q9
        rw [e9]
        show yG _ _ _ _ _ _ _ _ _ _ (yI z386 :: [yR 2073]) _
        refine yG.ifz rfl (t := 30) rfl ⟨by omega, by omega⟩ (fun c387 => ?_) (fun c387 => ?_)
        · have c387 : (z386 : Int) ≠ 0 := c387
          exfalso; omega
        · have c387 : (z386 : Int) = 0 := c387
          refine yG.num (c := 2) rfl (fun _ _ => rfl) (by decide) ?_
          refine yG.goto rfl (t := 31) rfl ?_
          refine yG.putI A_hp.1 (w_M_thrown W H_2073) (W.2.1 _ _ H_2073 (by decide) (by decide)) rfl rfl (.inl rfl) ⟨by omega, by omega⟩ (by omega) (by omega) (fun h388 T_h388 b_h388 f_h388 y_h388 => ?_)
          have M_bWf_h388 := M_bWf_hp.fr (bAx.put (Wl := [(83076749736557242056487941267521536, 0)]) (bAx.rf A_hp.1) T_h388 b_h388 f_h388 H_2073 (by decide)) (by decide)
          have A_h388 := A_hp.put T_h388 b_h388 f_h388 H_2073 (by decide)
          have : ys h388 2073 0 = 2 := (y_h388 2073 0).trans (if_pos ⟨rfl, rfl⟩)
          refine yG.load xak rfl (fun _ _ => rfl) (v := yR 2073) rfl rfl ?_
          refine yG.getI A_h388.1 (w_M_thrown W H_2073) rfl rfl (fun z389 e_z389 i_z389 l_z389 u_z389 => ?_)
          refine yG.ifz rfl (t := 43) rfl ⟨by omega, by omega⟩ (fun c390 => ?_) (fun c390 => ?_)
          · have c390 : (z389 : Int) ≤ 0 := c390
            exfalso; omega
          · have c390 : (z389 : Int) > 0 := c390
            refine yG.num (c := 0) rfl (fun _ _ => rfl) (by decide) ?_
            refine yG.ret rfl (fun _ _ => rfl) ?_
            exact (yP.int ⟨by omega, by omega⟩ ⟨⟨⟨0, rfl, by omega, by omega, by omega⟩, A_h388⟩, M_bWf_h388⟩)
      · have c385 : (z384 : Int) = 0 := c385
        clear R_z384
        refine yG.num (c := 1) rfl (fun _ _ => rfl) (by decide) ?_
        refine yG.goto rfl (t := 31) rfl ?_
        refine yG.putI A_hp.1 (w_M_thrown W H_2073) (W.2.1 _ _ H_2073 (by decide) (by decide)) rfl rfl (.inl rfl) ⟨by omega, by omega⟩ (by omega) (by omega) (fun h391 T_h391 b_h391 f_h391 y_h391 => ?_)
        have M_bWf_h391 := M_bWf_hp.fr (bAx.put (Wl := [(83076749736557242056487941267521536, 0)]) (bAx.rf A_hp.1) T_h391 b_h391 f_h391 H_2073 (by decide)) (by decide)
        have A_h391 := A_hp.put T_h391 b_h391 f_h391 H_2073 (by decide)
        have : ys h391 2073 0 = 1 := (y_h391 2073 0).trans (if_pos ⟨rfl, rfl⟩)
        refine yG.load xak rfl (fun _ _ => rfl) (v := yR 2073) rfl rfl ?_
        refine yG.getI A_h391.1 (w_M_thrown W H_2073) rfl rfl (fun z392 e_z392 i_z392 l_z392 u_z392 => ?_)
        refine yG.ifz rfl (t := 43) rfl ⟨by omega, by omega⟩ (fun c393 => ?_) (fun c393 => ?_)
        · have c393 : (z392 : Int) ≤ 0 := c393
          exfalso; omega
        · have c393 : (z392 : Int) > 0 := c393
          refine yG.num (c := 0) rfl (fun _ _ => rfl) (by decide) ?_
          refine yG.ret rfl (fun _ _ => rfl) ?_
          exact (yP.int ⟨by omega, by omega⟩ ⟨⟨⟨0, rfl, by omega, by omega, by omega⟩, A_h391⟩, M_bWf_h391⟩)
    · subst c265
      refine yG.load xak rfl (fun _ _ => rfl) (v := yR 2073) rfl rfl ?_
      refine yG.load xak rfl (fun _ _ => rfl) (v := yR 2073) rfl rfl ?_
      refine yG.load xik rfl (fun _ _ => rfl) (v := yI (1)) rfl rfl ?_
      refine yG.load xik rfl (fun _ _ => rfl) (v := yI (p2)) rfl rfl ?_
      refine yG.invV (rest := [yR 2073]) A_hp.1 (bOb (d_M W) H_2073) rfl rfl rfl rfl (c_GModel_isObject W (d + 1) A_hp.1 H_2073 (1) (p2) (by omega) (by omega) (by omega) (by omega)) (fun rv hp9 q9 => ?_)
      obtain ⟨⟨z394, rfl, l_z394, u_z394, R_z394⟩, e9⟩ := q9
      rw [e9]
      show yG _ _ _ _ _ _ _ _ _ _ (yI z394 :: [yR 2073]) _
      refine yG.ifz rfl (t := 14) rfl ⟨by omega, by omega⟩ (fun c395 => ?_) (fun c395 => ?_)
      · have c395 : (z394 : Int) ≠ 0 := c395
        replace R_z394 := R_z394 (by omega)
        refine yG.load xak rfl (fun _ _ => rfl) (v := yR 2073) rfl rfl ?_
        refine yG.load xik rfl (fun _ _ => rfl) (v := yI (1)) rfl rfl ?_
        refine yG.load xik rfl (fun _ _ => rfl) (v := yI (p2)) rfl rfl ?_
        refine yG.load xik rfl (fun _ _ => rfl) (v := yI (9)) rfl rfl ?_
        refine yG.load xik rfl (fun _ _ => rfl) (v := yI (p4)) rfl rfl ?_
        refine yG.invV (rest := [yR 2073]) A_hp.1 (bOb (d_M W) H_2073) rfl rfl rfl rfl (c_GModel_mayBe_1_9 W (d + 2) A_hp.1 H_2073 (p2) (p4) (by omega) (by omega) (by omega) (by omega)) (fun rv hp9 q9 => ?_)
        obtain ⟨⟨z396, rfl, l_z396, u_z396, R_z396⟩, e9⟩ := q9
        rw [e9]
        show yG _ _ _ _ _ _ _ _ _ _ (yI z396 :: [yR 2073]) _
        refine yG.ifz rfl (t := 30) rfl ⟨by omega, by omega⟩ (fun c397 => ?_) (fun c397 => ?_)
        · have c397 : (z396 : Int) ≠ 0 := c397
          exfalso; omega
        · have c397 : (z396 : Int) = 0 := c397
          refine yG.num (c := 2) rfl (fun _ _ => rfl) (by decide) ?_
          refine yG.goto rfl (t := 31) rfl ?_
          refine yG.putI A_hp.1 (w_M_thrown W H_2073) (W.2.1 _ _ H_2073 (by decide) (by decide)) rfl rfl (.inl rfl) ⟨by omega, by omega⟩ (by omega) (by omega) (fun h398 T_h398 b_h398 f_h398 y_h398 => ?_)
          have M_bWf_h398 := M_bWf_hp.fr (bAx.put (Wl := [(83076749736557242056487941267521536, 0)]) (bAx.rf A_hp.1) T_h398 b_h398 f_h398 H_2073 (by decide)) (by decide)
          have A_h398 := A_hp.put T_h398 b_h398 f_h398 H_2073 (by decide)
          have : ys h398 2073 0 = 2 := (y_h398 2073 0).trans (if_pos ⟨rfl, rfl⟩)
          refine yG.load xak rfl (fun _ _ => rfl) (v := yR 2073) rfl rfl ?_
          refine yG.getI A_h398.1 (w_M_thrown W H_2073) rfl rfl (fun z399 e_z399 i_z399 l_z399 u_z399 => ?_)
          refine yG.ifz rfl (t := 43) rfl ⟨by omega, by omega⟩ (fun c400 => ?_) (fun c400 => ?_)
          · have c400 : (z399 : Int) ≤ 0 := c400
            exfalso; omega
          · have c400 : (z399 : Int) > 0 := c400
            refine yG.num (c := 0) rfl (fun _ _ => rfl) (by decide) ?_
            refine yG.ret rfl (fun _ _ => rfl) ?_
            exact (yP.int ⟨by omega, by omega⟩ ⟨⟨⟨0, rfl, by omega, by omega, by omega⟩, A_h398⟩, M_bWf_h398⟩)
      · have c395 : (z394 : Int) = 0 := c395
        clear R_z394
        refine yG.num (c := 1) rfl (fun _ _ => rfl) (by decide) ?_
        refine yG.goto rfl (t := 31) rfl ?_
        refine yG.putI A_hp.1 (w_M_thrown W H_2073) (W.2.1 _ _ H_2073 (by decide) (by decide)) rfl rfl (.inl rfl) ⟨by omega, by omega⟩ (by omega) (by omega) (fun h401 T_h401 b_h401 f_h401 y_h401 => ?_)
        have M_bWf_h401 := M_bWf_hp.fr (bAx.put (Wl := [(83076749736557242056487941267521536, 0)]) (bAx.rf A_hp.1) T_h401 b_h401 f_h401 H_2073 (by decide)) (by decide)
        have A_h401 := A_hp.put T_h401 b_h401 f_h401 H_2073 (by decide)
        have : ys h401 2073 0 = 1 := (y_h401 2073 0).trans (if_pos ⟨rfl, rfl⟩)
        refine yG.load xak rfl (fun _ _ => rfl) (v := yR 2073) rfl rfl ?_
        refine yG.getI A_h401.1 (w_M_thrown W H_2073) rfl rfl (fun z402 e_z402 i_z402 l_z402 u_z402 => ?_)
        refine yG.ifz rfl (t := 43) rfl ⟨by omega, by omega⟩ (fun c403 => ?_) (fun c403 => ?_)
        · have c403 : (z402 : Int) ≤ 0 := c403
          exfalso; omega
        · have c403 : (z402 : Int) > 0 := c403
          refine yG.num (c := 0) rfl (fun _ _ => rfl) (by decide) ?_
          refine yG.ret rfl (fun _ _ => rfl) ?_
          exact (yP.int ⟨by omega, by omega⟩ ⟨⟨⟨0, rfl, by omega, by omega, by omega⟩, A_h401⟩, M_bWf_h401⟩)
    · subst c265
      refine yG.load xak rfl (fun _ _ => rfl) (v := yR 2073) rfl rfl ?_
      refine yG.load xak rfl (fun _ _ => rfl) (v := yR 2073) rfl rfl ?_
      refine yG.load xik rfl (fun _ _ => rfl) (v := yI (1)) rfl rfl ?_
      refine yG.load xik rfl (fun _ _ => rfl) (v := yI (p2)) rfl rfl ?_
      refine yG.invV (rest := [yR 2073]) A_hp.1 (bOb (d_M W) H_2073) rfl rfl rfl rfl (c_GModel_isObject W (d + 1) A_hp.1 H_2073 (1) (p2) (by omega) (by omega) (by omega) (by omega)) (fun rv hp9 q9 => ?_)
      obtain ⟨⟨z404, rfl, l_z404, u_z404, R_z404⟩, e9⟩ := q9
      rw [e9]
      show yG _ _ _ _ _ _ _ _ _ _ (yI z404 :: [yR 2073]) _
      refine yG.ifz rfl (t := 14) rfl ⟨by omega, by omega⟩ (fun c405 => ?_) (fun c405 => ?_)
      · have c405 : (z404 : Int) ≠ 0 := c405
        replace R_z404 := R_z404 (by omega)
        refine yG.load xak rfl (fun _ _ => rfl) (v := yR 2073) rfl rfl ?_
        refine yG.load xik rfl (fun _ _ => rfl) (v := yI (1)) rfl rfl ?_
        refine yG.load xik rfl (fun _ _ => rfl) (v := yI (p2)) rfl rfl ?_
        refine yG.load xik rfl (fun _ _ => rfl) (v := yI (10)) rfl rfl ?_
        refine yG.load xik rfl (fun _ _ => rfl) (v := yI (p4)) rfl rfl ?_
        refine yG.invV (rest := [yR 2073]) A_hp.1 (bOb (d_M W) H_2073) rfl rfl rfl rfl (c_GModel_mayBe_1_10 W (d + 2) A_hp.1 H_2073 (p2) (p4) (by omega) (by omega) (by omega) (by omega)) (fun rv hp9 q9 => ?_)
        obtain ⟨⟨z406, rfl, l_z406, u_z406, R_z406⟩, e9⟩ := q9
        rw [e9]
        show yG _ _ _ _ _ _ _ _ _ _ (yI z406 :: [yR 2073]) _
        refine yG.ifz rfl (t := 30) rfl ⟨by omega, by omega⟩ (fun c407 => ?_) (fun c407 => ?_)
        · have c407 : (z406 : Int) ≠ 0 := c407
          exfalso; omega
        · have c407 : (z406 : Int) = 0 := c407
          refine yG.num (c := 2) rfl (fun _ _ => rfl) (by decide) ?_
          refine yG.goto rfl (t := 31) rfl ?_
          refine yG.putI A_hp.1 (w_M_thrown W H_2073) (W.2.1 _ _ H_2073 (by decide) (by decide)) rfl rfl (.inl rfl) ⟨by omega, by omega⟩ (by omega) (by omega) (fun h408 T_h408 b_h408 f_h408 y_h408 => ?_)
          have M_bWf_h408 := M_bWf_hp.fr (bAx.put (Wl := [(83076749736557242056487941267521536, 0)]) (bAx.rf A_hp.1) T_h408 b_h408 f_h408 H_2073 (by decide)) (by decide)
          have A_h408 := A_hp.put T_h408 b_h408 f_h408 H_2073 (by decide)
          have : ys h408 2073 0 = 2 := (y_h408 2073 0).trans (if_pos ⟨rfl, rfl⟩)
          refine yG.load xak rfl (fun _ _ => rfl) (v := yR 2073) rfl rfl ?_
          refine yG.getI A_h408.1 (w_M_thrown W H_2073) rfl rfl (fun z409 e_z409 i_z409 l_z409 u_z409 => ?_)
          refine yG.ifz rfl (t := 43) rfl ⟨by omega, by omega⟩ (fun c410 => ?_) (fun c410 => ?_)
          · have c410 : (z409 : Int) ≤ 0 := c410
            exfalso; omega
          · have c410 : (z409 : Int) > 0 := c410
            refine yG.num (c := 0) rfl (fun _ _ => rfl) (by decide) ?_
            refine yG.ret rfl (fun _ _ => rfl) ?_
            exact (yP.int ⟨by omega, by omega⟩ ⟨⟨⟨0, rfl, by omega, by omega, by omega⟩, A_h408⟩, M_bWf_h408⟩)
      · have c405 : (z404 : Int) = 0 := c405
        clear R_z404
        refine yG.num (c := 1) rfl (fun _ _ => rfl) (by decide) ?_
        refine yG.goto rfl (t := 31) rfl ?_
        refine yG.putI A_hp.1 (w_M_thrown W H_2073) (W.2.1 _ _ H_2073 (by decide) (by decide)) rfl rfl (.inl rfl) ⟨by omega, by omega⟩ (by omega) (by omega) (fun h411 T_h411 b_h411 f_h411 y_h411 => ?_)
        have M_bWf_h411 := M_bWf_hp.fr (bAx.put (Wl := [(83076749736557242056487941267521536, 0)]) (bAx.rf A_hp.1) T_h411 b_h411 f_h411 H_2073 (by decide)) (by decide)
        have A_h411 := A_hp.put T_h411 b_h411 f_h411 H_2073 (by decide)
        have : ys h411 2073 0 = 1 := (y_h411 2073 0).trans (if_pos ⟨rfl, rfl⟩)
        refine yG.load xak rfl (fun _ _ => rfl) (v := yR 2073) rfl rfl ?_
        refine yG.getI A_h411.1 (w_M_thrown W H_2073) rfl rfl (fun z412 e_z412 i_z412 l_z412 u_z412 => ?_)
        refine yG.ifz rfl (t := 43) rfl ⟨by omega, by omega⟩ (fun c413 => ?_) (fun c413 => ?_)
        · have c413 : (z412 : Int) ≤ 0 := c413
          exfalso; omega
        · have c413 : (z412 : Int) > 0 := c413
          refine yG.num (c := 0) rfl (fun _ _ => rfl) (by decide) ?_
          refine yG.ret rfl (fun _ _ => rfl) ?_
          exact (yP.int ⟨by omega, by omega⟩ ⟨⟨⟨0, rfl, by omega, by omega, by omega⟩, A_h411⟩, M_bWf_h411⟩)
  · subst c1
    rcases (show p3 ≤ (-1) ∨ p3 ≥ 11 ∨ p3 = 0 ∨ p3 = 1 ∨ p3 = 2 ∨ p3 = 3 ∨ p3 = 4 ∨ p3 = 5 ∨ p3 = 6 ∨ p3 = 7 ∨ p3 = 8 ∨ p3 = 9 ∨ p3 = 10 by omega) with c414 | c414 | c414 | c414 | c414 | c414 | c414 | c414 | c414 | c414 | c414 | c414 | c414
    · skip
      refine yG.load xak rfl (fun _ _ => rfl) (v := yR 2073) rfl rfl ?_
      refine yG.load xak rfl (fun _ _ => rfl) (v := yR 2073) rfl rfl ?_
      refine yG.load xik rfl (fun _ _ => rfl) (v := yI (2)) rfl rfl ?_
      refine yG.load xik rfl (fun _ _ => rfl) (v := yI (p2)) rfl rfl ?_
      refine yG.invV (rest := [yR 2073]) A_hp.1 (bOb (d_M W) H_2073) rfl rfl rfl rfl (c_GModel_isObject W (d + 1) A_hp.1 H_2073 (2) (p2) (by omega) (by omega) (by omega) (by omega)) (fun rv hp9 q9 => ?_)
      obtain ⟨⟨z415, rfl, l_z415, u_z415, R_z415⟩, e9⟩ := q9
      rw [e9]
      show yG _ _ _ _ _ _ _ _ _ _ (yI z415 :: [yR 2073]) _
      refine yG.ifz rfl (t := 14) rfl ⟨by omega, by omega⟩ (fun c416 => ?_) (fun c416 => ?_)
      · have c416 : (z415 : Int) ≠ 0 := c416
        replace R_z415 := R_z415 (by omega)
        refine yG.load xak rfl (fun _ _ => rfl) (v := yR 2073) rfl rfl ?_
        refine yG.load xik rfl (fun _ _ => rfl) (v := yI (2)) rfl rfl ?_
        refine yG.load xik rfl (fun _ _ => rfl) (v := yI (p2)) rfl rfl ?_
        refine yG.load xik rfl (fun _ _ => rfl) (v := yI (p3)) rfl rfl ?_
        refine yG.load xik rfl (fun _ _ => rfl) (v := yI (p4)) rfl rfl ?_
        refine yG.invV (rest := [yR 2073]) A_hp.1 (bOb (d_M W) H_2073) rfl rfl rfl rfl (c_GModel_mayBe_2_l W (d + 2) A_hp.1 H_2073 (p2) (p3) (p4) (by omega) (by omega) (by omega) (by omega) (by omega) (by omega)) (fun rv hp9 q9 => ?_)
        obtain ⟨⟨z417, rfl, l_z417, u_z417, R_z417⟩, e9⟩ := q9
        rw [e9]
        show yG _ _ _ _ _ _ _ _ _ _ (yI z417 :: [yR 2073]) _
        refine yG.ifz rfl (t := 30) rfl ⟨by omega, by omega⟩ (fun c418 => ?_) (fun c418 => ?_)
        · have c418 : (z417 : Int) ≠ 0 := c418
          exfalso; omega
        · have c418 : (z417 : Int) = 0 := c418
          refine yG.num (c := 2) rfl (fun _ _ => rfl) (by decide) ?_
          refine yG.goto rfl (t := 31) rfl ?_
          refine yG.putI A_hp.1 (w_M_thrown W H_2073) (W.2.1 _ _ H_2073 (by decide) (by decide)) rfl rfl (.inl rfl) ⟨by omega, by omega⟩ (by omega) (by omega) (fun h419 T_h419 b_h419 f_h419 y_h419 => ?_)
          have M_bWf_h419 := M_bWf_hp.fr (bAx.put (Wl := [(83076749736557242056487941267521536, 0)]) (bAx.rf A_hp.1) T_h419 b_h419 f_h419 H_2073 (by decide)) (by decide)
          have A_h419 := A_hp.put T_h419 b_h419 f_h419 H_2073 (by decide)
          have : ys h419 2073 0 = 2 := (y_h419 2073 0).trans (if_pos ⟨rfl, rfl⟩)
          refine yG.load xak rfl (fun _ _ => rfl) (v := yR 2073) rfl rfl ?_
          refine yG.getI A_h419.1 (w_M_thrown W H_2073) rfl rfl (fun z420 e_z420 i_z420 l_z420 u_z420 => ?_)
          refine yG.ifz rfl (t := 43) rfl ⟨by omega, by omega⟩ (fun c421 => ?_) (fun c421 => ?_)
          · have c421 : (z420 : Int) ≤ 0 := c421
            exfalso; omega
          · have c421 : (z420 : Int) > 0 := c421
            refine yG.num (c := 0) rfl (fun _ _ => rfl) (by decide) ?_
            refine yG.ret rfl (fun _ _ => rfl) ?_
            exact (yP.int ⟨by omega, by omega⟩ ⟨⟨⟨0, rfl, by omega, by omega, by omega⟩, A_h419⟩, M_bWf_h419⟩)
      · have c416 : (z415 : Int) = 0 := c416
        clear R_z415
        refine yG.num (c := 1) rfl (fun _ _ => rfl) (by decide) ?_
        refine yG.goto rfl (t := 31) rfl ?_
        refine yG.putI A_hp.1 (w_M_thrown W H_2073) (W.2.1 _ _ H_2073 (by decide) (by decide)) rfl rfl (.inl rfl) ⟨by omega, by omega⟩ (by omega) (by omega) (fun h422 T_h422 b_h422 f_h422 y_h422 => ?_)
        have M_bWf_h422 := M_bWf_hp.fr (bAx.put (Wl := [(83076749736557242056487941267521536, 0)]) (bAx.rf A_hp.1) T_h422 b_h422 f_h422 H_2073 (by decide)) (by decide)
        have A_h422 := A_hp.put T_h422 b_h422 f_h422 H_2073 (by decide)
        have : ys h422 2073 0 = 1 := (y_h422 2073 0).trans (if_pos ⟨rfl, rfl⟩)
        refine yG.load xak rfl (fun _ _ => rfl) (v := yR 2073) rfl rfl ?_
        refine yG.getI A_h422.1 (w_M_thrown W H_2073) rfl rfl (fun z423 e_z423 i_z423 l_z423 u_z423 => ?_)
        refine yG.ifz rfl (t := 43) rfl ⟨by omega, by omega⟩ (fun c424 => ?_) (fun c424 => ?_)
        · have c424 : (z423 : Int) ≤ 0 := c424
          exfalso; omega
        · have c424 : (z423 : Int) > 0 := c424
          refine yG.num (c := 0) rfl (fun _ _ => rfl) (by decide) ?_
          refine yG.ret rfl (fun _ _ => rfl) ?_
          exact (yP.int ⟨by omega, by omega⟩ ⟨⟨⟨0, rfl, by omega, by omega, by omega⟩, A_h422⟩, M_bWf_h422⟩)
    · skip
      refine yG.load xak rfl (fun _ _ => rfl) (v := yR 2073) rfl rfl ?_
      refine yG.load xak rfl (fun _ _ => rfl) (v := yR 2073) rfl rfl ?_
      refine yG.load xik rfl (fun _ _ => rfl) (v := yI (2)) rfl rfl ?_
      refine yG.load xik rfl (fun _ _ => rfl) (v := yI (p2)) rfl rfl ?_
      refine yG.invV (rest := [yR 2073]) A_hp.1 (bOb (d_M W) H_2073) rfl rfl rfl rfl (c_GModel_isObject W (d + 1) A_hp.1 H_2073 (2) (p2) (by omega) (by omega) (by omega) (by omega)) (fun rv hp9 q9 => ?_)
      obtain ⟨⟨z425, rfl, l_z425, u_z425, R_z425⟩, e9⟩ := q9
      rw [e9]
      show yG _ _ _ _ _ _ _ _ _ _ (yI z425 :: [yR 2073]) _
      refine yG.ifz rfl (t := 14) rfl ⟨by omega, by omega⟩ (fun c426 => ?_) (fun c426 => ?_)
      · have c426 : (z425 : Int) ≠ 0 := c426
        replace R_z425 := R_z425 (by omega)
        refine yG.load xak rfl (fun _ _ => rfl) (v := yR 2073) rfl rfl ?_
        refine yG.load xik rfl (fun _ _ => rfl) (v := yI (2)) rfl rfl ?_
        refine yG.load xik rfl (fun _ _ => rfl) (v := yI (p2)) rfl rfl ?_
        refine yG.load xik rfl (fun _ _ => rfl) (v := yI (p3)) rfl rfl ?_
        refine yG.load xik rfl (fun _ _ => rfl) (v := yI (p4)) rfl rfl ?_
        refine yG.invV (rest := [yR 2073]) A_hp.1 (bOb (d_M W) H_2073) rfl rfl rfl rfl (c_GModel_mayBe_2_h W (d + 2) A_hp.1 H_2073 (p2) (p3) (p4) (by omega) (by omega) (by omega) (by omega) (by omega) (by omega)) (fun rv hp9 q9 => ?_)
        obtain ⟨⟨z427, rfl, l_z427, u_z427, R_z427⟩, e9⟩ := q9
        rw [e9]
        show yG _ _ _ _ _ _ _ _ _ _ (yI z427 :: [yR 2073]) _
        refine yG.ifz rfl (t := 30) rfl ⟨by omega, by omega⟩ (fun c428 => ?_) (fun c428 => ?_)
        · have c428 : (z427 : Int) ≠ 0 := c428
          exfalso; omega
        · have c428 : (z427 : Int) = 0 := c428
          refine yG.num (c := 2) rfl (fun _ _ => rfl) (by decide) ?_
          refine yG.goto rfl (t := 31) rfl ?_
          refine yG.putI A_hp.1 (w_M_thrown W H_2073) (W.2.1 _ _ H_2073 (by decide) (by decide)) rfl rfl (.inl rfl) ⟨by omega, by omega⟩ (by omega) (by omega) (fun h429 T_h429 b_h429 f_h429 y_h429 => ?_)
          have M_bWf_h429 := M_bWf_hp.fr (bAx.put (Wl := [(83076749736557242056487941267521536, 0)]) (bAx.rf A_hp.1) T_h429 b_h429 f_h429 H_2073 (by decide)) (by decide)
          have A_h429 := A_hp.put T_h429 b_h429 f_h429 H_2073 (by decide)
          have : ys h429 2073 0 = 2 := (y_h429 2073 0).trans (if_pos ⟨rfl, rfl⟩)
          refine yG.load xak rfl (fun _ _ => rfl) (v := yR 2073) rfl rfl ?_
          refine yG.getI A_h429.1 (w_M_thrown W H_2073) rfl rfl (fun z430 e_z430 i_z430 l_z430 u_z430 => ?_)
          refine yG.ifz rfl (t := 43) rfl ⟨by omega, by omega⟩ (fun c431 => ?_) (fun c431 => ?_)
          · have c431 : (z430 : Int) ≤ 0 := c431
            exfalso; omega
          · have c431 : (z430 : Int) > 0 := c431
            refine yG.num (c := 0) rfl (fun _ _ => rfl) (by decide) ?_
            refine yG.ret rfl (fun _ _ => rfl) ?_
            exact (yP.int ⟨by omega, by omega⟩ ⟨⟨⟨0, rfl, by omega, by omega, by omega⟩, A_h429⟩, M_bWf_h429⟩)
      · have c426 : (z425 : Int) = 0 := c426
        clear R_z425
        refine yG.num (c := 1) rfl (fun _ _ => rfl) (by decide) ?_
        refine yG.goto rfl (t := 31) rfl ?_
        refine yG.putI A_hp.1 (w_M_thrown W H_2073) (W.2.1 _ _ H_2073 (by decide) (by decide)) rfl rfl (.inl rfl) ⟨by omega, by omega⟩ (by omega) (by omega) (fun h432 T_h432 b_h432 f_h432 y_h432 => ?_)
        have M_bWf_h432 := M_bWf_hp.fr (bAx.put (Wl := [(83076749736557242056487941267521536, 0)]) (bAx.rf A_hp.1) T_h432 b_h432 f_h432 H_2073 (by decide)) (by decide)
        have A_h432 := A_hp.put T_h432 b_h432 f_h432 H_2073 (by decide)
        have : ys h432 2073 0 = 1 := (y_h432 2073 0).trans (if_pos ⟨rfl, rfl⟩)
        refine yG.load xak rfl (fun _ _ => rfl) (v := yR 2073) rfl rfl ?_
        refine yG.getI A_h432.1 (w_M_thrown W H_2073) rfl rfl (fun z433 e_z433 i_z433 l_z433 u_z433 => ?_)
        refine yG.ifz rfl (t := 43) rfl ⟨by omega, by omega⟩ (fun c434 => ?_) (fun c434 => ?_)
        · have c434 : (z433 : Int) ≤ 0 := c434
          exfalso; omega
        · have c434 : (z433 : Int) > 0 := c434
          refine yG.num (c := 0) rfl (fun _ _ => rfl) (by decide) ?_
          refine yG.ret rfl (fun _ _ => rfl) ?_
          exact (yP.int ⟨by omega, by omega⟩ ⟨⟨⟨0, rfl, by omega, by omega, by omega⟩, A_h432⟩, M_bWf_h432⟩)
    · subst c414
      refine yG.load xak rfl (fun _ _ => rfl) (v := yR 2073) rfl rfl ?_
      refine yG.load xak rfl (fun _ _ => rfl) (v := yR 2073) rfl rfl ?_
      refine yG.load xik rfl (fun _ _ => rfl) (v := yI (2)) rfl rfl ?_
      refine yG.load xik rfl (fun _ _ => rfl) (v := yI (p2)) rfl rfl ?_
      refine yG.invV (rest := [yR 2073]) A_hp.1 (bOb (d_M W) H_2073) rfl rfl rfl rfl (c_GModel_isObject W (d + 1) A_hp.1 H_2073 (2) (p2) (by omega) (by omega) (by omega) (by omega)) (fun rv hp9 q9 => ?_)
      obtain ⟨⟨z435, rfl, l_z435, u_z435, R_z435⟩, e9⟩ := q9
      rw [e9]
      show yG _ _ _ _ _ _ _ _ _ _ (yI z435 :: [yR 2073]) _
      refine yG.ifz rfl (t := 14) rfl ⟨by omega, by omega⟩ (fun c436 => ?_) (fun c436 => ?_)
      · have c436 : (z435 : Int) ≠ 0 := c436
        replace R_z435 := R_z435 (by omega)
        refine yG.load xak rfl (fun _ _ => rfl) (v := yR 2073) rfl rfl ?_
        refine yG.load xik rfl (fun _ _ => rfl) (v := yI (2)) rfl rfl ?_
        refine yG.load xik rfl (fun _ _ => rfl) (v := yI (p2)) rfl rfl ?_
        refine yG.load xik rfl (fun _ _ => rfl) (v := yI (0)) rfl rfl ?_
        refine yG.load xik rfl (fun _ _ => rfl) (v := yI (p4)) rfl rfl ?_
        refine yG.invV (rest := [yR 2073]) A_hp.1 (bOb (d_M W) H_2073) rfl rfl rfl rfl (c_GModel_mayBe_2_0 W (d + 1) A_hp.1 H_2073 (p2) (p4) (by omega) (by omega) (by omega) (by omega)) (fun rv hp9 q9 => ?_)
        obtain ⟨⟨z437, rfl, l_z437, u_z437, R_z437⟩, e9⟩ := q9
        rw [e9]
        show yG _ _ _ _ _ _ _ _ _ _ (yI z437 :: [yR 2073]) _
        refine yG.ifz rfl (t := 30) rfl ⟨by omega, by omega⟩ (fun c438 => ?_) (fun c438 => ?_)
        · have c438 : (z437 : Int) ≠ 0 := c438
          replace R_z437 := R_z437 (by omega)
          refine yG.num (c := 0) rfl (fun _ _ => rfl) (by decide) ?_
          refine yG.putI A_hp.1 (w_M_thrown W H_2073) (W.2.1 _ _ H_2073 (by decide) (by decide)) rfl rfl (.inl rfl) ⟨by omega, by omega⟩ (by omega) (by omega) (fun h439 T_h439 b_h439 f_h439 y_h439 => ?_)
          have M_bWf_h439 := M_bWf_hp.fr (bAx.put (Wl := [(83076749736557242056487941267521536, 0)]) (bAx.rf A_hp.1) T_h439 b_h439 f_h439 H_2073 (by decide)) (by decide)
          have A_h439 := A_hp.put T_h439 b_h439 f_h439 H_2073 (by decide)
          have : ys h439 2073 0 = 0 := (y_h439 2073 0).trans (if_pos ⟨rfl, rfl⟩)
          refine yG.load xak rfl (fun _ _ => rfl) (v := yR 2073) rfl rfl ?_
          refine yG.getI A_h439.1 (w_M_thrown W H_2073) rfl rfl (fun z440 e_z440 i_z440 l_z440 u_z440 => ?_)
          refine yG.ifz rfl (t := 43) rfl ⟨by omega, by omega⟩ (fun c441 => ?_) (fun c441 => ?_)
          · have c441 : (z440 : Int) ≤ 0 := c441
            refine yG.load xak rfl (fun _ _ => rfl) (v := yR 2073) rfl rfl ?_
            refine yG.load xik rfl (fun _ _ => rfl) (v := yI (2)) rfl rfl ?_
            refine yG.load xik rfl (fun _ _ => rfl) (v := yI (p2)) rfl rfl ?_
            refine yG.load xik rfl (fun _ _ => rfl) (v := yI (0)) rfl rfl ?_
            refine yG.invV (rest := []) A_h439.1 (bOb (d_M W) H_2073) rfl rfl rfl rfl (c_GModel_of_v2_0 W (d + 1) A_h439.1 H_2073 (p2) (by omega) (by omega)) (fun rv hp9 q9 => ?_)
            obtain ⟨⟨z442, rfl, l_z442, u_z442, R_z442⟩, e9⟩ := q9
            rw [e9]
            show yG _ _ _ _ _ _ _ _ _ _ (yI z442 :: []) _
            refine yG.store1 xik (L' := [(5, yI (z442)), (0, yR 2073), (1, yI (2)), (2, yI (p2)), (3, yI (0)), (4, yI (p4))]) rfl (fun _ _ => rfl) rfl rfl ?_
            refine yG.load xak rfl (fun _ _ => rfl) (v := yR 2073) rfl rfl ?_
            refine yG.getO A_h439.1 (w_M_field W H_2073) rfl rfl (fun r443 H_r443 O_r443 q_r443 => ?_)
            obtain rfl := u_M_field W H_r443
            refine yG.load xik rfl (fun _ _ => rfl) (v := yI (2)) rfl rfl ?_
            refine yG.load xik rfl (fun _ _ => rfl) (v := yI (p2)) rfl rfl ?_
            refine yG.load xik rfl (fun _ _ => rfl) (v := yI (0)) rfl rfl ?_
            refine yG.invS (rest := [yR 2089]) rfl rfl rfl rfl (c_GModel_f W (d + 2) A_h439.1 (2) (p2) (0) (by omega) (by omega) (by omega) (by omega) (by omega) (by omega)) (fun rv hp9 q9 => ?_)
            obtain ⟨⟨z444, rfl, l_z444, u_z444, R_z444⟩, e9⟩ := q9
            rw [e9]
            show yG _ _ _ _ _ _ _ _ _ _ (yI z444 :: [yR 2089]) _
            refine yG.load xik rfl (fun _ _ => rfl) (v := yI (p4)) rfl rfl ?_
            refine yG.iastF A_h439.1 (v_M_field W H_r443) (show yfT ((z444 : Int).toNat) = (0, (0, 1)) from ((yfT_ix (s := 2) (k := 0) (by omega) (by omega) (by omega) (by decide)).trans rfl)) (W.2.1 _ _ H_r443 (by decide) (by decide)) rfl (by omega) (by omega) ⟨by omega, by omega⟩ (by omega) (by omega) (fun h445 T_h445 b_h445 f_h445 y_h445 => ?_)
            have M_bWf_h445 : bWf G h445 := M_bWf_h439.putx y_h445 (fun j hj h9 hb => by unfold mBp at hb; omega) (fun j hj h9 hb => by unfold mXp at hb; omega)
            have A_h445 := A_h439.put T_h445 b_h445 f_h445 H_r443 (bAll_ok (by decide) _)
            have : ys h445 2073 0 = ys h439 2073 0 := (y_h445 2073 0).trans (if_neg (fun e => (bRo.ne H_2073 H_r443 (by decide)) e.1))
            refine yG.load xak rfl (fun _ _ => rfl) (v := yR 2073) rfl rfl ?_
            refine yG.invV (rest := []) A_h445.1 (bOb (d_M W) H_2073) rfl rfl rfl rfl (c_GModel_changed W (d + 2) A_h445.1 H_2073) (fun rv h446 q9 => ?_)
            obtain ⟨⟨rfl, R_z447⟩, B_h446⟩ := q9
            have A_h446 := A_h445.tr B_h446 (by decide)
            have M_bWf_h446 := M_bWf_h445.fr B_h446 (by decide)
            have : ys h446 2073 0 = ys h445 2073 0 := B_h446.ys H_2073 (by decide)
            show yG _ _ _ _ _ _ _ _ _ _ [] _
            refine yG.load xik rfl (fun _ _ => rfl) (v := yI (z442)) rfl rfl ?_
            refine yG.ret rfl (fun _ _ => rfl) ?_
            exact (yP.int ⟨by omega, by omega⟩ ⟨⟨⟨z442, rfl, by omega, by omega, by omega⟩, A_h446⟩, M_bWf_h446⟩)
          · have c441 : (z440 : Int) > 0 := c441
            exfalso; omega
        · have c438 : (z437 : Int) = 0 := c438
          clear R_z437
          refine yG.num (c := 2) rfl (fun _ _ => rfl) (by decide) ?_
          refine yG.goto rfl (t := 31) rfl ?_
          refine yG.putI A_hp.1 (w_M_thrown W H_2073) (W.2.1 _ _ H_2073 (by decide) (by decide)) rfl rfl (.inl rfl) ⟨by omega, by omega⟩ (by omega) (by omega) (fun h448 T_h448 b_h448 f_h448 y_h448 => ?_)
          have M_bWf_h448 := M_bWf_hp.fr (bAx.put (Wl := [(83076749736557242056487941267521536, 0)]) (bAx.rf A_hp.1) T_h448 b_h448 f_h448 H_2073 (by decide)) (by decide)
          have A_h448 := A_hp.put T_h448 b_h448 f_h448 H_2073 (by decide)
          have : ys h448 2073 0 = 2 := (y_h448 2073 0).trans (if_pos ⟨rfl, rfl⟩)
          refine yG.load xak rfl (fun _ _ => rfl) (v := yR 2073) rfl rfl ?_
          refine yG.getI A_h448.1 (w_M_thrown W H_2073) rfl rfl (fun z449 e_z449 i_z449 l_z449 u_z449 => ?_)
          refine yG.ifz rfl (t := 43) rfl ⟨by omega, by omega⟩ (fun c450 => ?_) (fun c450 => ?_)
          · have c450 : (z449 : Int) ≤ 0 := c450
            exfalso; omega
          · have c450 : (z449 : Int) > 0 := c450
            refine yG.num (c := 0) rfl (fun _ _ => rfl) (by decide) ?_
            refine yG.ret rfl (fun _ _ => rfl) ?_
            exact (yP.int ⟨by omega, by omega⟩ ⟨⟨⟨0, rfl, by omega, by omega, by omega⟩, A_h448⟩, M_bWf_h448⟩)
      · have c436 : (z435 : Int) = 0 := c436
        clear R_z435
        refine yG.num (c := 1) rfl (fun _ _ => rfl) (by decide) ?_
        refine yG.goto rfl (t := 31) rfl ?_
        refine yG.putI A_hp.1 (w_M_thrown W H_2073) (W.2.1 _ _ H_2073 (by decide) (by decide)) rfl rfl (.inl rfl) ⟨by omega, by omega⟩ (by omega) (by omega) (fun h451 T_h451 b_h451 f_h451 y_h451 => ?_)
        have M_bWf_h451 := M_bWf_hp.fr (bAx.put (Wl := [(83076749736557242056487941267521536, 0)]) (bAx.rf A_hp.1) T_h451 b_h451 f_h451 H_2073 (by decide)) (by decide)
        have A_h451 := A_hp.put T_h451 b_h451 f_h451 H_2073 (by decide)
        have : ys h451 2073 0 = 1 := (y_h451 2073 0).trans (if_pos ⟨rfl, rfl⟩)
        refine yG.load xak rfl (fun _ _ => rfl) (v := yR 2073) rfl rfl ?_
        refine yG.getI A_h451.1 (w_M_thrown W H_2073) rfl rfl (fun z452 e_z452 i_z452 l_z452 u_z452 => ?_)
        refine yG.ifz rfl (t := 43) rfl ⟨by omega, by omega⟩ (fun c453 => ?_) (fun c453 => ?_)
        · have c453 : (z452 : Int) ≤ 0 := c453
          exfalso; omega
        · have c453 : (z452 : Int) > 0 := c453
          refine yG.num (c := 0) rfl (fun _ _ => rfl) (by decide) ?_
          refine yG.ret rfl (fun _ _ => rfl) ?_
          exact (yP.int ⟨by omega, by omega⟩ ⟨⟨⟨0, rfl, by omega, by omega, by omega⟩, A_h451⟩, M_bWf_h451⟩)
    · subst c414
      refine yG.load xak rfl (fun _ _ => rfl) (v := yR 2073) rfl rfl ?_
      refine yG.load xak rfl (fun _ _ => rfl) (v := yR 2073) rfl rfl ?_
      refine yG.load xik rfl (fun _ _ => rfl) (v := yI (2)) rfl rfl ?_
      refine yG.load xik rfl (fun _ _ => rfl) (v := yI (p2)) rfl rfl ?_
      refine yG.invV (rest := [yR 2073]) A_hp.1 (bOb (d_M W) H_2073) rfl rfl rfl rfl (c_GModel_isObject W (d + 1) A_hp.1 H_2073 (2) (p2) (by omega) (by omega) (by omega) (by omega)) (fun rv hp9 q9 => ?_)
      obtain ⟨⟨z454, rfl, l_z454, u_z454, R_z454⟩, e9⟩ := q9
      rw [e9]
      show yG _ _ _ _ _ _ _ _ _ _ (yI z454 :: [yR 2073]) _
      refine yG.ifz rfl (t := 14) rfl ⟨by omega, by omega⟩ (fun c455 => ?_) (fun c455 => ?_)
      · have c455 : (z454 : Int) ≠ 0 := c455
        replace R_z454 := R_z454 (by omega)
        refine yG.load xak rfl (fun _ _ => rfl) (v := yR 2073) rfl rfl ?_
        refine yG.load xik rfl (fun _ _ => rfl) (v := yI (2)) rfl rfl ?_
        refine yG.load xik rfl (fun _ _ => rfl) (v := yI (p2)) rfl rfl ?_
        refine yG.load xik rfl (fun _ _ => rfl) (v := yI (1)) rfl rfl ?_
        refine yG.load xik rfl (fun _ _ => rfl) (v := yI (p4)) rfl rfl ?_
        refine yG.invV (rest := [yR 2073]) A_hp.1 (bOb (d_M W) H_2073) rfl rfl rfl rfl (c_GModel_mayBe_2_1 W (d + 1) A_hp.1 H_2073 (p2) (p4) (by omega) (by omega) (by omega) (by omega)) (fun rv hp9 q9 => ?_)
        obtain ⟨⟨z456, rfl, l_z456, u_z456, R_z456⟩, e9⟩ := q9
        rw [e9]
        show yG _ _ _ _ _ _ _ _ _ _ (yI z456 :: [yR 2073]) _
        refine yG.ifz rfl (t := 30) rfl ⟨by omega, by omega⟩ (fun c457 => ?_) (fun c457 => ?_)
        · have c457 : (z456 : Int) ≠ 0 := c457
          replace R_z456 := R_z456 (by omega)
          refine yG.num (c := 0) rfl (fun _ _ => rfl) (by decide) ?_
          refine yG.putI A_hp.1 (w_M_thrown W H_2073) (W.2.1 _ _ H_2073 (by decide) (by decide)) rfl rfl (.inl rfl) ⟨by omega, by omega⟩ (by omega) (by omega) (fun h458 T_h458 b_h458 f_h458 y_h458 => ?_)
          have M_bWf_h458 := M_bWf_hp.fr (bAx.put (Wl := [(83076749736557242056487941267521536, 0)]) (bAx.rf A_hp.1) T_h458 b_h458 f_h458 H_2073 (by decide)) (by decide)
          have A_h458 := A_hp.put T_h458 b_h458 f_h458 H_2073 (by decide)
          have : ys h458 2073 0 = 0 := (y_h458 2073 0).trans (if_pos ⟨rfl, rfl⟩)
          refine yG.load xak rfl (fun _ _ => rfl) (v := yR 2073) rfl rfl ?_
          refine yG.getI A_h458.1 (w_M_thrown W H_2073) rfl rfl (fun z459 e_z459 i_z459 l_z459 u_z459 => ?_)
          refine yG.ifz rfl (t := 43) rfl ⟨by omega, by omega⟩ (fun c460 => ?_) (fun c460 => ?_)
          · have c460 : (z459 : Int) ≤ 0 := c460
            refine yG.load xak rfl (fun _ _ => rfl) (v := yR 2073) rfl rfl ?_
            refine yG.load xik rfl (fun _ _ => rfl) (v := yI (2)) rfl rfl ?_
            refine yG.load xik rfl (fun _ _ => rfl) (v := yI (p2)) rfl rfl ?_
            refine yG.load xik rfl (fun _ _ => rfl) (v := yI (1)) rfl rfl ?_
            refine yG.invV (rest := []) A_h458.1 (bOb (d_M W) H_2073) rfl rfl rfl rfl (c_GModel_of_v2_1 W (d + 1) A_h458.1 H_2073 (p2) (by omega) (by omega)) (fun rv hp9 q9 => ?_)
            obtain ⟨⟨z461, rfl, l_z461, u_z461, R_z461⟩, e9⟩ := q9
            rw [e9]
            show yG _ _ _ _ _ _ _ _ _ _ (yI z461 :: []) _
            refine yG.store1 xik (L' := [(5, yI (z461)), (0, yR 2073), (1, yI (2)), (2, yI (p2)), (3, yI (1)), (4, yI (p4))]) rfl (fun _ _ => rfl) rfl rfl ?_
            refine yG.load xak rfl (fun _ _ => rfl) (v := yR 2073) rfl rfl ?_
            refine yG.getO A_h458.1 (w_M_field W H_2073) rfl rfl (fun r462 H_r462 O_r462 q_r462 => ?_)
            obtain rfl := u_M_field W H_r462
            refine yG.load xik rfl (fun _ _ => rfl) (v := yI (2)) rfl rfl ?_
            refine yG.load xik rfl (fun _ _ => rfl) (v := yI (p2)) rfl rfl ?_
            refine yG.load xik rfl (fun _ _ => rfl) (v := yI (1)) rfl rfl ?_
            refine yG.invS (rest := [yR 2089]) rfl rfl rfl rfl (c_GModel_f W (d + 2) A_h458.1 (2) (p2) (1) (by omega) (by omega) (by omega) (by omega) (by omega) (by omega)) (fun rv hp9 q9 => ?_)
            obtain ⟨⟨z463, rfl, l_z463, u_z463, R_z463⟩, e9⟩ := q9
            rw [e9]
            show yG _ _ _ _ _ _ _ _ _ _ (yI z463 :: [yR 2089]) _
            refine yG.load xik rfl (fun _ _ => rfl) (v := yI (p4)) rfl rfl ?_
            refine yG.iastF A_h458.1 (v_M_field W H_r462) (show yfT ((z463 : Int).toNat) = (0, (0, 99)) from ((yfT_ix (s := 2) (k := 1) (by omega) (by omega) (by omega) (by decide)).trans rfl)) (W.2.1 _ _ H_r462 (by decide) (by decide)) rfl (by omega) (by omega) ⟨by omega, by omega⟩ (by omega) (by omega) (fun h464 T_h464 b_h464 f_h464 y_h464 => ?_)
            have M_bWf_h464 : bWf G h464 := M_bWf_h458.putx y_h464 (fun j hj h9 hb => by unfold mBp at hb; omega) (fun j hj h9 hb => by unfold mXp at hb; omega)
            have A_h464 := A_h458.put T_h464 b_h464 f_h464 H_r462 (bAll_ok (by decide) _)
            have : ys h464 2073 0 = ys h458 2073 0 := (y_h464 2073 0).trans (if_neg (fun e => (bRo.ne H_2073 H_r462 (by decide)) e.1))
            refine yG.load xak rfl (fun _ _ => rfl) (v := yR 2073) rfl rfl ?_
            refine yG.invV (rest := []) A_h464.1 (bOb (d_M W) H_2073) rfl rfl rfl rfl (c_GModel_changed W (d + 2) A_h464.1 H_2073) (fun rv h465 q9 => ?_)
            obtain ⟨⟨rfl, R_z466⟩, B_h465⟩ := q9
            have A_h465 := A_h464.tr B_h465 (by decide)
            have M_bWf_h465 := M_bWf_h464.fr B_h465 (by decide)
            have : ys h465 2073 0 = ys h464 2073 0 := B_h465.ys H_2073 (by decide)
            show yG _ _ _ _ _ _ _ _ _ _ [] _
            refine yG.load xik rfl (fun _ _ => rfl) (v := yI (z461)) rfl rfl ?_
            refine yG.ret rfl (fun _ _ => rfl) ?_
            exact (yP.int ⟨by omega, by omega⟩ ⟨⟨⟨z461, rfl, by omega, by omega, by omega⟩, A_h465⟩, M_bWf_h465⟩)
          · have c460 : (z459 : Int) > 0 := c460
            exfalso; omega
        · have c457 : (z456 : Int) = 0 := c457
          clear R_z456
          refine yG.num (c := 2) rfl (fun _ _ => rfl) (by decide) ?_
          refine yG.goto rfl (t := 31) rfl ?_
          refine yG.putI A_hp.1 (w_M_thrown W H_2073) (W.2.1 _ _ H_2073 (by decide) (by decide)) rfl rfl (.inl rfl) ⟨by omega, by omega⟩ (by omega) (by omega) (fun h467 T_h467 b_h467 f_h467 y_h467 => ?_)
          have M_bWf_h467 := M_bWf_hp.fr (bAx.put (Wl := [(83076749736557242056487941267521536, 0)]) (bAx.rf A_hp.1) T_h467 b_h467 f_h467 H_2073 (by decide)) (by decide)
          have A_h467 := A_hp.put T_h467 b_h467 f_h467 H_2073 (by decide)
          have : ys h467 2073 0 = 2 := (y_h467 2073 0).trans (if_pos ⟨rfl, rfl⟩)
          refine yG.load xak rfl (fun _ _ => rfl) (v := yR 2073) rfl rfl ?_
          refine yG.getI A_h467.1 (w_M_thrown W H_2073) rfl rfl (fun z468 e_z468 i_z468 l_z468 u_z468 => ?_)
          refine yG.ifz rfl (t := 43) rfl ⟨by omega, by omega⟩ (fun c469 => ?_) (fun c469 => ?_)
          · have c469 : (z468 : Int) ≤ 0 := c469
            exfalso; omega
          · have c469 : (z468 : Int) > 0 := c469
            refine yG.num (c := 0) rfl (fun _ _ => rfl) (by decide) ?_
            refine yG.ret rfl (fun _ _ => rfl) ?_
            exact (yP.int ⟨by omega, by omega⟩ ⟨⟨⟨0, rfl, by omega, by omega, by omega⟩, A_h467⟩, M_bWf_h467⟩)
      · have c455 : (z454 : Int) = 0 := c455
        clear R_z454
        refine yG.num (c := 1) rfl (fun _ _ => rfl) (by decide) ?_
        refine yG.goto rfl (t := 31) rfl ?_
        refine yG.putI A_hp.1 (w_M_thrown W H_2073) (W.2.1 _ _ H_2073 (by decide) (by decide)) rfl rfl (.inl rfl) ⟨by omega, by omega⟩ (by omega) (by omega) (fun h470 T_h470 b_h470 f_h470 y_h470 => ?_)
        have M_bWf_h470 := M_bWf_hp.fr (bAx.put (Wl := [(83076749736557242056487941267521536, 0)]) (bAx.rf A_hp.1) T_h470 b_h470 f_h470 H_2073 (by decide)) (by decide)
        have A_h470 := A_hp.put T_h470 b_h470 f_h470 H_2073 (by decide)
        have : ys h470 2073 0 = 1 := (y_h470 2073 0).trans (if_pos ⟨rfl, rfl⟩)
        refine yG.load xak rfl (fun _ _ => rfl) (v := yR 2073) rfl rfl ?_
        refine yG.getI A_h470.1 (w_M_thrown W H_2073) rfl rfl (fun z471 e_z471 i_z471 l_z471 u_z471 => ?_)
        refine yG.ifz rfl (t := 43) rfl ⟨by omega, by omega⟩ (fun c472 => ?_) (fun c472 => ?_)
        · have c472 : (z471 : Int) ≤ 0 := c472
          exfalso; omega
        · have c472 : (z471 : Int) > 0 := c472
          refine yG.num (c := 0) rfl (fun _ _ => rfl) (by decide) ?_
          refine yG.ret rfl (fun _ _ => rfl) ?_
          exact (yP.int ⟨by omega, by omega⟩ ⟨⟨⟨0, rfl, by omega, by omega, by omega⟩, A_h470⟩, M_bWf_h470⟩)
    · subst c414
      refine yG.load xak rfl (fun _ _ => rfl) (v := yR 2073) rfl rfl ?_
      refine yG.load xak rfl (fun _ _ => rfl) (v := yR 2073) rfl rfl ?_
      refine yG.load xik rfl (fun _ _ => rfl) (v := yI (2)) rfl rfl ?_
      refine yG.load xik rfl (fun _ _ => rfl) (v := yI (p2)) rfl rfl ?_
      refine yG.invV (rest := [yR 2073]) A_hp.1 (bOb (d_M W) H_2073) rfl rfl rfl rfl (c_GModel_isObject W (d + 1) A_hp.1 H_2073 (2) (p2) (by omega) (by omega) (by omega) (by omega)) (fun rv hp9 q9 => ?_)
      obtain ⟨⟨z473, rfl, l_z473, u_z473, R_z473⟩, e9⟩ := q9
      rw [e9]
      show yG _ _ _ _ _ _ _ _ _ _ (yI z473 :: [yR 2073]) _
      refine yG.ifz rfl (t := 14) rfl ⟨by omega, by omega⟩ (fun c474 => ?_) (fun c474 => ?_)
      · have c474 : (z473 : Int) ≠ 0 := c474
        replace R_z473 := R_z473 (by omega)
        refine yG.load xak rfl (fun _ _ => rfl) (v := yR 2073) rfl rfl ?_
        refine yG.load xik rfl (fun _ _ => rfl) (v := yI (2)) rfl rfl ?_
        refine yG.load xik rfl (fun _ _ => rfl) (v := yI (p2)) rfl rfl ?_
        refine yG.load xik rfl (fun _ _ => rfl) (v := yI (2)) rfl rfl ?_
        refine yG.load xik rfl (fun _ _ => rfl) (v := yI (p4)) rfl rfl ?_
        refine yG.invV (rest := [yR 2073]) A_hp.1 (bOb (d_M W) H_2073) rfl rfl rfl rfl (c_GModel_mayBe_2_2 W (d + 1) A_hp.1 H_2073 (p2) (p4) (by omega) (by omega) (by omega) (by omega)) (fun rv hp9 q9 => ?_)
        obtain ⟨⟨z475, rfl, l_z475, u_z475, R_z475⟩, e9⟩ := q9
        rw [e9]
        show yG _ _ _ _ _ _ _ _ _ _ (yI z475 :: [yR 2073]) _
        refine yG.ifz rfl (t := 30) rfl ⟨by omega, by omega⟩ (fun c476 => ?_) (fun c476 => ?_)
        · have c476 : (z475 : Int) ≠ 0 := c476
          replace R_z475 := R_z475 (by omega)
          refine yG.num (c := 0) rfl (fun _ _ => rfl) (by decide) ?_
          refine yG.putI A_hp.1 (w_M_thrown W H_2073) (W.2.1 _ _ H_2073 (by decide) (by decide)) rfl rfl (.inl rfl) ⟨by omega, by omega⟩ (by omega) (by omega) (fun h477 T_h477 b_h477 f_h477 y_h477 => ?_)
          have M_bWf_h477 := M_bWf_hp.fr (bAx.put (Wl := [(83076749736557242056487941267521536, 0)]) (bAx.rf A_hp.1) T_h477 b_h477 f_h477 H_2073 (by decide)) (by decide)
          have A_h477 := A_hp.put T_h477 b_h477 f_h477 H_2073 (by decide)
          have : ys h477 2073 0 = 0 := (y_h477 2073 0).trans (if_pos ⟨rfl, rfl⟩)
          refine yG.load xak rfl (fun _ _ => rfl) (v := yR 2073) rfl rfl ?_
          refine yG.getI A_h477.1 (w_M_thrown W H_2073) rfl rfl (fun z478 e_z478 i_z478 l_z478 u_z478 => ?_)
          refine yG.ifz rfl (t := 43) rfl ⟨by omega, by omega⟩ (fun c479 => ?_) (fun c479 => ?_)
          · have c479 : (z478 : Int) ≤ 0 := c479
            refine yG.load xak rfl (fun _ _ => rfl) (v := yR 2073) rfl rfl ?_
            refine yG.load xik rfl (fun _ _ => rfl) (v := yI (2)) rfl rfl ?_
            refine yG.load xik rfl (fun _ _ => rfl) (v := yI (p2)) rfl rfl ?_
            refine yG.load xik rfl (fun _ _ => rfl) (v := yI (2)) rfl rfl ?_
            refine yG.invV (rest := []) A_h477.1 (bOb (d_M W) H_2073) rfl rfl rfl rfl (c_GModel_of_v2_2 W (d + 1) A_h477.1 H_2073 (p2) (by omega) (by omega)) (fun rv hp9 q9 => ?_)
            obtain ⟨⟨z480, rfl, l_z480, u_z480, R_z480⟩, e9⟩ := q9
            rw [e9]
            show yG _ _ _ _ _ _ _ _ _ _ (yI z480 :: []) _
            refine yG.store1 xik (L' := [(5, yI (z480)), (0, yR 2073), (1, yI (2)), (2, yI (p2)), (3, yI (2)), (4, yI (p4))]) rfl (fun _ _ => rfl) rfl rfl ?_
            refine yG.load xak rfl (fun _ _ => rfl) (v := yR 2073) rfl rfl ?_
            refine yG.getO A_h477.1 (w_M_field W H_2073) rfl rfl (fun r481 H_r481 O_r481 q_r481 => ?_)
            obtain rfl := u_M_field W H_r481
            refine yG.load xik rfl (fun _ _ => rfl) (v := yI (2)) rfl rfl ?_
            refine yG.load xik rfl (fun _ _ => rfl) (v := yI (p2)) rfl rfl ?_
            refine yG.load xik rfl (fun _ _ => rfl) (v := yI (2)) rfl rfl ?_
            refine yG.invS (rest := [yR 2089]) rfl rfl rfl rfl (c_GModel_f W (d + 2) A_h477.1 (2) (p2) (2) (by omega) (by omega) (by omega) (by omega) (by omega) (by omega)) (fun rv hp9 q9 => ?_)
            obtain ⟨⟨z482, rfl, l_z482, u_z482, R_z482⟩, e9⟩ := q9
            rw [e9]
            show yG _ _ _ _ _ _ _ _ _ _ (yI z482 :: [yR 2089]) _
            refine yG.load xik rfl (fun _ _ => rfl) (v := yI (p4)) rfl rfl ?_
            refine yG.iastF A_h477.1 (v_M_field W H_r481) (show yfT ((z482 : Int).toNat) = (0, (0, 299)) from ((yfT_ix (s := 2) (k := 2) (by omega) (by omega) (by omega) (by decide)).trans rfl)) (W.2.1 _ _ H_r481 (by decide) (by decide)) rfl (by omega) (by omega) ⟨by omega, by omega⟩ (by omega) (by omega) (fun h483 T_h483 b_h483 f_h483 y_h483 => ?_)
            have M_bWf_h483 : bWf G h483 := M_bWf_h477.putx y_h483 (fun j hj h9 hb => by unfold mBp at hb; omega) (fun j hj h9 hb => by unfold mXp at hb; omega)
            have A_h483 := A_h477.put T_h483 b_h483 f_h483 H_r481 (bAll_ok (by decide) _)
            have : ys h483 2073 0 = ys h477 2073 0 := (y_h483 2073 0).trans (if_neg (fun e => (bRo.ne H_2073 H_r481 (by decide)) e.1))
            refine yG.load xak rfl (fun _ _ => rfl) (v := yR 2073) rfl rfl ?_
            refine yG.invV (rest := []) A_h483.1 (bOb (d_M W) H_2073) rfl rfl rfl rfl (c_GModel_changed W (d + 2) A_h483.1 H_2073) (fun rv h484 q9 => ?_)
            obtain ⟨⟨rfl, R_z485⟩, B_h484⟩ := q9
            have A_h484 := A_h483.tr B_h484 (by decide)
            have M_bWf_h484 := M_bWf_h483.fr B_h484 (by decide)
            have : ys h484 2073 0 = ys h483 2073 0 := B_h484.ys H_2073 (by decide)
            show yG _ _ _ _ _ _ _ _ _ _ [] _
            refine yG.load xik rfl (fun _ _ => rfl) (v := yI (z480)) rfl rfl ?_
            refine yG.ret rfl (fun _ _ => rfl) ?_
            exact (yP.int ⟨by omega, by omega⟩ ⟨⟨⟨z480, rfl, by omega, by omega, by omega⟩, A_h484⟩, M_bWf_h484⟩)
          · have c479 : (z478 : Int) > 0 := c479
            exfalso; omega
        · have c476 : (z475 : Int) = 0 := c476
          clear R_z475
          refine yG.num (c := 2) rfl (fun _ _ => rfl) (by decide) ?_
          refine yG.goto rfl (t := 31) rfl ?_
          refine yG.putI A_hp.1 (w_M_thrown W H_2073) (W.2.1 _ _ H_2073 (by decide) (by decide)) rfl rfl (.inl rfl) ⟨by omega, by omega⟩ (by omega) (by omega) (fun h486 T_h486 b_h486 f_h486 y_h486 => ?_)
          have M_bWf_h486 := M_bWf_hp.fr (bAx.put (Wl := [(83076749736557242056487941267521536, 0)]) (bAx.rf A_hp.1) T_h486 b_h486 f_h486 H_2073 (by decide)) (by decide)
          have A_h486 := A_hp.put T_h486 b_h486 f_h486 H_2073 (by decide)
          have : ys h486 2073 0 = 2 := (y_h486 2073 0).trans (if_pos ⟨rfl, rfl⟩)
          refine yG.load xak rfl (fun _ _ => rfl) (v := yR 2073) rfl rfl ?_
          refine yG.getI A_h486.1 (w_M_thrown W H_2073) rfl rfl (fun z487 e_z487 i_z487 l_z487 u_z487 => ?_)
          refine yG.ifz rfl (t := 43) rfl ⟨by omega, by omega⟩ (fun c488 => ?_) (fun c488 => ?_)
          · have c488 : (z487 : Int) ≤ 0 := c488
            exfalso; omega
          · have c488 : (z487 : Int) > 0 := c488
            refine yG.num (c := 0) rfl (fun _ _ => rfl) (by decide) ?_
            refine yG.ret rfl (fun _ _ => rfl) ?_
            exact (yP.int ⟨by omega, by omega⟩ ⟨⟨⟨0, rfl, by omega, by omega, by omega⟩, A_h486⟩, M_bWf_h486⟩)
      · have c474 : (z473 : Int) = 0 := c474
        clear R_z473
        refine yG.num (c := 1) rfl (fun _ _ => rfl) (by decide) ?_
        refine yG.goto rfl (t := 31) rfl ?_
        refine yG.putI A_hp.1 (w_M_thrown W H_2073) (W.2.1 _ _ H_2073 (by decide) (by decide)) rfl rfl (.inl rfl) ⟨by omega, by omega⟩ (by omega) (by omega) (fun h489 T_h489 b_h489 f_h489 y_h489 => ?_)
        have M_bWf_h489 := M_bWf_hp.fr (bAx.put (Wl := [(83076749736557242056487941267521536, 0)]) (bAx.rf A_hp.1) T_h489 b_h489 f_h489 H_2073 (by decide)) (by decide)
        have A_h489 := A_hp.put T_h489 b_h489 f_h489 H_2073 (by decide)
        have : ys h489 2073 0 = 1 := (y_h489 2073 0).trans (if_pos ⟨rfl, rfl⟩)
        refine yG.load xak rfl (fun _ _ => rfl) (v := yR 2073) rfl rfl ?_
        refine yG.getI A_h489.1 (w_M_thrown W H_2073) rfl rfl (fun z490 e_z490 i_z490 l_z490 u_z490 => ?_)
        refine yG.ifz rfl (t := 43) rfl ⟨by omega, by omega⟩ (fun c491 => ?_) (fun c491 => ?_)
        · have c491 : (z490 : Int) ≤ 0 := c491
          exfalso; omega
        · have c491 : (z490 : Int) > 0 := c491
          refine yG.num (c := 0) rfl (fun _ _ => rfl) (by decide) ?_
          refine yG.ret rfl (fun _ _ => rfl) ?_
          exact (yP.int ⟨by omega, by omega⟩ ⟨⟨⟨0, rfl, by omega, by omega, by omega⟩, A_h489⟩, M_bWf_h489⟩)
    · subst c414
      refine yG.load xak rfl (fun _ _ => rfl) (v := yR 2073) rfl rfl ?_
      refine yG.load xak rfl (fun _ _ => rfl) (v := yR 2073) rfl rfl ?_
      refine yG.load xik rfl (fun _ _ => rfl) (v := yI (2)) rfl rfl ?_
      refine yG.load xik rfl (fun _ _ => rfl) (v := yI (p2)) rfl rfl ?_
      refine yG.invV (rest := [yR 2073]) A_hp.1 (bOb (d_M W) H_2073) rfl rfl rfl rfl (c_GModel_isObject W (d + 1) A_hp.1 H_2073 (2) (p2) (by omega) (by omega) (by omega) (by omega)) (fun rv hp9 q9 => ?_)
      obtain ⟨⟨z492, rfl, l_z492, u_z492, R_z492⟩, e9⟩ := q9
      rw [e9]
      show yG _ _ _ _ _ _ _ _ _ _ (yI z492 :: [yR 2073]) _
      refine yG.ifz rfl (t := 14) rfl ⟨by omega, by omega⟩ (fun c493 => ?_) (fun c493 => ?_)
      · have c493 : (z492 : Int) ≠ 0 := c493
        replace R_z492 := R_z492 (by omega)
        refine yG.load xak rfl (fun _ _ => rfl) (v := yR 2073) rfl rfl ?_
        refine yG.load xik rfl (fun _ _ => rfl) (v := yI (2)) rfl rfl ?_
        refine yG.load xik rfl (fun _ _ => rfl) (v := yI (p2)) rfl rfl ?_
        refine yG.load xik rfl (fun _ _ => rfl) (v := yI (3)) rfl rfl ?_
        refine yG.load xik rfl (fun _ _ => rfl) (v := yI (p4)) rfl rfl ?_
        refine yG.invV (rest := [yR 2073]) A_hp.1 (bOb (d_M W) H_2073) rfl rfl rfl rfl (c_GModel_mayBe_2_3 W (d + 1) A_hp.1 H_2073 (p2) (p4) (by omega) (by omega) (by omega) (by omega)) (fun rv hp9 q9 => ?_)
        obtain ⟨⟨z494, rfl, l_z494, u_z494, R_z494⟩, e9⟩ := q9
        rw [e9]
        show yG _ _ _ _ _ _ _ _ _ _ (yI z494 :: [yR 2073]) _
        refine yG.ifz rfl (t := 30) rfl ⟨by omega, by omega⟩ (fun c495 => ?_) (fun c495 => ?_)
        · have c495 : (z494 : Int) ≠ 0 := c495
          replace R_z494 := R_z494 (by omega)
          refine yG.num (c := 0) rfl (fun _ _ => rfl) (by decide) ?_
          refine yG.putI A_hp.1 (w_M_thrown W H_2073) (W.2.1 _ _ H_2073 (by decide) (by decide)) rfl rfl (.inl rfl) ⟨by omega, by omega⟩ (by omega) (by omega) (fun h496 T_h496 b_h496 f_h496 y_h496 => ?_)
          have M_bWf_h496 := M_bWf_hp.fr (bAx.put (Wl := [(83076749736557242056487941267521536, 0)]) (bAx.rf A_hp.1) T_h496 b_h496 f_h496 H_2073 (by decide)) (by decide)
          have A_h496 := A_hp.put T_h496 b_h496 f_h496 H_2073 (by decide)
          have : ys h496 2073 0 = 0 := (y_h496 2073 0).trans (if_pos ⟨rfl, rfl⟩)
          refine yG.load xak rfl (fun _ _ => rfl) (v := yR 2073) rfl rfl ?_
          refine yG.getI A_h496.1 (w_M_thrown W H_2073) rfl rfl (fun z497 e_z497 i_z497 l_z497 u_z497 => ?_)
          refine yG.ifz rfl (t := 43) rfl ⟨by omega, by omega⟩ (fun c498 => ?_) (fun c498 => ?_)
          · have c498 : (z497 : Int) ≤ 0 := c498
            refine yG.load xak rfl (fun _ _ => rfl) (v := yR 2073) rfl rfl ?_
            refine yG.load xik rfl (fun _ _ => rfl) (v := yI (2)) rfl rfl ?_
            refine yG.load xik rfl (fun _ _ => rfl) (v := yI (p2)) rfl rfl ?_
            refine yG.load xik rfl (fun _ _ => rfl) (v := yI (3)) rfl rfl ?_
            refine yG.invV (rest := []) A_h496.1 (bOb (d_M W) H_2073) rfl rfl rfl rfl (c_GModel_of_2_3 W (d + 1) A_h496.1 H_2073 (p2) (by omega) (by omega)) (fun rv hp9 q9 => ?_)
            obtain ⟨⟨z499, rfl, l_z499, u_z499, R_z499⟩, e9⟩ := q9
            rw [e9]
            show yG _ _ _ _ _ _ _ _ _ _ (yI z499 :: []) _
            refine yG.store1 xik (L' := [(5, yI (z499)), (0, yR 2073), (1, yI (2)), (2, yI (p2)), (3, yI (3)), (4, yI (p4))]) rfl (fun _ _ => rfl) rfl rfl ?_
            refine yG.load xak rfl (fun _ _ => rfl) (v := yR 2073) rfl rfl ?_
            refine yG.getO A_h496.1 (w_M_field W H_2073) rfl rfl (fun r500 H_r500 O_r500 q_r500 => ?_)
            obtain rfl := u_M_field W H_r500
            refine yG.load xik rfl (fun _ _ => rfl) (v := yI (2)) rfl rfl ?_
            refine yG.load xik rfl (fun _ _ => rfl) (v := yI (p2)) rfl rfl ?_
            refine yG.load xik rfl (fun _ _ => rfl) (v := yI (3)) rfl rfl ?_
            refine yG.invS (rest := [yR 2089]) rfl rfl rfl rfl (c_GModel_f W (d + 2) A_h496.1 (2) (p2) (3) (by omega) (by omega) (by omega) (by omega) (by omega) (by omega)) (fun rv hp9 q9 => ?_)
            obtain ⟨⟨z501, rfl, l_z501, u_z501, R_z501⟩, e9⟩ := q9
            rw [e9]
            show yG _ _ _ _ _ _ _ _ _ _ (yI z501 :: [yR 2089]) _
            refine yG.load xik rfl (fun _ _ => rfl) (v := yI (p4)) rfl rfl ?_
            refine yG.iastF A_h496.1 (v_M_field W H_r500) (show yfT ((z501 : Int).toNat) = (0, (0, 9999)) from ((yfT_ix (s := 2) (k := 3) (by omega) (by omega) (by omega) (by decide)).trans rfl)) (W.2.1 _ _ H_r500 (by decide) (by decide)) rfl (by omega) (by omega) ⟨by omega, by omega⟩ (by omega) (by omega) (fun h502 T_h502 b_h502 f_h502 y_h502 => ?_)
            have M_bWf_h502 : bWf G h502 := M_bWf_h496.putx y_h502 (fun j hj h9 hb => by unfold mBp at hb; omega) (fun j hj h9 hb => by unfold mXp at hb; omega)
            have A_h502 := A_h496.put T_h502 b_h502 f_h502 H_r500 (bAll_ok (by decide) _)
            have : ys h502 2073 0 = ys h496 2073 0 := (y_h502 2073 0).trans (if_neg (fun e => (bRo.ne H_2073 H_r500 (by decide)) e.1))
            refine yG.load xak rfl (fun _ _ => rfl) (v := yR 2073) rfl rfl ?_
            refine yG.invV (rest := []) A_h502.1 (bOb (d_M W) H_2073) rfl rfl rfl rfl (c_GModel_changed W (d + 2) A_h502.1 H_2073) (fun rv h503 q9 => ?_)
            obtain ⟨⟨rfl, R_z504⟩, B_h503⟩ := q9
            have A_h503 := A_h502.tr B_h503 (by decide)
            have M_bWf_h503 := M_bWf_h502.fr B_h503 (by decide)
            have : ys h503 2073 0 = ys h502 2073 0 := B_h503.ys H_2073 (by decide)
            show yG _ _ _ _ _ _ _ _ _ _ [] _
            refine yG.load xik rfl (fun _ _ => rfl) (v := yI (z499)) rfl rfl ?_
            refine yG.ret rfl (fun _ _ => rfl) ?_
            exact (yP.int ⟨by omega, by omega⟩ ⟨⟨⟨z499, rfl, by omega, by omega, by omega⟩, A_h503⟩, M_bWf_h503⟩)
          · have c498 : (z497 : Int) > 0 := c498
            exfalso; omega
        · have c495 : (z494 : Int) = 0 := c495
          clear R_z494
          refine yG.num (c := 2) rfl (fun _ _ => rfl) (by decide) ?_
          refine yG.goto rfl (t := 31) rfl ?_
          refine yG.putI A_hp.1 (w_M_thrown W H_2073) (W.2.1 _ _ H_2073 (by decide) (by decide)) rfl rfl (.inl rfl) ⟨by omega, by omega⟩ (by omega) (by omega) (fun h505 T_h505 b_h505 f_h505 y_h505 => ?_)
          have M_bWf_h505 := M_bWf_hp.fr (bAx.put (Wl := [(83076749736557242056487941267521536, 0)]) (bAx.rf A_hp.1) T_h505 b_h505 f_h505 H_2073 (by decide)) (by decide)
          have A_h505 := A_hp.put T_h505 b_h505 f_h505 H_2073 (by decide)
          have : ys h505 2073 0 = 2 := (y_h505 2073 0).trans (if_pos ⟨rfl, rfl⟩)
          refine yG.load xak rfl (fun _ _ => rfl) (v := yR 2073) rfl rfl ?_
          refine yG.getI A_h505.1 (w_M_thrown W H_2073) rfl rfl (fun z506 e_z506 i_z506 l_z506 u_z506 => ?_)
          refine yG.ifz rfl (t := 43) rfl ⟨by omega, by omega⟩ (fun c507 => ?_) (fun c507 => ?_)
          · have c507 : (z506 : Int) ≤ 0 := c507
            exfalso; omega
          · have c507 : (z506 : Int) > 0 := c507
            refine yG.num (c := 0) rfl (fun _ _ => rfl) (by decide) ?_
            refine yG.ret rfl (fun _ _ => rfl) ?_
            exact (yP.int ⟨by omega, by omega⟩ ⟨⟨⟨0, rfl, by omega, by omega, by omega⟩, A_h505⟩, M_bWf_h505⟩)
      · have c493 : (z492 : Int) = 0 := c493
        clear R_z492
        refine yG.num (c := 1) rfl (fun _ _ => rfl) (by decide) ?_
        refine yG.goto rfl (t := 31) rfl ?_
        refine yG.putI A_hp.1 (w_M_thrown W H_2073) (W.2.1 _ _ H_2073 (by decide) (by decide)) rfl rfl (.inl rfl) ⟨by omega, by omega⟩ (by omega) (by omega) (fun h508 T_h508 b_h508 f_h508 y_h508 => ?_)
        have M_bWf_h508 := M_bWf_hp.fr (bAx.put (Wl := [(83076749736557242056487941267521536, 0)]) (bAx.rf A_hp.1) T_h508 b_h508 f_h508 H_2073 (by decide)) (by decide)
        have A_h508 := A_hp.put T_h508 b_h508 f_h508 H_2073 (by decide)
        have : ys h508 2073 0 = 1 := (y_h508 2073 0).trans (if_pos ⟨rfl, rfl⟩)
        refine yG.load xak rfl (fun _ _ => rfl) (v := yR 2073) rfl rfl ?_
        refine yG.getI A_h508.1 (w_M_thrown W H_2073) rfl rfl (fun z509 e_z509 i_z509 l_z509 u_z509 => ?_)
        refine yG.ifz rfl (t := 43) rfl ⟨by omega, by omega⟩ (fun c510 => ?_) (fun c510 => ?_)
        · have c510 : (z509 : Int) ≤ 0 := c510
          exfalso; omega
        · have c510 : (z509 : Int) > 0 := c510
          refine yG.num (c := 0) rfl (fun _ _ => rfl) (by decide) ?_
          refine yG.ret rfl (fun _ _ => rfl) ?_
          exact (yP.int ⟨by omega, by omega⟩ ⟨⟨⟨0, rfl, by omega, by omega, by omega⟩, A_h508⟩, M_bWf_h508⟩)
    · subst c414
      refine yG.load xak rfl (fun _ _ => rfl) (v := yR 2073) rfl rfl ?_
      refine yG.load xak rfl (fun _ _ => rfl) (v := yR 2073) rfl rfl ?_
      refine yG.load xik rfl (fun _ _ => rfl) (v := yI (2)) rfl rfl ?_
      refine yG.load xik rfl (fun _ _ => rfl) (v := yI (p2)) rfl rfl ?_
      refine yG.invV (rest := [yR 2073]) A_hp.1 (bOb (d_M W) H_2073) rfl rfl rfl rfl (c_GModel_isObject W (d + 1) A_hp.1 H_2073 (2) (p2) (by omega) (by omega) (by omega) (by omega)) (fun rv hp9 q9 => ?_)
      obtain ⟨⟨z511, rfl, l_z511, u_z511, R_z511⟩, e9⟩ := q9
      rw [e9]
      show yG _ _ _ _ _ _ _ _ _ _ (yI z511 :: [yR 2073]) _
      refine yG.ifz rfl (t := 14) rfl ⟨by omega, by omega⟩ (fun c512 => ?_) (fun c512 => ?_)
      · have c512 : (z511 : Int) ≠ 0 := c512
        replace R_z511 := R_z511 (by omega)
        refine yG.load xak rfl (fun _ _ => rfl) (v := yR 2073) rfl rfl ?_
        refine yG.load xik rfl (fun _ _ => rfl) (v := yI (2)) rfl rfl ?_
        refine yG.load xik rfl (fun _ _ => rfl) (v := yI (p2)) rfl rfl ?_
        refine yG.load xik rfl (fun _ _ => rfl) (v := yI (4)) rfl rfl ?_
        refine yG.load xik rfl (fun _ _ => rfl) (v := yI (p4)) rfl rfl ?_
        refine yG.invV (rest := [yR 2073]) A_hp.1 (bOb (d_M W) H_2073) rfl rfl rfl rfl (c_GModel_mayBe_2_4 W (d + 2) A_hp.1 H_2073 (p2) (p4) (by omega) (by omega) (by omega) (by omega)) (fun rv hp9 q9 => ?_)
        obtain ⟨⟨z513, rfl, l_z513, u_z513, R_z513⟩, e9⟩ := q9
        rw [e9]
        show yG _ _ _ _ _ _ _ _ _ _ (yI z513 :: [yR 2073]) _
        refine yG.ifz rfl (t := 30) rfl ⟨by omega, by omega⟩ (fun c514 => ?_) (fun c514 => ?_)
        · have c514 : (z513 : Int) ≠ 0 := c514
          exfalso; omega
        · have c514 : (z513 : Int) = 0 := c514
          refine yG.num (c := 2) rfl (fun _ _ => rfl) (by decide) ?_
          refine yG.goto rfl (t := 31) rfl ?_
          refine yG.putI A_hp.1 (w_M_thrown W H_2073) (W.2.1 _ _ H_2073 (by decide) (by decide)) rfl rfl (.inl rfl) ⟨by omega, by omega⟩ (by omega) (by omega) (fun h515 T_h515 b_h515 f_h515 y_h515 => ?_)
          have M_bWf_h515 := M_bWf_hp.fr (bAx.put (Wl := [(83076749736557242056487941267521536, 0)]) (bAx.rf A_hp.1) T_h515 b_h515 f_h515 H_2073 (by decide)) (by decide)
          have A_h515 := A_hp.put T_h515 b_h515 f_h515 H_2073 (by decide)
          have : ys h515 2073 0 = 2 := (y_h515 2073 0).trans (if_pos ⟨rfl, rfl⟩)
          refine yG.load xak rfl (fun _ _ => rfl) (v := yR 2073) rfl rfl ?_
          refine yG.getI A_h515.1 (w_M_thrown W H_2073) rfl rfl (fun z516 e_z516 i_z516 l_z516 u_z516 => ?_)
          refine yG.ifz rfl (t := 43) rfl ⟨by omega, by omega⟩ (fun c517 => ?_) (fun c517 => ?_)
          · have c517 : (z516 : Int) ≤ 0 := c517
            exfalso; omega
          · have c517 : (z516 : Int) > 0 := c517
            refine yG.num (c := 0) rfl (fun _ _ => rfl) (by decide) ?_
            refine yG.ret rfl (fun _ _ => rfl) ?_
            exact (yP.int ⟨by omega, by omega⟩ ⟨⟨⟨0, rfl, by omega, by omega, by omega⟩, A_h515⟩, M_bWf_h515⟩)
      · have c512 : (z511 : Int) = 0 := c512
        clear R_z511
        refine yG.num (c := 1) rfl (fun _ _ => rfl) (by decide) ?_
        refine yG.goto rfl (t := 31) rfl ?_
        refine yG.putI A_hp.1 (w_M_thrown W H_2073) (W.2.1 _ _ H_2073 (by decide) (by decide)) rfl rfl (.inl rfl) ⟨by omega, by omega⟩ (by omega) (by omega) (fun h518 T_h518 b_h518 f_h518 y_h518 => ?_)
        have M_bWf_h518 := M_bWf_hp.fr (bAx.put (Wl := [(83076749736557242056487941267521536, 0)]) (bAx.rf A_hp.1) T_h518 b_h518 f_h518 H_2073 (by decide)) (by decide)
        have A_h518 := A_hp.put T_h518 b_h518 f_h518 H_2073 (by decide)
        have : ys h518 2073 0 = 1 := (y_h518 2073 0).trans (if_pos ⟨rfl, rfl⟩)
        refine yG.load xak rfl (fun _ _ => rfl) (v := yR 2073) rfl rfl ?_
        refine yG.getI A_h518.1 (w_M_thrown W H_2073) rfl rfl (fun z519 e_z519 i_z519 l_z519 u_z519 => ?_)
        refine yG.ifz rfl (t := 43) rfl ⟨by omega, by omega⟩ (fun c520 => ?_) (fun c520 => ?_)
        · have c520 : (z519 : Int) ≤ 0 := c520
          exfalso; omega
        · have c520 : (z519 : Int) > 0 := c520
          refine yG.num (c := 0) rfl (fun _ _ => rfl) (by decide) ?_
          refine yG.ret rfl (fun _ _ => rfl) ?_
          exact (yP.int ⟨by omega, by omega⟩ ⟨⟨⟨0, rfl, by omega, by omega, by omega⟩, A_h518⟩, M_bWf_h518⟩)
    · subst c414
      refine yG.load xak rfl (fun _ _ => rfl) (v := yR 2073) rfl rfl ?_
      refine yG.load xak rfl (fun _ _ => rfl) (v := yR 2073) rfl rfl ?_
      refine yG.load xik rfl (fun _ _ => rfl) (v := yI (2)) rfl rfl ?_
      refine yG.load xik rfl (fun _ _ => rfl) (v := yI (p2)) rfl rfl ?_
      refine yG.invV (rest := [yR 2073]) A_hp.1 (bOb (d_M W) H_2073) rfl rfl rfl rfl (c_GModel_isObject W (d + 1) A_hp.1 H_2073 (2) (p2) (by omega) (by omega) (by omega) (by omega)) (fun rv hp9 q9 => ?_)
      obtain ⟨⟨z521, rfl, l_z521, u_z521, R_z521⟩, e9⟩ := q9
      rw [e9]
      show yG _ _ _ _ _ _ _ _ _ _ (yI z521 :: [yR 2073]) _
      refine yG.ifz rfl (t := 14) rfl ⟨by omega, by omega⟩ (fun c522 => ?_) (fun c522 => ?_)
      · have c522 : (z521 : Int) ≠ 0 := c522
        replace R_z521 := R_z521 (by omega)
        refine yG.load xak rfl (fun _ _ => rfl) (v := yR 2073) rfl rfl ?_
        refine yG.load xik rfl (fun _ _ => rfl) (v := yI (2)) rfl rfl ?_
        refine yG.load xik rfl (fun _ _ => rfl) (v := yI (p2)) rfl rfl ?_
        refine yG.load xik rfl (fun _ _ => rfl) (v := yI (5)) rfl rfl ?_
        refine yG.load xik rfl (fun _ _ => rfl) (v := yI (p4)) rfl rfl ?_
        refine yG.invV (rest := [yR 2073]) A_hp.1 (bOb (d_M W) H_2073) rfl rfl rfl rfl (c_GModel_mayBe_2_5 W (d + 2) A_hp.1 H_2073 (p2) (p4) (by omega) (by omega) (by omega) (by omega)) (fun rv hp9 q9 => ?_)
        obtain ⟨⟨z523, rfl, l_z523, u_z523, R_z523⟩, e9⟩ := q9
        rw [e9]
        show yG _ _ _ _ _ _ _ _ _ _ (yI z523 :: [yR 2073]) _
        refine yG.ifz rfl (t := 30) rfl ⟨by omega, by omega⟩ (fun c524 => ?_) (fun c524 => ?_)
        · have c524 : (z523 : Int) ≠ 0 := c524
          exfalso; omega
        · have c524 : (z523 : Int) = 0 := c524
          refine yG.num (c := 2) rfl (fun _ _ => rfl) (by decide) ?_
          refine yG.goto rfl (t := 31) rfl ?_
          refine yG.putI A_hp.1 (w_M_thrown W H_2073) (W.2.1 _ _ H_2073 (by decide) (by decide)) rfl rfl (.inl rfl) ⟨by omega, by omega⟩ (by omega) (by omega) (fun h525 T_h525 b_h525 f_h525 y_h525 => ?_)
          have M_bWf_h525 := M_bWf_hp.fr (bAx.put (Wl := [(83076749736557242056487941267521536, 0)]) (bAx.rf A_hp.1) T_h525 b_h525 f_h525 H_2073 (by decide)) (by decide)
          have A_h525 := A_hp.put T_h525 b_h525 f_h525 H_2073 (by decide)
          have : ys h525 2073 0 = 2 := (y_h525 2073 0).trans (if_pos ⟨rfl, rfl⟩)
          refine yG.load xak rfl (fun _ _ => rfl) (v := yR 2073) rfl rfl ?_
          refine yG.getI A_h525.1 (w_M_thrown W H_2073) rfl rfl (fun z526 e_z526 i_z526 l_z526 u_z526 => ?_)
          refine yG.ifz rfl (t := 43) rfl ⟨by omega, by omega⟩ (fun c527 => ?_) (fun c527 => ?_)
          · have c527 : (z526 : Int) ≤ 0 := c527
            exfalso; omega
          · have c527 : (z526 : Int) > 0 := c527
            refine yG.num (c := 0) rfl (fun _ _ => rfl) (by decide) ?_
            refine yG.ret rfl (fun _ _ => rfl) ?_
            exact (yP.int ⟨by omega, by omega⟩ ⟨⟨⟨0, rfl, by omega, by omega, by omega⟩, A_h525⟩, M_bWf_h525⟩)
      · have c522 : (z521 : Int) = 0 := c522
        clear R_z521
        refine yG.num (c := 1) rfl (fun _ _ => rfl) (by decide) ?_
        refine yG.goto rfl (t := 31) rfl ?_
        refine yG.putI A_hp.1 (w_M_thrown W H_2073) (W.2.1 _ _ H_2073 (by decide) (by decide)) rfl rfl (.inl rfl) ⟨by omega, by omega⟩ (by omega) (by omega) (fun h528 T_h528 b_h528 f_h528 y_h528 => ?_)
        have M_bWf_h528 := M_bWf_hp.fr (bAx.put (Wl := [(83076749736557242056487941267521536, 0)]) (bAx.rf A_hp.1) T_h528 b_h528 f_h528 H_2073 (by decide)) (by decide)
        have A_h528 := A_hp.put T_h528 b_h528 f_h528 H_2073 (by decide)
        have : ys h528 2073 0 = 1 := (y_h528 2073 0).trans (if_pos ⟨rfl, rfl⟩)
        refine yG.load xak rfl (fun _ _ => rfl) (v := yR 2073) rfl rfl ?_
        refine yG.getI A_h528.1 (w_M_thrown W H_2073) rfl rfl (fun z529 e_z529 i_z529 l_z529 u_z529 => ?_)
        refine yG.ifz rfl (t := 43) rfl ⟨by omega, by omega⟩ (fun c530 => ?_) (fun c530 => ?_)
        · have c530 : (z529 : Int) ≤ 0 := c530
          exfalso; omega
        · have c530 : (z529 : Int) > 0 := c530
          refine yG.num (c := 0) rfl (fun _ _ => rfl) (by decide) ?_
          refine yG.ret rfl (fun _ _ => rfl) ?_
          exact (yP.int ⟨by omega, by omega⟩ ⟨⟨⟨0, rfl, by omega, by omega, by omega⟩, A_h528⟩, M_bWf_h528⟩)
    · subst c414
      refine yG.load xak rfl (fun _ _ => rfl) (v := yR 2073) rfl rfl ?_
      refine yG.load xak rfl (fun _ _ => rfl) (v := yR 2073) rfl rfl ?_
      refine yG.load xik rfl (fun _ _ => rfl) (v := yI (2)) rfl rfl ?_
      refine yG.load xik rfl (fun _ _ => rfl) (v := yI (p2)) rfl rfl ?_
      refine yG.invV (rest := [yR 2073]) A_hp.1 (bOb (d_M W) H_2073) rfl rfl rfl rfl (c_GModel_isObject W (d + 1) A_hp.1 H_2073 (2) (p2) (by omega) (by omega) (by omega) (by omega)) (fun rv hp9 q9 => ?_)
      obtain ⟨⟨z531, rfl, l_z531, u_z531, R_z531⟩, e9⟩ := q9
      rw [e9]
      show yG _ _ _ _ _ _ _ _ _ _ (yI z531 :: [yR 2073]) _
      refine yG.ifz rfl (t := 14) rfl ⟨by omega, by omega⟩ (fun c532 => ?_) (fun c532 => ?_)
      · have c532 : (z531 : Int) ≠ 0 := c532
        replace R_z531 := R_z531 (by omega)
        refine yG.load xak rfl (fun _ _ => rfl) (v := yR 2073) rfl rfl ?_
        refine yG.load xik rfl (fun _ _ => rfl) (v := yI (2)) rfl rfl ?_
        refine yG.load xik rfl (fun _ _ => rfl) (v := yI (p2)) rfl rfl ?_
        refine yG.load xik rfl (fun _ _ => rfl) (v := yI (6)) rfl rfl ?_
        refine yG.load xik rfl (fun _ _ => rfl) (v := yI (p4)) rfl rfl ?_
        refine yG.invV (rest := [yR 2073]) A_hp.1 (bOb (d_M W) H_2073) rfl rfl rfl rfl (c_GModel_mayBe_2_6 W (d + 2) A_hp.1 H_2073 (p2) (p4) (by omega) (by omega) (by omega) (by omega)) (fun rv hp9 q9 => ?_)
        obtain ⟨⟨z533, rfl, l_z533, u_z533, R_z533⟩, e9⟩ := q9
        rw [e9]
        show yG _ _ _ _ _ _ _ _ _ _ (yI z533 :: [yR 2073]) _
        refine yG.ifz rfl (t := 30) rfl ⟨by omega, by omega⟩ (fun c534 => ?_) (fun c534 => ?_)
        · have c534 : (z533 : Int) ≠ 0 := c534
          exfalso; omega
        · have c534 : (z533 : Int) = 0 := c534
          refine yG.num (c := 2) rfl (fun _ _ => rfl) (by decide) ?_
          refine yG.goto rfl (t := 31) rfl ?_
          refine yG.putI A_hp.1 (w_M_thrown W H_2073) (W.2.1 _ _ H_2073 (by decide) (by decide)) rfl rfl (.inl rfl) ⟨by omega, by omega⟩ (by omega) (by omega) (fun h535 T_h535 b_h535 f_h535 y_h535 => ?_)
          have M_bWf_h535 := M_bWf_hp.fr (bAx.put (Wl := [(83076749736557242056487941267521536, 0)]) (bAx.rf A_hp.1) T_h535 b_h535 f_h535 H_2073 (by decide)) (by decide)
          have A_h535 := A_hp.put T_h535 b_h535 f_h535 H_2073 (by decide)
          have : ys h535 2073 0 = 2 := (y_h535 2073 0).trans (if_pos ⟨rfl, rfl⟩)
          refine yG.load xak rfl (fun _ _ => rfl) (v := yR 2073) rfl rfl ?_
          refine yG.getI A_h535.1 (w_M_thrown W H_2073) rfl rfl (fun z536 e_z536 i_z536 l_z536 u_z536 => ?_)
          refine yG.ifz rfl (t := 43) rfl ⟨by omega, by omega⟩ (fun c537 => ?_) (fun c537 => ?_)
          · have c537 : (z536 : Int) ≤ 0 := c537
            exfalso; omega
          · have c537 : (z536 : Int) > 0 := c537
            refine yG.num (c := 0) rfl (fun _ _ => rfl) (by decide) ?_
            refine yG.ret rfl (fun _ _ => rfl) ?_
            exact (yP.int ⟨by omega, by omega⟩ ⟨⟨⟨0, rfl, by omega, by omega, by omega⟩, A_h535⟩, M_bWf_h535⟩)
      · have c532 : (z531 : Int) = 0 := c532
        clear R_z531
        refine yG.num (c := 1) rfl (fun _ _ => rfl) (by decide) ?_
        refine yG.goto rfl (t := 31) rfl ?_
        refine yG.putI A_hp.1 (w_M_thrown W H_2073) (W.2.1 _ _ H_2073 (by decide) (by decide)) rfl rfl (.inl rfl) ⟨by omega, by omega⟩ (by omega) (by omega) (fun h538 T_h538 b_h538 f_h538 y_h538 => ?_)
        have M_bWf_h538 := M_bWf_hp.fr (bAx.put (Wl := [(83076749736557242056487941267521536, 0)]) (bAx.rf A_hp.1) T_h538 b_h538 f_h538 H_2073 (by decide)) (by decide)
        have A_h538 := A_hp.put T_h538 b_h538 f_h538 H_2073 (by decide)
        have : ys h538 2073 0 = 1 := (y_h538 2073 0).trans (if_pos ⟨rfl, rfl⟩)
        refine yG.load xak rfl (fun _ _ => rfl) (v := yR 2073) rfl rfl ?_
        refine yG.getI A_h538.1 (w_M_thrown W H_2073) rfl rfl (fun z539 e_z539 i_z539 l_z539 u_z539 => ?_)
        refine yG.ifz rfl (t := 43) rfl ⟨by omega, by omega⟩ (fun c540 => ?_) (fun c540 => ?_)
        · have c540 : (z539 : Int) ≤ 0 := c540
          exfalso; omega
        · have c540 : (z539 : Int) > 0 := c540
          refine yG.num (c := 0) rfl (fun _ _ => rfl) (by decide) ?_
          refine yG.ret rfl (fun _ _ => rfl) ?_
          exact (yP.int ⟨by omega, by omega⟩ ⟨⟨⟨0, rfl, by omega, by omega, by omega⟩, A_h538⟩, M_bWf_h538⟩)
    · subst c414
      refine yG.load xak rfl (fun _ _ => rfl) (v := yR 2073) rfl rfl ?_
      refine yG.load xak rfl (fun _ _ => rfl) (v := yR 2073) rfl rfl ?_
      refine yG.load xik rfl (fun _ _ => rfl) (v := yI (2)) rfl rfl ?_
      refine yG.load xik rfl (fun _ _ => rfl) (v := yI (p2)) rfl rfl ?_
      refine yG.invV (rest := [yR 2073]) A_hp.1 (bOb (d_M W) H_2073) rfl rfl rfl rfl (c_GModel_isObject W (d + 1) A_hp.1 H_2073 (2) (p2) (by omega) (by omega) (by omega) (by omega)) (fun rv hp9 q9 => ?_)
      obtain ⟨⟨z541, rfl, l_z541, u_z541, R_z541⟩, e9⟩ := q9
      rw [e9]
      show yG _ _ _ _ _ _ _ _ _ _ (yI z541 :: [yR 2073]) _
      refine yG.ifz rfl (t := 14) rfl ⟨by omega, by omega⟩ (fun c542 => ?_) (fun c542 => ?_)
      · have c542 : (z541 : Int) ≠ 0 := c542
        replace R_z541 := R_z541 (by omega)
        refine yG.load xak rfl (fun _ _ => rfl) (v := yR 2073) rfl rfl ?_
        refine yG.load xik rfl (fun _ _ => rfl) (v := yI (2)) rfl rfl ?_
        refine yG.load xik rfl (fun _ _ => rfl) (v := yI (p2)) rfl rfl ?_
        refine yG.load xik rfl (fun _ _ => rfl) (v := yI (7)) rfl rfl ?_
        refine yG.load xik rfl (fun _ _ => rfl) (v := yI (p4)) rfl rfl ?_
        refine yG.invV (rest := [yR 2073]) A_hp.1 (bOb (d_M W) H_2073) rfl rfl rfl rfl (c_GModel_mayBe_2_7 W (d + 2) A_hp.1 H_2073 (p2) (p4) (by omega) (by omega) (by omega) (by omega)) (fun rv hp9 q9 => ?_)
        obtain ⟨⟨z543, rfl, l_z543, u_z543, R_z543⟩, e9⟩ := q9
        rw [e9]
        show yG _ _ _ _ _ _ _ _ _ _ (yI z543 :: [yR 2073]) _
        refine yG.ifz rfl (t := 30) rfl ⟨by omega, by omega⟩ (fun c544 => ?_) (fun c544 => ?_)
        · have c544 : (z543 : Int) ≠ 0 := c544
          exfalso; omega
        · have c544 : (z543 : Int) = 0 := c544
          refine yG.num (c := 2) rfl (fun _ _ => rfl) (by decide) ?_
          refine yG.goto rfl (t := 31) rfl ?_
          refine yG.putI A_hp.1 (w_M_thrown W H_2073) (W.2.1 _ _ H_2073 (by decide) (by decide)) rfl rfl (.inl rfl) ⟨by omega, by omega⟩ (by omega) (by omega) (fun h545 T_h545 b_h545 f_h545 y_h545 => ?_)
          have M_bWf_h545 := M_bWf_hp.fr (bAx.put (Wl := [(83076749736557242056487941267521536, 0)]) (bAx.rf A_hp.1) T_h545 b_h545 f_h545 H_2073 (by decide)) (by decide)
          have A_h545 := A_hp.put T_h545 b_h545 f_h545 H_2073 (by decide)
          have : ys h545 2073 0 = 2 := (y_h545 2073 0).trans (if_pos ⟨rfl, rfl⟩)
          refine yG.load xak rfl (fun _ _ => rfl) (v := yR 2073) rfl rfl ?_
          refine yG.getI A_h545.1 (w_M_thrown W H_2073) rfl rfl (fun z546 e_z546 i_z546 l_z546 u_z546 => ?_)
          refine yG.ifz rfl (t := 43) rfl ⟨by omega, by omega⟩ (fun c547 => ?_) (fun c547 => ?_)
          · have c547 : (z546 : Int) ≤ 0 := c547
            exfalso; omega
          · have c547 : (z546 : Int) > 0 := c547
            refine yG.num (c := 0) rfl (fun _ _ => rfl) (by decide) ?_
            refine yG.ret rfl (fun _ _ => rfl) ?_
            exact (yP.int ⟨by omega, by omega⟩ ⟨⟨⟨0, rfl, by omega, by omega, by omega⟩, A_h545⟩, M_bWf_h545⟩)
      · have c542 : (z541 : Int) = 0 := c542
        clear R_z541
        refine yG.num (c := 1) rfl (fun _ _ => rfl) (by decide) ?_
        refine yG.goto rfl (t := 31) rfl ?_
        refine yG.putI A_hp.1 (w_M_thrown W H_2073) (W.2.1 _ _ H_2073 (by decide) (by decide)) rfl rfl (.inl rfl) ⟨by omega, by omega⟩ (by omega) (by omega) (fun h548 T_h548 b_h548 f_h548 y_h548 => ?_)
        have M_bWf_h548 := M_bWf_hp.fr (bAx.put (Wl := [(83076749736557242056487941267521536, 0)]) (bAx.rf A_hp.1) T_h548 b_h548 f_h548 H_2073 (by decide)) (by decide)
        have A_h548 := A_hp.put T_h548 b_h548 f_h548 H_2073 (by decide)
        have : ys h548 2073 0 = 1 := (y_h548 2073 0).trans (if_pos ⟨rfl, rfl⟩)
        refine yG.load xak rfl (fun _ _ => rfl) (v := yR 2073) rfl rfl ?_
        refine yG.getI A_h548.1 (w_M_thrown W H_2073) rfl rfl (fun z549 e_z549 i_z549 l_z549 u_z549 => ?_)
        refine yG.ifz rfl (t := 43) rfl ⟨by omega, by omega⟩ (fun c550 => ?_) (fun c550 => ?_)
        · have c550 : (z549 : Int) ≤ 0 := c550
          exfalso; omega
        · have c550 : (z549 : Int) > 0 := c550
          refine yG.num (c := 0) rfl (fun _ _ => rfl) (by decide) ?_
          refine yG.ret rfl (fun _ _ => rfl) ?_
          exact (yP.int ⟨by omega, by omega⟩ ⟨⟨⟨0, rfl, by omega, by omega, by omega⟩, A_h548⟩, M_bWf_h548⟩)
    · subst c414
      refine yG.load xak rfl (fun _ _ => rfl) (v := yR 2073) rfl rfl ?_
      refine yG.load xak rfl (fun _ _ => rfl) (v := yR 2073) rfl rfl ?_
      refine yG.load xik rfl (fun _ _ => rfl) (v := yI (2)) rfl rfl ?_
      refine yG.load xik rfl (fun _ _ => rfl) (v := yI (p2)) rfl rfl ?_
      refine yG.invV (rest := [yR 2073]) A_hp.1 (bOb (d_M W) H_2073) rfl rfl rfl rfl (c_GModel_isObject W (d + 1) A_hp.1 H_2073 (2) (p2) (by omega) (by omega) (by omega) (by omega)) (fun rv hp9 q9 => ?_)
      obtain ⟨⟨z551, rfl, l_z551, u_z551, R_z551⟩, e9⟩ := q9
      rw [e9]
      show yG _ _ _ _ _ _ _ _ _ _ (yI z551 :: [yR 2073]) _
      refine yG.ifz rfl (t := 14) rfl ⟨by omega, by omega⟩ (fun c552 => ?_) (fun c552 => ?_)
      · have c552 : (z551 : Int) ≠ 0 := c552
        replace R_z551 := R_z551 (by omega)
        refine yG.load xak rfl (fun _ _ => rfl) (v := yR 2073) rfl rfl ?_
        refine yG.load xik rfl (fun _ _ => rfl) (v := yI (2)) rfl rfl ?_
        refine yG.load xik rfl (fun _ _ => rfl) (v := yI (p2)) rfl rfl ?_
        refine yG.load xik rfl (fun _ _ => rfl) (v := yI (8)) rfl rfl ?_
        refine yG.load xik rfl (fun _ _ => rfl) (v := yI (p4)) rfl rfl ?_
        refine yG.invV (rest := [yR 2073]) A_hp.1 (bOb (d_M W) H_2073) rfl rfl rfl rfl (c_GModel_mayBe_2_8 W (d + 2) A_hp.1 H_2073 (p2) (p4) (by omega) (by omega) (by omega) (by omega)) (fun rv hp9 q9 => ?_)
        obtain ⟨⟨z553, rfl, l_z553, u_z553, R_z553⟩, e9⟩ := q9
        rw [e9]
        show yG _ _ _ _ _ _ _ _ _ _ (yI z553 :: [yR 2073]) _
        refine yG.ifz rfl (t := 30) rfl ⟨by omega, by omega⟩ (fun c554 => ?_) (fun c554 => ?_)
        · have c554 : (z553 : Int) ≠ 0 := c554
          exfalso; omega
        · have c554 : (z553 : Int) = 0 := c554
          refine yG.num (c := 2) rfl (fun _ _ => rfl) (by decide) ?_
          refine yG.goto rfl (t := 31) rfl ?_
          refine yG.putI A_hp.1 (w_M_thrown W H_2073) (W.2.1 _ _ H_2073 (by decide) (by decide)) rfl rfl (.inl rfl) ⟨by omega, by omega⟩ (by omega) (by omega) (fun h555 T_h555 b_h555 f_h555 y_h555 => ?_)
          have M_bWf_h555 := M_bWf_hp.fr (bAx.put (Wl := [(83076749736557242056487941267521536, 0)]) (bAx.rf A_hp.1) T_h555 b_h555 f_h555 H_2073 (by decide)) (by decide)
          have A_h555 := A_hp.put T_h555 b_h555 f_h555 H_2073 (by decide)
          have : ys h555 2073 0 = 2 := (y_h555 2073 0).trans (if_pos ⟨rfl, rfl⟩)
          refine yG.load xak rfl (fun _ _ => rfl) (v := yR 2073) rfl rfl ?_
          refine yG.getI A_h555.1 (w_M_thrown W H_2073) rfl rfl (fun z556 e_z556 i_z556 l_z556 u_z556 => ?_)
          refine yG.ifz rfl (t := 43) rfl ⟨by omega, by omega⟩ (fun c557 => ?_) (fun c557 => ?_)
          · have c557 : (z556 : Int) ≤ 0 := c557
            exfalso; omega
          · have c557 : (z556 : Int) > 0 := c557
            refine yG.num (c := 0) rfl (fun _ _ => rfl) (by decide) ?_
            refine yG.ret rfl (fun _ _ => rfl) ?_
            exact (yP.int ⟨by omega, by omega⟩ ⟨⟨⟨0, rfl, by omega, by omega, by omega⟩, A_h555⟩, M_bWf_h555⟩)
      · have c552 : (z551 : Int) = 0 := c552
        clear R_z551
        refine yG.num (c := 1) rfl (fun _ _ => rfl) (by decide) ?_
        refine yG.goto rfl (t := 31) rfl ?_
        refine yG.putI A_hp.1 (w_M_thrown W H_2073) (W.2.1 _ _ H_2073 (by decide) (by decide)) rfl rfl (.inl rfl) ⟨by omega, by omega⟩ (by omega) (by omega) (fun h558 T_h558 b_h558 f_h558 y_h558 => ?_)
        have M_bWf_h558 := M_bWf_hp.fr (bAx.put (Wl := [(83076749736557242056487941267521536, 0)]) (bAx.rf A_hp.1) T_h558 b_h558 f_h558 H_2073 (by decide)) (by decide)
        have A_h558 := A_hp.put T_h558 b_h558 f_h558 H_2073 (by decide)
        have : ys h558 2073 0 = 1 := (y_h558 2073 0).trans (if_pos ⟨rfl, rfl⟩)
        refine yG.load xak rfl (fun _ _ => rfl) (v := yR 2073) rfl rfl ?_
        refine yG.getI A_h558.1 (w_M_thrown W H_2073) rfl rfl (fun z559 e_z559 i_z559 l_z559 u_z559 => ?_)
        refine yG.ifz rfl (t := 43) rfl ⟨by omega, by omega⟩ (fun c560 => ?_) (fun c560 => ?_)
        · have c560 : (z559 : Int) ≤ 0 := c560
          exfalso; omega
        · have c560 : (z559 : Int) > 0 := c560
          refine yG.num (c := 0) rfl (fun _ _ => rfl) (by decide) ?_
          refine yG.ret rfl (fun _ _ => rfl) ?_
          exact (yP.int ⟨by omega, by omega⟩ ⟨⟨⟨0, rfl, by omega, by omega, by omega⟩, A_h558⟩, M_bWf_h558⟩)
    · subst c414
      refine yG.load xak rfl (fun _ _ => rfl) (v := yR 2073) rfl rfl ?_
      refine yG.load xak rfl (fun _ _ => rfl) (v := yR 2073) rfl rfl ?_
      refine yG.load xik rfl (fun _ _ => rfl) (v := yI (2)) rfl rfl ?_
      refine yG.load xik rfl (fun _ _ => rfl) (v := yI (p2)) rfl rfl ?_
      refine yG.invV (rest := [yR 2073]) A_hp.1 (bOb (d_M W) H_2073) rfl rfl rfl rfl (c_GModel_isObject W (d + 1) A_hp.1 H_2073 (2) (p2) (by omega) (by omega) (by omega) (by omega)) (fun rv hp9 q9 => ?_)
      obtain ⟨⟨z561, rfl, l_z561, u_z561, R_z561⟩, e9⟩ := q9
      rw [e9]
      show yG _ _ _ _ _ _ _ _ _ _ (yI z561 :: [yR 2073]) _
      refine yG.ifz rfl (t := 14) rfl ⟨by omega, by omega⟩ (fun c562 => ?_) (fun c562 => ?_)
      · have c562 : (z561 : Int) ≠ 0 := c562
        replace R_z561 := R_z561 (by omega)
        refine yG.load xak rfl (fun _ _ => rfl) (v := yR 2073) rfl rfl ?_
        refine yG.load xik rfl (fun _ _ => rfl) (v := yI (2)) rfl rfl ?_
        refine yG.load xik rfl (fun _ _ => rfl) (v := yI (p2)) rfl rfl ?_
        refine yG.load xik rfl (fun _ _ => rfl) (v := yI (9)) rfl rfl ?_
        refine yG.load xik rfl (fun _ _ => rfl) (v := yI (p4)) rfl rfl ?_
        refine yG.invV (rest := [yR 2073]) A_hp.1 (bOb (d_M W) H_2073) rfl rfl rfl rfl (c_GModel_mayBe_2_9 W (d + 2) A_hp.1 H_2073 (p2) (p4) (by omega) (by omega) (by omega) (by omega)) (fun rv hp9 q9 => ?_)
        obtain ⟨⟨z563, rfl, l_z563, u_z563, R_z563⟩, e9⟩ := q9
        rw [e9]
        show yG _ _ _ _ _ _ _ _ _ _ (yI z563 :: [yR 2073]) _
        refine yG.ifz rfl (t := 30) rfl ⟨by omega, by omega⟩ (fun c564 => ?_) (fun c564 => ?_)
        · have c564 : (z563 : Int) ≠ 0 := c564
          exfalso; omega
        · have c564 : (z563 : Int) = 0 := c564
          refine yG.num (c := 2) rfl (fun _ _ => rfl) (by decide) ?_
          refine yG.goto rfl (t := 31) rfl ?_
          refine yG.putI A_hp.1 (w_M_thrown W H_2073) (W.2.1 _ _ H_2073 (by decide) (by decide)) rfl rfl (.inl rfl) ⟨by omega, by omega⟩ (by omega) (by omega) (fun h565 T_h565 b_h565 f_h565 y_h565 => ?_)
          have M_bWf_h565 := M_bWf_hp.fr (bAx.put (Wl := [(83076749736557242056487941267521536, 0)]) (bAx.rf A_hp.1) T_h565 b_h565 f_h565 H_2073 (by decide)) (by decide)
          have A_h565 := A_hp.put T_h565 b_h565 f_h565 H_2073 (by decide)
          have : ys h565 2073 0 = 2 := (y_h565 2073 0).trans (if_pos ⟨rfl, rfl⟩)
          refine yG.load xak rfl (fun _ _ => rfl) (v := yR 2073) rfl rfl ?_
          refine yG.getI A_h565.1 (w_M_thrown W H_2073) rfl rfl (fun z566 e_z566 i_z566 l_z566 u_z566 => ?_)
          refine yG.ifz rfl (t := 43) rfl ⟨by omega, by omega⟩ (fun c567 => ?_) (fun c567 => ?_)
          · have c567 : (z566 : Int) ≤ 0 := c567
            exfalso; omega
          · have c567 : (z566 : Int) > 0 := c567
            refine yG.num (c := 0) rfl (fun _ _ => rfl) (by decide) ?_
            refine yG.ret rfl (fun _ _ => rfl) ?_
            exact (yP.int ⟨by omega, by omega⟩ ⟨⟨⟨0, rfl, by omega, by omega, by omega⟩, A_h565⟩, M_bWf_h565⟩)
      · have c562 : (z561 : Int) = 0 := c562
        clear R_z561
        refine yG.num (c := 1) rfl (fun _ _ => rfl) (by decide) ?_
        refine yG.goto rfl (t := 31) rfl ?_
        refine yG.putI A_hp.1 (w_M_thrown W H_2073) (W.2.1 _ _ H_2073 (by decide) (by decide)) rfl rfl (.inl rfl) ⟨by omega, by omega⟩ (by omega) (by omega) (fun h568 T_h568 b_h568 f_h568 y_h568 => ?_)
        have M_bWf_h568 := M_bWf_hp.fr (bAx.put (Wl := [(83076749736557242056487941267521536, 0)]) (bAx.rf A_hp.1) T_h568 b_h568 f_h568 H_2073 (by decide)) (by decide)
        have A_h568 := A_hp.put T_h568 b_h568 f_h568 H_2073 (by decide)
        have : ys h568 2073 0 = 1 := (y_h568 2073 0).trans (if_pos ⟨rfl, rfl⟩)
        refine yG.load xak rfl (fun _ _ => rfl) (v := yR 2073) rfl rfl ?_
        refine yG.getI A_h568.1 (w_M_thrown W H_2073) rfl rfl (fun z569 e_z569 i_z569 l_z569 u_z569 => ?_)
        refine yG.ifz rfl (t := 43) rfl ⟨by omega, by omega⟩ (fun c570 => ?_) (fun c570 => ?_)
        · have c570 : (z569 : Int) ≤ 0 := c570
          exfalso; omega
        · have c570 : (z569 : Int) > 0 := c570
          refine yG.num (c := 0) rfl (fun _ _ => rfl) (by decide) ?_
          refine yG.ret rfl (fun _ _ => rfl) ?_
          exact (yP.int ⟨by omega, by omega⟩ ⟨⟨⟨0, rfl, by omega, by omega, by omega⟩, A_h568⟩, M_bWf_h568⟩)
    · subst c414
      refine yG.load xak rfl (fun _ _ => rfl) (v := yR 2073) rfl rfl ?_
      refine yG.load xak rfl (fun _ _ => rfl) (v := yR 2073) rfl rfl ?_
      refine yG.load xik rfl (fun _ _ => rfl) (v := yI (2)) rfl rfl ?_
      refine yG.load xik rfl (fun _ _ => rfl) (v := yI (p2)) rfl rfl ?_
      refine yG.invV (rest := [yR 2073]) A_hp.1 (bOb (d_M W) H_2073) rfl rfl rfl rfl (c_GModel_isObject W (d + 1) A_hp.1 H_2073 (2) (p2) (by omega) (by omega) (by omega) (by omega)) (fun rv hp9 q9 => ?_)
      obtain ⟨⟨z571, rfl, l_z571, u_z571, R_z571⟩, e9⟩ := q9
      rw [e9]
      show yG _ _ _ _ _ _ _ _ _ _ (yI z571 :: [yR 2073]) _
      refine yG.ifz rfl (t := 14) rfl ⟨by omega, by omega⟩ (fun c572 => ?_) (fun c572 => ?_)
      · have c572 : (z571 : Int) ≠ 0 := c572
        replace R_z571 := R_z571 (by omega)
        refine yG.load xak rfl (fun _ _ => rfl) (v := yR 2073) rfl rfl ?_
        refine yG.load xik rfl (fun _ _ => rfl) (v := yI (2)) rfl rfl ?_
        refine yG.load xik rfl (fun _ _ => rfl) (v := yI (p2)) rfl rfl ?_
        refine yG.load xik rfl (fun _ _ => rfl) (v := yI (10)) rfl rfl ?_
        refine yG.load xik rfl (fun _ _ => rfl) (v := yI (p4)) rfl rfl ?_
        refine yG.invV (rest := [yR 2073]) A_hp.1 (bOb (d_M W) H_2073) rfl rfl rfl rfl (c_GModel_mayBe_2_10 W (d + 2) A_hp.1 H_2073 (p2) (p4) (by omega) (by omega) (by omega) (by omega)) (fun rv hp9 q9 => ?_)
        obtain ⟨⟨z573, rfl, l_z573, u_z573, R_z573⟩, e9⟩ := q9
        rw [e9]
        show yG _ _ _ _ _ _ _ _ _ _ (yI z573 :: [yR 2073]) _
        refine yG.ifz rfl (t := 30) rfl ⟨by omega, by omega⟩ (fun c574 => ?_) (fun c574 => ?_)
        · have c574 : (z573 : Int) ≠ 0 := c574
          exfalso; omega
        · have c574 : (z573 : Int) = 0 := c574
          refine yG.num (c := 2) rfl (fun _ _ => rfl) (by decide) ?_
          refine yG.goto rfl (t := 31) rfl ?_
          refine yG.putI A_hp.1 (w_M_thrown W H_2073) (W.2.1 _ _ H_2073 (by decide) (by decide)) rfl rfl (.inl rfl) ⟨by omega, by omega⟩ (by omega) (by omega) (fun h575 T_h575 b_h575 f_h575 y_h575 => ?_)
          have M_bWf_h575 := M_bWf_hp.fr (bAx.put (Wl := [(83076749736557242056487941267521536, 0)]) (bAx.rf A_hp.1) T_h575 b_h575 f_h575 H_2073 (by decide)) (by decide)
          have A_h575 := A_hp.put T_h575 b_h575 f_h575 H_2073 (by decide)
          have : ys h575 2073 0 = 2 := (y_h575 2073 0).trans (if_pos ⟨rfl, rfl⟩)
          refine yG.load xak rfl (fun _ _ => rfl) (v := yR 2073) rfl rfl ?_
          refine yG.getI A_h575.1 (w_M_thrown W H_2073) rfl rfl (fun z576 e_z576 i_z576 l_z576 u_z576 => ?_)
          refine yG.ifz rfl (t := 43) rfl ⟨by omega, by omega⟩ (fun c577 => ?_) (fun c577 => ?_)
          · have c577 : (z576 : Int) ≤ 0 := c577
            exfalso; omega
          · have c577 : (z576 : Int) > 0 := c577
            refine yG.num (c := 0) rfl (fun _ _ => rfl) (by decide) ?_
            refine yG.ret rfl (fun _ _ => rfl) ?_
            exact (yP.int ⟨by omega, by omega⟩ ⟨⟨⟨0, rfl, by omega, by omega, by omega⟩, A_h575⟩, M_bWf_h575⟩)
      · have c572 : (z571 : Int) = 0 := c572
        clear R_z571
        refine yG.num (c := 1) rfl (fun _ _ => rfl) (by decide) ?_
        refine yG.goto rfl (t := 31) rfl ?_
        refine yG.putI A_hp.1 (w_M_thrown W H_2073) (W.2.1 _ _ H_2073 (by decide) (by decide)) rfl rfl (.inl rfl) ⟨by omega, by omega⟩ (by omega) (by omega) (fun h578 T_h578 b_h578 f_h578 y_h578 => ?_)
        have M_bWf_h578 := M_bWf_hp.fr (bAx.put (Wl := [(83076749736557242056487941267521536, 0)]) (bAx.rf A_hp.1) T_h578 b_h578 f_h578 H_2073 (by decide)) (by decide)
        have A_h578 := A_hp.put T_h578 b_h578 f_h578 H_2073 (by decide)
        have : ys h578 2073 0 = 1 := (y_h578 2073 0).trans (if_pos ⟨rfl, rfl⟩)
        refine yG.load xak rfl (fun _ _ => rfl) (v := yR 2073) rfl rfl ?_
        refine yG.getI A_h578.1 (w_M_thrown W H_2073) rfl rfl (fun z579 e_z579 i_z579 l_z579 u_z579 => ?_)
        refine yG.ifz rfl (t := 43) rfl ⟨by omega, by omega⟩ (fun c580 => ?_) (fun c580 => ?_)
        · have c580 : (z579 : Int) ≤ 0 := c580
          exfalso; omega
        · have c580 : (z579 : Int) > 0 := c580
          refine yG.num (c := 0) rfl (fun _ _ => rfl) (by decide) ?_
          refine yG.ret rfl (fun _ _ => rfl) ?_
          exact (yP.int ⟨by omega, by omega⟩ ⟨⟨⟨0, rfl, by omega, by omega, by omega⟩, A_h578⟩, M_bWf_h578⟩)
  · subst c1
    rcases (show p3 ≤ (-1) ∨ p3 ≥ 11 ∨ p3 = 0 ∨ p3 = 1 ∨ p3 = 2 ∨ p3 = 3 ∨ p3 = 4 ∨ p3 = 5 ∨ p3 = 6 ∨ p3 = 7 ∨ p3 = 8 ∨ p3 = 9 ∨ p3 = 10 by omega) with c581 | c581 | c581 | c581 | c581 | c581 | c581 | c581 | c581 | c581 | c581 | c581 | c581
    · skip
      refine yG.load xak rfl (fun _ _ => rfl) (v := yR 2073) rfl rfl ?_
      refine yG.load xak rfl (fun _ _ => rfl) (v := yR 2073) rfl rfl ?_
      refine yG.load xik rfl (fun _ _ => rfl) (v := yI (3)) rfl rfl ?_
      refine yG.load xik rfl (fun _ _ => rfl) (v := yI (p2)) rfl rfl ?_
      refine yG.invV (rest := [yR 2073]) A_hp.1 (bOb (d_M W) H_2073) rfl rfl rfl rfl (c_GModel_isObject W (d + 1) A_hp.1 H_2073 (3) (p2) (by omega) (by omega) (by omega) (by omega)) (fun rv hp9 q9 => ?_)
      obtain ⟨⟨z582, rfl, l_z582, u_z582, R_z582⟩, e9⟩ := q9
      rw [e9]
      show yG _ _ _ _ _ _ _ _ _ _ (yI z582 :: [yR 2073]) _
      refine yG.ifz rfl (t := 14) rfl ⟨by omega, by omega⟩ (fun c583 => ?_) (fun c583 => ?_)
      · have c583 : (z582 : Int) ≠ 0 := c583
        replace R_z582 := R_z582 (by omega)
        refine yG.load xak rfl (fun _ _ => rfl) (v := yR 2073) rfl rfl ?_
        refine yG.load xik rfl (fun _ _ => rfl) (v := yI (3)) rfl rfl ?_
        refine yG.load xik rfl (fun _ _ => rfl) (v := yI (p2)) rfl rfl ?_
        refine yG.load xik rfl (fun _ _ => rfl) (v := yI (p3)) rfl rfl ?_
        refine yG.load xik rfl (fun _ _ => rfl) (v := yI (p4)) rfl rfl ?_
        refine yG.invV (rest := [yR 2073]) A_hp.1 (bOb (d_M W) H_2073) rfl rfl rfl rfl (c_GModel_mayBe_3_l W (d + 2) A_hp.1 H_2073 (p2) (p3) (p4) (by omega) (by omega) (by omega) (by omega) (by omega) (by omega)) (fun rv hp9 q9 => ?_)
        obtain ⟨⟨z584, rfl, l_z584, u_z584, R_z584⟩, e9⟩ := q9
        rw [e9]
        show yG _ _ _ _ _ _ _ _ _ _ (yI z584 :: [yR 2073]) _
        refine yG.ifz rfl (t := 30) rfl ⟨by omega, by omega⟩ (fun c585 => ?_) (fun c585 => ?_)
        · have c585 : (z584 : Int) ≠ 0 := c585
          exfalso; omega
        · have c585 : (z584 : Int) = 0 := c585
          refine yG.num (c := 2) rfl (fun _ _ => rfl) (by decide) ?_
          refine yG.goto rfl (t := 31) rfl ?_
          refine yG.putI A_hp.1 (w_M_thrown W H_2073) (W.2.1 _ _ H_2073 (by decide) (by decide)) rfl rfl (.inl rfl) ⟨by omega, by omega⟩ (by omega) (by omega) (fun h586 T_h586 b_h586 f_h586 y_h586 => ?_)
          have M_bWf_h586 := M_bWf_hp.fr (bAx.put (Wl := [(83076749736557242056487941267521536, 0)]) (bAx.rf A_hp.1) T_h586 b_h586 f_h586 H_2073 (by decide)) (by decide)
          have A_h586 := A_hp.put T_h586 b_h586 f_h586 H_2073 (by decide)
          have : ys h586 2073 0 = 2 := (y_h586 2073 0).trans (if_pos ⟨rfl, rfl⟩)
          refine yG.load xak rfl (fun _ _ => rfl) (v := yR 2073) rfl rfl ?_
          refine yG.getI A_h586.1 (w_M_thrown W H_2073) rfl rfl (fun z587 e_z587 i_z587 l_z587 u_z587 => ?_)
          refine yG.ifz rfl (t := 43) rfl ⟨by omega, by omega⟩ (fun c588 => ?_) (fun c588 => ?_)
          · have c588 : (z587 : Int) ≤ 0 := c588
            exfalso; omega
          · have c588 : (z587 : Int) > 0 := c588
            refine yG.num (c := 0) rfl (fun _ _ => rfl) (by decide) ?_
            refine yG.ret rfl (fun _ _ => rfl) ?_
            exact (yP.int ⟨by omega, by omega⟩ ⟨⟨⟨0, rfl, by omega, by omega, by omega⟩, A_h586⟩, M_bWf_h586⟩)
      · have c583 : (z582 : Int) = 0 := c583
        clear R_z582
        refine yG.num (c := 1) rfl (fun _ _ => rfl) (by decide) ?_
        refine yG.goto rfl (t := 31) rfl ?_
        refine yG.putI A_hp.1 (w_M_thrown W H_2073) (W.2.1 _ _ H_2073 (by decide) (by decide)) rfl rfl (.inl rfl) ⟨by omega, by omega⟩ (by omega) (by omega) (fun h589 T_h589 b_h589 f_h589 y_h589 => ?_)
        have M_bWf_h589 := M_bWf_hp.fr (bAx.put (Wl := [(83076749736557242056487941267521536, 0)]) (bAx.rf A_hp.1) T_h589 b_h589 f_h589 H_2073 (by decide)) (by decide)
        have A_h589 := A_hp.put T_h589 b_h589 f_h589 H_2073 (by decide)
        have : ys h589 2073 0 = 1 := (y_h589 2073 0).trans (if_pos ⟨rfl, rfl⟩)
        refine yG.load xak rfl (fun _ _ => rfl) (v := yR 2073) rfl rfl ?_
        refine yG.getI A_h589.1 (w_M_thrown W H_2073) rfl rfl (fun z590 e_z590 i_z590 l_z590 u_z590 => ?_)
        refine yG.ifz rfl (t := 43) rfl ⟨by omega, by omega⟩ (fun c591 => ?_) (fun c591 => ?_)
        · have c591 : (z590 : Int) ≤ 0 := c591
          exfalso; omega
        · have c591 : (z590 : Int) > 0 := c591
          refine yG.num (c := 0) rfl (fun _ _ => rfl) (by decide) ?_
          refine yG.ret rfl (fun _ _ => rfl) ?_
          exact (yP.int ⟨by omega, by omega⟩ ⟨⟨⟨0, rfl, by omega, by omega, by omega⟩, A_h589⟩, M_bWf_h589⟩)
    · skip
      refine yG.load xak rfl (fun _ _ => rfl) (v := yR 2073) rfl rfl ?_
      refine yG.load xak rfl (fun _ _ => rfl) (v := yR 2073) rfl rfl ?_
      refine yG.load xik rfl (fun _ _ => rfl) (v := yI (3)) rfl rfl ?_
      refine yG.load xik rfl (fun _ _ => rfl) (v := yI (p2)) rfl rfl ?_
      refine yG.invV (rest := [yR 2073]) A_hp.1 (bOb (d_M W) H_2073) rfl rfl rfl rfl (c_GModel_isObject W (d + 1) A_hp.1 H_2073 (3) (p2) (by omega) (by omega) (by omega) (by omega)) (fun rv hp9 q9 => ?_)
      obtain ⟨⟨z592, rfl, l_z592, u_z592, R_z592⟩, e9⟩ := q9
      rw [e9]
      show yG _ _ _ _ _ _ _ _ _ _ (yI z592 :: [yR 2073]) _
      refine yG.ifz rfl (t := 14) rfl ⟨by omega, by omega⟩ (fun c593 => ?_) (fun c593 => ?_)
      · have c593 : (z592 : Int) ≠ 0 := c593
        replace R_z592 := R_z592 (by omega)
        refine yG.load xak rfl (fun _ _ => rfl) (v := yR 2073) rfl rfl ?_
        refine yG.load xik rfl (fun _ _ => rfl) (v := yI (3)) rfl rfl ?_
        refine yG.load xik rfl (fun _ _ => rfl) (v := yI (p2)) rfl rfl ?_
        refine yG.load xik rfl (fun _ _ => rfl) (v := yI (p3)) rfl rfl ?_
        refine yG.load xik rfl (fun _ _ => rfl) (v := yI (p4)) rfl rfl ?_
        refine yG.invV (rest := [yR 2073]) A_hp.1 (bOb (d_M W) H_2073) rfl rfl rfl rfl (c_GModel_mayBe_3_h W (d + 2) A_hp.1 H_2073 (p2) (p3) (p4) (by omega) (by omega) (by omega) (by omega) (by omega) (by omega)) (fun rv hp9 q9 => ?_)
        obtain ⟨⟨z594, rfl, l_z594, u_z594, R_z594⟩, e9⟩ := q9
        rw [e9]
        show yG _ _ _ _ _ _ _ _ _ _ (yI z594 :: [yR 2073]) _
        refine yG.ifz rfl (t := 30) rfl ⟨by omega, by omega⟩ (fun c595 => ?_) (fun c595 => ?_)
        · have c595 : (z594 : Int) ≠ 0 := c595
          exfalso; omega
        · have c595 : (z594 : Int) = 0 := c595
          refine yG.num (c := 2) rfl (fun _ _ => rfl) (by decide) ?_
          refine yG.goto rfl (t := 31) rfl ?_
          refine yG.putI A_hp.1 (w_M_thrown W H_2073) (W.2.1 _ _ H_2073 (by decide) (by decide)) rfl rfl (.inl rfl) ⟨by omega, by omega⟩ (by omega) (by omega) (fun h596 T_h596 b_h596 f_h596 y_h596 => ?_)
          have M_bWf_h596 := M_bWf_hp.fr (bAx.put (Wl := [(83076749736557242056487941267521536, 0)]) (bAx.rf A_hp.1) T_h596 b_h596 f_h596 H_2073 (by decide)) (by decide)
          have A_h596 := A_hp.put T_h596 b_h596 f_h596 H_2073 (by decide)
          have : ys h596 2073 0 = 2 := (y_h596 2073 0).trans (if_pos ⟨rfl, rfl⟩)
          refine yG.load xak rfl (fun _ _ => rfl) (v := yR 2073) rfl rfl ?_
          refine yG.getI A_h596.1 (w_M_thrown W H_2073) rfl rfl (fun z597 e_z597 i_z597 l_z597 u_z597 => ?_)
          refine yG.ifz rfl (t := 43) rfl ⟨by omega, by omega⟩ (fun c598 => ?_) (fun c598 => ?_)
          · have c598 : (z597 : Int) ≤ 0 := c598
            exfalso; omega
          · have c598 : (z597 : Int) > 0 := c598
            refine yG.num (c := 0) rfl (fun _ _ => rfl) (by decide) ?_
            refine yG.ret rfl (fun _ _ => rfl) ?_
            exact (yP.int ⟨by omega, by omega⟩ ⟨⟨⟨0, rfl, by omega, by omega, by omega⟩, A_h596⟩, M_bWf_h596⟩)
      · have c593 : (z592 : Int) = 0 := c593
        clear R_z592
        refine yG.num (c := 1) rfl (fun _ _ => rfl) (by decide) ?_
        refine yG.goto rfl (t := 31) rfl ?_
        refine yG.putI A_hp.1 (w_M_thrown W H_2073) (W.2.1 _ _ H_2073 (by decide) (by decide)) rfl rfl (.inl rfl) ⟨by omega, by omega⟩ (by omega) (by omega) (fun h599 T_h599 b_h599 f_h599 y_h599 => ?_)
        have M_bWf_h599 := M_bWf_hp.fr (bAx.put (Wl := [(83076749736557242056487941267521536, 0)]) (bAx.rf A_hp.1) T_h599 b_h599 f_h599 H_2073 (by decide)) (by decide)
        have A_h599 := A_hp.put T_h599 b_h599 f_h599 H_2073 (by decide)
        have : ys h599 2073 0 = 1 := (y_h599 2073 0).trans (if_pos ⟨rfl, rfl⟩)
        refine yG.load xak rfl (fun _ _ => rfl) (v := yR 2073) rfl rfl ?_
        refine yG.getI A_h599.1 (w_M_thrown W H_2073) rfl rfl (fun z600 e_z600 i_z600 l_z600 u_z600 => ?_)
        refine yG.ifz rfl (t := 43) rfl ⟨by omega, by omega⟩ (fun c601 => ?_) (fun c601 => ?_)
        · have c601 : (z600 : Int) ≤ 0 := c601
          exfalso; omega
        · have c601 : (z600 : Int) > 0 := c601
          refine yG.num (c := 0) rfl (fun _ _ => rfl) (by decide) ?_
          refine yG.ret rfl (fun _ _ => rfl) ?_
          exact (yP.int ⟨by omega, by omega⟩ ⟨⟨⟨0, rfl, by omega, by omega, by omega⟩, A_h599⟩, M_bWf_h599⟩)
    · subst c581
      refine yG.load xak rfl (fun _ _ => rfl) (v := yR 2073) rfl rfl ?_
      refine yG.load xak rfl (fun _ _ => rfl) (v := yR 2073) rfl rfl ?_
      refine yG.load xik rfl (fun _ _ => rfl) (v := yI (3)) rfl rfl ?_
      refine yG.load xik rfl (fun _ _ => rfl) (v := yI (p2)) rfl rfl ?_
      refine yG.invV (rest := [yR 2073]) A_hp.1 (bOb (d_M W) H_2073) rfl rfl rfl rfl (c_GModel_isObject W (d + 1) A_hp.1 H_2073 (3) (p2) (by omega) (by omega) (by omega) (by omega)) (fun rv hp9 q9 => ?_)
      obtain ⟨⟨z602, rfl, l_z602, u_z602, R_z602⟩, e9⟩ := q9
      rw [e9]
      show yG _ _ _ _ _ _ _ _ _ _ (yI z602 :: [yR 2073]) _
      refine yG.ifz rfl (t := 14) rfl ⟨by omega, by omega⟩ (fun c603 => ?_) (fun c603 => ?_)
      · have c603 : (z602 : Int) ≠ 0 := c603
        replace R_z602 := R_z602 (by omega)
        refine yG.load xak rfl (fun _ _ => rfl) (v := yR 2073) rfl rfl ?_
        refine yG.load xik rfl (fun _ _ => rfl) (v := yI (3)) rfl rfl ?_
        refine yG.load xik rfl (fun _ _ => rfl) (v := yI (p2)) rfl rfl ?_
        refine yG.load xik rfl (fun _ _ => rfl) (v := yI (0)) rfl rfl ?_
        refine yG.load xik rfl (fun _ _ => rfl) (v := yI (p4)) rfl rfl ?_
        refine yG.invV (rest := [yR 2073]) A_hp.1 (bOb (d_M W) H_2073) rfl rfl rfl rfl (c_GModel_mayBe_3_0 W (d + 1) A_hp.1 H_2073 (p2) (p4) (by omega) (by omega) (by omega) (by omega)) (fun rv hp9 q9 => ?_)
        obtain ⟨⟨z604, rfl, l_z604, u_z604, R_z604⟩, e9⟩ := q9
        rw [e9]
        show yG _ _ _ _ _ _ _ _ _ _ (yI z604 :: [yR 2073]) _
        refine yG.ifz rfl (t := 30) rfl ⟨by omega, by omega⟩ (fun c605 => ?_) (fun c605 => ?_)
        · have c605 : (z604 : Int) ≠ 0 := c605
          replace R_z604 := R_z604 (by omega)
          refine yG.num (c := 0) rfl (fun _ _ => rfl) (by decide) ?_
          refine yG.putI A_hp.1 (w_M_thrown W H_2073) (W.2.1 _ _ H_2073 (by decide) (by decide)) rfl rfl (.inl rfl) ⟨by omega, by omega⟩ (by omega) (by omega) (fun h606 T_h606 b_h606 f_h606 y_h606 => ?_)
          have M_bWf_h606 := M_bWf_hp.fr (bAx.put (Wl := [(83076749736557242056487941267521536, 0)]) (bAx.rf A_hp.1) T_h606 b_h606 f_h606 H_2073 (by decide)) (by decide)
          have A_h606 := A_hp.put T_h606 b_h606 f_h606 H_2073 (by decide)
          have : ys h606 2073 0 = 0 := (y_h606 2073 0).trans (if_pos ⟨rfl, rfl⟩)
          refine yG.load xak rfl (fun _ _ => rfl) (v := yR 2073) rfl rfl ?_
          refine yG.getI A_h606.1 (w_M_thrown W H_2073) rfl rfl (fun z607 e_z607 i_z607 l_z607 u_z607 => ?_)
          refine yG.ifz rfl (t := 43) rfl ⟨by omega, by omega⟩ (fun c608 => ?_) (fun c608 => ?_)
          · have c608 : (z607 : Int) ≤ 0 := c608
            refine yG.load xak rfl (fun _ _ => rfl) (v := yR 2073) rfl rfl ?_
            refine yG.load xik rfl (fun _ _ => rfl) (v := yI (3)) rfl rfl ?_
            refine yG.load xik rfl (fun _ _ => rfl) (v := yI (p2)) rfl rfl ?_
            refine yG.load xik rfl (fun _ _ => rfl) (v := yI (0)) rfl rfl ?_
            refine yG.invV (rest := []) A_h606.1 (bOb (d_M W) H_2073) rfl rfl rfl rfl (c_GModel_of_v3_0 W (d + 1) A_h606.1 H_2073 (p2) (by omega) (by omega)) (fun rv hp9 q9 => ?_)
            obtain ⟨⟨z609, rfl, l_z609, u_z609, R_z609⟩, e9⟩ := q9
            rw [e9]
            show yG _ _ _ _ _ _ _ _ _ _ (yI z609 :: []) _
            refine yG.store1 xik (L' := [(5, yI (z609)), (0, yR 2073), (1, yI (3)), (2, yI (p2)), (3, yI (0)), (4, yI (p4))]) rfl (fun _ _ => rfl) rfl rfl ?_
            refine yG.load xak rfl (fun _ _ => rfl) (v := yR 2073) rfl rfl ?_
            refine yG.getO A_h606.1 (w_M_field W H_2073) rfl rfl (fun r610 H_r610 O_r610 q_r610 => ?_)
            obtain rfl := u_M_field W H_r610
            refine yG.load xik rfl (fun _ _ => rfl) (v := yI (3)) rfl rfl ?_
            refine yG.load xik rfl (fun _ _ => rfl) (v := yI (p2)) rfl rfl ?_
            refine yG.load xik rfl (fun _ _ => rfl) (v := yI (0)) rfl rfl ?_
            refine yG.invS (rest := [yR 2089]) rfl rfl rfl rfl (c_GModel_f W (d + 2) A_h606.1 (3) (p2) (0) (by omega) (by omega) (by omega) (by omega) (by omega) (by omega)) (fun rv hp9 q9 => ?_)
            obtain ⟨⟨z611, rfl, l_z611, u_z611, R_z611⟩, e9⟩ := q9
            rw [e9]
            show yG _ _ _ _ _ _ _ _ _ _ (yI z611 :: [yR 2089]) _
            refine yG.load xik rfl (fun _ _ => rfl) (v := yI (p4)) rfl rfl ?_
            refine yG.iastF A_h606.1 (v_M_field W H_r610) (show yfT ((z611 : Int).toNat) = (0, (0, 1)) from ((yfT_ix (s := 3) (k := 0) (by omega) (by omega) (by omega) (by decide)).trans rfl)) (W.2.1 _ _ H_r610 (by decide) (by decide)) rfl (by omega) (by omega) ⟨by omega, by omega⟩ (by omega) (by omega) (fun h612 T_h612 b_h612 f_h612 y_h612 => ?_)
            have M_bWf_h612 : bWf G h612 := M_bWf_h606.putx y_h612 (fun j hj h9 hb => by unfold mBp at hb; omega) (fun j hj h9 hb => by unfold mXp at hb; omega)
            have A_h612 := A_h606.put T_h612 b_h612 f_h612 H_r610 (bAll_ok (by decide) _)
            have : ys h612 2073 0 = ys h606 2073 0 := (y_h612 2073 0).trans (if_neg (fun e => (bRo.ne H_2073 H_r610 (by decide)) e.1))
            refine yG.load xak rfl (fun _ _ => rfl) (v := yR 2073) rfl rfl ?_
            refine yG.invV (rest := []) A_h612.1 (bOb (d_M W) H_2073) rfl rfl rfl rfl (c_GModel_changed W (d + 2) A_h612.1 H_2073) (fun rv h613 q9 => ?_)
            obtain ⟨⟨rfl, R_z614⟩, B_h613⟩ := q9
            have A_h613 := A_h612.tr B_h613 (by decide)
            have M_bWf_h613 := M_bWf_h612.fr B_h613 (by decide)
            have : ys h613 2073 0 = ys h612 2073 0 := B_h613.ys H_2073 (by decide)
            show yG _ _ _ _ _ _ _ _ _ _ [] _
            refine yG.load xik rfl (fun _ _ => rfl) (v := yI (z609)) rfl rfl ?_
            refine yG.ret rfl (fun _ _ => rfl) ?_
            exact (yP.int ⟨by omega, by omega⟩ ⟨⟨⟨z609, rfl, by omega, by omega, by omega⟩, A_h613⟩, M_bWf_h613⟩)
          · have c608 : (z607 : Int) > 0 := c608
            exfalso; omega
        · have c605 : (z604 : Int) = 0 := c605
          clear R_z604
          refine yG.num (c := 2) rfl (fun _ _ => rfl) (by decide) ?_
          refine yG.goto rfl (t := 31) rfl ?_
          refine yG.putI A_hp.1 (w_M_thrown W H_2073) (W.2.1 _ _ H_2073 (by decide) (by decide)) rfl rfl (.inl rfl) ⟨by omega, by omega⟩ (by omega) (by omega) (fun h615 T_h615 b_h615 f_h615 y_h615 => ?_)
          have M_bWf_h615 := M_bWf_hp.fr (bAx.put (Wl := [(83076749736557242056487941267521536, 0)]) (bAx.rf A_hp.1) T_h615 b_h615 f_h615 H_2073 (by decide)) (by decide)
          have A_h615 := A_hp.put T_h615 b_h615 f_h615 H_2073 (by decide)
          have : ys h615 2073 0 = 2 := (y_h615 2073 0).trans (if_pos ⟨rfl, rfl⟩)
          refine yG.load xak rfl (fun _ _ => rfl) (v := yR 2073) rfl rfl ?_
          refine yG.getI A_h615.1 (w_M_thrown W H_2073) rfl rfl (fun z616 e_z616 i_z616 l_z616 u_z616 => ?_)
          refine yG.ifz rfl (t := 43) rfl ⟨by omega, by omega⟩ (fun c617 => ?_) (fun c617 => ?_)
          · have c617 : (z616 : Int) ≤ 0 := c617
            exfalso; omega
          · have c617 : (z616 : Int) > 0 := c617
            refine yG.num (c := 0) rfl (fun _ _ => rfl) (by decide) ?_
            refine yG.ret rfl (fun _ _ => rfl) ?_
            exact (yP.int ⟨by omega, by omega⟩ ⟨⟨⟨0, rfl, by omega, by omega, by omega⟩, A_h615⟩, M_bWf_h615⟩)
      · have c603 : (z602 : Int) = 0 := c603
        clear R_z602
        refine yG.num (c := 1) rfl (fun _ _ => rfl) (by decide) ?_
        refine yG.goto rfl (t := 31) rfl ?_
        refine yG.putI A_hp.1 (w_M_thrown W H_2073) (W.2.1 _ _ H_2073 (by decide) (by decide)) rfl rfl (.inl rfl) ⟨by omega, by omega⟩ (by omega) (by omega) (fun h618 T_h618 b_h618 f_h618 y_h618 => ?_)
        have M_bWf_h618 := M_bWf_hp.fr (bAx.put (Wl := [(83076749736557242056487941267521536, 0)]) (bAx.rf A_hp.1) T_h618 b_h618 f_h618 H_2073 (by decide)) (by decide)
        have A_h618 := A_hp.put T_h618 b_h618 f_h618 H_2073 (by decide)
        have : ys h618 2073 0 = 1 := (y_h618 2073 0).trans (if_pos ⟨rfl, rfl⟩)
        refine yG.load xak rfl (fun _ _ => rfl) (v := yR 2073) rfl rfl ?_
        refine yG.getI A_h618.1 (w_M_thrown W H_2073) rfl rfl (fun z619 e_z619 i_z619 l_z619 u_z619 => ?_)
        refine yG.ifz rfl (t := 43) rfl ⟨by omega, by omega⟩ (fun c620 => ?_) (fun c620 => ?_)
        · have c620 : (z619 : Int) ≤ 0 := c620
          exfalso; omega
        · have c620 : (z619 : Int) > 0 := c620
          refine yG.num (c := 0) rfl (fun _ _ => rfl) (by decide) ?_
          refine yG.ret rfl (fun _ _ => rfl) ?_
          exact (yP.int ⟨by omega, by omega⟩ ⟨⟨⟨0, rfl, by omega, by omega, by omega⟩, A_h618⟩, M_bWf_h618⟩)
    · subst c581
      refine yG.load xak rfl (fun _ _ => rfl) (v := yR 2073) rfl rfl ?_
      refine yG.load xak rfl (fun _ _ => rfl) (v := yR 2073) rfl rfl ?_
      refine yG.load xik rfl (fun _ _ => rfl) (v := yI (3)) rfl rfl ?_
      refine yG.load xik rfl (fun _ _ => rfl) (v := yI (p2)) rfl rfl ?_
      refine yG.invV (rest := [yR 2073]) A_hp.1 (bOb (d_M W) H_2073) rfl rfl rfl rfl (c_GModel_isObject W (d + 1) A_hp.1 H_2073 (3) (p2) (by omega) (by omega) (by omega) (by omega)) (fun rv hp9 q9 => ?_)
      obtain ⟨⟨z621, rfl, l_z621, u_z621, R_z621⟩, e9⟩ := q9
      rw [e9]
      show yG _ _ _ _ _ _ _ _ _ _ (yI z621 :: [yR 2073]) _
      refine yG.ifz rfl (t := 14) rfl ⟨by omega, by omega⟩ (fun c622 => ?_) (fun c622 => ?_)
      · have c622 : (z621 : Int) ≠ 0 := c622
        replace R_z621 := R_z621 (by omega)
        refine yG.load xak rfl (fun _ _ => rfl) (v := yR 2073) rfl rfl ?_
        refine yG.load xik rfl (fun _ _ => rfl) (v := yI (3)) rfl rfl ?_
        refine yG.load xik rfl (fun _ _ => rfl) (v := yI (p2)) rfl rfl ?_
        refine yG.load xik rfl (fun _ _ => rfl) (v := yI (1)) rfl rfl ?_
        refine yG.load xik rfl (fun _ _ => rfl) (v := yI (p4)) rfl rfl ?_
        refine yG.invV (rest := [yR 2073]) A_hp.1 (bOb (d_M W) H_2073) rfl rfl rfl rfl (c_GModel_mayBe_3_1 W (d + 1) A_hp.1 H_2073 (p2) (p4) (by omega) (by omega) (by omega) (by omega)) (fun rv hp9 q9 => ?_)
        obtain ⟨⟨z623, rfl, l_z623, u_z623, R_z623⟩, e9⟩ := q9
        rw [e9]
        show yG _ _ _ _ _ _ _ _ _ _ (yI z623 :: [yR 2073]) _
        refine yG.ifz rfl (t := 30) rfl ⟨by omega, by omega⟩ (fun c624 => ?_) (fun c624 => ?_)
        · have c624 : (z623 : Int) ≠ 0 := c624
          replace R_z623 := R_z623 (by omega)
          refine yG.num (c := 0) rfl (fun _ _ => rfl) (by decide) ?_
          refine yG.putI A_hp.1 (w_M_thrown W H_2073) (W.2.1 _ _ H_2073 (by decide) (by decide)) rfl rfl (.inl rfl) ⟨by omega, by omega⟩ (by omega) (by omega) (fun h625 T_h625 b_h625 f_h625 y_h625 => ?_)
          have M_bWf_h625 := M_bWf_hp.fr (bAx.put (Wl := [(83076749736557242056487941267521536, 0)]) (bAx.rf A_hp.1) T_h625 b_h625 f_h625 H_2073 (by decide)) (by decide)
          have A_h625 := A_hp.put T_h625 b_h625 f_h625 H_2073 (by decide)
          have : ys h625 2073 0 = 0 := (y_h625 2073 0).trans (if_pos ⟨rfl, rfl⟩)
          refine yG.load xak rfl (fun _ _ => rfl) (v := yR 2073) rfl rfl ?_
          refine yG.getI A_h625.1 (w_M_thrown W H_2073) rfl rfl (fun z626 e_z626 i_z626 l_z626 u_z626 => ?_)
          refine yG.ifz rfl (t := 43) rfl ⟨by omega, by omega⟩ (fun c627 => ?_) (fun c627 => ?_)
          · have c627 : (z626 : Int) ≤ 0 := c627
            refine yG.load xak rfl (fun _ _ => rfl) (v := yR 2073) rfl rfl ?_
            refine yG.load xik rfl (fun _ _ => rfl) (v := yI (3)) rfl rfl ?_
            refine yG.load xik rfl (fun _ _ => rfl) (v := yI (p2)) rfl rfl ?_
            refine yG.load xik rfl (fun _ _ => rfl) (v := yI (1)) rfl rfl ?_
            refine yG.invV (rest := []) A_h625.1 (bOb (d_M W) H_2073) rfl rfl rfl rfl (c_GModel_of_3_1 W (d + 1) A_h625.1 H_2073 (p2) (by omega) (by omega)) (fun rv hp9 q9 => ?_)
            obtain ⟨⟨z628, rfl, l_z628, u_z628, R_z628⟩, e9⟩ := q9
            rw [e9]
            show yG _ _ _ _ _ _ _ _ _ _ (yI z628 :: []) _
            refine yG.store1 xik (L' := [(5, yI (z628)), (0, yR 2073), (1, yI (3)), (2, yI (p2)), (3, yI (1)), (4, yI (p4))]) rfl (fun _ _ => rfl) rfl rfl ?_
            refine yG.load xak rfl (fun _ _ => rfl) (v := yR 2073) rfl rfl ?_
            refine yG.getO A_h625.1 (w_M_field W H_2073) rfl rfl (fun r629 H_r629 O_r629 q_r629 => ?_)
            obtain rfl := u_M_field W H_r629
            refine yG.load xik rfl (fun _ _ => rfl) (v := yI (3)) rfl rfl ?_
            refine yG.load xik rfl (fun _ _ => rfl) (v := yI (p2)) rfl rfl ?_
            refine yG.load xik rfl (fun _ _ => rfl) (v := yI (1)) rfl rfl ?_
            refine yG.invS (rest := [yR 2089]) rfl rfl rfl rfl (c_GModel_f W (d + 2) A_h625.1 (3) (p2) (1) (by omega) (by omega) (by omega) (by omega) (by omega) (by omega)) (fun rv hp9 q9 => ?_)
            obtain ⟨⟨z630, rfl, l_z630, u_z630, R_z630⟩, e9⟩ := q9
            rw [e9]
            show yG _ _ _ _ _ _ _ _ _ _ (yI z630 :: [yR 2089]) _
            refine yG.load xik rfl (fun _ _ => rfl) (v := yI (p4)) rfl rfl ?_
            refine yG.iastF A_h625.1 (v_M_field W H_r629) (show yfT ((z630 : Int).toNat) = (0, (0, 9999)) from ((yfT_ix (s := 3) (k := 1) (by omega) (by omega) (by omega) (by decide)).trans rfl)) (W.2.1 _ _ H_r629 (by decide) (by decide)) rfl (by omega) (by omega) ⟨by omega, by omega⟩ (by omega) (by omega) (fun h631 T_h631 b_h631 f_h631 y_h631 => ?_)
            have M_bWf_h631 : bWf G h631 := M_bWf_h625.putx y_h631 (fun j hj h9 hb => by unfold mBp at hb; omega) (fun j hj h9 hb => by unfold mXp at hb; omega)
            have A_h631 := A_h625.put T_h631 b_h631 f_h631 H_r629 (bAll_ok (by decide) _)
            have : ys h631 2073 0 = ys h625 2073 0 := (y_h631 2073 0).trans (if_neg (fun e => (bRo.ne H_2073 H_r629 (by decide)) e.1))
            refine yG.load xak rfl (fun _ _ => rfl) (v := yR 2073) rfl rfl ?_
            refine yG.invV (rest := []) A_h631.1 (bOb (d_M W) H_2073) rfl rfl rfl rfl (c_GModel_changed W (d + 2) A_h631.1 H_2073) (fun rv h632 q9 => ?_)
            obtain ⟨⟨rfl, R_z633⟩, B_h632⟩ := q9
            have A_h632 := A_h631.tr B_h632 (by decide)
            have M_bWf_h632 := M_bWf_h631.fr B_h632 (by decide)
            have : ys h632 2073 0 = ys h631 2073 0 := B_h632.ys H_2073 (by decide)
            show yG _ _ _ _ _ _ _ _ _ _ [] _
            refine yG.load xik rfl (fun _ _ => rfl) (v := yI (z628)) rfl rfl ?_
            refine yG.ret rfl (fun _ _ => rfl) ?_
            exact (yP.int ⟨by omega, by omega⟩ ⟨⟨⟨z628, rfl, by omega, by omega, by omega⟩, A_h632⟩, M_bWf_h632⟩)
          · have c627 : (z626 : Int) > 0 := c627
            exfalso; omega
        · have c624 : (z623 : Int) = 0 := c624
          clear R_z623
          refine yG.num (c := 2) rfl (fun _ _ => rfl) (by decide) ?_
          refine yG.goto rfl (t := 31) rfl ?_
          refine yG.putI A_hp.1 (w_M_thrown W H_2073) (W.2.1 _ _ H_2073 (by decide) (by decide)) rfl rfl (.inl rfl) ⟨by omega, by omega⟩ (by omega) (by omega) (fun h634 T_h634 b_h634 f_h634 y_h634 => ?_)
          have M_bWf_h634 := M_bWf_hp.fr (bAx.put (Wl := [(83076749736557242056487941267521536, 0)]) (bAx.rf A_hp.1) T_h634 b_h634 f_h634 H_2073 (by decide)) (by decide)
          have A_h634 := A_hp.put T_h634 b_h634 f_h634 H_2073 (by decide)
          have : ys h634 2073 0 = 2 := (y_h634 2073 0).trans (if_pos ⟨rfl, rfl⟩)
          refine yG.load xak rfl (fun _ _ => rfl) (v := yR 2073) rfl rfl ?_
          refine yG.getI A_h634.1 (w_M_thrown W H_2073) rfl rfl (fun z635 e_z635 i_z635 l_z635 u_z635 => ?_)
          refine yG.ifz rfl (t := 43) rfl ⟨by omega, by omega⟩ (fun c636 => ?_) (fun c636 => ?_)
          · have c636 : (z635 : Int) ≤ 0 := c636
            exfalso; omega
          · have c636 : (z635 : Int) > 0 := c636
            refine yG.num (c := 0) rfl (fun _ _ => rfl) (by decide) ?_
            refine yG.ret rfl (fun _ _ => rfl) ?_
            exact (yP.int ⟨by omega, by omega⟩ ⟨⟨⟨0, rfl, by omega, by omega, by omega⟩, A_h634⟩, M_bWf_h634⟩)
      · have c622 : (z621 : Int) = 0 := c622
        clear R_z621
        refine yG.num (c := 1) rfl (fun _ _ => rfl) (by decide) ?_
        refine yG.goto rfl (t := 31) rfl ?_
        refine yG.putI A_hp.1 (w_M_thrown W H_2073) (W.2.1 _ _ H_2073 (by decide) (by decide)) rfl rfl (.inl rfl) ⟨by omega, by omega⟩ (by omega) (by omega) (fun h637 T_h637 b_h637 f_h637 y_h637 => ?_)
        have M_bWf_h637 := M_bWf_hp.fr (bAx.put (Wl := [(83076749736557242056487941267521536, 0)]) (bAx.rf A_hp.1) T_h637 b_h637 f_h637 H_2073 (by decide)) (by decide)
        have A_h637 := A_hp.put T_h637 b_h637 f_h637 H_2073 (by decide)
        have : ys h637 2073 0 = 1 := (y_h637 2073 0).trans (if_pos ⟨rfl, rfl⟩)
        refine yG.load xak rfl (fun _ _ => rfl) (v := yR 2073) rfl rfl ?_
        refine yG.getI A_h637.1 (w_M_thrown W H_2073) rfl rfl (fun z638 e_z638 i_z638 l_z638 u_z638 => ?_)
        refine yG.ifz rfl (t := 43) rfl ⟨by omega, by omega⟩ (fun c639 => ?_) (fun c639 => ?_)
        · have c639 : (z638 : Int) ≤ 0 := c639
          exfalso; omega
        · have c639 : (z638 : Int) > 0 := c639
          refine yG.num (c := 0) rfl (fun _ _ => rfl) (by decide) ?_
          refine yG.ret rfl (fun _ _ => rfl) ?_
          exact (yP.int ⟨by omega, by omega⟩ ⟨⟨⟨0, rfl, by omega, by omega, by omega⟩, A_h637⟩, M_bWf_h637⟩)
    · subst c581
      refine yG.load xak rfl (fun _ _ => rfl) (v := yR 2073) rfl rfl ?_
      refine yG.load xak rfl (fun _ _ => rfl) (v := yR 2073) rfl rfl ?_
      refine yG.load xik rfl (fun _ _ => rfl) (v := yI (3)) rfl rfl ?_
      refine yG.load xik rfl (fun _ _ => rfl) (v := yI (p2)) rfl rfl ?_
      refine yG.invV (rest := [yR 2073]) A_hp.1 (bOb (d_M W) H_2073) rfl rfl rfl rfl (c_GModel_isObject W (d + 1) A_hp.1 H_2073 (3) (p2) (by omega) (by omega) (by omega) (by omega)) (fun rv hp9 q9 => ?_)
      obtain ⟨⟨z640, rfl, l_z640, u_z640, R_z640⟩, e9⟩ := q9
      rw [e9]
      show yG _ _ _ _ _ _ _ _ _ _ (yI z640 :: [yR 2073]) _
      refine yG.ifz rfl (t := 14) rfl ⟨by omega, by omega⟩ (fun c641 => ?_) (fun c641 => ?_)
      · have c641 : (z640 : Int) ≠ 0 := c641
        replace R_z640 := R_z640 (by omega)
        refine yG.load xak rfl (fun _ _ => rfl) (v := yR 2073) rfl rfl ?_
        refine yG.load xik rfl (fun _ _ => rfl) (v := yI (3)) rfl rfl ?_
        refine yG.load xik rfl (fun _ _ => rfl) (v := yI (p2)) rfl rfl ?_
        refine yG.load xik rfl (fun _ _ => rfl) (v := yI (2)) rfl rfl ?_
        refine yG.load xik rfl (fun _ _ => rfl) (v := yI (p4)) rfl rfl ?_
        refine yG.invV (rest := [yR 2073]) A_hp.1 (bOb (d_M W) H_2073) rfl rfl rfl rfl (c_GModel_mayBe_3_2 W (d + 1) A_hp.1 H_2073 (p2) (p4) (by omega) (by omega) (by omega) (by omega)) (fun rv hp9 q9 => ?_)
        obtain ⟨⟨z642, rfl, l_z642, u_z642, R_z642⟩, e9⟩ := q9
        rw [e9]
        show yG _ _ _ _ _ _ _ _ _ _ (yI z642 :: [yR 2073]) _
        refine yG.ifz rfl (t := 30) rfl ⟨by omega, by omega⟩ (fun c643 => ?_) (fun c643 => ?_)
        · have c643 : (z642 : Int) ≠ 0 := c643
          replace R_z642 := R_z642 (by omega)
          refine yG.num (c := 0) rfl (fun _ _ => rfl) (by decide) ?_
          refine yG.putI A_hp.1 (w_M_thrown W H_2073) (W.2.1 _ _ H_2073 (by decide) (by decide)) rfl rfl (.inl rfl) ⟨by omega, by omega⟩ (by omega) (by omega) (fun h644 T_h644 b_h644 f_h644 y_h644 => ?_)
          have M_bWf_h644 := M_bWf_hp.fr (bAx.put (Wl := [(83076749736557242056487941267521536, 0)]) (bAx.rf A_hp.1) T_h644 b_h644 f_h644 H_2073 (by decide)) (by decide)
          have A_h644 := A_hp.put T_h644 b_h644 f_h644 H_2073 (by decide)
          have : ys h644 2073 0 = 0 := (y_h644 2073 0).trans (if_pos ⟨rfl, rfl⟩)
          refine yG.load xak rfl (fun _ _ => rfl) (v := yR 2073) rfl rfl ?_
          refine yG.getI A_h644.1 (w_M_thrown W H_2073) rfl rfl (fun z645 e_z645 i_z645 l_z645 u_z645 => ?_)
          refine yG.ifz rfl (t := 43) rfl ⟨by omega, by omega⟩ (fun c646 => ?_) (fun c646 => ?_)
          · have c646 : (z645 : Int) ≤ 0 := c646
            refine yG.load xak rfl (fun _ _ => rfl) (v := yR 2073) rfl rfl ?_
            refine yG.load xik rfl (fun _ _ => rfl) (v := yI (3)) rfl rfl ?_
            refine yG.load xik rfl (fun _ _ => rfl) (v := yI (p2)) rfl rfl ?_
            refine yG.load xik rfl (fun _ _ => rfl) (v := yI (2)) rfl rfl ?_
            refine yG.invV (rest := []) A_h644.1 (bOb (d_M W) H_2073) rfl rfl rfl rfl (c_GModel_of_v3_2 W (d + 1) A_h644.1 H_2073 (p2) (by omega) (by omega)) (fun rv hp9 q9 => ?_)
            obtain ⟨⟨z647, rfl, l_z647, u_z647, R_z647⟩, e9⟩ := q9
            rw [e9]
            show yG _ _ _ _ _ _ _ _ _ _ (yI z647 :: []) _
            refine yG.store1 xik (L' := [(5, yI (z647)), (0, yR 2073), (1, yI (3)), (2, yI (p2)), (3, yI (2)), (4, yI (p4))]) rfl (fun _ _ => rfl) rfl rfl ?_
            refine yG.load xak rfl (fun _ _ => rfl) (v := yR 2073) rfl rfl ?_
            refine yG.getO A_h644.1 (w_M_field W H_2073) rfl rfl (fun r648 H_r648 O_r648 q_r648 => ?_)
            obtain rfl := u_M_field W H_r648
            refine yG.load xik rfl (fun _ _ => rfl) (v := yI (3)) rfl rfl ?_
            refine yG.load xik rfl (fun _ _ => rfl) (v := yI (p2)) rfl rfl ?_
            refine yG.load xik rfl (fun _ _ => rfl) (v := yI (2)) rfl rfl ?_
            refine yG.invS (rest := [yR 2089]) rfl rfl rfl rfl (c_GModel_f W (d + 2) A_h644.1 (3) (p2) (2) (by omega) (by omega) (by omega) (by omega) (by omega) (by omega)) (fun rv hp9 q9 => ?_)
            obtain ⟨⟨z649, rfl, l_z649, u_z649, R_z649⟩, e9⟩ := q9
            rw [e9]
            show yG _ _ _ _ _ _ _ _ _ _ (yI z649 :: [yR 2089]) _
            refine yG.load xik rfl (fun _ _ => rfl) (v := yI (p4)) rfl rfl ?_
            refine yG.iastF A_h644.1 (v_M_field W H_r648) (show yfT ((z649 : Int).toNat) = (0, (0, 99)) from ((yfT_ix (s := 3) (k := 2) (by omega) (by omega) (by omega) (by decide)).trans rfl)) (W.2.1 _ _ H_r648 (by decide) (by decide)) rfl (by omega) (by omega) ⟨by omega, by omega⟩ (by omega) (by omega) (fun h650 T_h650 b_h650 f_h650 y_h650 => ?_)
            have M_bWf_h650 : bWf G h650 := M_bWf_h644.putx y_h650 (fun j hj h9 hb => by unfold mBp at hb; omega) (fun j hj h9 hb => by unfold mXp at hb; omega)
            have A_h650 := A_h644.put T_h650 b_h650 f_h650 H_r648 (bAll_ok (by decide) _)
            have : ys h650 2073 0 = ys h644 2073 0 := (y_h650 2073 0).trans (if_neg (fun e => (bRo.ne H_2073 H_r648 (by decide)) e.1))
            refine yG.load xak rfl (fun _ _ => rfl) (v := yR 2073) rfl rfl ?_
            refine yG.invV (rest := []) A_h650.1 (bOb (d_M W) H_2073) rfl rfl rfl rfl (c_GModel_changed W (d + 2) A_h650.1 H_2073) (fun rv h651 q9 => ?_)
            obtain ⟨⟨rfl, R_z652⟩, B_h651⟩ := q9
            have A_h651 := A_h650.tr B_h651 (by decide)
            have M_bWf_h651 := M_bWf_h650.fr B_h651 (by decide)
            have : ys h651 2073 0 = ys h650 2073 0 := B_h651.ys H_2073 (by decide)
            show yG _ _ _ _ _ _ _ _ _ _ [] _
            refine yG.load xik rfl (fun _ _ => rfl) (v := yI (z647)) rfl rfl ?_
            refine yG.ret rfl (fun _ _ => rfl) ?_
            exact (yP.int ⟨by omega, by omega⟩ ⟨⟨⟨z647, rfl, by omega, by omega, by omega⟩, A_h651⟩, M_bWf_h651⟩)
          · have c646 : (z645 : Int) > 0 := c646
            exfalso; omega
        · have c643 : (z642 : Int) = 0 := c643
          clear R_z642
          refine yG.num (c := 2) rfl (fun _ _ => rfl) (by decide) ?_
          refine yG.goto rfl (t := 31) rfl ?_
          refine yG.putI A_hp.1 (w_M_thrown W H_2073) (W.2.1 _ _ H_2073 (by decide) (by decide)) rfl rfl (.inl rfl) ⟨by omega, by omega⟩ (by omega) (by omega) (fun h653 T_h653 b_h653 f_h653 y_h653 => ?_)
          have M_bWf_h653 := M_bWf_hp.fr (bAx.put (Wl := [(83076749736557242056487941267521536, 0)]) (bAx.rf A_hp.1) T_h653 b_h653 f_h653 H_2073 (by decide)) (by decide)
          have A_h653 := A_hp.put T_h653 b_h653 f_h653 H_2073 (by decide)
          have : ys h653 2073 0 = 2 := (y_h653 2073 0).trans (if_pos ⟨rfl, rfl⟩)
          refine yG.load xak rfl (fun _ _ => rfl) (v := yR 2073) rfl rfl ?_
          refine yG.getI A_h653.1 (w_M_thrown W H_2073) rfl rfl (fun z654 e_z654 i_z654 l_z654 u_z654 => ?_)
          refine yG.ifz rfl (t := 43) rfl ⟨by omega, by omega⟩ (fun c655 => ?_) (fun c655 => ?_)
          · have c655 : (z654 : Int) ≤ 0 := c655
            exfalso; omega
          · have c655 : (z654 : Int) > 0 := c655
            refine yG.num (c := 0) rfl (fun _ _ => rfl) (by decide) ?_
            refine yG.ret rfl (fun _ _ => rfl) ?_
            exact (yP.int ⟨by omega, by omega⟩ ⟨⟨⟨0, rfl, by omega, by omega, by omega⟩, A_h653⟩, M_bWf_h653⟩)
      · have c641 : (z640 : Int) = 0 := c641
        clear R_z640
        refine yG.num (c := 1) rfl (fun _ _ => rfl) (by decide) ?_
        refine yG.goto rfl (t := 31) rfl ?_
        refine yG.putI A_hp.1 (w_M_thrown W H_2073) (W.2.1 _ _ H_2073 (by decide) (by decide)) rfl rfl (.inl rfl) ⟨by omega, by omega⟩ (by omega) (by omega) (fun h656 T_h656 b_h656 f_h656 y_h656 => ?_)
        have M_bWf_h656 := M_bWf_hp.fr (bAx.put (Wl := [(83076749736557242056487941267521536, 0)]) (bAx.rf A_hp.1) T_h656 b_h656 f_h656 H_2073 (by decide)) (by decide)
        have A_h656 := A_hp.put T_h656 b_h656 f_h656 H_2073 (by decide)
        have : ys h656 2073 0 = 1 := (y_h656 2073 0).trans (if_pos ⟨rfl, rfl⟩)
        refine yG.load xak rfl (fun _ _ => rfl) (v := yR 2073) rfl rfl ?_
        refine yG.getI A_h656.1 (w_M_thrown W H_2073) rfl rfl (fun z657 e_z657 i_z657 l_z657 u_z657 => ?_)
        refine yG.ifz rfl (t := 43) rfl ⟨by omega, by omega⟩ (fun c658 => ?_) (fun c658 => ?_)
        · have c658 : (z657 : Int) ≤ 0 := c658
          exfalso; omega
        · have c658 : (z657 : Int) > 0 := c658
          refine yG.num (c := 0) rfl (fun _ _ => rfl) (by decide) ?_
          refine yG.ret rfl (fun _ _ => rfl) ?_
          exact (yP.int ⟨by omega, by omega⟩ ⟨⟨⟨0, rfl, by omega, by omega, by omega⟩, A_h656⟩, M_bWf_h656⟩)
    · subst c581
      refine yG.load xak rfl (fun _ _ => rfl) (v := yR 2073) rfl rfl ?_
      refine yG.load xak rfl (fun _ _ => rfl) (v := yR 2073) rfl rfl ?_
      refine yG.load xik rfl (fun _ _ => rfl) (v := yI (3)) rfl rfl ?_
      refine yG.load xik rfl (fun _ _ => rfl) (v := yI (p2)) rfl rfl ?_
      refine yG.invV (rest := [yR 2073]) A_hp.1 (bOb (d_M W) H_2073) rfl rfl rfl rfl (c_GModel_isObject W (d + 1) A_hp.1 H_2073 (3) (p2) (by omega) (by omega) (by omega) (by omega)) (fun rv hp9 q9 => ?_)
      obtain ⟨⟨z659, rfl, l_z659, u_z659, R_z659⟩, e9⟩ := q9
      rw [e9]
      show yG _ _ _ _ _ _ _ _ _ _ (yI z659 :: [yR 2073]) _
      refine yG.ifz rfl (t := 14) rfl ⟨by omega, by omega⟩ (fun c660 => ?_) (fun c660 => ?_)
      · have c660 : (z659 : Int) ≠ 0 := c660
        replace R_z659 := R_z659 (by omega)
        refine yG.load xak rfl (fun _ _ => rfl) (v := yR 2073) rfl rfl ?_
        refine yG.load xik rfl (fun _ _ => rfl) (v := yI (3)) rfl rfl ?_
        refine yG.load xik rfl (fun _ _ => rfl) (v := yI (p2)) rfl rfl ?_
        refine yG.load xik rfl (fun _ _ => rfl) (v := yI (3)) rfl rfl ?_
        refine yG.load xik rfl (fun _ _ => rfl) (v := yI (p4)) rfl rfl ?_
        refine yG.invV (rest := [yR 2073]) A_hp.1 (bOb (d_M W) H_2073) rfl rfl rfl rfl (c_GModel_mayBe_3_3 W (d + 1) A_hp.1 H_2073 (p2) (p4) (by omega) (by omega) (by omega) (by omega)) (fun rv hp9 q9 => ?_)
        obtain ⟨⟨z661, rfl, l_z661, u_z661, R_z661⟩, e9⟩ := q9
        rw [e9]
        show yG _ _ _ _ _ _ _ _ _ _ (yI z661 :: [yR 2073]) _
        refine yG.ifz rfl (t := 30) rfl ⟨by omega, by omega⟩ (fun c662 => ?_) (fun c662 => ?_)
        · have c662 : (z661 : Int) ≠ 0 := c662
          replace R_z661 := R_z661 (by omega)
          refine yG.num (c := 0) rfl (fun _ _ => rfl) (by decide) ?_
          refine yG.putI A_hp.1 (w_M_thrown W H_2073) (W.2.1 _ _ H_2073 (by decide) (by decide)) rfl rfl (.inl rfl) ⟨by omega, by omega⟩ (by omega) (by omega) (fun h663 T_h663 b_h663 f_h663 y_h663 => ?_)
          have M_bWf_h663 := M_bWf_hp.fr (bAx.put (Wl := [(83076749736557242056487941267521536, 0)]) (bAx.rf A_hp.1) T_h663 b_h663 f_h663 H_2073 (by decide)) (by decide)
          have A_h663 := A_hp.put T_h663 b_h663 f_h663 H_2073 (by decide)
          have : ys h663 2073 0 = 0 := (y_h663 2073 0).trans (if_pos ⟨rfl, rfl⟩)
          refine yG.load xak rfl (fun _ _ => rfl) (v := yR 2073) rfl rfl ?_
          refine yG.getI A_h663.1 (w_M_thrown W H_2073) rfl rfl (fun z664 e_z664 i_z664 l_z664 u_z664 => ?_)
          refine yG.ifz rfl (t := 43) rfl ⟨by omega, by omega⟩ (fun c665 => ?_) (fun c665 => ?_)
          · have c665 : (z664 : Int) ≤ 0 := c665
            refine yG.load xak rfl (fun _ _ => rfl) (v := yR 2073) rfl rfl ?_
            refine yG.load xik rfl (fun _ _ => rfl) (v := yI (3)) rfl rfl ?_
            refine yG.load xik rfl (fun _ _ => rfl) (v := yI (p2)) rfl rfl ?_
            refine yG.load xik rfl (fun _ _ => rfl) (v := yI (3)) rfl rfl ?_
            refine yG.invV (rest := []) A_h663.1 (bOb (d_M W) H_2073) rfl rfl rfl rfl (c_GModel_of_v3_3 W (d + 1) A_h663.1 H_2073 (p2) (by omega) (by omega)) (fun rv hp9 q9 => ?_)
            obtain ⟨⟨z666, rfl, l_z666, u_z666, R_z666⟩, e9⟩ := q9
            rw [e9]
            show yG _ _ _ _ _ _ _ _ _ _ (yI z666 :: []) _
            refine yG.store1 xik (L' := [(5, yI (z666)), (0, yR 2073), (1, yI (3)), (2, yI (p2)), (3, yI (3)), (4, yI (p4))]) rfl (fun _ _ => rfl) rfl rfl ?_
            refine yG.load xak rfl (fun _ _ => rfl) (v := yR 2073) rfl rfl ?_
            refine yG.getO A_h663.1 (w_M_field W H_2073) rfl rfl (fun r667 H_r667 O_r667 q_r667 => ?_)
            obtain rfl := u_M_field W H_r667
            refine yG.load xik rfl (fun _ _ => rfl) (v := yI (3)) rfl rfl ?_
            refine yG.load xik rfl (fun _ _ => rfl) (v := yI (p2)) rfl rfl ?_
            refine yG.load xik rfl (fun _ _ => rfl) (v := yI (3)) rfl rfl ?_
            refine yG.invS (rest := [yR 2089]) rfl rfl rfl rfl (c_GModel_f W (d + 2) A_h663.1 (3) (p2) (3) (by omega) (by omega) (by omega) (by omega) (by omega) (by omega)) (fun rv hp9 q9 => ?_)
            obtain ⟨⟨z668, rfl, l_z668, u_z668, R_z668⟩, e9⟩ := q9
            rw [e9]
            show yG _ _ _ _ _ _ _ _ _ _ (yI z668 :: [yR 2089]) _
            refine yG.load xik rfl (fun _ _ => rfl) (v := yI (p4)) rfl rfl ?_
            refine yG.iastF A_h663.1 (v_M_field W H_r667) (show yfT ((z668 : Int).toNat) = (0, (0, 299)) from ((yfT_ix (s := 3) (k := 3) (by omega) (by omega) (by omega) (by decide)).trans rfl)) (W.2.1 _ _ H_r667 (by decide) (by decide)) rfl (by omega) (by omega) ⟨by omega, by omega⟩ (by omega) (by omega) (fun h669 T_h669 b_h669 f_h669 y_h669 => ?_)
            have M_bWf_h669 : bWf G h669 := M_bWf_h663.putx y_h669 (fun j hj h9 hb => by unfold mBp at hb; omega) (fun j hj h9 hb => by unfold mXp at hb; omega)
            have A_h669 := A_h663.put T_h669 b_h669 f_h669 H_r667 (bAll_ok (by decide) _)
            have : ys h669 2073 0 = ys h663 2073 0 := (y_h669 2073 0).trans (if_neg (fun e => (bRo.ne H_2073 H_r667 (by decide)) e.1))
            refine yG.load xak rfl (fun _ _ => rfl) (v := yR 2073) rfl rfl ?_
            refine yG.invV (rest := []) A_h669.1 (bOb (d_M W) H_2073) rfl rfl rfl rfl (c_GModel_changed W (d + 2) A_h669.1 H_2073) (fun rv h670 q9 => ?_)
            obtain ⟨⟨rfl, R_z671⟩, B_h670⟩ := q9
            have A_h670 := A_h669.tr B_h670 (by decide)
            have M_bWf_h670 := M_bWf_h669.fr B_h670 (by decide)
            have : ys h670 2073 0 = ys h669 2073 0 := B_h670.ys H_2073 (by decide)
            show yG _ _ _ _ _ _ _ _ _ _ [] _
            refine yG.load xik rfl (fun _ _ => rfl) (v := yI (z666)) rfl rfl ?_
            refine yG.ret rfl (fun _ _ => rfl) ?_
            exact (yP.int ⟨by omega, by omega⟩ ⟨⟨⟨z666, rfl, by omega, by omega, by omega⟩, A_h670⟩, M_bWf_h670⟩)
          · have c665 : (z664 : Int) > 0 := c665
            exfalso; omega
        · have c662 : (z661 : Int) = 0 := c662
          clear R_z661
          refine yG.num (c := 2) rfl (fun _ _ => rfl) (by decide) ?_
          refine yG.goto rfl (t := 31) rfl ?_
          refine yG.putI A_hp.1 (w_M_thrown W H_2073) (W.2.1 _ _ H_2073 (by decide) (by decide)) rfl rfl (.inl rfl) ⟨by omega, by omega⟩ (by omega) (by omega) (fun h672 T_h672 b_h672 f_h672 y_h672 => ?_)
          have M_bWf_h672 := M_bWf_hp.fr (bAx.put (Wl := [(83076749736557242056487941267521536, 0)]) (bAx.rf A_hp.1) T_h672 b_h672 f_h672 H_2073 (by decide)) (by decide)
          have A_h672 := A_hp.put T_h672 b_h672 f_h672 H_2073 (by decide)
          have : ys h672 2073 0 = 2 := (y_h672 2073 0).trans (if_pos ⟨rfl, rfl⟩)
          refine yG.load xak rfl (fun _ _ => rfl) (v := yR 2073) rfl rfl ?_
          refine yG.getI A_h672.1 (w_M_thrown W H_2073) rfl rfl (fun z673 e_z673 i_z673 l_z673 u_z673 => ?_)
          refine yG.ifz rfl (t := 43) rfl ⟨by omega, by omega⟩ (fun c674 => ?_) (fun c674 => ?_)
          · have c674 : (z673 : Int) ≤ 0 := c674
            exfalso; omega
          · have c674 : (z673 : Int) > 0 := c674
            refine yG.num (c := 0) rfl (fun _ _ => rfl) (by decide) ?_
            refine yG.ret rfl (fun _ _ => rfl) ?_
            exact (yP.int ⟨by omega, by omega⟩ ⟨⟨⟨0, rfl, by omega, by omega, by omega⟩, A_h672⟩, M_bWf_h672⟩)
      · have c660 : (z659 : Int) = 0 := c660
        clear R_z659
        refine yG.num (c := 1) rfl (fun _ _ => rfl) (by decide) ?_
        refine yG.goto rfl (t := 31) rfl ?_
        refine yG.putI A_hp.1 (w_M_thrown W H_2073) (W.2.1 _ _ H_2073 (by decide) (by decide)) rfl rfl (.inl rfl) ⟨by omega, by omega⟩ (by omega) (by omega) (fun h675 T_h675 b_h675 f_h675 y_h675 => ?_)
        have M_bWf_h675 := M_bWf_hp.fr (bAx.put (Wl := [(83076749736557242056487941267521536, 0)]) (bAx.rf A_hp.1) T_h675 b_h675 f_h675 H_2073 (by decide)) (by decide)
        have A_h675 := A_hp.put T_h675 b_h675 f_h675 H_2073 (by decide)
        have : ys h675 2073 0 = 1 := (y_h675 2073 0).trans (if_pos ⟨rfl, rfl⟩)
        refine yG.load xak rfl (fun _ _ => rfl) (v := yR 2073) rfl rfl ?_
        refine yG.getI A_h675.1 (w_M_thrown W H_2073) rfl rfl (fun z676 e_z676 i_z676 l_z676 u_z676 => ?_)
        refine yG.ifz rfl (t := 43) rfl ⟨by omega, by omega⟩ (fun c677 => ?_) (fun c677 => ?_)
        · have c677 : (z676 : Int) ≤ 0 := c677
          exfalso; omega
        · have c677 : (z676 : Int) > 0 := c677
          refine yG.num (c := 0) rfl (fun _ _ => rfl) (by decide) ?_
          refine yG.ret rfl (fun _ _ => rfl) ?_
          exact (yP.int ⟨by omega, by omega⟩ ⟨⟨⟨0, rfl, by omega, by omega, by omega⟩, A_h675⟩, M_bWf_h675⟩)
    · subst c581
      refine yG.load xak rfl (fun _ _ => rfl) (v := yR 2073) rfl rfl ?_
      refine yG.load xak rfl (fun _ _ => rfl) (v := yR 2073) rfl rfl ?_
      refine yG.load xik rfl (fun _ _ => rfl) (v := yI (3)) rfl rfl ?_
      refine yG.load xik rfl (fun _ _ => rfl) (v := yI (p2)) rfl rfl ?_
      refine yG.invV (rest := [yR 2073]) A_hp.1 (bOb (d_M W) H_2073) rfl rfl rfl rfl (c_GModel_isObject W (d + 1) A_hp.1 H_2073 (3) (p2) (by omega) (by omega) (by omega) (by omega)) (fun rv hp9 q9 => ?_)
      obtain ⟨⟨z678, rfl, l_z678, u_z678, R_z678⟩, e9⟩ := q9
      rw [e9]
      show yG _ _ _ _ _ _ _ _ _ _ (yI z678 :: [yR 2073]) _
      refine yG.ifz rfl (t := 14) rfl ⟨by omega, by omega⟩ (fun c679 => ?_) (fun c679 => ?_)
      · have c679 : (z678 : Int) ≠ 0 := c679
        replace R_z678 := R_z678 (by omega)
        refine yG.load xak rfl (fun _ _ => rfl) (v := yR 2073) rfl rfl ?_
        refine yG.load xik rfl (fun _ _ => rfl) (v := yI (3)) rfl rfl ?_
        refine yG.load xik rfl (fun _ _ => rfl) (v := yI (p2)) rfl rfl ?_
        refine yG.load xik rfl (fun _ _ => rfl) (v := yI (4)) rfl rfl ?_
        refine yG.load xik rfl (fun _ _ => rfl) (v := yI (p4)) rfl rfl ?_
        refine yG.invV (rest := [yR 2073]) A_hp.1 (bOb (d_M W) H_2073) rfl rfl rfl rfl (c_GModel_mayBe_3_4 W d A_hp.1 H_2073 (p2) (p4) (by omega) (by omega) (by omega) (by omega)) (fun rv hp9 q9 => ?_)
        obtain ⟨⟨z680, rfl, l_z680, u_z680, R_z680⟩, e9⟩ := q9
        rw [e9]
        show yG _ _ _ _ _ _ _ _ _ _ (yI z680 :: [yR 2073]) _
        refine yG.ifz rfl (t := 30) rfl ⟨by omega, by omega⟩ (fun c681 => ?_) (fun c681 => ?_)
        · have c681 : (z680 : Int) ≠ 0 := c681
          replace R_z680 := R_z680 (by omega)
          refine yG.num (c := 0) rfl (fun _ _ => rfl) (by decide) ?_
          refine yG.putI A_hp.1 (w_M_thrown W H_2073) (W.2.1 _ _ H_2073 (by decide) (by decide)) rfl rfl (.inl rfl) ⟨by omega, by omega⟩ (by omega) (by omega) (fun h682 T_h682 b_h682 f_h682 y_h682 => ?_)
          have M_bWf_h682 := M_bWf_hp.fr (bAx.put (Wl := [(83076749736557242056487941267521536, 0)]) (bAx.rf A_hp.1) T_h682 b_h682 f_h682 H_2073 (by decide)) (by decide)
          have A_h682 := A_hp.put T_h682 b_h682 f_h682 H_2073 (by decide)
          have : ys h682 2073 0 = 0 := (y_h682 2073 0).trans (if_pos ⟨rfl, rfl⟩)
          refine yG.load xak rfl (fun _ _ => rfl) (v := yR 2073) rfl rfl ?_
          refine yG.getI A_h682.1 (w_M_thrown W H_2073) rfl rfl (fun z683 e_z683 i_z683 l_z683 u_z683 => ?_)
          refine yG.ifz rfl (t := 43) rfl ⟨by omega, by omega⟩ (fun c684 => ?_) (fun c684 => ?_)
          · have c684 : (z683 : Int) ≤ 0 := c684
            refine yG.load xak rfl (fun _ _ => rfl) (v := yR 2073) rfl rfl ?_
            refine yG.load xik rfl (fun _ _ => rfl) (v := yI (3)) rfl rfl ?_
            refine yG.load xik rfl (fun _ _ => rfl) (v := yI (p2)) rfl rfl ?_
            refine yG.load xik rfl (fun _ _ => rfl) (v := yI (4)) rfl rfl ?_
            refine yG.invV (rest := []) A_h682.1 (bOb (d_M W) H_2073) rfl rfl rfl rfl (c_GModel_of_3_4 W (d + 1) A_h682.1 H_2073 (p2) (by omega) (by omega)) (fun rv hp9 q9 => ?_)
            obtain ⟨⟨z685, rfl, l_z685, u_z685, R_z685⟩, e9⟩ := q9
            rw [e9]
            show yG _ _ _ _ _ _ _ _ _ _ (yI z685 :: []) _
            refine yG.store1 xik (L' := [(5, yI (z685)), (0, yR 2073), (1, yI (3)), (2, yI (p2)), (3, yI (4)), (4, yI (p4))]) rfl (fun _ _ => rfl) rfl rfl ?_
            refine yG.load xak rfl (fun _ _ => rfl) (v := yR 2073) rfl rfl ?_
            refine yG.getO A_h682.1 (w_M_field W H_2073) rfl rfl (fun r686 H_r686 O_r686 q_r686 => ?_)
            obtain rfl := u_M_field W H_r686
            refine yG.load xik rfl (fun _ _ => rfl) (v := yI (3)) rfl rfl ?_
            refine yG.load xik rfl (fun _ _ => rfl) (v := yI (p2)) rfl rfl ?_
            refine yG.load xik rfl (fun _ _ => rfl) (v := yI (4)) rfl rfl ?_
            refine yG.invS (rest := [yR 2089]) rfl rfl rfl rfl (c_GModel_f W (d + 2) A_h682.1 (3) (p2) (4) (by omega) (by omega) (by omega) (by omega) (by omega) (by omega)) (fun rv hp9 q9 => ?_)
            obtain ⟨⟨z687, rfl, l_z687, u_z687, R_z687⟩, e9⟩ := q9
            rw [e9]
            show yG _ _ _ _ _ _ _ _ _ _ (yI z687 :: [yR 2089]) _
            refine yG.load xik rfl (fun _ _ => rfl) (v := yI (p4)) rfl rfl ?_
            refine yG.iastF A_h682.1 (v_M_field W H_r686) (show yfT ((z687 : Int).toNat) = (0, (0, 9999)) from ((yfT_ix (s := 3) (k := 4) (by omega) (by omega) (by omega) (by decide)).trans rfl)) (W.2.1 _ _ H_r686 (by decide) (by decide)) rfl (by omega) (by omega) ⟨by omega, by omega⟩ (by omega) (by omega) (fun h688 T_h688 b_h688 f_h688 y_h688 => ?_)
            have M_bWf_h688 : bWf G h688 := M_bWf_h682.putx y_h688 (fun j hj h9 hb => by unfold mBp at hb; omega) (fun j hj h9 hb => by unfold mXp at hb; omega)
            have A_h688 := A_h682.put T_h688 b_h688 f_h688 H_r686 (bAll_ok (by decide) _)
            have : ys h688 2073 0 = ys h682 2073 0 := (y_h688 2073 0).trans (if_neg (fun e => (bRo.ne H_2073 H_r686 (by decide)) e.1))
            refine yG.load xak rfl (fun _ _ => rfl) (v := yR 2073) rfl rfl ?_
            refine yG.invV (rest := []) A_h688.1 (bOb (d_M W) H_2073) rfl rfl rfl rfl (c_GModel_changed W (d + 2) A_h688.1 H_2073) (fun rv h689 q9 => ?_)
            obtain ⟨⟨rfl, R_z690⟩, B_h689⟩ := q9
            have A_h689 := A_h688.tr B_h689 (by decide)
            have M_bWf_h689 := M_bWf_h688.fr B_h689 (by decide)
            have : ys h689 2073 0 = ys h688 2073 0 := B_h689.ys H_2073 (by decide)
            show yG _ _ _ _ _ _ _ _ _ _ [] _
            refine yG.load xik rfl (fun _ _ => rfl) (v := yI (z685)) rfl rfl ?_
            refine yG.ret rfl (fun _ _ => rfl) ?_
            exact (yP.int ⟨by omega, by omega⟩ ⟨⟨⟨z685, rfl, by omega, by omega, by omega⟩, A_h689⟩, M_bWf_h689⟩)
          · have c684 : (z683 : Int) > 0 := c684
            exfalso; omega
        · have c681 : (z680 : Int) = 0 := c681
          clear R_z680
          refine yG.num (c := 2) rfl (fun _ _ => rfl) (by decide) ?_
          refine yG.goto rfl (t := 31) rfl ?_
          refine yG.putI A_hp.1 (w_M_thrown W H_2073) (W.2.1 _ _ H_2073 (by decide) (by decide)) rfl rfl (.inl rfl) ⟨by omega, by omega⟩ (by omega) (by omega) (fun h691 T_h691 b_h691 f_h691 y_h691 => ?_)
          have M_bWf_h691 := M_bWf_hp.fr (bAx.put (Wl := [(83076749736557242056487941267521536, 0)]) (bAx.rf A_hp.1) T_h691 b_h691 f_h691 H_2073 (by decide)) (by decide)
          have A_h691 := A_hp.put T_h691 b_h691 f_h691 H_2073 (by decide)
          have : ys h691 2073 0 = 2 := (y_h691 2073 0).trans (if_pos ⟨rfl, rfl⟩)
          refine yG.load xak rfl (fun _ _ => rfl) (v := yR 2073) rfl rfl ?_
          refine yG.getI A_h691.1 (w_M_thrown W H_2073) rfl rfl (fun z692 e_z692 i_z692 l_z692 u_z692 => ?_)
          refine yG.ifz rfl (t := 43) rfl ⟨by omega, by omega⟩ (fun c693 => ?_) (fun c693 => ?_)
          · have c693 : (z692 : Int) ≤ 0 := c693
            exfalso; omega
          · have c693 : (z692 : Int) > 0 := c693
            refine yG.num (c := 0) rfl (fun _ _ => rfl) (by decide) ?_
            refine yG.ret rfl (fun _ _ => rfl) ?_
            exact (yP.int ⟨by omega, by omega⟩ ⟨⟨⟨0, rfl, by omega, by omega, by omega⟩, A_h691⟩, M_bWf_h691⟩)
      · have c679 : (z678 : Int) = 0 := c679
        clear R_z678
        refine yG.num (c := 1) rfl (fun _ _ => rfl) (by decide) ?_
        refine yG.goto rfl (t := 31) rfl ?_
        refine yG.putI A_hp.1 (w_M_thrown W H_2073) (W.2.1 _ _ H_2073 (by decide) (by decide)) rfl rfl (.inl rfl) ⟨by omega, by omega⟩ (by omega) (by omega) (fun h694 T_h694 b_h694 f_h694 y_h694 => ?_)
        have M_bWf_h694 := M_bWf_hp.fr (bAx.put (Wl := [(83076749736557242056487941267521536, 0)]) (bAx.rf A_hp.1) T_h694 b_h694 f_h694 H_2073 (by decide)) (by decide)
        have A_h694 := A_hp.put T_h694 b_h694 f_h694 H_2073 (by decide)
        have : ys h694 2073 0 = 1 := (y_h694 2073 0).trans (if_pos ⟨rfl, rfl⟩)
        refine yG.load xak rfl (fun _ _ => rfl) (v := yR 2073) rfl rfl ?_
        refine yG.getI A_h694.1 (w_M_thrown W H_2073) rfl rfl (fun z695 e_z695 i_z695 l_z695 u_z695 => ?_)
        refine yG.ifz rfl (t := 43) rfl ⟨by omega, by omega⟩ (fun c696 => ?_) (fun c696 => ?_)
        · have c696 : (z695 : Int) ≤ 0 := c696
          exfalso; omega
        · have c696 : (z695 : Int) > 0 := c696
          refine yG.num (c := 0) rfl (fun _ _ => rfl) (by decide) ?_
          refine yG.ret rfl (fun _ _ => rfl) ?_
          exact (yP.int ⟨by omega, by omega⟩ ⟨⟨⟨0, rfl, by omega, by omega, by omega⟩, A_h694⟩, M_bWf_h694⟩)
    · subst c581
      refine yG.load xak rfl (fun _ _ => rfl) (v := yR 2073) rfl rfl ?_
      refine yG.load xak rfl (fun _ _ => rfl) (v := yR 2073) rfl rfl ?_
      refine yG.load xik rfl (fun _ _ => rfl) (v := yI (3)) rfl rfl ?_
      refine yG.load xik rfl (fun _ _ => rfl) (v := yI (p2)) rfl rfl ?_
      refine yG.invV (rest := [yR 2073]) A_hp.1 (bOb (d_M W) H_2073) rfl rfl rfl rfl (c_GModel_isObject W (d + 1) A_hp.1 H_2073 (3) (p2) (by omega) (by omega) (by omega) (by omega)) (fun rv hp9 q9 => ?_)
      obtain ⟨⟨z697, rfl, l_z697, u_z697, R_z697⟩, e9⟩ := q9
      rw [e9]
      show yG _ _ _ _ _ _ _ _ _ _ (yI z697 :: [yR 2073]) _
      refine yG.ifz rfl (t := 14) rfl ⟨by omega, by omega⟩ (fun c698 => ?_) (fun c698 => ?_)
      · have c698 : (z697 : Int) ≠ 0 := c698
        replace R_z697 := R_z697 (by omega)
        refine yG.load xak rfl (fun _ _ => rfl) (v := yR 2073) rfl rfl ?_
        refine yG.load xik rfl (fun _ _ => rfl) (v := yI (3)) rfl rfl ?_
        refine yG.load xik rfl (fun _ _ => rfl) (v := yI (p2)) rfl rfl ?_
        refine yG.load xik rfl (fun _ _ => rfl) (v := yI (5)) rfl rfl ?_
        refine yG.load xik rfl (fun _ _ => rfl) (v := yI (p4)) rfl rfl ?_
        refine yG.invV (rest := [yR 2073]) A_hp.1 (bOb (d_M W) H_2073) rfl rfl rfl rfl (c_GModel_mayBe_3_5 W d A_hp.1 H_2073 (p2) (p4) (by omega) (by omega) (by omega) (by omega)) (fun rv hp9 q9 => ?_)
        obtain ⟨⟨z699, rfl, l_z699, u_z699, R_z699⟩, e9⟩ := q9
        rw [e9]
        show yG _ _ _ _ _ _ _ _ _ _ (yI z699 :: [yR 2073]) _
        refine yG.ifz rfl (t := 30) rfl ⟨by omega, by omega⟩ (fun c700 => ?_) (fun c700 => ?_)
        · have c700 : (z699 : Int) ≠ 0 := c700
          replace R_z699 := R_z699 (by omega)
          refine yG.num (c := 0) rfl (fun _ _ => rfl) (by decide) ?_
          refine yG.putI A_hp.1 (w_M_thrown W H_2073) (W.2.1 _ _ H_2073 (by decide) (by decide)) rfl rfl (.inl rfl) ⟨by omega, by omega⟩ (by omega) (by omega) (fun h701 T_h701 b_h701 f_h701 y_h701 => ?_)
          have M_bWf_h701 := M_bWf_hp.fr (bAx.put (Wl := [(83076749736557242056487941267521536, 0)]) (bAx.rf A_hp.1) T_h701 b_h701 f_h701 H_2073 (by decide)) (by decide)
          have A_h701 := A_hp.put T_h701 b_h701 f_h701 H_2073 (by decide)
          have : ys h701 2073 0 = 0 := (y_h701 2073 0).trans (if_pos ⟨rfl, rfl⟩)
          refine yG.load xak rfl (fun _ _ => rfl) (v := yR 2073) rfl rfl ?_
          refine yG.getI A_h701.1 (w_M_thrown W H_2073) rfl rfl (fun z702 e_z702 i_z702 l_z702 u_z702 => ?_)
          refine yG.ifz rfl (t := 43) rfl ⟨by omega, by omega⟩ (fun c703 => ?_) (fun c703 => ?_)
          · have c703 : (z702 : Int) ≤ 0 := c703
            refine yG.load xak rfl (fun _ _ => rfl) (v := yR 2073) rfl rfl ?_
            refine yG.load xik rfl (fun _ _ => rfl) (v := yI (3)) rfl rfl ?_
            refine yG.load xik rfl (fun _ _ => rfl) (v := yI (p2)) rfl rfl ?_
            refine yG.load xik rfl (fun _ _ => rfl) (v := yI (5)) rfl rfl ?_
            refine yG.invV (rest := []) A_h701.1 (bOb (d_M W) H_2073) rfl rfl rfl rfl (c_GModel_of_3_5 W (d + 1) A_h701.1 H_2073 (p2) (by omega) (by omega)) (fun rv hp9 q9 => ?_)
            obtain ⟨⟨z704, rfl, l_z704, u_z704, R_z704⟩, e9⟩ := q9
            rw [e9]
            show yG _ _ _ _ _ _ _ _ _ _ (yI z704 :: []) _
            refine yG.store1 xik (L' := [(5, yI (z704)), (0, yR 2073), (1, yI (3)), (2, yI (p2)), (3, yI (5)), (4, yI (p4))]) rfl (fun _ _ => rfl) rfl rfl ?_
            refine yG.load xak rfl (fun _ _ => rfl) (v := yR 2073) rfl rfl ?_
            refine yG.getO A_h701.1 (w_M_field W H_2073) rfl rfl (fun r705 H_r705 O_r705 q_r705 => ?_)
            obtain rfl := u_M_field W H_r705
            refine yG.load xik rfl (fun _ _ => rfl) (v := yI (3)) rfl rfl ?_
            refine yG.load xik rfl (fun _ _ => rfl) (v := yI (p2)) rfl rfl ?_
            refine yG.load xik rfl (fun _ _ => rfl) (v := yI (5)) rfl rfl ?_
            refine yG.invS (rest := [yR 2089]) rfl rfl rfl rfl (c_GModel_f W (d + 2) A_h701.1 (3) (p2) (5) (by omega) (by omega) (by omega) (by omega) (by omega) (by omega)) (fun rv hp9 q9 => ?_)
            obtain ⟨⟨z706, rfl, l_z706, u_z706, R_z706⟩, e9⟩ := q9
            rw [e9]
            show yG _ _ _ _ _ _ _ _ _ _ (yI z706 :: [yR 2089]) _
            refine yG.load xik rfl (fun _ _ => rfl) (v := yI (p4)) rfl rfl ?_
            refine yG.iastF A_h701.1 (v_M_field W H_r705) (show yfT ((z706 : Int).toNat) = (0, (0, 9999)) from ((yfT_ix (s := 3) (k := 5) (by omega) (by omega) (by omega) (by decide)).trans rfl)) (W.2.1 _ _ H_r705 (by decide) (by decide)) rfl (by omega) (by omega) ⟨by omega, by omega⟩ (by omega) (by omega) (fun h707 T_h707 b_h707 f_h707 y_h707 => ?_)
            have M_bWf_h707 : bWf G h707 := M_bWf_h701.putx y_h707 (fun j hj h9 hb => by unfold mBp at hb; omega) (fun j hj h9 hb => by unfold mXp at hb; omega)
            have A_h707 := A_h701.put T_h707 b_h707 f_h707 H_r705 (bAll_ok (by decide) _)
            have : ys h707 2073 0 = ys h701 2073 0 := (y_h707 2073 0).trans (if_neg (fun e => (bRo.ne H_2073 H_r705 (by decide)) e.1))
            refine yG.load xak rfl (fun _ _ => rfl) (v := yR 2073) rfl rfl ?_
            refine yG.invV (rest := []) A_h707.1 (bOb (d_M W) H_2073) rfl rfl rfl rfl (c_GModel_changed W (d + 2) A_h707.1 H_2073) (fun rv h708 q9 => ?_)
            obtain ⟨⟨rfl, R_z709⟩, B_h708⟩ := q9
            have A_h708 := A_h707.tr B_h708 (by decide)
            have M_bWf_h708 := M_bWf_h707.fr B_h708 (by decide)
            have : ys h708 2073 0 = ys h707 2073 0 := B_h708.ys H_2073 (by decide)
            show yG _ _ _ _ _ _ _ _ _ _ [] _
            refine yG.load xik rfl (fun _ _ => rfl) (v := yI (z704)) rfl rfl ?_
            refine yG.ret rfl (fun _ _ => rfl) ?_
            exact (yP.int ⟨by omega, by omega⟩ ⟨⟨⟨z704, rfl, by omega, by omega, by omega⟩, A_h708⟩, M_bWf_h708⟩)
          · have c703 : (z702 : Int) > 0 := c703
            exfalso; omega
        · have c700 : (z699 : Int) = 0 := c700
          clear R_z699
          refine yG.num (c := 2) rfl (fun _ _ => rfl) (by decide) ?_
          refine yG.goto rfl (t := 31) rfl ?_
          refine yG.putI A_hp.1 (w_M_thrown W H_2073) (W.2.1 _ _ H_2073 (by decide) (by decide)) rfl rfl (.inl rfl) ⟨by omega, by omega⟩ (by omega) (by omega) (fun h710 T_h710 b_h710 f_h710 y_h710 => ?_)
          have M_bWf_h710 := M_bWf_hp.fr (bAx.put (Wl := [(83076749736557242056487941267521536, 0)]) (bAx.rf A_hp.1) T_h710 b_h710 f_h710 H_2073 (by decide)) (by decide)
          have A_h710 := A_hp.put T_h710 b_h710 f_h710 H_2073 (by decide)
          have : ys h710 2073 0 = 2 := (y_h710 2073 0).trans (if_pos ⟨rfl, rfl⟩)
          refine yG.load xak rfl (fun _ _ => rfl) (v := yR 2073) rfl rfl ?_
          refine yG.getI A_h710.1 (w_M_thrown W H_2073) rfl rfl (fun z711 e_z711 i_z711 l_z711 u_z711 => ?_)
          refine yG.ifz rfl (t := 43) rfl ⟨by omega, by omega⟩ (fun c712 => ?_) (fun c712 => ?_)
          · have c712 : (z711 : Int) ≤ 0 := c712
            exfalso; omega
          · have c712 : (z711 : Int) > 0 := c712
            refine yG.num (c := 0) rfl (fun _ _ => rfl) (by decide) ?_
            refine yG.ret rfl (fun _ _ => rfl) ?_
            exact (yP.int ⟨by omega, by omega⟩ ⟨⟨⟨0, rfl, by omega, by omega, by omega⟩, A_h710⟩, M_bWf_h710⟩)
      · have c698 : (z697 : Int) = 0 := c698
        clear R_z697
        refine yG.num (c := 1) rfl (fun _ _ => rfl) (by decide) ?_
        refine yG.goto rfl (t := 31) rfl ?_
        refine yG.putI A_hp.1 (w_M_thrown W H_2073) (W.2.1 _ _ H_2073 (by decide) (by decide)) rfl rfl (.inl rfl) ⟨by omega, by omega⟩ (by omega) (by omega) (fun h713 T_h713 b_h713 f_h713 y_h713 => ?_)
        have M_bWf_h713 := M_bWf_hp.fr (bAx.put (Wl := [(83076749736557242056487941267521536, 0)]) (bAx.rf A_hp.1) T_h713 b_h713 f_h713 H_2073 (by decide)) (by decide)
        have A_h713 := A_hp.put T_h713 b_h713 f_h713 H_2073 (by decide)
        have : ys h713 2073 0 = 1 := (y_h713 2073 0).trans (if_pos ⟨rfl, rfl⟩)
        refine yG.load xak rfl (fun _ _ => rfl) (v := yR 2073) rfl rfl ?_
        refine yG.getI A_h713.1 (w_M_thrown W H_2073) rfl rfl (fun z714 e_z714 i_z714 l_z714 u_z714 => ?_)
        refine yG.ifz rfl (t := 43) rfl ⟨by omega, by omega⟩ (fun c715 => ?_) (fun c715 => ?_)
        · have c715 : (z714 : Int) ≤ 0 := c715
          exfalso; omega
        · have c715 : (z714 : Int) > 0 := c715
          refine yG.num (c := 0) rfl (fun _ _ => rfl) (by decide) ?_
          refine yG.ret rfl (fun _ _ => rfl) ?_
          exact (yP.int ⟨by omega, by omega⟩ ⟨⟨⟨0, rfl, by omega, by omega, by omega⟩, A_h713⟩, M_bWf_h713⟩)
    · subst c581
      refine yG.load xak rfl (fun _ _ => rfl) (v := yR 2073) rfl rfl ?_
      refine yG.load xak rfl (fun _ _ => rfl) (v := yR 2073) rfl rfl ?_
      refine yG.load xik rfl (fun _ _ => rfl) (v := yI (3)) rfl rfl ?_
      refine yG.load xik rfl (fun _ _ => rfl) (v := yI (p2)) rfl rfl ?_
      refine yG.invV (rest := [yR 2073]) A_hp.1 (bOb (d_M W) H_2073) rfl rfl rfl rfl (c_GModel_isObject W (d + 1) A_hp.1 H_2073 (3) (p2) (by omega) (by omega) (by omega) (by omega)) (fun rv hp9 q9 => ?_)
      obtain ⟨⟨z716, rfl, l_z716, u_z716, R_z716⟩, e9⟩ := q9
      rw [e9]
      show yG _ _ _ _ _ _ _ _ _ _ (yI z716 :: [yR 2073]) _
      refine yG.ifz rfl (t := 14) rfl ⟨by omega, by omega⟩ (fun c717 => ?_) (fun c717 => ?_)
      · have c717 : (z716 : Int) ≠ 0 := c717
        replace R_z716 := R_z716 (by omega)
        refine yG.load xak rfl (fun _ _ => rfl) (v := yR 2073) rfl rfl ?_
        refine yG.load xik rfl (fun _ _ => rfl) (v := yI (3)) rfl rfl ?_
        refine yG.load xik rfl (fun _ _ => rfl) (v := yI (p2)) rfl rfl ?_
        refine yG.load xik rfl (fun _ _ => rfl) (v := yI (6)) rfl rfl ?_
        refine yG.load xik rfl (fun _ _ => rfl) (v := yI (p4)) rfl rfl ?_
        refine yG.invV (rest := [yR 2073]) A_hp.1 (bOb (d_M W) H_2073) rfl rfl rfl rfl (c_GModel_mayBe_3_6 W d A_hp.1 H_2073 (p2) (p4) (by omega) (by omega) (by omega) (by omega)) (fun rv hp9 q9 => ?_)
        obtain ⟨⟨z718, rfl, l_z718, u_z718, R_z718⟩, e9⟩ := q9
        rw [e9]
        show yG _ _ _ _ _ _ _ _ _ _ (yI z718 :: [yR 2073]) _
        refine yG.ifz rfl (t := 30) rfl ⟨by omega, by omega⟩ (fun c719 => ?_) (fun c719 => ?_)
        · have c719 : (z718 : Int) ≠ 0 := c719
          replace R_z718 := R_z718 (by omega)
          refine yG.num (c := 0) rfl (fun _ _ => rfl) (by decide) ?_
          refine yG.putI A_hp.1 (w_M_thrown W H_2073) (W.2.1 _ _ H_2073 (by decide) (by decide)) rfl rfl (.inl rfl) ⟨by omega, by omega⟩ (by omega) (by omega) (fun h720 T_h720 b_h720 f_h720 y_h720 => ?_)
          have M_bWf_h720 := M_bWf_hp.fr (bAx.put (Wl := [(83076749736557242056487941267521536, 0)]) (bAx.rf A_hp.1) T_h720 b_h720 f_h720 H_2073 (by decide)) (by decide)
          have A_h720 := A_hp.put T_h720 b_h720 f_h720 H_2073 (by decide)
          have : ys h720 2073 0 = 0 := (y_h720 2073 0).trans (if_pos ⟨rfl, rfl⟩)
          refine yG.load xak rfl (fun _ _ => rfl) (v := yR 2073) rfl rfl ?_
          refine yG.getI A_h720.1 (w_M_thrown W H_2073) rfl rfl (fun z721 e_z721 i_z721 l_z721 u_z721 => ?_)
          refine yG.ifz rfl (t := 43) rfl ⟨by omega, by omega⟩ (fun c722 => ?_) (fun c722 => ?_)
          · have c722 : (z721 : Int) ≤ 0 := c722
            refine yG.load xak rfl (fun _ _ => rfl) (v := yR 2073) rfl rfl ?_
            refine yG.load xik rfl (fun _ _ => rfl) (v := yI (3)) rfl rfl ?_
            refine yG.load xik rfl (fun _ _ => rfl) (v := yI (p2)) rfl rfl ?_
            refine yG.load xik rfl (fun _ _ => rfl) (v := yI (6)) rfl rfl ?_
            refine yG.invV (rest := []) A_h720.1 (bOb (d_M W) H_2073) rfl rfl rfl rfl (c_GModel_of_3_6 W (d + 1) A_h720.1 H_2073 (p2) (by omega) (by omega)) (fun rv hp9 q9 => ?_)
            obtain ⟨⟨z723, rfl, l_z723, u_z723, R_z723⟩, e9⟩ := q9
            rw [e9]
            show yG _ _ _ _ _ _ _ _ _ _ (yI z723 :: []) _
            refine yG.store1 xik (L' := [(5, yI (z723)), (0, yR 2073), (1, yI (3)), (2, yI (p2)), (3, yI (6)), (4, yI (p4))]) rfl (fun _ _ => rfl) rfl rfl ?_
            refine yG.load xak rfl (fun _ _ => rfl) (v := yR 2073) rfl rfl ?_
            refine yG.getO A_h720.1 (w_M_field W H_2073) rfl rfl (fun r724 H_r724 O_r724 q_r724 => ?_)
            obtain rfl := u_M_field W H_r724
            refine yG.load xik rfl (fun _ _ => rfl) (v := yI (3)) rfl rfl ?_
            refine yG.load xik rfl (fun _ _ => rfl) (v := yI (p2)) rfl rfl ?_
            refine yG.load xik rfl (fun _ _ => rfl) (v := yI (6)) rfl rfl ?_
            refine yG.invS (rest := [yR 2089]) rfl rfl rfl rfl (c_GModel_f W (d + 2) A_h720.1 (3) (p2) (6) (by omega) (by omega) (by omega) (by omega) (by omega) (by omega)) (fun rv hp9 q9 => ?_)
            obtain ⟨⟨z725, rfl, l_z725, u_z725, R_z725⟩, e9⟩ := q9
            rw [e9]
            show yG _ _ _ _ _ _ _ _ _ _ (yI z725 :: [yR 2089]) _
            refine yG.load xik rfl (fun _ _ => rfl) (v := yI (p4)) rfl rfl ?_
            refine yG.iastF A_h720.1 (v_M_field W H_r724) (show yfT ((z725 : Int).toNat) = (0, (0, 999)) from ((yfT_ix (s := 3) (k := 6) (by omega) (by omega) (by omega) (by decide)).trans rfl)) (W.2.1 _ _ H_r724 (by decide) (by decide)) rfl (by omega) (by omega) ⟨by omega, by omega⟩ (by omega) (by omega) (fun h726 T_h726 b_h726 f_h726 y_h726 => ?_)
            have M_bWf_h726 : bWf G h726 := M_bWf_h720.putx y_h726 (fun j hj h9 hb => by unfold mBp at hb; omega) (fun j hj h9 hb => by unfold mXp at hb; omega)
            have A_h726 := A_h720.put T_h726 b_h726 f_h726 H_r724 (bAll_ok (by decide) _)
            have : ys h726 2073 0 = ys h720 2073 0 := (y_h726 2073 0).trans (if_neg (fun e => (bRo.ne H_2073 H_r724 (by decide)) e.1))
            refine yG.load xak rfl (fun _ _ => rfl) (v := yR 2073) rfl rfl ?_
            refine yG.invV (rest := []) A_h726.1 (bOb (d_M W) H_2073) rfl rfl rfl rfl (c_GModel_changed W (d + 2) A_h726.1 H_2073) (fun rv h727 q9 => ?_)
            obtain ⟨⟨rfl, R_z728⟩, B_h727⟩ := q9
            have A_h727 := A_h726.tr B_h727 (by decide)
            have M_bWf_h727 := M_bWf_h726.fr B_h727 (by decide)
            have : ys h727 2073 0 = ys h726 2073 0 := B_h727.ys H_2073 (by decide)
            show yG _ _ _ _ _ _ _ _ _ _ [] _
            refine yG.load xik rfl (fun _ _ => rfl) (v := yI (z723)) rfl rfl ?_
            refine yG.ret rfl (fun _ _ => rfl) ?_
            exact (yP.int ⟨by omega, by omega⟩ ⟨⟨⟨z723, rfl, by omega, by omega, by omega⟩, A_h727⟩, M_bWf_h727⟩)
          · have c722 : (z721 : Int) > 0 := c722
            exfalso; omega
        · have c719 : (z718 : Int) = 0 := c719
          clear R_z718
          refine yG.num (c := 2) rfl (fun _ _ => rfl) (by decide) ?_
          refine yG.goto rfl (t := 31) rfl ?_
          refine yG.putI A_hp.1 (w_M_thrown W H_2073) (W.2.1 _ _ H_2073 (by decide) (by decide)) rfl rfl (.inl rfl) ⟨by omega, by omega⟩ (by omega) (by omega) (fun h729 T_h729 b_h729 f_h729 y_h729 => ?_)
          have M_bWf_h729 := M_bWf_hp.fr (bAx.put (Wl := [(83076749736557242056487941267521536, 0)]) (bAx.rf A_hp.1) T_h729 b_h729 f_h729 H_2073 (by decide)) (by decide)
          have A_h729 := A_hp.put T_h729 b_h729 f_h729 H_2073 (by decide)
          have : ys h729 2073 0 = 2 := (y_h729 2073 0).trans (if_pos ⟨rfl, rfl⟩)
          refine yG.load xak rfl (fun _ _ => rfl) (v := yR 2073) rfl rfl ?_
          refine yG.getI A_h729.1 (w_M_thrown W H_2073) rfl rfl (fun z730 e_z730 i_z730 l_z730 u_z730 => ?_)
          refine yG.ifz rfl (t := 43) rfl ⟨by omega, by omega⟩ (fun c731 => ?_) (fun c731 => ?_)
          · have c731 : (z730 : Int) ≤ 0 := c731
            exfalso; omega
          · have c731 : (z730 : Int) > 0 := c731
            refine yG.num (c := 0) rfl (fun _ _ => rfl) (by decide) ?_
            refine yG.ret rfl (fun _ _ => rfl) ?_
            exact (yP.int ⟨by omega, by omega⟩ ⟨⟨⟨0, rfl, by omega, by omega, by omega⟩, A_h729⟩, M_bWf_h729⟩)
      · have c717 : (z716 : Int) = 0 := c717
        clear R_z716
        refine yG.num (c := 1) rfl (fun _ _ => rfl) (by decide) ?_
        refine yG.goto rfl (t := 31) rfl ?_
        refine yG.putI A_hp.1 (w_M_thrown W H_2073) (W.2.1 _ _ H_2073 (by decide) (by decide)) rfl rfl (.inl rfl) ⟨by omega, by omega⟩ (by omega) (by omega) (fun h732 T_h732 b_h732 f_h732 y_h732 => ?_)
        have M_bWf_h732 := M_bWf_hp.fr (bAx.put (Wl := [(83076749736557242056487941267521536, 0)]) (bAx.rf A_hp.1) T_h732 b_h732 f_h732 H_2073 (by decide)) (by decide)
        have A_h732 := A_hp.put T_h732 b_h732 f_h732 H_2073 (by decide)
        have : ys h732 2073 0 = 1 := (y_h732 2073 0).trans (if_pos ⟨rfl, rfl⟩)
        refine yG.load xak rfl (fun _ _ => rfl) (v := yR 2073) rfl rfl ?_
        refine yG.getI A_h732.1 (w_M_thrown W H_2073) rfl rfl (fun z733 e_z733 i_z733 l_z733 u_z733 => ?_)
        refine yG.ifz rfl (t := 43) rfl ⟨by omega, by omega⟩ (fun c734 => ?_) (fun c734 => ?_)
        · have c734 : (z733 : Int) ≤ 0 := c734
          exfalso; omega
        · have c734 : (z733 : Int) > 0 := c734
          refine yG.num (c := 0) rfl (fun _ _ => rfl) (by decide) ?_
          refine yG.ret rfl (fun _ _ => rfl) ?_
          exact (yP.int ⟨by omega, by omega⟩ ⟨⟨⟨0, rfl, by omega, by omega, by omega⟩, A_h732⟩, M_bWf_h732⟩)
    · subst c581
      refine yG.load xak rfl (fun _ _ => rfl) (v := yR 2073) rfl rfl ?_
      refine yG.load xak rfl (fun _ _ => rfl) (v := yR 2073) rfl rfl ?_
      refine yG.load xik rfl (fun _ _ => rfl) (v := yI (3)) rfl rfl ?_
      refine yG.load xik rfl (fun _ _ => rfl) (v := yI (p2)) rfl rfl ?_
      refine yG.invV (rest := [yR 2073]) A_hp.1 (bOb (d_M W) H_2073) rfl rfl rfl rfl (c_GModel_isObject W (d + 1) A_hp.1 H_2073 (3) (p2) (by omega) (by omega) (by omega) (by omega)) (fun rv hp9 q9 => ?_)
      obtain ⟨⟨z735, rfl, l_z735, u_z735, R_z735⟩, e9⟩ := q9
      rw [e9]
      show yG _ _ _ _ _ _ _ _ _ _ (yI z735 :: [yR 2073]) _
      refine yG.ifz rfl (t := 14) rfl ⟨by omega, by omega⟩ (fun c736 => ?_) (fun c736 => ?_)
      · have c736 : (z735 : Int) ≠ 0 := c736
        replace R_z735 := R_z735 (by omega)
        refine yG.load xak rfl (fun _ _ => rfl) (v := yR 2073) rfl rfl ?_
        refine yG.load xik rfl (fun _ _ => rfl) (v := yI (3)) rfl rfl ?_
        refine yG.load xik rfl (fun _ _ => rfl) (v := yI (p2)) rfl rfl ?_
        refine yG.load xik rfl (fun _ _ => rfl) (v := yI (7)) rfl rfl ?_
        refine yG.load xik rfl (fun _ _ => rfl) (v := yI (p4)) rfl rfl ?_
        refine yG.invV (rest := [yR 2073]) A_hp.1 (bOb (d_M W) H_2073) rfl rfl rfl rfl (c_GModel_mayBe_3_7 W (d + 1) A_hp.1 H_2073 (p2) (p4) (by omega) (by omega) (by omega) (by omega)) (fun rv hp9 q9 => ?_)
        obtain ⟨⟨z737, rfl, l_z737, u_z737, R_z737⟩, e9⟩ := q9
        rw [e9]
        show yG _ _ _ _ _ _ _ _ _ _ (yI z737 :: [yR 2073]) _
        refine yG.ifz rfl (t := 30) rfl ⟨by omega, by omega⟩ (fun c738 => ?_) (fun c738 => ?_)
        · have c738 : (z737 : Int) ≠ 0 := c738
          replace R_z737 := R_z737 (by omega)
          refine yG.num (c := 0) rfl (fun _ _ => rfl) (by decide) ?_
          refine yG.putI A_hp.1 (w_M_thrown W H_2073) (W.2.1 _ _ H_2073 (by decide) (by decide)) rfl rfl (.inl rfl) ⟨by omega, by omega⟩ (by omega) (by omega) (fun h739 T_h739 b_h739 f_h739 y_h739 => ?_)
          have M_bWf_h739 := M_bWf_hp.fr (bAx.put (Wl := [(83076749736557242056487941267521536, 0)]) (bAx.rf A_hp.1) T_h739 b_h739 f_h739 H_2073 (by decide)) (by decide)
          have A_h739 := A_hp.put T_h739 b_h739 f_h739 H_2073 (by decide)
          have : ys h739 2073 0 = 0 := (y_h739 2073 0).trans (if_pos ⟨rfl, rfl⟩)
          refine yG.load xak rfl (fun _ _ => rfl) (v := yR 2073) rfl rfl ?_
          refine yG.getI A_h739.1 (w_M_thrown W H_2073) rfl rfl (fun z740 e_z740 i_z740 l_z740 u_z740 => ?_)
          refine yG.ifz rfl (t := 43) rfl ⟨by omega, by omega⟩ (fun c741 => ?_) (fun c741 => ?_)
          · have c741 : (z740 : Int) ≤ 0 := c741
            refine yG.load xak rfl (fun _ _ => rfl) (v := yR 2073) rfl rfl ?_
            refine yG.load xik rfl (fun _ _ => rfl) (v := yI (3)) rfl rfl ?_
            refine yG.load xik rfl (fun _ _ => rfl) (v := yI (p2)) rfl rfl ?_
            refine yG.load xik rfl (fun _ _ => rfl) (v := yI (7)) rfl rfl ?_
            refine yG.invV (rest := []) A_h739.1 (bOb (d_M W) H_2073) rfl rfl rfl rfl (c_GModel_of_3_7 W (d + 1) A_h739.1 H_2073 (p2) (by omega) (by omega)) (fun rv hp9 q9 => ?_)
            obtain ⟨⟨z742, rfl, l_z742, u_z742, R_z742⟩, e9⟩ := q9
            rw [e9]
            show yG _ _ _ _ _ _ _ _ _ _ (yI z742 :: []) _
            refine yG.store1 xik (L' := [(5, yI (z742)), (0, yR 2073), (1, yI (3)), (2, yI (p2)), (3, yI (7)), (4, yI (p4))]) rfl (fun _ _ => rfl) rfl rfl ?_
            refine yG.load xak rfl (fun _ _ => rfl) (v := yR 2073) rfl rfl ?_
            refine yG.getO A_h739.1 (w_M_field W H_2073) rfl rfl (fun r743 H_r743 O_r743 q_r743 => ?_)
            obtain rfl := u_M_field W H_r743
            refine yG.load xik rfl (fun _ _ => rfl) (v := yI (3)) rfl rfl ?_
            refine yG.load xik rfl (fun _ _ => rfl) (v := yI (p2)) rfl rfl ?_
            refine yG.load xik rfl (fun _ _ => rfl) (v := yI (7)) rfl rfl ?_
            refine yG.invS (rest := [yR 2089]) rfl rfl rfl rfl (c_GModel_f W (d + 2) A_h739.1 (3) (p2) (7) (by omega) (by omega) (by omega) (by omega) (by omega) (by omega)) (fun rv hp9 q9 => ?_)
            obtain ⟨⟨z744, rfl, l_z744, u_z744, R_z744⟩, e9⟩ := q9
            rw [e9]
            show yG _ _ _ _ _ _ _ _ _ _ (yI z744 :: [yR 2089]) _
            refine yG.load xik rfl (fun _ _ => rfl) (v := yI (p4)) rfl rfl ?_
            refine yG.iastF A_h739.1 (v_M_field W H_r743) (show yfT ((z744 : Int).toNat) = (0, (0, 9999)) from ((yfT_ix (s := 3) (k := 7) (by omega) (by omega) (by omega) (by decide)).trans rfl)) (W.2.1 _ _ H_r743 (by decide) (by decide)) rfl (by omega) (by omega) ⟨by omega, by omega⟩ (by omega) (by omega) (fun h745 T_h745 b_h745 f_h745 y_h745 => ?_)
            have M_bWf_h745 : bWf G h745 := M_bWf_h739.putx y_h745 (fun j hj h9 hb => by unfold mBp at hb; omega) (fun j hj h9 hb => by unfold mXp at hb; omega)
            have A_h745 := A_h739.put T_h745 b_h745 f_h745 H_r743 (bAll_ok (by decide) _)
            have : ys h745 2073 0 = ys h739 2073 0 := (y_h745 2073 0).trans (if_neg (fun e => (bRo.ne H_2073 H_r743 (by decide)) e.1))
            refine yG.load xak rfl (fun _ _ => rfl) (v := yR 2073) rfl rfl ?_
            refine yG.invV (rest := []) A_h745.1 (bOb (d_M W) H_2073) rfl rfl rfl rfl (c_GModel_changed W (d + 2) A_h745.1 H_2073) (fun rv h746 q9 => ?_)
            obtain ⟨⟨rfl, R_z747⟩, B_h746⟩ := q9
            have A_h746 := A_h745.tr B_h746 (by decide)
            have M_bWf_h746 := M_bWf_h745.fr B_h746 (by decide)
            have : ys h746 2073 0 = ys h745 2073 0 := B_h746.ys H_2073 (by decide)
            show yG _ _ _ _ _ _ _ _ _ _ [] _
            refine yG.load xik rfl (fun _ _ => rfl) (v := yI (z742)) rfl rfl ?_
            refine yG.ret rfl (fun _ _ => rfl) ?_
            exact (yP.int ⟨by omega, by omega⟩ ⟨⟨⟨z742, rfl, by omega, by omega, by omega⟩, A_h746⟩, M_bWf_h746⟩)
          · have c741 : (z740 : Int) > 0 := c741
            exfalso; omega
        · have c738 : (z737 : Int) = 0 := c738
          clear R_z737
          refine yG.num (c := 2) rfl (fun _ _ => rfl) (by decide) ?_
          refine yG.goto rfl (t := 31) rfl ?_
          refine yG.putI A_hp.1 (w_M_thrown W H_2073) (W.2.1 _ _ H_2073 (by decide) (by decide)) rfl rfl (.inl rfl) ⟨by omega, by omega⟩ (by omega) (by omega) (fun h748 T_h748 b_h748 f_h748 y_h748 => ?_)
          have M_bWf_h748 := M_bWf_hp.fr (bAx.put (Wl := [(83076749736557242056487941267521536, 0)]) (bAx.rf A_hp.1) T_h748 b_h748 f_h748 H_2073 (by decide)) (by decide)
          have A_h748 := A_hp.put T_h748 b_h748 f_h748 H_2073 (by decide)
          have : ys h748 2073 0 = 2 := (y_h748 2073 0).trans (if_pos ⟨rfl, rfl⟩)
          refine yG.load xak rfl (fun _ _ => rfl) (v := yR 2073) rfl rfl ?_
          refine yG.getI A_h748.1 (w_M_thrown W H_2073) rfl rfl (fun z749 e_z749 i_z749 l_z749 u_z749 => ?_)
          refine yG.ifz rfl (t := 43) rfl ⟨by omega, by omega⟩ (fun c750 => ?_) (fun c750 => ?_)
          · have c750 : (z749 : Int) ≤ 0 := c750
            exfalso; omega
          · have c750 : (z749 : Int) > 0 := c750
            refine yG.num (c := 0) rfl (fun _ _ => rfl) (by decide) ?_
            refine yG.ret rfl (fun _ _ => rfl) ?_
            exact (yP.int ⟨by omega, by omega⟩ ⟨⟨⟨0, rfl, by omega, by omega, by omega⟩, A_h748⟩, M_bWf_h748⟩)
      · have c736 : (z735 : Int) = 0 := c736
        clear R_z735
        refine yG.num (c := 1) rfl (fun _ _ => rfl) (by decide) ?_
        refine yG.goto rfl (t := 31) rfl ?_
        refine yG.putI A_hp.1 (w_M_thrown W H_2073) (W.2.1 _ _ H_2073 (by decide) (by decide)) rfl rfl (.inl rfl) ⟨by omega, by omega⟩ (by omega) (by omega) (fun h751 T_h751 b_h751 f_h751 y_h751 => ?_)
        have M_bWf_h751 := M_bWf_hp.fr (bAx.put (Wl := [(83076749736557242056487941267521536, 0)]) (bAx.rf A_hp.1) T_h751 b_h751 f_h751 H_2073 (by decide)) (by decide)
        have A_h751 := A_hp.put T_h751 b_h751 f_h751 H_2073 (by decide)
        have : ys h751 2073 0 = 1 := (y_h751 2073 0).trans (if_pos ⟨rfl, rfl⟩)
        refine yG.load xak rfl (fun _ _ => rfl) (v := yR 2073) rfl rfl ?_
        refine yG.getI A_h751.1 (w_M_thrown W H_2073) rfl rfl (fun z752 e_z752 i_z752 l_z752 u_z752 => ?_)
        refine yG.ifz rfl (t := 43) rfl ⟨by omega, by omega⟩ (fun c753 => ?_) (fun c753 => ?_)
        · have c753 : (z752 : Int) ≤ 0 := c753
          exfalso; omega
        · have c753 : (z752 : Int) > 0 := c753
          refine yG.num (c := 0) rfl (fun _ _ => rfl) (by decide) ?_
          refine yG.ret rfl (fun _ _ => rfl) ?_
          exact (yP.int ⟨by omega, by omega⟩ ⟨⟨⟨0, rfl, by omega, by omega, by omega⟩, A_h751⟩, M_bWf_h751⟩)
    · subst c581
      refine yG.load xak rfl (fun _ _ => rfl) (v := yR 2073) rfl rfl ?_
      refine yG.load xak rfl (fun _ _ => rfl) (v := yR 2073) rfl rfl ?_
      refine yG.load xik rfl (fun _ _ => rfl) (v := yI (3)) rfl rfl ?_
      refine yG.load xik rfl (fun _ _ => rfl) (v := yI (p2)) rfl rfl ?_
      refine yG.invV (rest := [yR 2073]) A_hp.1 (bOb (d_M W) H_2073) rfl rfl rfl rfl (c_GModel_isObject W (d + 1) A_hp.1 H_2073 (3) (p2) (by omega) (by omega) (by omega) (by omega)) (fun rv hp9 q9 => ?_)
      obtain ⟨⟨z754, rfl, l_z754, u_z754, R_z754⟩, e9⟩ := q9
      rw [e9]
      show yG _ _ _ _ _ _ _ _ _ _ (yI z754 :: [yR 2073]) _
      refine yG.ifz rfl (t := 14) rfl ⟨by omega, by omega⟩ (fun c755 => ?_) (fun c755 => ?_)
      · have c755 : (z754 : Int) ≠ 0 := c755
        replace R_z754 := R_z754 (by omega)
        refine yG.load xak rfl (fun _ _ => rfl) (v := yR 2073) rfl rfl ?_
        refine yG.load xik rfl (fun _ _ => rfl) (v := yI (3)) rfl rfl ?_
        refine yG.load xik rfl (fun _ _ => rfl) (v := yI (p2)) rfl rfl ?_
        refine yG.load xik rfl (fun _ _ => rfl) (v := yI (8)) rfl rfl ?_
        refine yG.load xik rfl (fun _ _ => rfl) (v := yI (p4)) rfl rfl ?_
        refine yG.invV (rest := [yR 2073]) A_hp.1 (bOb (d_M W) H_2073) rfl rfl rfl rfl (c_GModel_mayBe_3_8 W d A_hp.1 H_2073 (p2) (p4) (by omega) (by omega) (by omega) (by omega)) (fun rv hp9 q9 => ?_)
        obtain ⟨⟨z756, rfl, l_z756, u_z756, R_z756⟩, e9⟩ := q9
        rw [e9]
        show yG _ _ _ _ _ _ _ _ _ _ (yI z756 :: [yR 2073]) _
        refine yG.ifz rfl (t := 30) rfl ⟨by omega, by omega⟩ (fun c757 => ?_) (fun c757 => ?_)
        · have c757 : (z756 : Int) ≠ 0 := c757
          replace R_z756 := R_z756 (by omega)
          refine yG.num (c := 0) rfl (fun _ _ => rfl) (by decide) ?_
          refine yG.putI A_hp.1 (w_M_thrown W H_2073) (W.2.1 _ _ H_2073 (by decide) (by decide)) rfl rfl (.inl rfl) ⟨by omega, by omega⟩ (by omega) (by omega) (fun h758 T_h758 b_h758 f_h758 y_h758 => ?_)
          have M_bWf_h758 := M_bWf_hp.fr (bAx.put (Wl := [(83076749736557242056487941267521536, 0)]) (bAx.rf A_hp.1) T_h758 b_h758 f_h758 H_2073 (by decide)) (by decide)
          have A_h758 := A_hp.put T_h758 b_h758 f_h758 H_2073 (by decide)
          have : ys h758 2073 0 = 0 := (y_h758 2073 0).trans (if_pos ⟨rfl, rfl⟩)
          refine yG.load xak rfl (fun _ _ => rfl) (v := yR 2073) rfl rfl ?_
          refine yG.getI A_h758.1 (w_M_thrown W H_2073) rfl rfl (fun z759 e_z759 i_z759 l_z759 u_z759 => ?_)
          refine yG.ifz rfl (t := 43) rfl ⟨by omega, by omega⟩ (fun c760 => ?_) (fun c760 => ?_)
          · have c760 : (z759 : Int) ≤ 0 := c760
            refine yG.load xak rfl (fun _ _ => rfl) (v := yR 2073) rfl rfl ?_
            refine yG.load xik rfl (fun _ _ => rfl) (v := yI (3)) rfl rfl ?_
            refine yG.load xik rfl (fun _ _ => rfl) (v := yI (p2)) rfl rfl ?_
            refine yG.load xik rfl (fun _ _ => rfl) (v := yI (8)) rfl rfl ?_
            refine yG.invV (rest := []) A_h758.1 (bOb (d_M W) H_2073) rfl rfl rfl rfl (c_GModel_of_3_8 W (d + 1) A_h758.1 H_2073 (p2) (by omega) (by omega)) (fun rv hp9 q9 => ?_)
            obtain ⟨⟨z761, rfl, l_z761, u_z761, R_z761⟩, e9⟩ := q9
            rw [e9]
            show yG _ _ _ _ _ _ _ _ _ _ (yI z761 :: []) _
            refine yG.store1 xik (L' := [(5, yI (z761)), (0, yR 2073), (1, yI (3)), (2, yI (p2)), (3, yI (8)), (4, yI (p4))]) rfl (fun _ _ => rfl) rfl rfl ?_
            refine yG.load xak rfl (fun _ _ => rfl) (v := yR 2073) rfl rfl ?_
            refine yG.getO A_h758.1 (w_M_field W H_2073) rfl rfl (fun r762 H_r762 O_r762 q_r762 => ?_)
            obtain rfl := u_M_field W H_r762
            refine yG.load xik rfl (fun _ _ => rfl) (v := yI (3)) rfl rfl ?_
            refine yG.load xik rfl (fun _ _ => rfl) (v := yI (p2)) rfl rfl ?_
            refine yG.load xik rfl (fun _ _ => rfl) (v := yI (8)) rfl rfl ?_
            refine yG.invS (rest := [yR 2089]) rfl rfl rfl rfl (c_GModel_f W (d + 2) A_h758.1 (3) (p2) (8) (by omega) (by omega) (by omega) (by omega) (by omega) (by omega)) (fun rv hp9 q9 => ?_)
            obtain ⟨⟨z763, rfl, l_z763, u_z763, R_z763⟩, e9⟩ := q9
            rw [e9]
            show yG _ _ _ _ _ _ _ _ _ _ (yI z763 :: [yR 2089]) _
            refine yG.load xik rfl (fun _ _ => rfl) (v := yI (p4)) rfl rfl ?_
            refine yG.iastF A_h758.1 (v_M_field W H_r762) (show yfT ((z763 : Int).toNat) = (0, (0, 999)) from ((yfT_ix (s := 3) (k := 8) (by omega) (by omega) (by omega) (by decide)).trans rfl)) (W.2.1 _ _ H_r762 (by decide) (by decide)) rfl (by omega) (by omega) ⟨by omega, by omega⟩ (by omega) (by omega) (fun h764 T_h764 b_h764 f_h764 y_h764 => ?_)
            have M_bWf_h764 : bWf G h764 := M_bWf_h758.putx y_h764 (fun j hj h9 hb => by unfold mBp at hb; omega) (fun j hj h9 hb => by unfold mXp at hb; omega)
            have A_h764 := A_h758.put T_h764 b_h764 f_h764 H_r762 (bAll_ok (by decide) _)
            have : ys h764 2073 0 = ys h758 2073 0 := (y_h764 2073 0).trans (if_neg (fun e => (bRo.ne H_2073 H_r762 (by decide)) e.1))
            refine yG.load xak rfl (fun _ _ => rfl) (v := yR 2073) rfl rfl ?_
            refine yG.invV (rest := []) A_h764.1 (bOb (d_M W) H_2073) rfl rfl rfl rfl (c_GModel_changed W (d + 2) A_h764.1 H_2073) (fun rv h765 q9 => ?_)
            obtain ⟨⟨rfl, R_z766⟩, B_h765⟩ := q9
            have A_h765 := A_h764.tr B_h765 (by decide)
            have M_bWf_h765 := M_bWf_h764.fr B_h765 (by decide)
            have : ys h765 2073 0 = ys h764 2073 0 := B_h765.ys H_2073 (by decide)
            show yG _ _ _ _ _ _ _ _ _ _ [] _
            refine yG.load xik rfl (fun _ _ => rfl) (v := yI (z761)) rfl rfl ?_
            refine yG.ret rfl (fun _ _ => rfl) ?_
            exact (yP.int ⟨by omega, by omega⟩ ⟨⟨⟨z761, rfl, by omega, by omega, by omega⟩, A_h765⟩, M_bWf_h765⟩)
          · have c760 : (z759 : Int) > 0 := c760
            exfalso; omega
        · have c757 : (z756 : Int) = 0 := c757
          clear R_z756
          refine yG.num (c := 2) rfl (fun _ _ => rfl) (by decide) ?_
          refine yG.goto rfl (t := 31) rfl ?_
          refine yG.putI A_hp.1 (w_M_thrown W H_2073) (W.2.1 _ _ H_2073 (by decide) (by decide)) rfl rfl (.inl rfl) ⟨by omega, by omega⟩ (by omega) (by omega) (fun h767 T_h767 b_h767 f_h767 y_h767 => ?_)
          have M_bWf_h767 := M_bWf_hp.fr (bAx.put (Wl := [(83076749736557242056487941267521536, 0)]) (bAx.rf A_hp.1) T_h767 b_h767 f_h767 H_2073 (by decide)) (by decide)
          have A_h767 := A_hp.put T_h767 b_h767 f_h767 H_2073 (by decide)
          have : ys h767 2073 0 = 2 := (y_h767 2073 0).trans (if_pos ⟨rfl, rfl⟩)
          refine yG.load xak rfl (fun _ _ => rfl) (v := yR 2073) rfl rfl ?_
          refine yG.getI A_h767.1 (w_M_thrown W H_2073) rfl rfl (fun z768 e_z768 i_z768 l_z768 u_z768 => ?_)
          refine yG.ifz rfl (t := 43) rfl ⟨by omega, by omega⟩ (fun c769 => ?_) (fun c769 => ?_)
          · have c769 : (z768 : Int) ≤ 0 := c769
            exfalso; omega
          · have c769 : (z768 : Int) > 0 := c769
            refine yG.num (c := 0) rfl (fun _ _ => rfl) (by decide) ?_
            refine yG.ret rfl (fun _ _ => rfl) ?_
            exact (yP.int ⟨by omega, by omega⟩ ⟨⟨⟨0, rfl, by omega, by omega, by omega⟩, A_h767⟩, M_bWf_h767⟩)
      · have c755 : (z754 : Int) = 0 := c755
        clear R_z754
        refine yG.num (c := 1) rfl (fun _ _ => rfl) (by decide) ?_
        refine yG.goto rfl (t := 31) rfl ?_
        refine yG.putI A_hp.1 (w_M_thrown W H_2073) (W.2.1 _ _ H_2073 (by decide) (by decide)) rfl rfl (.inl rfl) ⟨by omega, by omega⟩ (by omega) (by omega) (fun h770 T_h770 b_h770 f_h770 y_h770 => ?_)
        have M_bWf_h770 := M_bWf_hp.fr (bAx.put (Wl := [(83076749736557242056487941267521536, 0)]) (bAx.rf A_hp.1) T_h770 b_h770 f_h770 H_2073 (by decide)) (by decide)
        have A_h770 := A_hp.put T_h770 b_h770 f_h770 H_2073 (by decide)
        have : ys h770 2073 0 = 1 := (y_h770 2073 0).trans (if_pos ⟨rfl, rfl⟩)
        refine yG.load xak rfl (fun _ _ => rfl) (v := yR 2073) rfl rfl ?_
        refine yG.getI A_h770.1 (w_M_thrown W H_2073) rfl rfl (fun z771 e_z771 i_z771 l_z771 u_z771 => ?_)
        refine yG.ifz rfl (t := 43) rfl ⟨by omega, by omega⟩ (fun c772 => ?_) (fun c772 => ?_)
        · have c772 : (z771 : Int) ≤ 0 := c772
          exfalso; omega
        · have c772 : (z771 : Int) > 0 := c772
          refine yG.num (c := 0) rfl (fun _ _ => rfl) (by decide) ?_
          refine yG.ret rfl (fun _ _ => rfl) ?_
          exact (yP.int ⟨by omega, by omega⟩ ⟨⟨⟨0, rfl, by omega, by omega, by omega⟩, A_h770⟩, M_bWf_h770⟩)
    · subst c581
      refine yG.load xak rfl (fun _ _ => rfl) (v := yR 2073) rfl rfl ?_
      refine yG.load xak rfl (fun _ _ => rfl) (v := yR 2073) rfl rfl ?_
      refine yG.load xik rfl (fun _ _ => rfl) (v := yI (3)) rfl rfl ?_
      refine yG.load xik rfl (fun _ _ => rfl) (v := yI (p2)) rfl rfl ?_
      refine yG.invV (rest := [yR 2073]) A_hp.1 (bOb (d_M W) H_2073) rfl rfl rfl rfl (c_GModel_isObject W (d + 1) A_hp.1 H_2073 (3) (p2) (by omega) (by omega) (by omega) (by omega)) (fun rv hp9 q9 => ?_)
      obtain ⟨⟨z773, rfl, l_z773, u_z773, R_z773⟩, e9⟩ := q9
      rw [e9]
      show yG _ _ _ _ _ _ _ _ _ _ (yI z773 :: [yR 2073]) _
      refine yG.ifz rfl (t := 14) rfl ⟨by omega, by omega⟩ (fun c774 => ?_) (fun c774 => ?_)
      · have c774 : (z773 : Int) ≠ 0 := c774
        replace R_z773 := R_z773 (by omega)
        refine yG.load xak rfl (fun _ _ => rfl) (v := yR 2073) rfl rfl ?_
        refine yG.load xik rfl (fun _ _ => rfl) (v := yI (3)) rfl rfl ?_
        refine yG.load xik rfl (fun _ _ => rfl) (v := yI (p2)) rfl rfl ?_
        refine yG.load xik rfl (fun _ _ => rfl) (v := yI (9)) rfl rfl ?_
        refine yG.load xik rfl (fun _ _ => rfl) (v := yI (p4)) rfl rfl ?_
        refine yG.invV (rest := [yR 2073]) A_hp.1 (bOb (d_M W) H_2073) rfl rfl rfl rfl (c_GModel_mayBe_3_9 W (d + 1) A_hp.1 H_2073 (p2) (p4) (by omega) (by omega) (by omega) (by omega)) (fun rv hp9 q9 => ?_)
        obtain ⟨⟨z775, rfl, l_z775, u_z775, R_z775⟩, e9⟩ := q9
        rw [e9]
        show yG _ _ _ _ _ _ _ _ _ _ (yI z775 :: [yR 2073]) _
        refine yG.ifz rfl (t := 30) rfl ⟨by omega, by omega⟩ (fun c776 => ?_) (fun c776 => ?_)
        · have c776 : (z775 : Int) ≠ 0 := c776
          replace R_z775 := R_z775 (by omega)
          refine yG.num (c := 0) rfl (fun _ _ => rfl) (by decide) ?_
          refine yG.putI A_hp.1 (w_M_thrown W H_2073) (W.2.1 _ _ H_2073 (by decide) (by decide)) rfl rfl (.inl rfl) ⟨by omega, by omega⟩ (by omega) (by omega) (fun h777 T_h777 b_h777 f_h777 y_h777 => ?_)
          have M_bWf_h777 := M_bWf_hp.fr (bAx.put (Wl := [(83076749736557242056487941267521536, 0)]) (bAx.rf A_hp.1) T_h777 b_h777 f_h777 H_2073 (by decide)) (by decide)
          have A_h777 := A_hp.put T_h777 b_h777 f_h777 H_2073 (by decide)
          have : ys h777 2073 0 = 0 := (y_h777 2073 0).trans (if_pos ⟨rfl, rfl⟩)
          refine yG.load xak rfl (fun _ _ => rfl) (v := yR 2073) rfl rfl ?_
          refine yG.getI A_h777.1 (w_M_thrown W H_2073) rfl rfl (fun z778 e_z778 i_z778 l_z778 u_z778 => ?_)
          refine yG.ifz rfl (t := 43) rfl ⟨by omega, by omega⟩ (fun c779 => ?_) (fun c779 => ?_)
          · have c779 : (z778 : Int) ≤ 0 := c779
            refine yG.load xak rfl (fun _ _ => rfl) (v := yR 2073) rfl rfl ?_
            refine yG.load xik rfl (fun _ _ => rfl) (v := yI (3)) rfl rfl ?_
            refine yG.load xik rfl (fun _ _ => rfl) (v := yI (p2)) rfl rfl ?_
            refine yG.load xik rfl (fun _ _ => rfl) (v := yI (9)) rfl rfl ?_
            refine yG.invV (rest := []) A_h777.1 (bOb (d_M W) H_2073) rfl rfl rfl rfl (c_GModel_of_3_9 W (d + 1) A_h777.1 H_2073 (p2) (by omega) (by omega)) (fun rv hp9 q9 => ?_)
            obtain ⟨⟨z780, rfl, l_z780, u_z780, R_z780⟩, e9⟩ := q9
            rw [e9]
            show yG _ _ _ _ _ _ _ _ _ _ (yI z780 :: []) _
            refine yG.store1 xik (L' := [(5, yI (z780)), (0, yR 2073), (1, yI (3)), (2, yI (p2)), (3, yI (9)), (4, yI (p4))]) rfl (fun _ _ => rfl) rfl rfl ?_
            refine yG.load xak rfl (fun _ _ => rfl) (v := yR 2073) rfl rfl ?_
            refine yG.getO A_h777.1 (w_M_field W H_2073) rfl rfl (fun r781 H_r781 O_r781 q_r781 => ?_)
            obtain rfl := u_M_field W H_r781
            refine yG.load xik rfl (fun _ _ => rfl) (v := yI (3)) rfl rfl ?_
            refine yG.load xik rfl (fun _ _ => rfl) (v := yI (p2)) rfl rfl ?_
            refine yG.load xik rfl (fun _ _ => rfl) (v := yI (9)) rfl rfl ?_
            refine yG.invS (rest := [yR 2089]) rfl rfl rfl rfl (c_GModel_f W (d + 2) A_h777.1 (3) (p2) (9) (by omega) (by omega) (by omega) (by omega) (by omega) (by omega)) (fun rv hp9 q9 => ?_)
            obtain ⟨⟨z782, rfl, l_z782, u_z782, R_z782⟩, e9⟩ := q9
            rw [e9]
            show yG _ _ _ _ _ _ _ _ _ _ (yI z782 :: [yR 2089]) _
            refine yG.load xik rfl (fun _ _ => rfl) (v := yI (p4)) rfl rfl ?_
            refine yG.iastF A_h777.1 (v_M_field W H_r781) (show yfT ((z782 : Int).toNat) = (0, (0, 9)) from ((yfT_ix (s := 3) (k := 9) (by omega) (by omega) (by omega) (by decide)).trans rfl)) (W.2.1 _ _ H_r781 (by decide) (by decide)) rfl (by omega) (by omega) ⟨by omega, by omega⟩ (by omega) (by omega) (fun h783 T_h783 b_h783 f_h783 y_h783 => ?_)
            have M_bWf_h783 : bWf G h783 := M_bWf_h777.putx y_h783 (fun j hj h9 hb => by unfold mBp at hb; omega) (fun j hj h9 hb => by unfold mXp at hb; omega)
            have A_h783 := A_h777.put T_h783 b_h783 f_h783 H_r781 (bAll_ok (by decide) _)
            have : ys h783 2073 0 = ys h777 2073 0 := (y_h783 2073 0).trans (if_neg (fun e => (bRo.ne H_2073 H_r781 (by decide)) e.1))
            refine yG.load xak rfl (fun _ _ => rfl) (v := yR 2073) rfl rfl ?_
            refine yG.invV (rest := []) A_h783.1 (bOb (d_M W) H_2073) rfl rfl rfl rfl (c_GModel_changed W (d + 2) A_h783.1 H_2073) (fun rv h784 q9 => ?_)
            obtain ⟨⟨rfl, R_z785⟩, B_h784⟩ := q9
            have A_h784 := A_h783.tr B_h784 (by decide)
            have M_bWf_h784 := M_bWf_h783.fr B_h784 (by decide)
            have : ys h784 2073 0 = ys h783 2073 0 := B_h784.ys H_2073 (by decide)
            show yG _ _ _ _ _ _ _ _ _ _ [] _
            refine yG.load xik rfl (fun _ _ => rfl) (v := yI (z780)) rfl rfl ?_
            refine yG.ret rfl (fun _ _ => rfl) ?_
            exact (yP.int ⟨by omega, by omega⟩ ⟨⟨⟨z780, rfl, by omega, by omega, by omega⟩, A_h784⟩, M_bWf_h784⟩)
          · have c779 : (z778 : Int) > 0 := c779
            exfalso; omega
        · have c776 : (z775 : Int) = 0 := c776
          clear R_z775
          refine yG.num (c := 2) rfl (fun _ _ => rfl) (by decide) ?_
          refine yG.goto rfl (t := 31) rfl ?_
          refine yG.putI A_hp.1 (w_M_thrown W H_2073) (W.2.1 _ _ H_2073 (by decide) (by decide)) rfl rfl (.inl rfl) ⟨by omega, by omega⟩ (by omega) (by omega) (fun h786 T_h786 b_h786 f_h786 y_h786 => ?_)
          have M_bWf_h786 := M_bWf_hp.fr (bAx.put (Wl := [(83076749736557242056487941267521536, 0)]) (bAx.rf A_hp.1) T_h786 b_h786 f_h786 H_2073 (by decide)) (by decide)
          have A_h786 := A_hp.put T_h786 b_h786 f_h786 H_2073 (by decide)
          have : ys h786 2073 0 = 2 := (y_h786 2073 0).trans (if_pos ⟨rfl, rfl⟩)
          refine yG.load xak rfl (fun _ _ => rfl) (v := yR 2073) rfl rfl ?_
          refine yG.getI A_h786.1 (w_M_thrown W H_2073) rfl rfl (fun z787 e_z787 i_z787 l_z787 u_z787 => ?_)
          refine yG.ifz rfl (t := 43) rfl ⟨by omega, by omega⟩ (fun c788 => ?_) (fun c788 => ?_)
          · have c788 : (z787 : Int) ≤ 0 := c788
            exfalso; omega
          · have c788 : (z787 : Int) > 0 := c788
            refine yG.num (c := 0) rfl (fun _ _ => rfl) (by decide) ?_
            refine yG.ret rfl (fun _ _ => rfl) ?_
            exact (yP.int ⟨by omega, by omega⟩ ⟨⟨⟨0, rfl, by omega, by omega, by omega⟩, A_h786⟩, M_bWf_h786⟩)
      · have c774 : (z773 : Int) = 0 := c774
        clear R_z773
        refine yG.num (c := 1) rfl (fun _ _ => rfl) (by decide) ?_
        refine yG.goto rfl (t := 31) rfl ?_
        refine yG.putI A_hp.1 (w_M_thrown W H_2073) (W.2.1 _ _ H_2073 (by decide) (by decide)) rfl rfl (.inl rfl) ⟨by omega, by omega⟩ (by omega) (by omega) (fun h789 T_h789 b_h789 f_h789 y_h789 => ?_)
        have M_bWf_h789 := M_bWf_hp.fr (bAx.put (Wl := [(83076749736557242056487941267521536, 0)]) (bAx.rf A_hp.1) T_h789 b_h789 f_h789 H_2073 (by decide)) (by decide)
        have A_h789 := A_hp.put T_h789 b_h789 f_h789 H_2073 (by decide)
        have : ys h789 2073 0 = 1 := (y_h789 2073 0).trans (if_pos ⟨rfl, rfl⟩)
        refine yG.load xak rfl (fun _ _ => rfl) (v := yR 2073) rfl rfl ?_
        refine yG.getI A_h789.1 (w_M_thrown W H_2073) rfl rfl (fun z790 e_z790 i_z790 l_z790 u_z790 => ?_)
        refine yG.ifz rfl (t := 43) rfl ⟨by omega, by omega⟩ (fun c791 => ?_) (fun c791 => ?_)
        · have c791 : (z790 : Int) ≤ 0 := c791
          exfalso; omega
        · have c791 : (z790 : Int) > 0 := c791
          refine yG.num (c := 0) rfl (fun _ _ => rfl) (by decide) ?_
          refine yG.ret rfl (fun _ _ => rfl) ?_
          exact (yP.int ⟨by omega, by omega⟩ ⟨⟨⟨0, rfl, by omega, by omega, by omega⟩, A_h789⟩, M_bWf_h789⟩)
    · subst c581
      refine yG.load xak rfl (fun _ _ => rfl) (v := yR 2073) rfl rfl ?_
      refine yG.load xak rfl (fun _ _ => rfl) (v := yR 2073) rfl rfl ?_
      refine yG.load xik rfl (fun _ _ => rfl) (v := yI (3)) rfl rfl ?_
      refine yG.load xik rfl (fun _ _ => rfl) (v := yI (p2)) rfl rfl ?_
      refine yG.invV (rest := [yR 2073]) A_hp.1 (bOb (d_M W) H_2073) rfl rfl rfl rfl (c_GModel_isObject W (d + 1) A_hp.1 H_2073 (3) (p2) (by omega) (by omega) (by omega) (by omega)) (fun rv hp9 q9 => ?_)
      obtain ⟨⟨z792, rfl, l_z792, u_z792, R_z792⟩, e9⟩ := q9
      rw [e9]
      show yG _ _ _ _ _ _ _ _ _ _ (yI z792 :: [yR 2073]) _
      refine yG.ifz rfl (t := 14) rfl ⟨by omega, by omega⟩ (fun c793 => ?_) (fun c793 => ?_)
      · have c793 : (z792 : Int) ≠ 0 := c793
        replace R_z792 := R_z792 (by omega)
        refine yG.load xak rfl (fun _ _ => rfl) (v := yR 2073) rfl rfl ?_
        refine yG.load xik rfl (fun _ _ => rfl) (v := yI (3)) rfl rfl ?_
        refine yG.load xik rfl (fun _ _ => rfl) (v := yI (p2)) rfl rfl ?_
        refine yG.load xik rfl (fun _ _ => rfl) (v := yI (10)) rfl rfl ?_
        refine yG.load xik rfl (fun _ _ => rfl) (v := yI (p4)) rfl rfl ?_
        refine yG.invV (rest := [yR 2073]) A_hp.1 (bOb (d_M W) H_2073) rfl rfl rfl rfl (c_GModel_mayBe_3_10 W (d + 2) A_hp.1 H_2073 (p2) (p4) (by omega) (by omega) (by omega) (by omega)) (fun rv hp9 q9 => ?_)
        obtain ⟨⟨z794, rfl, l_z794, u_z794, R_z794⟩, e9⟩ := q9
        rw [e9]
        show yG _ _ _ _ _ _ _ _ _ _ (yI z794 :: [yR 2073]) _
        refine yG.ifz rfl (t := 30) rfl ⟨by omega, by omega⟩ (fun c795 => ?_) (fun c795 => ?_)
        · have c795 : (z794 : Int) ≠ 0 := c795
          exfalso; omega
        · have c795 : (z794 : Int) = 0 := c795
          refine yG.num (c := 2) rfl (fun _ _ => rfl) (by decide) ?_
          refine yG.goto rfl (t := 31) rfl ?_
          refine yG.putI A_hp.1 (w_M_thrown W H_2073) (W.2.1 _ _ H_2073 (by decide) (by decide)) rfl rfl (.inl rfl) ⟨by omega, by omega⟩ (by omega) (by omega) (fun h796 T_h796 b_h796 f_h796 y_h796 => ?_)
          have M_bWf_h796 := M_bWf_hp.fr (bAx.put (Wl := [(83076749736557242056487941267521536, 0)]) (bAx.rf A_hp.1) T_h796 b_h796 f_h796 H_2073 (by decide)) (by decide)
          have A_h796 := A_hp.put T_h796 b_h796 f_h796 H_2073 (by decide)
          have : ys h796 2073 0 = 2 := (y_h796 2073 0).trans (if_pos ⟨rfl, rfl⟩)
          refine yG.load xak rfl (fun _ _ => rfl) (v := yR 2073) rfl rfl ?_
          refine yG.getI A_h796.1 (w_M_thrown W H_2073) rfl rfl (fun z797 e_z797 i_z797 l_z797 u_z797 => ?_)
          refine yG.ifz rfl (t := 43) rfl ⟨by omega, by omega⟩ (fun c798 => ?_) (fun c798 => ?_)
          · have c798 : (z797 : Int) ≤ 0 := c798
            exfalso; omega
          · have c798 : (z797 : Int) > 0 := c798
            refine yG.num (c := 0) rfl (fun _ _ => rfl) (by decide) ?_
            refine yG.ret rfl (fun _ _ => rfl) ?_
            exact (yP.int ⟨by omega, by omega⟩ ⟨⟨⟨0, rfl, by omega, by omega, by omega⟩, A_h796⟩, M_bWf_h796⟩)
      · have c793 : (z792 : Int) = 0 := c793
        clear R_z792
        refine yG.num (c := 1) rfl (fun _ _ => rfl) (by decide) ?_
        refine yG.goto rfl (t := 31) rfl ?_
        refine yG.putI A_hp.1 (w_M_thrown W H_2073) (W.2.1 _ _ H_2073 (by decide) (by decide)) rfl rfl (.inl rfl) ⟨by omega, by omega⟩ (by omega) (by omega) (fun h799 T_h799 b_h799 f_h799 y_h799 => ?_)
        have M_bWf_h799 := M_bWf_hp.fr (bAx.put (Wl := [(83076749736557242056487941267521536, 0)]) (bAx.rf A_hp.1) T_h799 b_h799 f_h799 H_2073 (by decide)) (by decide)
        have A_h799 := A_hp.put T_h799 b_h799 f_h799 H_2073 (by decide)
        have : ys h799 2073 0 = 1 := (y_h799 2073 0).trans (if_pos ⟨rfl, rfl⟩)
        refine yG.load xak rfl (fun _ _ => rfl) (v := yR 2073) rfl rfl ?_
        refine yG.getI A_h799.1 (w_M_thrown W H_2073) rfl rfl (fun z800 e_z800 i_z800 l_z800 u_z800 => ?_)
        refine yG.ifz rfl (t := 43) rfl ⟨by omega, by omega⟩ (fun c801 => ?_) (fun c801 => ?_)
        · have c801 : (z800 : Int) ≤ 0 := c801
          exfalso; omega
        · have c801 : (z800 : Int) > 0 := c801
          refine yG.num (c := 0) rfl (fun _ _ => rfl) (by decide) ?_
          refine yG.ret rfl (fun _ _ => rfl) ?_
          exact (yP.int ⟨by omega, by omega⟩ ⟨⟨⟨0, rfl, by omega, by omega, by omega⟩, A_h799⟩, M_bWf_h799⟩)
  · subst c1
    rcases (show p3 ≤ (-1) ∨ p3 ≥ 11 ∨ p3 = 0 ∨ p3 = 1 ∨ p3 = 2 ∨ p3 = 3 ∨ p3 = 4 ∨ p3 = 5 ∨ p3 = 6 ∨ p3 = 7 ∨ p3 = 8 ∨ p3 = 9 ∨ p3 = 10 by omega) with c802 | c802 | c802 | c802 | c802 | c802 | c802 | c802 | c802 | c802 | c802 | c802 | c802
    · skip
      refine yG.load xak rfl (fun _ _ => rfl) (v := yR 2073) rfl rfl ?_
      refine yG.load xak rfl (fun _ _ => rfl) (v := yR 2073) rfl rfl ?_
      refine yG.load xik rfl (fun _ _ => rfl) (v := yI (4)) rfl rfl ?_
      refine yG.load xik rfl (fun _ _ => rfl) (v := yI (p2)) rfl rfl ?_
      refine yG.invV (rest := [yR 2073]) A_hp.1 (bOb (d_M W) H_2073) rfl rfl rfl rfl (c_GModel_isObject W (d + 1) A_hp.1 H_2073 (4) (p2) (by omega) (by omega) (by omega) (by omega)) (fun rv hp9 q9 => ?_)
      obtain ⟨⟨z803, rfl, l_z803, u_z803, R_z803⟩, e9⟩ := q9
      rw [e9]
      show yG _ _ _ _ _ _ _ _ _ _ (yI z803 :: [yR 2073]) _
      refine yG.ifz rfl (t := 14) rfl ⟨by omega, by omega⟩ (fun c804 => ?_) (fun c804 => ?_)
      · have c804 : (z803 : Int) ≠ 0 := c804
        replace R_z803 := R_z803 (by omega)
        refine yG.load xak rfl (fun _ _ => rfl) (v := yR 2073) rfl rfl ?_
        refine yG.load xik rfl (fun _ _ => rfl) (v := yI (4)) rfl rfl ?_
        refine yG.load xik rfl (fun _ _ => rfl) (v := yI (p2)) rfl rfl ?_
        refine yG.load xik rfl (fun _ _ => rfl) (v := yI (p3)) rfl rfl ?_
        refine yG.load xik rfl (fun _ _ => rfl) (v := yI (p4)) rfl rfl ?_
        refine yG.invV (rest := [yR 2073]) A_hp.1 (bOb (d_M W) H_2073) rfl rfl rfl rfl (c_GModel_mayBe_4_l W (d + 2) A_hp.1 H_2073 (p2) (p3) (p4) (by omega) (by omega) (by omega) (by omega) (by omega) (by omega)) (fun rv hp9 q9 => ?_)
        obtain ⟨⟨z805, rfl, l_z805, u_z805, R_z805⟩, e9⟩ := q9
        rw [e9]
        show yG _ _ _ _ _ _ _ _ _ _ (yI z805 :: [yR 2073]) _
        refine yG.ifz rfl (t := 30) rfl ⟨by omega, by omega⟩ (fun c806 => ?_) (fun c806 => ?_)
        · have c806 : (z805 : Int) ≠ 0 := c806
          exfalso; omega
        · have c806 : (z805 : Int) = 0 := c806
          refine yG.num (c := 2) rfl (fun _ _ => rfl) (by decide) ?_
          refine yG.goto rfl (t := 31) rfl ?_
          refine yG.putI A_hp.1 (w_M_thrown W H_2073) (W.2.1 _ _ H_2073 (by decide) (by decide)) rfl rfl (.inl rfl) ⟨by omega, by omega⟩ (by omega) (by omega) (fun h807 T_h807 b_h807 f_h807 y_h807 => ?_)
          have M_bWf_h807 := M_bWf_hp.fr (bAx.put (Wl := [(83076749736557242056487941267521536, 0)]) (bAx.rf A_hp.1) T_h807 b_h807 f_h807 H_2073 (by decide)) (by decide)
          have A_h807 := A_hp.put T_h807 b_h807 f_h807 H_2073 (by decide)
          have : ys h807 2073 0 = 2 := (y_h807 2073 0).trans (if_pos ⟨rfl, rfl⟩)
          refine yG.load xak rfl (fun _ _ => rfl) (v := yR 2073) rfl rfl ?_
          refine yG.getI A_h807.1 (w_M_thrown W H_2073) rfl rfl (fun z808 e_z808 i_z808 l_z808 u_z808 => ?_)
          refine yG.ifz rfl (t := 43) rfl ⟨by omega, by omega⟩ (fun c809 => ?_) (fun c809 => ?_)
          · have c809 : (z808 : Int) ≤ 0 := c809
            exfalso; omega
          · have c809 : (z808 : Int) > 0 := c809
            refine yG.num (c := 0) rfl (fun _ _ => rfl) (by decide) ?_
            refine yG.ret rfl (fun _ _ => rfl) ?_
            exact (yP.int ⟨by omega, by omega⟩ ⟨⟨⟨0, rfl, by omega, by omega, by omega⟩, A_h807⟩, M_bWf_h807⟩)
      · have c804 : (z803 : Int) = 0 := c804
        clear R_z803
        refine yG.num (c := 1) rfl (fun _ _ => rfl) (by decide) ?_
        refine yG.goto rfl (t := 31) rfl ?_
        refine yG.putI A_hp.1 (w_M_thrown W H_2073) (W.2.1 _ _ H_2073 (by decide) (by decide)) rfl rfl (.inl rfl) ⟨by omega, by omega⟩ (by omega) (by omega) (fun h810 T_h810 b_h810 f_h810 y_h810 => ?_)
        have M_bWf_h810 := M_bWf_hp.fr (bAx.put (Wl := [(83076749736557242056487941267521536, 0)]) (bAx.rf A_hp.1) T_h810 b_h810 f_h810 H_2073 (by decide)) (by decide)
        have A_h810 := A_hp.put T_h810 b_h810 f_h810 H_2073 (by decide)
        have : ys h810 2073 0 = 1 := (y_h810 2073 0).trans (if_pos ⟨rfl, rfl⟩)
        refine yG.load xak rfl (fun _ _ => rfl) (v := yR 2073) rfl rfl ?_
        refine yG.getI A_h810.1 (w_M_thrown W H_2073) rfl rfl (fun z811 e_z811 i_z811 l_z811 u_z811 => ?_)
        refine yG.ifz rfl (t := 43) rfl ⟨by omega, by omega⟩ (fun c812 => ?_) (fun c812 => ?_)
        · have c812 : (z811 : Int) ≤ 0 := c812
          exfalso; omega
        · have c812 : (z811 : Int) > 0 := c812
          refine yG.num (c := 0) rfl (fun _ _ => rfl) (by decide) ?_
          refine yG.ret rfl (fun _ _ => rfl) ?_
          exact (yP.int ⟨by omega, by omega⟩ ⟨⟨⟨0, rfl, by omega, by omega, by omega⟩, A_h810⟩, M_bWf_h810⟩)
    · skip
      refine yG.load xak rfl (fun _ _ => rfl) (v := yR 2073) rfl rfl ?_
      refine yG.load xak rfl (fun _ _ => rfl) (v := yR 2073) rfl rfl ?_
      refine yG.load xik rfl (fun _ _ => rfl) (v := yI (4)) rfl rfl ?_
      refine yG.load xik rfl (fun _ _ => rfl) (v := yI (p2)) rfl rfl ?_
      refine yG.invV (rest := [yR 2073]) A_hp.1 (bOb (d_M W) H_2073) rfl rfl rfl rfl (c_GModel_isObject W (d + 1) A_hp.1 H_2073 (4) (p2) (by omega) (by omega) (by omega) (by omega)) (fun rv hp9 q9 => ?_)
      obtain ⟨⟨z813, rfl, l_z813, u_z813, R_z813⟩, e9⟩ := q9
      rw [e9]
      show yG _ _ _ _ _ _ _ _ _ _ (yI z813 :: [yR 2073]) _
      refine yG.ifz rfl (t := 14) rfl ⟨by omega, by omega⟩ (fun c814 => ?_) (fun c814 => ?_)
      · have c814 : (z813 : Int) ≠ 0 := c814
        replace R_z813 := R_z813 (by omega)
        refine yG.load xak rfl (fun _ _ => rfl) (v := yR 2073) rfl rfl ?_
        refine yG.load xik rfl (fun _ _ => rfl) (v := yI (4)) rfl rfl ?_
        refine yG.load xik rfl (fun _ _ => rfl) (v := yI (p2)) rfl rfl ?_
        refine yG.load xik rfl (fun _ _ => rfl) (v := yI (p3)) rfl rfl ?_
        refine yG.load xik rfl (fun _ _ => rfl) (v := yI (p4)) rfl rfl ?_
        refine yG.invV (rest := [yR 2073]) A_hp.1 (bOb (d_M W) H_2073) rfl rfl rfl rfl (c_GModel_mayBe_4_h W (d + 2) A_hp.1 H_2073 (p2) (p3) (p4) (by omega) (by omega) (by omega) (by omega) (by omega) (by omega)) (fun rv hp9 q9 => ?_)
        obtain ⟨⟨z815, rfl, l_z815, u_z815, R_z815⟩, e9⟩ := q9
        rw [e9]
        show yG _ _ _ _ _ _ _ _ _ _ (yI z815 :: [yR 2073]) _
        refine yG.ifz rfl (t := 30) rfl ⟨by omega, by omega⟩ (fun c816 => ?_) (fun c816 => ?_)
        · have c816 : (z815 : Int) ≠ 0 := c816
          exfalso; omega
        · have c816 : (z815 : Int) = 0 := c816
          refine yG.num (c := 2) rfl (fun _ _ => rfl) (by decide) ?_
          refine yG.goto rfl (t := 31) rfl ?_
          refine yG.putI A_hp.1 (w_M_thrown W H_2073) (W.2.1 _ _ H_2073 (by decide) (by decide)) rfl rfl (.inl rfl) ⟨by omega, by omega⟩ (by omega) (by omega) (fun h817 T_h817 b_h817 f_h817 y_h817 => ?_)
          have M_bWf_h817 := M_bWf_hp.fr (bAx.put (Wl := [(83076749736557242056487941267521536, 0)]) (bAx.rf A_hp.1) T_h817 b_h817 f_h817 H_2073 (by decide)) (by decide)
          have A_h817 := A_hp.put T_h817 b_h817 f_h817 H_2073 (by decide)
          have : ys h817 2073 0 = 2 := (y_h817 2073 0).trans (if_pos ⟨rfl, rfl⟩)
          refine yG.load xak rfl (fun _ _ => rfl) (v := yR 2073) rfl rfl ?_
          refine yG.getI A_h817.1 (w_M_thrown W H_2073) rfl rfl (fun z818 e_z818 i_z818 l_z818 u_z818 => ?_)
          refine yG.ifz rfl (t := 43) rfl ⟨by omega, by omega⟩ (fun c819 => ?_) (fun c819 => ?_)
          · have c819 : (z818 : Int) ≤ 0 := c819
            exfalso; omega
          · have c819 : (z818 : Int) > 0 := c819
            refine yG.num (c := 0) rfl (fun _ _ => rfl) (by decide) ?_
            refine yG.ret rfl (fun _ _ => rfl) ?_
            exact (yP.int ⟨by omega, by omega⟩ ⟨⟨⟨0, rfl, by omega, by omega, by omega⟩, A_h817⟩, M_bWf_h817⟩)
      · have c814 : (z813 : Int) = 0 := c814
        clear R_z813
        refine yG.num (c := 1) rfl (fun _ _ => rfl) (by decide) ?_
        refine yG.goto rfl (t := 31) rfl ?_
        refine yG.putI A_hp.1 (w_M_thrown W H_2073) (W.2.1 _ _ H_2073 (by decide) (by decide)) rfl rfl (.inl rfl) ⟨by omega, by omega⟩ (by omega) (by omega) (fun h820 T_h820 b_h820 f_h820 y_h820 => ?_)
        have M_bWf_h820 := M_bWf_hp.fr (bAx.put (Wl := [(83076749736557242056487941267521536, 0)]) (bAx.rf A_hp.1) T_h820 b_h820 f_h820 H_2073 (by decide)) (by decide)
        have A_h820 := A_hp.put T_h820 b_h820 f_h820 H_2073 (by decide)
        have : ys h820 2073 0 = 1 := (y_h820 2073 0).trans (if_pos ⟨rfl, rfl⟩)
        refine yG.load xak rfl (fun _ _ => rfl) (v := yR 2073) rfl rfl ?_
        refine yG.getI A_h820.1 (w_M_thrown W H_2073) rfl rfl (fun z821 e_z821 i_z821 l_z821 u_z821 => ?_)
        refine yG.ifz rfl (t := 43) rfl ⟨by omega, by omega⟩ (fun c822 => ?_) (fun c822 => ?_)
        · have c822 : (z821 : Int) ≤ 0 := c822
          exfalso; omega
        · have c822 : (z821 : Int) > 0 := c822
          refine yG.num (c := 0) rfl (fun _ _ => rfl) (by decide) ?_
          refine yG.ret rfl (fun _ _ => rfl) ?_
          exact (yP.int ⟨by omega, by omega⟩ ⟨⟨⟨0, rfl, by omega, by omega, by omega⟩, A_h820⟩, M_bWf_h820⟩)
    · subst c802
      refine yG.load xak rfl (fun _ _ => rfl) (v := yR 2073) rfl rfl ?_
      refine yG.load xak rfl (fun _ _ => rfl) (v := yR 2073) rfl rfl ?_
      refine yG.load xik rfl (fun _ _ => rfl) (v := yI (4)) rfl rfl ?_
      refine yG.load xik rfl (fun _ _ => rfl) (v := yI (p2)) rfl rfl ?_
      refine yG.invV (rest := [yR 2073]) A_hp.1 (bOb (d_M W) H_2073) rfl rfl rfl rfl (c_GModel_isObject W (d + 1) A_hp.1 H_2073 (4) (p2) (by omega) (by omega) (by omega) (by omega)) (fun rv hp9 q9 => ?_)
      obtain ⟨⟨z823, rfl, l_z823, u_z823, R_z823⟩, e9⟩ := q9
      rw [e9]
      show yG _ _ _ _ _ _ _ _ _ _ (yI z823 :: [yR 2073]) _
      refine yG.ifz rfl (t := 14) rfl ⟨by omega, by omega⟩ (fun c824 => ?_) (fun c824 => ?_)
      · have c824 : (z823 : Int) ≠ 0 := c824
        replace R_z823 := R_z823 (by omega)
        refine yG.load xak rfl (fun _ _ => rfl) (v := yR 2073) rfl rfl ?_
        refine yG.load xik rfl (fun _ _ => rfl) (v := yI (4)) rfl rfl ?_
        refine yG.load xik rfl (fun _ _ => rfl) (v := yI (p2)) rfl rfl ?_
        refine yG.load xik rfl (fun _ _ => rfl) (v := yI (0)) rfl rfl ?_
        refine yG.load xik rfl (fun _ _ => rfl) (v := yI (p4)) rfl rfl ?_
        refine yG.invV (rest := [yR 2073]) A_hp.1 (bOb (d_M W) H_2073) rfl rfl rfl rfl (c_GModel_mayBe_4_0 W (d + 1) A_hp.1 H_2073 (p2) (p4) (by omega) (by omega) (by omega) (by omega)) (fun rv hp9 q9 => ?_)
        obtain ⟨⟨z825, rfl, l_z825, u_z825, R_z825⟩, e9⟩ := q9
        rw [e9]
        show yG _ _ _ _ _ _ _ _ _ _ (yI z825 :: [yR 2073]) _
        refine yG.ifz rfl (t := 30) rfl ⟨by omega, by omega⟩ (fun c826 => ?_) (fun c826 => ?_)
        · have c826 : (z825 : Int) ≠ 0 := c826
          replace R_z825 := R_z825 (by omega)
          refine yG.num (c := 0) rfl (fun _ _ => rfl) (by decide) ?_
          refine yG.putI A_hp.1 (w_M_thrown W H_2073) (W.2.1 _ _ H_2073 (by decide) (by decide)) rfl rfl (.inl rfl) ⟨by omega, by omega⟩ (by omega) (by omega) (fun h827 T_h827 b_h827 f_h827 y_h827 => ?_)
          have M_bWf_h827 := M_bWf_hp.fr (bAx.put (Wl := [(83076749736557242056487941267521536, 0)]) (bAx.rf A_hp.1) T_h827 b_h827 f_h827 H_2073 (by decide)) (by decide)
          have A_h827 := A_hp.put T_h827 b_h827 f_h827 H_2073 (by decide)
          have : ys h827 2073 0 = 0 := (y_h827 2073 0).trans (if_pos ⟨rfl, rfl⟩)
          refine yG.load xak rfl (fun _ _ => rfl) (v := yR 2073) rfl rfl ?_
          refine yG.getI A_h827.1 (w_M_thrown W H_2073) rfl rfl (fun z828 e_z828 i_z828 l_z828 u_z828 => ?_)
          refine yG.ifz rfl (t := 43) rfl ⟨by omega, by omega⟩ (fun c829 => ?_) (fun c829 => ?_)
          · have c829 : (z828 : Int) ≤ 0 := c829
            refine yG.load xak rfl (fun _ _ => rfl) (v := yR 2073) rfl rfl ?_
            refine yG.load xik rfl (fun _ _ => rfl) (v := yI (4)) rfl rfl ?_
            refine yG.load xik rfl (fun _ _ => rfl) (v := yI (p2)) rfl rfl ?_
            refine yG.load xik rfl (fun _ _ => rfl) (v := yI (0)) rfl rfl ?_
            refine yG.invV (rest := []) A_h827.1 (bOb (d_M W) H_2073) rfl rfl rfl rfl (c_GModel_of_4_0 W (d + 1) A_h827.1 H_2073 (p2) (by omega) (by omega)) (fun rv hp9 q9 => ?_)
            obtain ⟨⟨z830, rfl, l_z830, u_z830, R_z830⟩, e9⟩ := q9
            rw [e9]
            show yG _ _ _ _ _ _ _ _ _ _ (yI z830 :: []) _
            refine yG.store1 xik (L' := [(5, yI (z830)), (0, yR 2073), (1, yI (4)), (2, yI (p2)), (3, yI (0)), (4, yI (p4))]) rfl (fun _ _ => rfl) rfl rfl ?_
            refine yG.load xak rfl (fun _ _ => rfl) (v := yR 2073) rfl rfl ?_
            refine yG.getO A_h827.1 (w_M_field W H_2073) rfl rfl (fun r831 H_r831 O_r831 q_r831 => ?_)
            obtain rfl := u_M_field W H_r831
            refine yG.load xik rfl (fun _ _ => rfl) (v := yI (4)) rfl rfl ?_
            refine yG.load xik rfl (fun _ _ => rfl) (v := yI (p2)) rfl rfl ?_
            refine yG.load xik rfl (fun _ _ => rfl) (v := yI (0)) rfl rfl ?_
            refine yG.invS (rest := [yR 2089]) rfl rfl rfl rfl (c_GModel_f W (d + 2) A_h827.1 (4) (p2) (0) (by omega) (by omega) (by omega) (by omega) (by omega) (by omega)) (fun rv hp9 q9 => ?_)
            obtain ⟨⟨z832, rfl, l_z832, u_z832, R_z832⟩, e9⟩ := q9
            rw [e9]
            show yG _ _ _ _ _ _ _ _ _ _ (yI z832 :: [yR 2089]) _
            refine yG.load xik rfl (fun _ _ => rfl) (v := yI (p4)) rfl rfl ?_
            refine yG.iastF A_h827.1 (v_M_field W H_r831) (show yfT ((z832 : Int).toNat) = (0, (0, 9999)) from ((yfT_ix (s := 4) (k := 0) (by omega) (by omega) (by omega) (by decide)).trans rfl)) (W.2.1 _ _ H_r831 (by decide) (by decide)) rfl (by omega) (by omega) ⟨by omega, by omega⟩ (by omega) (by omega) (fun h833 T_h833 b_h833 f_h833 y_h833 => ?_)
            have M_bWf_h833 : bWf G h833 := M_bWf_h827.putx y_h833 (fun j hj h9 hb => by unfold mBp at hb; omega) (fun j hj h9 hb => by unfold mXp at hb; omega)
            have A_h833 := A_h827.put T_h833 b_h833 f_h833 H_r831 (bAll_ok (by decide) _)
            have : ys h833 2073 0 = ys h827 2073 0 := (y_h833 2073 0).trans (if_neg (fun e => (bRo.ne H_2073 H_r831 (by decide)) e.1))
            refine yG.load xak rfl (fun _ _ => rfl) (v := yR 2073) rfl rfl ?_
            refine yG.invV (rest := []) A_h833.1 (bOb (d_M W) H_2073) rfl rfl rfl rfl (c_GModel_changed W (d + 2) A_h833.1 H_2073) (fun rv h834 q9 => ?_)
            obtain ⟨⟨rfl, R_z835⟩, B_h834⟩ := q9
            have A_h834 := A_h833.tr B_h834 (by decide)
            have M_bWf_h834 := M_bWf_h833.fr B_h834 (by decide)
            have : ys h834 2073 0 = ys h833 2073 0 := B_h834.ys H_2073 (by decide)
            show yG _ _ _ _ _ _ _ _ _ _ [] _
            refine yG.load xik rfl (fun _ _ => rfl) (v := yI (z830)) rfl rfl ?_
            refine yG.ret rfl (fun _ _ => rfl) ?_
            exact (yP.int ⟨by omega, by omega⟩ ⟨⟨⟨z830, rfl, by omega, by omega, by omega⟩, A_h834⟩, M_bWf_h834⟩)
          · have c829 : (z828 : Int) > 0 := c829
            exfalso; omega
        · have c826 : (z825 : Int) = 0 := c826
          clear R_z825
          refine yG.num (c := 2) rfl (fun _ _ => rfl) (by decide) ?_
          refine yG.goto rfl (t := 31) rfl ?_
          refine yG.putI A_hp.1 (w_M_thrown W H_2073) (W.2.1 _ _ H_2073 (by decide) (by decide)) rfl rfl (.inl rfl) ⟨by omega, by omega⟩ (by omega) (by omega) (fun h836 T_h836 b_h836 f_h836 y_h836 => ?_)
          have M_bWf_h836 := M_bWf_hp.fr (bAx.put (Wl := [(83076749736557242056487941267521536, 0)]) (bAx.rf A_hp.1) T_h836 b_h836 f_h836 H_2073 (by decide)) (by decide)
          have A_h836 := A_hp.put T_h836 b_h836 f_h836 H_2073 (by decide)
          have : ys h836 2073 0 = 2 := (y_h836 2073 0).trans (if_pos ⟨rfl, rfl⟩)
          refine yG.load xak rfl (fun _ _ => rfl) (v := yR 2073) rfl rfl ?_
          refine yG.getI A_h836.1 (w_M_thrown W H_2073) rfl rfl (fun z837 e_z837 i_z837 l_z837 u_z837 => ?_)
          refine yG.ifz rfl (t := 43) rfl ⟨by omega, by omega⟩ (fun c838 => ?_) (fun c838 => ?_)
          · have c838 : (z837 : Int) ≤ 0 := c838
            exfalso; omega
          · have c838 : (z837 : Int) > 0 := c838
            refine yG.num (c := 0) rfl (fun _ _ => rfl) (by decide) ?_
            refine yG.ret rfl (fun _ _ => rfl) ?_
            exact (yP.int ⟨by omega, by omega⟩ ⟨⟨⟨0, rfl, by omega, by omega, by omega⟩, A_h836⟩, M_bWf_h836⟩)
      · have c824 : (z823 : Int) = 0 := c824
        clear R_z823
        refine yG.num (c := 1) rfl (fun _ _ => rfl) (by decide) ?_
        refine yG.goto rfl (t := 31) rfl ?_
        refine yG.putI A_hp.1 (w_M_thrown W H_2073) (W.2.1 _ _ H_2073 (by decide) (by decide)) rfl rfl (.inl rfl) ⟨by omega, by omega⟩ (by omega) (by omega) (fun h839 T_h839 b_h839 f_h839 y_h839 => ?_)
        have M_bWf_h839 := M_bWf_hp.fr (bAx.put (Wl := [(83076749736557242056487941267521536, 0)]) (bAx.rf A_hp.1) T_h839 b_h839 f_h839 H_2073 (by decide)) (by decide)
        have A_h839 := A_hp.put T_h839 b_h839 f_h839 H_2073 (by decide)
        have : ys h839 2073 0 = 1 := (y_h839 2073 0).trans (if_pos ⟨rfl, rfl⟩)
        refine yG.load xak rfl (fun _ _ => rfl) (v := yR 2073) rfl rfl ?_
        refine yG.getI A_h839.1 (w_M_thrown W H_2073) rfl rfl (fun z840 e_z840 i_z840 l_z840 u_z840 => ?_)
        refine yG.ifz rfl (t := 43) rfl ⟨by omega, by omega⟩ (fun c841 => ?_) (fun c841 => ?_)
        · have c841 : (z840 : Int) ≤ 0 := c841
          exfalso; omega
        · have c841 : (z840 : Int) > 0 := c841
          refine yG.num (c := 0) rfl (fun _ _ => rfl) (by decide) ?_
          refine yG.ret rfl (fun _ _ => rfl) ?_
          exact (yP.int ⟨by omega, by omega⟩ ⟨⟨⟨0, rfl, by omega, by omega, by omega⟩, A_h839⟩, M_bWf_h839⟩)
    · subst c802
      refine yG.load xak rfl (fun _ _ => rfl) (v := yR 2073) rfl rfl ?_
      refine yG.load xak rfl (fun _ _ => rfl) (v := yR 2073) rfl rfl ?_
      refine yG.load xik rfl (fun _ _ => rfl) (v := yI (4)) rfl rfl ?_
      refine yG.load xik rfl (fun _ _ => rfl) (v := yI (p2)) rfl rfl ?_
      refine yG.invV (rest := [yR 2073]) A_hp.1 (bOb (d_M W) H_2073) rfl rfl rfl rfl (c_GModel_isObject W (d + 1) A_hp.1 H_2073 (4) (p2) (by omega) (by omega) (by omega) (by omega)) (fun rv hp9 q9 => ?_)
      obtain ⟨⟨z842, rfl, l_z842, u_z842, R_z842⟩, e9⟩ := q9
      rw [e9]
      show yG _ _ _ _ _ _ _ _ _ _ (yI z842 :: [yR 2073]) _
      refine yG.ifz rfl (t := 14) rfl ⟨by omega, by omega⟩ (fun c843 => ?_) (fun c843 => ?_)
      · have c843 : (z842 : Int) ≠ 0 := c843
        replace R_z842 := R_z842 (by omega)
        refine yG.load xak rfl (fun _ _ => rfl) (v := yR 2073) rfl rfl ?_
        refine yG.load xik rfl (fun _ _ => rfl) (v := yI (4)) rfl rfl ?_
        refine yG.load xik rfl (fun _ _ => rfl) (v := yI (p2)) rfl rfl ?_
        refine yG.load xik rfl (fun _ _ => rfl) (v := yI (1)) rfl rfl ?_
        refine yG.load xik rfl (fun _ _ => rfl) (v := yI (p4)) rfl rfl ?_
        refine yG.invV (rest := [yR 2073]) A_hp.1 (bOb (d_M W) H_2073) rfl rfl rfl rfl (c_GModel_mayBe_4_1 W (d + 2) A_hp.1 H_2073 (p2) (p4) (by omega) (by omega) (by omega) (by omega)) (fun rv hp9 q9 => ?_)
        obtain ⟨⟨z844, rfl, l_z844, u_z844, R_z844⟩, e9⟩ := q9
        rw [e9]
        show yG _ _ _ _ _ _ _ _ _ _ (yI z844 :: [yR 2073]) _
        refine yG.ifz rfl (t := 30) rfl ⟨by omega, by omega⟩ (fun c845 => ?_) (fun c845 => ?_)
        · have c845 : (z844 : Int) ≠ 0 := c845
          exfalso; omega
        · have c845 : (z844 : Int) = 0 := c845
          refine yG.num (c := 2) rfl (fun _ _ => rfl) (by decide) ?_
          refine yG.goto rfl (t := 31) rfl ?_
          refine yG.putI A_hp.1 (w_M_thrown W H_2073) (W.2.1 _ _ H_2073 (by decide) (by decide)) rfl rfl (.inl rfl) ⟨by omega, by omega⟩ (by omega) (by omega) (fun h846 T_h846 b_h846 f_h846 y_h846 => ?_)
          have M_bWf_h846 := M_bWf_hp.fr (bAx.put (Wl := [(83076749736557242056487941267521536, 0)]) (bAx.rf A_hp.1) T_h846 b_h846 f_h846 H_2073 (by decide)) (by decide)
          have A_h846 := A_hp.put T_h846 b_h846 f_h846 H_2073 (by decide)
          have : ys h846 2073 0 = 2 := (y_h846 2073 0).trans (if_pos ⟨rfl, rfl⟩)
          refine yG.load xak rfl (fun _ _ => rfl) (v := yR 2073) rfl rfl ?_
          refine yG.getI A_h846.1 (w_M_thrown W H_2073) rfl rfl (fun z847 e_z847 i_z847 l_z847 u_z847 => ?_)
          refine yG.ifz rfl (t := 43) rfl ⟨by omega, by omega⟩ (fun c848 => ?_) (fun c848 => ?_)
          · have c848 : (z847 : Int) ≤ 0 := c848
            exfalso; omega
          · have c848 : (z847 : Int) > 0 := c848
            refine yG.num (c := 0) rfl (fun _ _ => rfl) (by decide) ?_
            refine yG.ret rfl (fun _ _ => rfl) ?_
            exact (yP.int ⟨by omega, by omega⟩ ⟨⟨⟨0, rfl, by omega, by omega, by omega⟩, A_h846⟩, M_bWf_h846⟩)
      · have c843 : (z842 : Int) = 0 := c843
        clear R_z842
        refine yG.num (c := 1) rfl (fun _ _ => rfl) (by decide) ?_
        refine yG.goto rfl (t := 31) rfl ?_
        refine yG.putI A_hp.1 (w_M_thrown W H_2073) (W.2.1 _ _ H_2073 (by decide) (by decide)) rfl rfl (.inl rfl) ⟨by omega, by omega⟩ (by omega) (by omega) (fun h849 T_h849 b_h849 f_h849 y_h849 => ?_)
        have M_bWf_h849 := M_bWf_hp.fr (bAx.put (Wl := [(83076749736557242056487941267521536, 0)]) (bAx.rf A_hp.1) T_h849 b_h849 f_h849 H_2073 (by decide)) (by decide)
        have A_h849 := A_hp.put T_h849 b_h849 f_h849 H_2073 (by decide)
        have : ys h849 2073 0 = 1 := (y_h849 2073 0).trans (if_pos ⟨rfl, rfl⟩)
        refine yG.load xak rfl (fun _ _ => rfl) (v := yR 2073) rfl rfl ?_
        refine yG.getI A_h849.1 (w_M_thrown W H_2073) rfl rfl (fun z850 e_z850 i_z850 l_z850 u_z850 => ?_)
        refine yG.ifz rfl (t := 43) rfl ⟨by omega, by omega⟩ (fun c851 => ?_) (fun c851 => ?_)
        · have c851 : (z850 : Int) ≤ 0 := c851
          exfalso; omega
        · have c851 : (z850 : Int) > 0 := c851
          refine yG.num (c := 0) rfl (fun _ _ => rfl) (by decide) ?_
          refine yG.ret rfl (fun _ _ => rfl) ?_
          exact (yP.int ⟨by omega, by omega⟩ ⟨⟨⟨0, rfl, by omega, by omega, by omega⟩, A_h849⟩, M_bWf_h849⟩)
    · subst c802
      refine yG.load xak rfl (fun _ _ => rfl) (v := yR 2073) rfl rfl ?_
      refine yG.load xak rfl (fun _ _ => rfl) (v := yR 2073) rfl rfl ?_
      refine yG.load xik rfl (fun _ _ => rfl) (v := yI (4)) rfl rfl ?_
      refine yG.load xik rfl (fun _ _ => rfl) (v := yI (p2)) rfl rfl ?_
      refine yG.invV (rest := [yR 2073]) A_hp.1 (bOb (d_M W) H_2073) rfl rfl rfl rfl (c_GModel_isObject W (d + 1) A_hp.1 H_2073 (4) (p2) (by omega) (by omega) (by omega) (by omega)) (fun rv hp9 q9 => ?_)
      obtain ⟨⟨z852, rfl, l_z852, u_z852, R_z852⟩, e9⟩ := q9
      rw [e9]
      show yG _ _ _ _ _ _ _ _ _ _ (yI z852 :: [yR 2073]) _
      refine yG.ifz rfl (t := 14) rfl ⟨by omega, by omega⟩ (fun c853 => ?_) (fun c853 => ?_)
      · have c853 : (z852 : Int) ≠ 0 := c853
        replace R_z852 := R_z852 (by omega)
        refine yG.load xak rfl (fun _ _ => rfl) (v := yR 2073) rfl rfl ?_
        refine yG.load xik rfl (fun _ _ => rfl) (v := yI (4)) rfl rfl ?_
        refine yG.load xik rfl (fun _ _ => rfl) (v := yI (p2)) rfl rfl ?_
        refine yG.load xik rfl (fun _ _ => rfl) (v := yI (2)) rfl rfl ?_
        refine yG.load xik rfl (fun _ _ => rfl) (v := yI (p4)) rfl rfl ?_
        refine yG.invV (rest := [yR 2073]) A_hp.1 (bOb (d_M W) H_2073) rfl rfl rfl rfl (c_GModel_mayBe_4_2 W (d + 2) A_hp.1 H_2073 (p2) (p4) (by omega) (by omega) (by omega) (by omega)) (fun rv hp9 q9 => ?_)
        obtain ⟨⟨z854, rfl, l_z854, u_z854, R_z854⟩, e9⟩ := q9
        rw [e9]
        show yG _ _ _ _ _ _ _ _ _ _ (yI z854 :: [yR 2073]) _
        refine yG.ifz rfl (t := 30) rfl ⟨by omega, by omega⟩ (fun c855 => ?_) (fun c855 => ?_)
        · have c855 : (z854 : Int) ≠ 0 := c855
          exfalso; omega
        · have c855 : (z854 : Int) = 0 := c855
          refine yG.num (c := 2) rfl (fun _ _ => rfl) (by decide) ?_
          refine yG.goto rfl (t := 31) rfl ?_
          refine yG.putI A_hp.1 (w_M_thrown W H_2073) (W.2.1 _ _ H_2073 (by decide) (by decide)) rfl rfl (.inl rfl) ⟨by omega, by omega⟩ (by omega) (by omega) (fun h856 T_h856 b_h856 f_h856 y_h856 => ?_)
          have M_bWf_h856 := M_bWf_hp.fr (bAx.put (Wl := [(83076749736557242056487941267521536, 0)]) (bAx.rf A_hp.1) T_h856 b_h856 f_h856 H_2073 (by decide)) (by decide)
          have A_h856 := A_hp.put T_h856 b_h856 f_h856 H_2073 (by decide)
          have : ys h856 2073 0 = 2 := (y_h856 2073 0).trans (if_pos ⟨rfl, rfl⟩)
          refine yG.load xak rfl (fun _ _ => rfl) (v := yR 2073) rfl rfl ?_
          refine yG.getI A_h856.1 (w_M_thrown W H_2073) rfl rfl (fun z857 e_z857 i_z857 l_z857 u_z857 => ?_)
          refine yG.ifz rfl (t := 43) rfl ⟨by omega, by omega⟩ (fun c858 => ?_) (fun c858 => ?_)
          · have c858 : (z857 : Int) ≤ 0 := c858
            exfalso; omega
          · have c858 : (z857 : Int) > 0 := c858
            refine yG.num (c := 0) rfl (fun _ _ => rfl) (by decide) ?_
            refine yG.ret rfl (fun _ _ => rfl) ?_
            exact (yP.int ⟨by omega, by omega⟩ ⟨⟨⟨0, rfl, by omega, by omega, by omega⟩, A_h856⟩, M_bWf_h856⟩)
      · have c853 : (z852 : Int) = 0 := c853
        clear R_z852
        refine yG.num (c := 1) rfl (fun _ _ => rfl) (by decide) ?_
        refine yG.goto rfl (t := 31) rfl ?_
        refine yG.putI A_hp.1 (w_M_thrown W H_2073) (W.2.1 _ _ H_2073 (by decide) (by decide)) rfl rfl (.inl rfl) ⟨by omega, by omega⟩ (by omega) (by omega) (fun h859 T_h859 b_h859 f_h859 y_h859 => ?_)
        have M_bWf_h859 := M_bWf_hp.fr (bAx.put (Wl := [(83076749736557242056487941267521536, 0)]) (bAx.rf A_hp.1) T_h859 b_h859 f_h859 H_2073 (by decide)) (by decide)
        have A_h859 := A_hp.put T_h859 b_h859 f_h859 H_2073 (by decide)
        have : ys h859 2073 0 = 1 := (y_h859 2073 0).trans (if_pos ⟨rfl, rfl⟩)
        refine yG.load xak rfl (fun _ _ => rfl) (v := yR 2073) rfl rfl ?_
        refine yG.getI A_h859.1 (w_M_thrown W H_2073) rfl rfl (fun z860 e_z860 i_z860 l_z860 u_z860 => ?_)
        refine yG.ifz rfl (t := 43) rfl ⟨by omega, by omega⟩ (fun c861 => ?_) (fun c861 => ?_)
        · have c861 : (z860 : Int) ≤ 0 := c861
          exfalso; omega
        · have c861 : (z860 : Int) > 0 := c861
          refine yG.num (c := 0) rfl (fun _ _ => rfl) (by decide) ?_
          refine yG.ret rfl (fun _ _ => rfl) ?_
          exact (yP.int ⟨by omega, by omega⟩ ⟨⟨⟨0, rfl, by omega, by omega, by omega⟩, A_h859⟩, M_bWf_h859⟩)
    · subst c802
      refine yG.load xak rfl (fun _ _ => rfl) (v := yR 2073) rfl rfl ?_
      refine yG.load xak rfl (fun _ _ => rfl) (v := yR 2073) rfl rfl ?_
      refine yG.load xik rfl (fun _ _ => rfl) (v := yI (4)) rfl rfl ?_
      refine yG.load xik rfl (fun _ _ => rfl) (v := yI (p2)) rfl rfl ?_
      refine yG.invV (rest := [yR 2073]) A_hp.1 (bOb (d_M W) H_2073) rfl rfl rfl rfl (c_GModel_isObject W (d + 1) A_hp.1 H_2073 (4) (p2) (by omega) (by omega) (by omega) (by omega)) (fun rv hp9 q9 => ?_)
      obtain ⟨⟨z862, rfl, l_z862, u_z862, R_z862⟩, e9⟩ := q9
      rw [e9]
      show yG _ _ _ _ _ _ _ _ _ _ (yI z862 :: [yR 2073]) _
      refine yG.ifz rfl (t := 14) rfl ⟨by omega, by omega⟩ (fun c863 => ?_) (fun c863 => ?_)
      · have c863 : (z862 : Int) ≠ 0 := c863
        replace R_z862 := R_z862 (by omega)
        refine yG.load xak rfl (fun _ _ => rfl) (v := yR 2073) rfl rfl ?_
        refine yG.load xik rfl (fun _ _ => rfl) (v := yI (4)) rfl rfl ?_
        refine yG.load xik rfl (fun _ _ => rfl) (v := yI (p2)) rfl rfl ?_
        refine yG.load xik rfl (fun _ _ => rfl) (v := yI (3)) rfl rfl ?_
        refine yG.load xik rfl (fun _ _ => rfl) (v := yI (p4)) rfl rfl ?_
        refine yG.invV (rest := [yR 2073]) A_hp.1 (bOb (d_M W) H_2073) rfl rfl rfl rfl (c_GModel_mayBe_4_3 W (d + 2) A_hp.1 H_2073 (p2) (p4) (by omega) (by omega) (by omega) (by omega)) (fun rv hp9 q9 => ?_)
        obtain ⟨⟨z864, rfl, l_z864, u_z864, R_z864⟩, e9⟩ := q9
        rw [e9]
        show yG _ _ _ _ _ _ _ _ _ _ (yI z864 :: [yR 2073]) _
        refine yG.ifz rfl (t := 30) rfl ⟨by omega, by omega⟩ (fun c865 => ?_) (fun c865 => ?_)
        · have c865 : (z864 : Int) ≠ 0 := c865
          exfalso; omega
        · have c865 : (z864 : Int) = 0 := c865
          refine yG.num (c := 2) rfl (fun _ _ => rfl) (by decide) ?_
          refine yG.goto rfl (t := 31) rfl ?_
          refine yG.putI A_hp.1 (w_M_thrown W H_2073) (W.2.1 _ _ H_2073 (by decide) (by decide)) rfl rfl (.inl rfl) ⟨by omega, by omega⟩ (by omega) (by omega) (fun h866 T_h866 b_h866 f_h866 y_h866 => ?_)
          have M_bWf_h866 := M_bWf_hp.fr (bAx.put (Wl := [(83076749736557242056487941267521536, 0)]) (bAx.rf A_hp.1) T_h866 b_h866 f_h866 H_2073 (by decide)) (by decide)
          have A_h866 := A_hp.put T_h866 b_h866 f_h866 H_2073 (by decide)
          have : ys h866 2073 0 = 2 := (y_h866 2073 0).trans (if_pos ⟨rfl, rfl⟩)
          refine yG.load xak rfl (fun _ _ => rfl) (v := yR 2073) rfl rfl ?_
          refine yG.getI A_h866.1 (w_M_thrown W H_2073) rfl rfl (fun z867 e_z867 i_z867 l_z867 u_z867 => ?_)
          refine yG.ifz rfl (t := 43) rfl ⟨by omega, by omega⟩ (fun c868 => ?_) (fun c868 => ?_)
          · have c868 : (z867 : Int) ≤ 0 := c868
            exfalso; omega
          · have c868 : (z867 : Int) > 0 := c868
            refine yG.num (c := 0) rfl (fun _ _ => rfl) (by decide) ?_
            refine yG.ret rfl (fun _ _ => rfl) ?_
            exact (yP.int ⟨by omega, by omega⟩ ⟨⟨⟨0, rfl, by omega, by omega, by omega⟩, A_h866⟩, M_bWf_h866⟩)
      · have c863 : (z862 : Int) = 0 := c863
        clear R_z862
        refine yG.num (c := 1) rfl (fun _ _ => rfl) (by decide) ?_
        refine yG.goto rfl (t := 31) rfl ?_
        refine yG.putI A_hp.1 (w_M_thrown W H_2073) (W.2.1 _ _ H_2073 (by decide) (by decide)) rfl rfl (.inl rfl) ⟨by omega, by omega⟩ (by omega) (by omega) (fun h869 T_h869 b_h869 f_h869 y_h869 => ?_)
        have M_bWf_h869 := M_bWf_hp.fr (bAx.put (Wl := [(83076749736557242056487941267521536, 0)]) (bAx.rf A_hp.1) T_h869 b_h869 f_h869 H_2073 (by decide)) (by decide)
        have A_h869 := A_hp.put T_h869 b_h869 f_h869 H_2073 (by decide)
        have : ys h869 2073 0 = 1 := (y_h869 2073 0).trans (if_pos ⟨rfl, rfl⟩)
        refine yG.load xak rfl (fun _ _ => rfl) (v := yR 2073) rfl rfl ?_
        refine yG.getI A_h869.1 (w_M_thrown W H_2073) rfl rfl (fun z870 e_z870 i_z870 l_z870 u_z870 => ?_)
        refine yG.ifz rfl (t := 43) rfl ⟨by omega, by omega⟩ (fun c871 => ?_) (fun c871 => ?_)
        · have c871 : (z870 : Int) ≤ 0 := c871
          exfalso; omega
        · have c871 : (z870 : Int) > 0 := c871
          refine yG.num (c := 0) rfl (fun _ _ => rfl) (by decide) ?_
          refine yG.ret rfl (fun _ _ => rfl) ?_
          exact (yP.int ⟨by omega, by omega⟩ ⟨⟨⟨0, rfl, by omega, by omega, by omega⟩, A_h869⟩, M_bWf_h869⟩)
    · subst c802
      refine yG.load xak rfl (fun _ _ => rfl) (v := yR 2073) rfl rfl ?_
      refine yG.load xak rfl (fun _ _ => rfl) (v := yR 2073) rfl rfl ?_
      refine yG.load xik rfl (fun _ _ => rfl) (v := yI (4)) rfl rfl ?_
      refine yG.load xik rfl (fun _ _ => rfl) (v := yI (p2)) rfl rfl ?_
      refine yG.invV (rest := [yR 2073]) A_hp.1 (bOb (d_M W) H_2073) rfl rfl rfl rfl (c_GModel_isObject W (d + 1) A_hp.1 H_2073 (4) (p2) (by omega) (by omega) (by omega) (by omega)) (fun rv hp9 q9 => ?_)
      obtain ⟨⟨z872, rfl, l_z872, u_z872, R_z872⟩, e9⟩ := q9
      rw [e9]
      show yG _ _ _ _ _ _ _ _ _ _ (yI z872 :: [yR 2073]) _
      refine yG.ifz rfl (t := 14) rfl ⟨by omega, by omega⟩ (fun c873 => ?_) (fun c873 => ?_)
      · have c873 : (z872 : Int) ≠ 0 := c873
        replace R_z872 := R_z872 (by omega)
        refine yG.load xak rfl (fun _ _ => rfl) (v := yR 2073) rfl rfl ?_
        refine yG.load xik rfl (fun _ _ => rfl) (v := yI (4)) rfl rfl ?_
        refine yG.load xik rfl (fun _ _ => rfl) (v := yI (p2)) rfl rfl ?_
        refine yG.load xik rfl (fun _ _ => rfl) (v := yI (4)) rfl rfl ?_
        refine yG.load xik rfl (fun _ _ => rfl) (v := yI (p4)) rfl rfl ?_
        refine yG.invV (rest := [yR 2073]) A_hp.1 (bOb (d_M W) H_2073) rfl rfl rfl rfl (c_GModel_mayBe_4_4 W (d + 2) A_hp.1 H_2073 (p2) (p4) (by omega) (by omega) (by omega) (by omega)) (fun rv hp9 q9 => ?_)
        obtain ⟨⟨z874, rfl, l_z874, u_z874, R_z874⟩, e9⟩ := q9
        rw [e9]
        show yG _ _ _ _ _ _ _ _ _ _ (yI z874 :: [yR 2073]) _
        refine yG.ifz rfl (t := 30) rfl ⟨by omega, by omega⟩ (fun c875 => ?_) (fun c875 => ?_)
        · have c875 : (z874 : Int) ≠ 0 := c875
          exfalso; omega
        · have c875 : (z874 : Int) = 0 := c875
          refine yG.num (c := 2) rfl (fun _ _ => rfl) (by decide) ?_
          refine yG.goto rfl (t := 31) rfl ?_
          refine yG.putI A_hp.1 (w_M_thrown W H_2073) (W.2.1 _ _ H_2073 (by decide) (by decide)) rfl rfl (.inl rfl) ⟨by omega, by omega⟩ (by omega) (by omega) (fun h876 T_h876 b_h876 f_h876 y_h876 => ?_)
          have M_bWf_h876 := M_bWf_hp.fr (bAx.put (Wl := [(83076749736557242056487941267521536, 0)]) (bAx.rf A_hp.1) T_h876 b_h876 f_h876 H_2073 (by decide)) (by decide)
          have A_h876 := A_hp.put T_h876 b_h876 f_h876 H_2073 (by decide)
          have : ys h876 2073 0 = 2 := (y_h876 2073 0).trans (if_pos ⟨rfl, rfl⟩)
          refine yG.load xak rfl (fun _ _ => rfl) (v := yR 2073) rfl rfl ?_
          refine yG.getI A_h876.1 (w_M_thrown W H_2073) rfl rfl (fun z877 e_z877 i_z877 l_z877 u_z877 => ?_)
          refine yG.ifz rfl (t := 43) rfl ⟨by omega, by omega⟩ (fun c878 => ?_) (fun c878 => ?_)
          · have c878 : (z877 : Int) ≤ 0 := c878
            exfalso; omega
          · have c878 : (z877 : Int) > 0 := c878
            refine yG.num (c := 0) rfl (fun _ _ => rfl) (by decide) ?_
            refine yG.ret rfl (fun _ _ => rfl) ?_
            exact (yP.int ⟨by omega, by omega⟩ ⟨⟨⟨0, rfl, by omega, by omega, by omega⟩, A_h876⟩, M_bWf_h876⟩)
      · have c873 : (z872 : Int) = 0 := c873
        clear R_z872
        refine yG.num (c := 1) rfl (fun _ _ => rfl) (by decide) ?_
        refine yG.goto rfl (t := 31) rfl ?_
        refine yG.putI A_hp.1 (w_M_thrown W H_2073) (W.2.1 _ _ H_2073 (by decide) (by decide)) rfl rfl (.inl rfl) ⟨by omega, by omega⟩ (by omega) (by omega) (fun h879 T_h879 b_h879 f_h879 y_h879 => ?_)
        have M_bWf_h879 := M_bWf_hp.fr (bAx.put (Wl := [(83076749736557242056487941267521536, 0)]) (bAx.rf A_hp.1) T_h879 b_h879 f_h879 H_2073 (by decide)) (by decide)
        have A_h879 := A_hp.put T_h879 b_h879 f_h879 H_2073 (by decide)
        have : ys h879 2073 0 = 1 := (y_h879 2073 0).trans (if_pos ⟨rfl, rfl⟩)
        refine yG.load xak rfl (fun _ _ => rfl) (v := yR 2073) rfl rfl ?_
        refine yG.getI A_h879.1 (w_M_thrown W H_2073) rfl rfl (fun z880 e_z880 i_z880 l_z880 u_z880 => ?_)
        refine yG.ifz rfl (t := 43) rfl ⟨by omega, by omega⟩ (fun c881 => ?_) (fun c881 => ?_)
        · have c881 : (z880 : Int) ≤ 0 := c881
          exfalso; omega
        · have c881 : (z880 : Int) > 0 := c881
          refine yG.num (c := 0) rfl (fun _ _ => rfl) (by decide) ?_
          refine yG.ret rfl (fun _ _ => rfl) ?_
          exact (yP.int ⟨by omega, by omega⟩ ⟨⟨⟨0, rfl, by omega, by omega, by omega⟩, A_h879⟩, M_bWf_h879⟩)
    · subst c802
      refine yG.load xak rfl (fun _ _ => rfl) (v := yR 2073) rfl rfl ?_
      refine yG.load xak rfl (fun _ _ => rfl) (v := yR 2073) rfl rfl ?_
      refine yG.load xik rfl (fun _ _ => rfl) (v := yI (4)) rfl rfl ?_
      refine yG.load xik rfl (fun _ _ => rfl) (v := yI (p2)) rfl rfl ?_
      refine yG.invV (rest := [yR 2073]) A_hp.1 (bOb (d_M W) H_2073) rfl rfl rfl rfl (c_GModel_isObject W (d + 1) A_hp.1 H_2073 (4) (p2) (by omega) (by omega) (by omega) (by omega)) (fun rv hp9 q9 => ?_)
      obtain ⟨⟨z882, rfl, l_z882, u_z882, R_z882⟩, e9⟩ := q9
      rw [e9]
      show yG _ _ _ _ _ _ _ _ _ _ (yI z882 :: [yR 2073]) _
      refine yG.ifz rfl (t := 14) rfl ⟨by omega, by omega⟩ (fun c883 => ?_) (fun c883 => ?_)
      · have c883 : (z882 : Int) ≠ 0 := c883
        replace R_z882 := R_z882 (by omega)
        refine yG.load xak rfl (fun _ _ => rfl) (v := yR 2073) rfl rfl ?_
        refine yG.load xik rfl (fun _ _ => rfl) (v := yI (4)) rfl rfl ?_
        refine yG.load xik rfl (fun _ _ => rfl) (v := yI (p2)) rfl rfl ?_
        refine yG.load xik rfl (fun _ _ => rfl) (v := yI (5)) rfl rfl ?_
        refine yG.load xik rfl (fun _ _ => rfl) (v := yI (p4)) rfl rfl ?_
        refine yG.invV (rest := [yR 2073]) A_hp.1 (bOb (d_M W) H_2073) rfl rfl rfl rfl (c_GModel_mayBe_4_5 W (d + 2) A_hp.1 H_2073 (p2) (p4) (by omega) (by omega) (by omega) (by omega)) (fun rv hp9 q9 => ?_)
        obtain ⟨⟨z884, rfl, l_z884, u_z884, R_z884⟩, e9⟩ := q9
        rw [e9]
        show yG _ _ _ _ _ _ _ _ _ _ (yI z884 :: [yR 2073]) _
        refine yG.ifz rfl (t := 30) rfl ⟨by omega, by omega⟩ (fun c885 => ?_) (fun c885 => ?_)
        · have c885 : (z884 : Int) ≠ 0 := c885
          exfalso; omega
        · have c885 : (z884 : Int) = 0 := c885
          refine yG.num (c := 2) rfl (fun _ _ => rfl) (by decide) ?_
          refine yG.goto rfl (t := 31) rfl ?_
          refine yG.putI A_hp.1 (w_M_thrown W H_2073) (W.2.1 _ _ H_2073 (by decide) (by decide)) rfl rfl (.inl rfl) ⟨by omega, by omega⟩ (by omega) (by omega) (fun h886 T_h886 b_h886 f_h886 y_h886 => ?_)
          have M_bWf_h886 := M_bWf_hp.fr (bAx.put (Wl := [(83076749736557242056487941267521536, 0)]) (bAx.rf A_hp.1) T_h886 b_h886 f_h886 H_2073 (by decide)) (by decide)
          have A_h886 := A_hp.put T_h886 b_h886 f_h886 H_2073 (by decide)
          have : ys h886 2073 0 = 2 := (y_h886 2073 0).trans (if_pos ⟨rfl, rfl⟩)
          refine yG.load xak rfl (fun _ _ => rfl) (v := yR 2073) rfl rfl ?_
          refine yG.getI A_h886.1 (w_M_thrown W H_2073) rfl rfl (fun z887 e_z887 i_z887 l_z887 u_z887 => ?_)
          refine yG.ifz rfl (t := 43) rfl ⟨by omega, by omega⟩ (fun c888 => ?_) (fun c888 => ?_)
          · have c888 : (z887 : Int) ≤ 0 := c888
            exfalso; omega
          · have c888 : (z887 : Int) > 0 := c888
            refine yG.num (c := 0) rfl (fun _ _ => rfl) (by decide) ?_
            refine yG.ret rfl (fun _ _ => rfl) ?_
            exact (yP.int ⟨by omega, by omega⟩ ⟨⟨⟨0, rfl, by omega, by omega, by omega⟩, A_h886⟩, M_bWf_h886⟩)
      · have c883 : (z882 : Int) = 0 := c883
        clear R_z882
        refine yG.num (c := 1) rfl (fun _ _ => rfl) (by decide) ?_
        refine yG.goto rfl (t := 31) rfl ?_
        refine yG.putI A_hp.1 (w_M_thrown W H_2073) (W.2.1 _ _ H_2073 (by decide) (by decide)) rfl rfl (.inl rfl) ⟨by omega, by omega⟩ (by omega) (by omega) (fun h889 T_h889 b_h889 f_h889 y_h889 => ?_)
        have M_bWf_h889 := M_bWf_hp.fr (bAx.put (Wl := [(83076749736557242056487941267521536, 0)]) (bAx.rf A_hp.1) T_h889 b_h889 f_h889 H_2073 (by decide)) (by decide)
        have A_h889 := A_hp.put T_h889 b_h889 f_h889 H_2073 (by decide)
        have : ys h889 2073 0 = 1 := (y_h889 2073 0).trans (if_pos ⟨rfl, rfl⟩)
        refine yG.load xak rfl (fun _ _ => rfl) (v := yR 2073) rfl rfl ?_
        refine yG.getI A_h889.1 (w_M_thrown W H_2073) rfl rfl (fun z890 e_z890 i_z890 l_z890 u_z890 => ?_)
        refine yG.ifz rfl (t := 43) rfl ⟨by omega, by omega⟩ (fun c891 => ?_) (fun c891 => ?_)
        · have c891 : (z890 : Int) ≤ 0 := c891
          exfalso; omega
        · have c891 : (z890 : Int) > 0 := c891
          refine yG.num (c := 0) rfl (fun _ _ => rfl) (by decide) ?_
          refine yG.ret rfl (fun _ _ => rfl) ?_
          exact (yP.int ⟨by omega, by omega⟩ ⟨⟨⟨0, rfl, by omega, by omega, by omega⟩, A_h889⟩, M_bWf_h889⟩)
    · subst c802
      refine yG.load xak rfl (fun _ _ => rfl) (v := yR 2073) rfl rfl ?_
      refine yG.load xak rfl (fun _ _ => rfl) (v := yR 2073) rfl rfl ?_
      refine yG.load xik rfl (fun _ _ => rfl) (v := yI (4)) rfl rfl ?_
      refine yG.load xik rfl (fun _ _ => rfl) (v := yI (p2)) rfl rfl ?_
      refine yG.invV (rest := [yR 2073]) A_hp.1 (bOb (d_M W) H_2073) rfl rfl rfl rfl (c_GModel_isObject W (d + 1) A_hp.1 H_2073 (4) (p2) (by omega) (by omega) (by omega) (by omega)) (fun rv hp9 q9 => ?_)
      obtain ⟨⟨z892, rfl, l_z892, u_z892, R_z892⟩, e9⟩ := q9
      rw [e9]
      show yG _ _ _ _ _ _ _ _ _ _ (yI z892 :: [yR 2073]) _
      refine yG.ifz rfl (t := 14) rfl ⟨by omega, by omega⟩ (fun c893 => ?_) (fun c893 => ?_)
      · have c893 : (z892 : Int) ≠ 0 := c893
        replace R_z892 := R_z892 (by omega)
        refine yG.load xak rfl (fun _ _ => rfl) (v := yR 2073) rfl rfl ?_
        refine yG.load xik rfl (fun _ _ => rfl) (v := yI (4)) rfl rfl ?_
        refine yG.load xik rfl (fun _ _ => rfl) (v := yI (p2)) rfl rfl ?_
        refine yG.load xik rfl (fun _ _ => rfl) (v := yI (6)) rfl rfl ?_
        refine yG.load xik rfl (fun _ _ => rfl) (v := yI (p4)) rfl rfl ?_
        refine yG.invV (rest := [yR 2073]) A_hp.1 (bOb (d_M W) H_2073) rfl rfl rfl rfl (c_GModel_mayBe_4_6 W (d + 2) A_hp.1 H_2073 (p2) (p4) (by omega) (by omega) (by omega) (by omega)) (fun rv hp9 q9 => ?_)
        obtain ⟨⟨z894, rfl, l_z894, u_z894, R_z894⟩, e9⟩ := q9
        rw [e9]
        show yG _ _ _ _ _ _ _ _ _ _ (yI z894 :: [yR 2073]) _
        refine yG.ifz rfl (t := 30) rfl ⟨by omega, by omega⟩ (fun c895 => ?_) (fun c895 => ?_)
        · have c895 : (z894 : Int) ≠ 0 := c895
          exfalso; omega
        · have c895 : (z894 : Int) = 0 := c895
          refine yG.num (c := 2) rfl (fun _ _ => rfl) (by decide) ?_
          refine yG.goto rfl (t := 31) rfl ?_
          refine yG.putI A_hp.1 (w_M_thrown W H_2073) (W.2.1 _ _ H_2073 (by decide) (by decide)) rfl rfl (.inl rfl) ⟨by omega, by omega⟩ (by omega) (by omega) (fun h896 T_h896 b_h896 f_h896 y_h896 => ?_)
          have M_bWf_h896 := M_bWf_hp.fr (bAx.put (Wl := [(83076749736557242056487941267521536, 0)]) (bAx.rf A_hp.1) T_h896 b_h896 f_h896 H_2073 (by decide)) (by decide)
          have A_h896 := A_hp.put T_h896 b_h896 f_h896 H_2073 (by decide)
          have : ys h896 2073 0 = 2 := (y_h896 2073 0).trans (if_pos ⟨rfl, rfl⟩)
          refine yG.load xak rfl (fun _ _ => rfl) (v := yR 2073) rfl rfl ?_
          refine yG.getI A_h896.1 (w_M_thrown W H_2073) rfl rfl (fun z897 e_z897 i_z897 l_z897 u_z897 => ?_)
          refine yG.ifz rfl (t := 43) rfl ⟨by omega, by omega⟩ (fun c898 => ?_) (fun c898 => ?_)
          · have c898 : (z897 : Int) ≤ 0 := c898
            exfalso; omega
          · have c898 : (z897 : Int) > 0 := c898
            refine yG.num (c := 0) rfl (fun _ _ => rfl) (by decide) ?_
            refine yG.ret rfl (fun _ _ => rfl) ?_
            exact (yP.int ⟨by omega, by omega⟩ ⟨⟨⟨0, rfl, by omega, by omega, by omega⟩, A_h896⟩, M_bWf_h896⟩)
      · have c893 : (z892 : Int) = 0 := c893
        clear R_z892
        refine yG.num (c := 1) rfl (fun _ _ => rfl) (by decide) ?_
        refine yG.goto rfl (t := 31) rfl ?_
        refine yG.putI A_hp.1 (w_M_thrown W H_2073) (W.2.1 _ _ H_2073 (by decide) (by decide)) rfl rfl (.inl rfl) ⟨by omega, by omega⟩ (by omega) (by omega) (fun h899 T_h899 b_h899 f_h899 y_h899 => ?_)
        have M_bWf_h899 := M_bWf_hp.fr (bAx.put (Wl := [(83076749736557242056487941267521536, 0)]) (bAx.rf A_hp.1) T_h899 b_h899 f_h899 H_2073 (by decide)) (by decide)
        have A_h899 := A_hp.put T_h899 b_h899 f_h899 H_2073 (by decide)
        have : ys h899 2073 0 = 1 := (y_h899 2073 0).trans (if_pos ⟨rfl, rfl⟩)
        refine yG.load xak rfl (fun _ _ => rfl) (v := yR 2073) rfl rfl ?_
        refine yG.getI A_h899.1 (w_M_thrown W H_2073) rfl rfl (fun z900 e_z900 i_z900 l_z900 u_z900 => ?_)
        refine yG.ifz rfl (t := 43) rfl ⟨by omega, by omega⟩ (fun c901 => ?_) (fun c901 => ?_)
        · have c901 : (z900 : Int) ≤ 0 := c901
          exfalso; omega
        · have c901 : (z900 : Int) > 0 := c901
          refine yG.num (c := 0) rfl (fun _ _ => rfl) (by decide) ?_
          refine yG.ret rfl (fun _ _ => rfl) ?_
          exact (yP.int ⟨by omega, by omega⟩ ⟨⟨⟨0, rfl, by omega, by omega, by omega⟩, A_h899⟩, M_bWf_h899⟩)
    · subst c802
      refine yG.load xak rfl (fun _ _ => rfl) (v := yR 2073) rfl rfl ?_
      refine yG.load xak rfl (fun _ _ => rfl) (v := yR 2073) rfl rfl ?_
      refine yG.load xik rfl (fun _ _ => rfl) (v := yI (4)) rfl rfl ?_
      refine yG.load xik rfl (fun _ _ => rfl) (v := yI (p2)) rfl rfl ?_
      refine yG.invV (rest := [yR 2073]) A_hp.1 (bOb (d_M W) H_2073) rfl rfl rfl rfl (c_GModel_isObject W (d + 1) A_hp.1 H_2073 (4) (p2) (by omega) (by omega) (by omega) (by omega)) (fun rv hp9 q9 => ?_)
      obtain ⟨⟨z902, rfl, l_z902, u_z902, R_z902⟩, e9⟩ := q9
      rw [e9]
      show yG _ _ _ _ _ _ _ _ _ _ (yI z902 :: [yR 2073]) _
      refine yG.ifz rfl (t := 14) rfl ⟨by omega, by omega⟩ (fun c903 => ?_) (fun c903 => ?_)
      · have c903 : (z902 : Int) ≠ 0 := c903
        replace R_z902 := R_z902 (by omega)
        refine yG.load xak rfl (fun _ _ => rfl) (v := yR 2073) rfl rfl ?_
        refine yG.load xik rfl (fun _ _ => rfl) (v := yI (4)) rfl rfl ?_
        refine yG.load xik rfl (fun _ _ => rfl) (v := yI (p2)) rfl rfl ?_
        refine yG.load xik rfl (fun _ _ => rfl) (v := yI (7)) rfl rfl ?_
        refine yG.load xik rfl (fun _ _ => rfl) (v := yI (p4)) rfl rfl ?_
        refine yG.invV (rest := [yR 2073]) A_hp.1 (bOb (d_M W) H_2073) rfl rfl rfl rfl (c_GModel_mayBe_4_7 W (d + 2) A_hp.1 H_2073 (p2) (p4) (by omega) (by omega) (by omega) (by omega)) (fun rv hp9 q9 => ?_)
        obtain ⟨⟨z904, rfl, l_z904, u_z904, R_z904⟩, e9⟩ := q9
        rw [e9]
        show yG _ _ _ _ _ _ _ _ _ _ (yI z904 :: [yR 2073]) _
        refine yG.ifz rfl (t := 30) rfl ⟨by omega, by omega⟩ (fun c905 => ?_) (fun c905 => ?_)
        · have c905 : (z904 : Int) ≠ 0 := c905
          exfalso; omega
        · have c905 : (z904 : Int) = 0 := c905
          refine yG.num (c := 2) rfl (fun _ _ => rfl) (by decide) ?_
          refine yG.goto rfl (t := 31) rfl ?_
          refine yG.putI A_hp.1 (w_M_thrown W H_2073) (W.2.1 _ _ H_2073 (by decide) (by decide)) rfl rfl (.inl rfl) ⟨by omega, by omega⟩ (by omega) (by omega) (fun h906 T_h906 b_h906 f_h906 y_h906 => ?_)
          have M_bWf_h906 := M_bWf_hp.fr (bAx.put (Wl := [(83076749736557242056487941267521536, 0)]) (bAx.rf A_hp.1) T_h906 b_h906 f_h906 H_2073 (by decide)) (by decide)
          have A_h906 := A_hp.put T_h906 b_h906 f_h906 H_2073 (by decide)
          have : ys h906 2073 0 = 2 := (y_h906 2073 0).trans (if_pos ⟨rfl, rfl⟩)
          refine yG.load xak rfl (fun _ _ => rfl) (v := yR 2073) rfl rfl ?_
          refine yG.getI A_h906.1 (w_M_thrown W H_2073) rfl rfl (fun z907 e_z907 i_z907 l_z907 u_z907 => ?_)
          refine yG.ifz rfl (t := 43) rfl ⟨by omega, by omega⟩ (fun c908 => ?_) (fun c908 => ?_)
          · have c908 : (z907 : Int) ≤ 0 := c908
            exfalso; omega
          · have c908 : (z907 : Int) > 0 := c908
            refine yG.num (c := 0) rfl (fun _ _ => rfl) (by decide) ?_
            refine yG.ret rfl (fun _ _ => rfl) ?_
            exact (yP.int ⟨by omega, by omega⟩ ⟨⟨⟨0, rfl, by omega, by omega, by omega⟩, A_h906⟩, M_bWf_h906⟩)
      · have c903 : (z902 : Int) = 0 := c903
        clear R_z902
        refine yG.num (c := 1) rfl (fun _ _ => rfl) (by decide) ?_
        refine yG.goto rfl (t := 31) rfl ?_
        refine yG.putI A_hp.1 (w_M_thrown W H_2073) (W.2.1 _ _ H_2073 (by decide) (by decide)) rfl rfl (.inl rfl) ⟨by omega, by omega⟩ (by omega) (by omega) (fun h909 T_h909 b_h909 f_h909 y_h909 => ?_)
        have M_bWf_h909 := M_bWf_hp.fr (bAx.put (Wl := [(83076749736557242056487941267521536, 0)]) (bAx.rf A_hp.1) T_h909 b_h909 f_h909 H_2073 (by decide)) (by decide)
        have A_h909 := A_hp.put T_h909 b_h909 f_h909 H_2073 (by decide)
        have : ys h909 2073 0 = 1 := (y_h909 2073 0).trans (if_pos ⟨rfl, rfl⟩)
        refine yG.load xak rfl (fun _ _ => rfl) (v := yR 2073) rfl rfl ?_
        refine yG.getI A_h909.1 (w_M_thrown W H_2073) rfl rfl (fun z910 e_z910 i_z910 l_z910 u_z910 => ?_)
        refine yG.ifz rfl (t := 43) rfl ⟨by omega, by omega⟩ (fun c911 => ?_) (fun c911 => ?_)
        · have c911 : (z910 : Int) ≤ 0 := c911
          exfalso; omega
        · have c911 : (z910 : Int) > 0 := c911
          refine yG.num (c := 0) rfl (fun _ _ => rfl) (by decide) ?_
          refine yG.ret rfl (fun _ _ => rfl) ?_
          exact (yP.int ⟨by omega, by omega⟩ ⟨⟨⟨0, rfl, by omega, by omega, by omega⟩, A_h909⟩, M_bWf_h909⟩)
    · subst c802
      refine yG.load xak rfl (fun _ _ => rfl) (v := yR 2073) rfl rfl ?_
      refine yG.load xak rfl (fun _ _ => rfl) (v := yR 2073) rfl rfl ?_
      refine yG.load xik rfl (fun _ _ => rfl) (v := yI (4)) rfl rfl ?_
      refine yG.load xik rfl (fun _ _ => rfl) (v := yI (p2)) rfl rfl ?_
      refine yG.invV (rest := [yR 2073]) A_hp.1 (bOb (d_M W) H_2073) rfl rfl rfl rfl (c_GModel_isObject W (d + 1) A_hp.1 H_2073 (4) (p2) (by omega) (by omega) (by omega) (by omega)) (fun rv hp9 q9 => ?_)
      obtain ⟨⟨z912, rfl, l_z912, u_z912, R_z912⟩, e9⟩ := q9
      rw [e9]
      show yG _ _ _ _ _ _ _ _ _ _ (yI z912 :: [yR 2073]) _
      refine yG.ifz rfl (t := 14) rfl ⟨by omega, by omega⟩ (fun c913 => ?_) (fun c913 => ?_)
      · have c913 : (z912 : Int) ≠ 0 := c913
        replace R_z912 := R_z912 (by omega)
        refine yG.load xak rfl (fun _ _ => rfl) (v := yR 2073) rfl rfl ?_
        refine yG.load xik rfl (fun _ _ => rfl) (v := yI (4)) rfl rfl ?_
        refine yG.load xik rfl (fun _ _ => rfl) (v := yI (p2)) rfl rfl ?_
        refine yG.load xik rfl (fun _ _ => rfl) (v := yI (8)) rfl rfl ?_
        refine yG.load xik rfl (fun _ _ => rfl) (v := yI (p4)) rfl rfl ?_
        refine yG.invV (rest := [yR 2073]) A_hp.1 (bOb (d_M W) H_2073) rfl rfl rfl rfl (c_GModel_mayBe_4_8 W (d + 2) A_hp.1 H_2073 (p2) (p4) (by omega) (by omega) (by omega) (by omega)) (fun rv hp9 q9 => ?_)
        obtain ⟨⟨z914, rfl, l_z914, u_z914, R_z914⟩, e9⟩ := q9
        rw [e9]
        show yG _ _ _ _ _ _ _ _ _ _ (yI z914 :: [yR 2073]) _
        refine yG.ifz rfl (t := 30) rfl ⟨by omega, by omega⟩ (fun c915 => ?_) (fun c915 => ?_)
        · have c915 : (z914 : Int) ≠ 0 := c915
          exfalso; omega
        · have c915 : (z914 : Int) = 0 := c915
          refine yG.num (c := 2) rfl (fun _ _ => rfl) (by decide) ?_
          refine yG.goto rfl (t := 31) rfl ?_
          refine yG.putI A_hp.1 (w_M_thrown W H_2073) (W.2.1 _ _ H_2073 (by decide) (by decide)) rfl rfl (.inl rfl) ⟨by omega, by omega⟩ (by omega) (by omega) (fun h916 T_h916 b_h916 f_h916 y_h916 => ?_)
          have M_bWf_h916 := M_bWf_hp.fr (bAx.put (Wl := [(83076749736557242056487941267521536, 0)]) (bAx.rf A_hp.1) T_h916 b_h916 f_h916 H_2073 (by decide)) (by decide)
          have A_h916 := A_hp.put T_h916 b_h916 f_h916 H_2073 (by decide)
          have : ys h916 2073 0 = 2 := (y_h916 2073 0).trans (if_pos ⟨rfl, rfl⟩)
          refine yG.load xak rfl (fun _ _ => rfl) (v := yR 2073) rfl rfl ?_
          refine yG.getI A_h916.1 (w_M_thrown W H_2073) rfl rfl (fun z917 e_z917 i_z917 l_z917 u_z917 => ?_)
          refine yG.ifz rfl (t := 43) rfl ⟨by omega, by omega⟩ (fun c918 => ?_) (fun c918 => ?_)
          · have c918 : (z917 : Int) ≤ 0 := c918
            exfalso; omega
          · have c918 : (z917 : Int) > 0 := c918
            refine yG.num (c := 0) rfl (fun _ _ => rfl) (by decide) ?_
            refine yG.ret rfl (fun _ _ => rfl) ?_
            exact (yP.int ⟨by omega, by omega⟩ ⟨⟨⟨0, rfl, by omega, by omega, by omega⟩, A_h916⟩, M_bWf_h916⟩)
      · have c913 : (z912 : Int) = 0 := c913
        clear R_z912
        refine yG.num (c := 1) rfl (fun _ _ => rfl) (by decide) ?_
        refine yG.goto rfl (t := 31) rfl ?_
        refine yG.putI A_hp.1 (w_M_thrown W H_2073) (W.2.1 _ _ H_2073 (by decide) (by decide)) rfl rfl (.inl rfl) ⟨by omega, by omega⟩ (by omega) (by omega) (fun h919 T_h919 b_h919 f_h919 y_h919 => ?_)
        have M_bWf_h919 := M_bWf_hp.fr (bAx.put (Wl := [(83076749736557242056487941267521536, 0)]) (bAx.rf A_hp.1) T_h919 b_h919 f_h919 H_2073 (by decide)) (by decide)
        have A_h919 := A_hp.put T_h919 b_h919 f_h919 H_2073 (by decide)
        have : ys h919 2073 0 = 1 := (y_h919 2073 0).trans (if_pos ⟨rfl, rfl⟩)
        refine yG.load xak rfl (fun _ _ => rfl) (v := yR 2073) rfl rfl ?_
        refine yG.getI A_h919.1 (w_M_thrown W H_2073) rfl rfl (fun z920 e_z920 i_z920 l_z920 u_z920 => ?_)
        refine yG.ifz rfl (t := 43) rfl ⟨by omega, by omega⟩ (fun c921 => ?_) (fun c921 => ?_)
        · have c921 : (z920 : Int) ≤ 0 := c921
          exfalso; omega
        · have c921 : (z920 : Int) > 0 := c921
          refine yG.num (c := 0) rfl (fun _ _ => rfl) (by decide) ?_
          refine yG.ret rfl (fun _ _ => rfl) ?_
          exact (yP.int ⟨by omega, by omega⟩ ⟨⟨⟨0, rfl, by omega, by omega, by omega⟩, A_h919⟩, M_bWf_h919⟩)
    · subst c802
      refine yG.load xak rfl (fun _ _ => rfl) (v := yR 2073) rfl rfl ?_
      refine yG.load xak rfl (fun _ _ => rfl) (v := yR 2073) rfl rfl ?_
      refine yG.load xik rfl (fun _ _ => rfl) (v := yI (4)) rfl rfl ?_
      refine yG.load xik rfl (fun _ _ => rfl) (v := yI (p2)) rfl rfl ?_
      refine yG.invV (rest := [yR 2073]) A_hp.1 (bOb (d_M W) H_2073) rfl rfl rfl rfl (c_GModel_isObject W (d + 1) A_hp.1 H_2073 (4) (p2) (by omega) (by omega) (by omega) (by omega)) (fun rv hp9 q9 => ?_)
      obtain ⟨⟨z922, rfl, l_z922, u_z922, R_z922⟩, e9⟩ := q9
      rw [e9]
      show yG _ _ _ _ _ _ _ _ _ _ (yI z922 :: [yR 2073]) _
      refine yG.ifz rfl (t := 14) rfl ⟨by omega, by omega⟩ (fun c923 => ?_) (fun c923 => ?_)
      · have c923 : (z922 : Int) ≠ 0 := c923
        replace R_z922 := R_z922 (by omega)
        refine yG.load xak rfl (fun _ _ => rfl) (v := yR 2073) rfl rfl ?_
        refine yG.load xik rfl (fun _ _ => rfl) (v := yI (4)) rfl rfl ?_
        refine yG.load xik rfl (fun _ _ => rfl) (v := yI (p2)) rfl rfl ?_
        refine yG.load xik rfl (fun _ _ => rfl) (v := yI (9)) rfl rfl ?_
        refine yG.load xik rfl (fun _ _ => rfl) (v := yI (p4)) rfl rfl ?_
        refine yG.invV (rest := [yR 2073]) A_hp.1 (bOb (d_M W) H_2073) rfl rfl rfl rfl (c_GModel_mayBe_4_9 W (d + 2) A_hp.1 H_2073 (p2) (p4) (by omega) (by omega) (by omega) (by omega)) (fun rv hp9 q9 => ?_)
        obtain ⟨⟨z924, rfl, l_z924, u_z924, R_z924⟩, e9⟩ := q9
        rw [e9]
        show yG _ _ _ _ _ _ _ _ _ _ (yI z924 :: [yR 2073]) _
        refine yG.ifz rfl (t := 30) rfl ⟨by omega, by omega⟩ (fun c925 => ?_) (fun c925 => ?_)
        · have c925 : (z924 : Int) ≠ 0 := c925
          exfalso; omega
        · have c925 : (z924 : Int) = 0 := c925
          refine yG.num (c := 2) rfl (fun _ _ => rfl) (by decide) ?_
          refine yG.goto rfl (t := 31) rfl ?_
          refine yG.putI A_hp.1 (w_M_thrown W H_2073) (W.2.1 _ _ H_2073 (by decide) (by decide)) rfl rfl (.inl rfl) ⟨by omega, by omega⟩ (by omega) (by omega) (fun h926 T_h926 b_h926 f_h926 y_h926 => ?_)
          have M_bWf_h926 := M_bWf_hp.fr (bAx.put (Wl := [(83076749736557242056487941267521536, 0)]) (bAx.rf A_hp.1) T_h926 b_h926 f_h926 H_2073 (by decide)) (by decide)
          have A_h926 := A_hp.put T_h926 b_h926 f_h926 H_2073 (by decide)
          have : ys h926 2073 0 = 2 := (y_h926 2073 0).trans (if_pos ⟨rfl, rfl⟩)
          refine yG.load xak rfl (fun _ _ => rfl) (v := yR 2073) rfl rfl ?_
          refine yG.getI A_h926.1 (w_M_thrown W H_2073) rfl rfl (fun z927 e_z927 i_z927 l_z927 u_z927 => ?_)
          refine yG.ifz rfl (t := 43) rfl ⟨by omega, by omega⟩ (fun c928 => ?_) (fun c928 => ?_)
          · have c928 : (z927 : Int) ≤ 0 := c928
            exfalso; omega
          · have c928 : (z927 : Int) > 0 := c928
            refine yG.num (c := 0) rfl (fun _ _ => rfl) (by decide) ?_
            refine yG.ret rfl (fun _ _ => rfl) ?_
            exact (yP.int ⟨by omega, by omega⟩ ⟨⟨⟨0, rfl, by omega, by omega, by omega⟩, A_h926⟩, M_bWf_h926⟩)
      · have c923 : (z922 : Int) = 0 := c923
        clear R_z922
        refine yG.num (c := 1) rfl (fun _ _ => rfl) (by decide) ?_
        refine yG.goto rfl (t := 31) rfl ?_
        refine yG.putI A_hp.1 (w_M_thrown W H_2073) (W.2.1 _ _ H_2073 (by decide) (by decide)) rfl rfl (.inl rfl) ⟨by omega, by omega⟩ (by omega) (by omega) (fun h929 T_h929 b_h929 f_h929 y_h929 => ?_)
        have M_bWf_h929 := M_bWf_hp.fr (bAx.put (Wl := [(83076749736557242056487941267521536, 0)]) (bAx.rf A_hp.1) T_h929 b_h929 f_h929 H_2073 (by decide)) (by decide)
        have A_h929 := A_hp.put T_h929 b_h929 f_h929 H_2073 (by decide)
        have : ys h929 2073 0 = 1 := (y_h929 2073 0).trans (if_pos ⟨rfl, rfl⟩)
        refine yG.load xak rfl (fun _ _ => rfl) (v := yR 2073) rfl rfl ?_
        refine yG.getI A_h929.1 (w_M_thrown W H_2073) rfl rfl (fun z930 e_z930 i_z930 l_z930 u_z930 => ?_)
        refine yG.ifz rfl (t := 43) rfl ⟨by omega, by omega⟩ (fun c931 => ?_) (fun c931 => ?_)
        · have c931 : (z930 : Int) ≤ 0 := c931
          exfalso; omega
        · have c931 : (z930 : Int) > 0 := c931
          refine yG.num (c := 0) rfl (fun _ _ => rfl) (by decide) ?_
          refine yG.ret rfl (fun _ _ => rfl) ?_
          exact (yP.int ⟨by omega, by omega⟩ ⟨⟨⟨0, rfl, by omega, by omega, by omega⟩, A_h929⟩, M_bWf_h929⟩)
    · subst c802
      refine yG.load xak rfl (fun _ _ => rfl) (v := yR 2073) rfl rfl ?_
      refine yG.load xak rfl (fun _ _ => rfl) (v := yR 2073) rfl rfl ?_
      refine yG.load xik rfl (fun _ _ => rfl) (v := yI (4)) rfl rfl ?_
      refine yG.load xik rfl (fun _ _ => rfl) (v := yI (p2)) rfl rfl ?_
      refine yG.invV (rest := [yR 2073]) A_hp.1 (bOb (d_M W) H_2073) rfl rfl rfl rfl (c_GModel_isObject W (d + 1) A_hp.1 H_2073 (4) (p2) (by omega) (by omega) (by omega) (by omega)) (fun rv hp9 q9 => ?_)
      obtain ⟨⟨z932, rfl, l_z932, u_z932, R_z932⟩, e9⟩ := q9
      rw [e9]
      show yG _ _ _ _ _ _ _ _ _ _ (yI z932 :: [yR 2073]) _
      refine yG.ifz rfl (t := 14) rfl ⟨by omega, by omega⟩ (fun c933 => ?_) (fun c933 => ?_)
      · have c933 : (z932 : Int) ≠ 0 := c933
        replace R_z932 := R_z932 (by omega)
        refine yG.load xak rfl (fun _ _ => rfl) (v := yR 2073) rfl rfl ?_
        refine yG.load xik rfl (fun _ _ => rfl) (v := yI (4)) rfl rfl ?_
        refine yG.load xik rfl (fun _ _ => rfl) (v := yI (p2)) rfl rfl ?_
        refine yG.load xik rfl (fun _ _ => rfl) (v := yI (10)) rfl rfl ?_
        refine yG.load xik rfl (fun _ _ => rfl) (v := yI (p4)) rfl rfl ?_
        refine yG.invV (rest := [yR 2073]) A_hp.1 (bOb (d_M W) H_2073) rfl rfl rfl rfl (c_GModel_mayBe_4_10 W (d + 2) A_hp.1 H_2073 (p2) (p4) (by omega) (by omega) (by omega) (by omega)) (fun rv hp9 q9 => ?_)
        obtain ⟨⟨z934, rfl, l_z934, u_z934, R_z934⟩, e9⟩ := q9
        rw [e9]
        show yG _ _ _ _ _ _ _ _ _ _ (yI z934 :: [yR 2073]) _
        refine yG.ifz rfl (t := 30) rfl ⟨by omega, by omega⟩ (fun c935 => ?_) (fun c935 => ?_)
        · have c935 : (z934 : Int) ≠ 0 := c935
          exfalso; omega
        · have c935 : (z934 : Int) = 0 := c935
          refine yG.num (c := 2) rfl (fun _ _ => rfl) (by decide) ?_
          refine yG.goto rfl (t := 31) rfl ?_
          refine yG.putI A_hp.1 (w_M_thrown W H_2073) (W.2.1 _ _ H_2073 (by decide) (by decide)) rfl rfl (.inl rfl) ⟨by omega, by omega⟩ (by omega) (by omega) (fun h936 T_h936 b_h936 f_h936 y_h936 => ?_)
          have M_bWf_h936 := M_bWf_hp.fr (bAx.put (Wl := [(83076749736557242056487941267521536, 0)]) (bAx.rf A_hp.1) T_h936 b_h936 f_h936 H_2073 (by decide)) (by decide)
          have A_h936 := A_hp.put T_h936 b_h936 f_h936 H_2073 (by decide)
          have : ys h936 2073 0 = 2 := (y_h936 2073 0).trans (if_pos ⟨rfl, rfl⟩)
          refine yG.load xak rfl (fun _ _ => rfl) (v := yR 2073) rfl rfl ?_
          refine yG.getI A_h936.1 (w_M_thrown W H_2073) rfl rfl (fun z937 e_z937 i_z937 l_z937 u_z937 => ?_)
          refine yG.ifz rfl (t := 43) rfl ⟨by omega, by omega⟩ (fun c938 => ?_) (fun c938 => ?_)
          · have c938 : (z937 : Int) ≤ 0 := c938
            exfalso; omega
          · have c938 : (z937 : Int) > 0 := c938
            refine yG.num (c := 0) rfl (fun _ _ => rfl) (by decide) ?_
            refine yG.ret rfl (fun _ _ => rfl) ?_
            exact (yP.int ⟨by omega, by omega⟩ ⟨⟨⟨0, rfl, by omega, by omega, by omega⟩, A_h936⟩, M_bWf_h936⟩)
      · have c933 : (z932 : Int) = 0 := c933
        clear R_z932
        refine yG.num (c := 1) rfl (fun _ _ => rfl) (by decide) ?_
        refine yG.goto rfl (t := 31) rfl ?_
        refine yG.putI A_hp.1 (w_M_thrown W H_2073) (W.2.1 _ _ H_2073 (by decide) (by decide)) rfl rfl (.inl rfl) ⟨by omega, by omega⟩ (by omega) (by omega) (fun h939 T_h939 b_h939 f_h939 y_h939 => ?_)
        have M_bWf_h939 := M_bWf_hp.fr (bAx.put (Wl := [(83076749736557242056487941267521536, 0)]) (bAx.rf A_hp.1) T_h939 b_h939 f_h939 H_2073 (by decide)) (by decide)
        have A_h939 := A_hp.put T_h939 b_h939 f_h939 H_2073 (by decide)
        have : ys h939 2073 0 = 1 := (y_h939 2073 0).trans (if_pos ⟨rfl, rfl⟩)
        refine yG.load xak rfl (fun _ _ => rfl) (v := yR 2073) rfl rfl ?_
        refine yG.getI A_h939.1 (w_M_thrown W H_2073) rfl rfl (fun z940 e_z940 i_z940 l_z940 u_z940 => ?_)
        refine yG.ifz rfl (t := 43) rfl ⟨by omega, by omega⟩ (fun c941 => ?_) (fun c941 => ?_)
        · have c941 : (z940 : Int) ≤ 0 := c941
          exfalso; omega
        · have c941 : (z940 : Int) > 0 := c941
          refine yG.num (c := 0) rfl (fun _ _ => rfl) (by decide) ?_
          refine yG.ret rfl (fun _ _ => rfl) ?_
          exact (yP.int ⟨by omega, by omega⟩ ⟨⟨⟨0, rfl, by omega, by omega, by omega⟩, A_h939⟩, M_bWf_h939⟩)
theorem c_GModel_goThrough {hp : xH} (W : mW G) (d : Nat) (hT : zTy G hp) (M_bRg : bRg G hp) (M_bWf : bWf G hp) (M_bRc : bRc G hp) (M_bSr : bSr G hp) (M_bPr : bPr G hp) (H_2073 : bRo G 116 2073) : yC (xcall 89 xfts xpools xms (d + 12)) 413 [yR 2073] hp (fun rv hp' => (fun rv hp' => (bQi G [(83076749736557242056487941267521536, 10), (83076749736557242056487941267521536, 11), (83076749736557242056487941267521536, 38), (83076749736557242056487941267521536, 40), (83076749736557242056487941267521536, 45), (83076749736557242056487941267521536, 46), (83076749736557242056487941267521536, 47), (83076749736557242056487941267521536, 135), (408162263241783541402858104586602178094999744488059883564826624, 256)] hp 0 24 (fun _ => True)) rv hp' ∧ bWf G hp') rv hp' ∧ bRg G hp') := by
  have A_hp : bAx G [(83076749736557242056487941267521536, 10), (83076749736557242056487941267521536, 11), (83076749736557242056487941267521536, 38), (83076749736557242056487941267521536, 40), (83076749736557242056487941267521536, 45), (83076749736557242056487941267521536, 46), (83076749736557242056487941267521536, 47), (83076749736557242056487941267521536, 135), (408162263241783541402858104586602178094999744488059883564826624, 256)] hp hp := bAx.rf hT
  have M_bRg_hp := M_bRg
  have M_bWf_hp := M_bWf
  have H : ∀ m : Nat, (∀ a1 : Int, ∀ hq, bAx G [(83076749736557242056487941267521536, 10), (83076749736557242056487941267521536, 11), (83076749736557242056487941267521536, 38), (83076749736557242056487941267521536, 40), (83076749736557242056487941267521536, 45), (83076749736557242056487941267521536, 46), (83076749736557242056487941267521536, 47), (83076749736557242056487941267521536, 135), (408162263241783541402858104586602178094999744488059883564826624, 256)] hp hq → bRg G hq → bWf G hq → 0 ≤ a1 → (-24) ≤ 0 - a1 → 0 - 2 * a1 + 49 < (m : Int) → yG 89 xfts (xcall 89 xfts xpools xms (d + 11)) (xpool xp_RX13) [] xt_X13_goThrough (yP 1 (fun rv hp' => (fun rv hp' => (bQi G [(83076749736557242056487941267521536, 10), (83076749736557242056487941267521536, 11), (83076749736557242056487941267521536, 38), (83076749736557242056487941267521536, 40), (83076749736557242056487941267521536, 45), (83076749736557242056487941267521536, 46), (83076749736557242056487941267521536, 47), (83076749736557242056487941267521536, 135), (408162263241783541402858104586602178094999744488059883564826624, 256)] hp 0 24 (fun _ => True)) rv hp' ∧ bWf G hp') rv hp' ∧ bRg G hp')) (19 * m) 2 [(0, yR 2073), (1, yI (a1))] [] hq) := by
    intro m
    induction m with
    | zero =>
      intros; exfalso; omega
    | succ m ih =>
      have i_2 := ih
      clear ih
      intro a1 hq A_hq M_bRg_hq M_bWf_hq f0 f1 hm
      refine yG.mono (N := 19 * m + 19) ?_ (by omega)
      refine yG.load xik rfl (fun _ _ => rfl) (v := yI (a1)) rfl rfl ?_
      refine yG.load xak rfl (fun _ _ => rfl) (v := yR 2073) rfl rfl ?_
      refine yG.getI A_hq.1 (w_M_steps W H_2073) rfl rfl (fun z1 e_z1 i_z1 l_z1 u_z1 => ?_)
      refine yG.icmp rfl (t := 35) rfl ⟨by omega, by omega⟩ ⟨by omega, by omega⟩ (fun c2 => ?_) (fun c2 => ?_)
      · have c2 : (a1 : Int) ≥ z1 := c2
        refine yG.load xik rfl (fun _ _ => rfl) (v := yI (a1)) rfl rfl ?_
        refine yG.ret rfl (fun _ _ => rfl) ?_
        exact (yP.int ⟨by omega, by omega⟩ ⟨⟨⟨⟨a1, rfl, by omega, by omega, trivial⟩, A_hq⟩, M_bWf_hq⟩, M_bRg_hq⟩)
      · have c2 : (a1 : Int) < z1 := c2
        refine yG.load xak rfl (fun _ _ => rfl) (v := yR 2073) rfl rfl ?_
        refine yG.load xak rfl (fun _ _ => rfl) (v := yR 2073) rfl rfl ?_
        refine yG.getO A_hq.1 (w_M_stepAct W H_2073) rfl rfl (fun r3 H_r3 O_r3 q_r3 => ?_)
        obtain rfl := u_M_stepAct W H_r3
        refine yG.load xik rfl (fun _ _ => rfl) (v := yI (a1)) rfl rfl ?_
        refine yG.iald A_hq.1 (v_M_stepAct W H_r3) rfl (by omega) (by omega) (fun z4 e_z4 i_z4 l_z4 u_z4 => ?_)
        refine yG.load xak rfl (fun _ _ => rfl) (v := yR 2073) rfl rfl ?_
        refine yG.getO A_hq.1 (w_M_stepOf W H_2073) rfl rfl (fun r5 H_r5 O_r5 q_r5 => ?_)
        obtain rfl := u_M_stepOf W H_r5
        refine yG.load xik rfl (fun _ _ => rfl) (v := yI (a1)) rfl rfl ?_
        refine yG.iald A_hq.1 (v_M_stepOf W H_r5) rfl (by omega) (by omega) (fun z6 e_z6 i_z6 l_z6 u_z6 => ?_)
        have s9_23 := (M_bSr.fr A_hq (by decide)) (a1 : Int).toNat (by omega)
        refine yG.invV (rest := []) A_hq.1 (bOb (d_M W) H_2073) rfl rfl rfl rfl (c_GModel_isBarred W d A_hq.1 M_bRg_hq M_bWf_hq (M_bRc.fr A_hq (by decide)) (M_bPr.fr A_hq (by decide)) H_2073 (z4) (z6) (by omega) (by omega) (by omega) (by omega) (by omega)) (fun rv h7 q9 => ?_)
        obtain ⟨q9, M_bRg_h7⟩ := q9
        obtain ⟨q9, M_bWf_h7⟩ := q9
        obtain ⟨⟨z8, rfl, l_z8, u_z8, R_z8⟩, B_h7⟩ := q9
        have A_h7 := A_hq.tr B_h7 (by decide)
        show yG _ _ _ _ _ _ _ _ _ _ (yI z8 :: []) _
        refine yG.ifz rfl (t := 35) rfl ⟨by omega, by omega⟩ (fun c9 => ?_) (fun c9 => ?_)
        · have c9 : (z8 : Int) ≠ 0 := c9
          refine yG.load xik rfl (fun _ _ => rfl) (v := yI (a1)) rfl rfl ?_
          refine yG.ret rfl (fun _ _ => rfl) ?_
          exact (yP.int ⟨by omega, by omega⟩ ⟨⟨⟨⟨a1, rfl, by omega, by omega, trivial⟩, A_h7⟩, M_bWf_h7⟩, M_bRg_h7⟩)
        · have c9 : (z8 : Int) = 0 := c9
          refine yG.iinc rfl (a := a1) rfl (L' := [(1, yI (a1 + 1)), (0, yR 2073)]) rfl ?_
          refine yG.goto rfl (t := 2) rfl ?_
          exact yG.mono (yG.sub (i_2 (a1 + 1)  h7 A_h7 M_bRg_h7 M_bWf_h7   (by omega) (by omega) (by omega)) (ySub.cons rfl (ySub.cons rfl (ySub.nil)))) (by omega)
  refine yC.of (M := (xt_X13_goThrough, (2, (1, (14, []))))) rfl rfl (N := 988) (yfuel (by decide)) ?_
  show yG 89 xfts (xcall 89 xfts xpools xms (d + 11)) (xpool xp_RX13) [] xt_X13_goThrough (yP 1 (fun rv hp' => (fun rv hp' => (bQi G [(83076749736557242056487941267521536, 10), (83076749736557242056487941267521536, 11), (83076749736557242056487941267521536, 38), (83076749736557242056487941267521536, 40), (83076749736557242056487941267521536, 45), (83076749736557242056487941267521536, 46), (83076749736557242056487941267521536, 47), (83076749736557242056487941267521536, 135), (408162263241783541402858104586602178094999744488059883564826624, 256)] hp 0 24 (fun _ => True)) rv hp' ∧ bWf G hp') rv hp' ∧ bRg G hp')) 988 0 [(0, yR 2073)] [] hp
  have i_2 := H 51
  refine yG.num (c := 0) rfl (fun _ _ => rfl) (by decide) ?_
  refine yG.store1 xik (L' := [(1, yI (0)), (0, yR 2073)]) rfl (fun _ _ => rfl) rfl rfl ?_
  exact yG.mono (yG.sub (i_2 (0)  hp A_hp M_bRg_hp M_bWf_hp   (by omega) (by omega) (by omega)) (ySub.cons rfl (ySub.cons rfl (ySub.nil)))) (by omega)
theorem c_GModel_carry {hp : xH} (W : mW G) (d : Nat) (hT : zTy G hp) (M_bRg : bRg G hp) (M_bWf : bWf G hp) (M_bRc : bRc G hp) (M_bSr : bSr G hp) (M_bPr : bPr G hp) (H_2073 : bRo G 116 2073) : yC (xcall 89 xfts xpools xms (d + 13)) 364 [yR 2073] hp (fun rv hp' => (fun rv hp' => (bQi G [(83076749736557242056487941267521536, 0), (83076749736557242056487941267521536, 10), (83076749736557242056487941267521536, 11), (83076749736557242056487941267521536, 38), (83076749736557242056487941267521536, 40), (83076749736557242056487941267521536, 45), (83076749736557242056487941267521536, 46), (83076749736557242056487941267521536, 47), (83076749736557242056487941267521536, 49), (83076749736557242056487941267521536, 62), (83076749736557242056487941267521536, 77), (83076749736557242056487941267521536, 90), (83076749736557242056487941267521536, 101), (83076749736557242056487941267521536, 135), (408162263241783541402858104586602178094999744488059883564826624, 256)] hp 0 24 (fun _ => True)) rv hp' ∧ bWf G hp') rv hp' ∧ bRg G hp') := by
  have A_hp : bAx G [(83076749736557242056487941267521536, 0), (83076749736557242056487941267521536, 10), (83076749736557242056487941267521536, 11), (83076749736557242056487941267521536, 38), (83076749736557242056487941267521536, 40), (83076749736557242056487941267521536, 45), (83076749736557242056487941267521536, 46), (83076749736557242056487941267521536, 47), (83076749736557242056487941267521536, 49), (83076749736557242056487941267521536, 62), (83076749736557242056487941267521536, 77), (83076749736557242056487941267521536, 90), (83076749736557242056487941267521536, 101), (83076749736557242056487941267521536, 135), (408162263241783541402858104586602178094999744488059883564826624, 256)] hp hp := bAx.rf hT
  have M_bRg_hp := M_bRg
  have M_bWf_hp := M_bWf
  refine yC.of (M := (xt_X13_carry, (2, (1, (14, []))))) rfl rfl (N := 51) (yfuel (by decide)) ?_
  show yG 89 xfts (xcall 89 xfts xpools xms (d + 12)) (xpool xp_RX13) [] xt_X13_carry (yP 1 (fun rv hp' => (fun rv hp' => (bQi G [(83076749736557242056487941267521536, 0), (83076749736557242056487941267521536, 10), (83076749736557242056487941267521536, 11), (83076749736557242056487941267521536, 38), (83076749736557242056487941267521536, 40), (83076749736557242056487941267521536, 45), (83076749736557242056487941267521536, 46), (83076749736557242056487941267521536, 47), (83076749736557242056487941267521536, 49), (83076749736557242056487941267521536, 62), (83076749736557242056487941267521536, 77), (83076749736557242056487941267521536, 90), (83076749736557242056487941267521536, 101), (83076749736557242056487941267521536, 135), (408162263241783541402858104586602178094999744488059883564826624, 256)] hp 0 24 (fun _ => True)) rv hp' ∧ bWf G hp') rv hp' ∧ bRg G hp')) 51 0 [(0, yR 2073)] [] hp
  refine yG.load xak rfl (fun _ _ => rfl) (v := yR 2073) rfl rfl ?_
  refine yG.num (c := 0) rfl (fun _ _ => rfl) (by decide) ?_
  refine yG.putI A_hp.1 (w_M_thrown W H_2073) (W.2.1 _ _ H_2073 (by decide) (by decide)) rfl rfl (.inl rfl) ⟨by omega, by omega⟩ (by omega) (by omega) (fun h1 T_h1 b_h1 f_h1 y_h1 => ?_)
  have M_bRg_h1 := M_bRg_hp.fr (bAx.put (Wl := [(83076749736557242056487941267521536, 0)]) (bAx.rf A_hp.1) T_h1 b_h1 f_h1 H_2073 (by decide)) (by decide)
  have M_bWf_h1 := M_bWf_hp.fr (bAx.put (Wl := [(83076749736557242056487941267521536, 0)]) (bAx.rf A_hp.1) T_h1 b_h1 f_h1 H_2073 (by decide)) (by decide)
  have A_h1 := A_hp.put T_h1 b_h1 f_h1 H_2073 (by decide)
  refine yG.load xak rfl (fun _ _ => rfl) (v := yR 2073) rfl rfl ?_
  refine yG.invV (rest := []) A_h1.1 (bOb (d_M W) H_2073) rfl rfl rfl rfl (c_GModel_goThrough W d A_h1.1 M_bRg_h1 M_bWf_h1 (M_bRc.fr A_h1 (by decide)) (M_bSr.fr A_h1 (by decide)) (M_bPr.fr A_h1 (by decide)) H_2073) (fun rv h2 q9 => ?_)
  obtain ⟨q9, M_bRg_h2⟩ := q9
  obtain ⟨q9, M_bWf_h2⟩ := q9
  obtain ⟨⟨z3, rfl, l_z3, u_z3, R_z3⟩, B_h2⟩ := q9
  have A_h2 := A_h1.tr B_h2 (by decide)
  show yG _ _ _ _ _ _ _ _ _ _ (yI z3 :: []) _
  refine yG.store1 xik (L' := [(1, yI (z3)), (0, yR 2073)]) rfl (fun _ _ => rfl) rfl rfl ?_
  refine yG.load xak rfl (fun _ _ => rfl) (v := yR 2073) rfl rfl ?_
  refine yG.num (c := 0) rfl (fun _ _ => rfl) (by decide) ?_
  refine yG.putI A_h2.1 (w_M_hasFlows W H_2073) (W.2.1 _ _ H_2073 (by decide) (by decide)) rfl rfl (.inr ⟨rfl, rfl, rfl⟩) ⟨by omega, by omega⟩ (by omega) (by omega) (fun h4 T_h4 b_h4 f_h4 y_h4 => ?_)
  have M_bRg_h4 := M_bRg_h2.fr (bAx.put (Wl := [(83076749736557242056487941267521536, 40)]) (bAx.rf A_h2.1) T_h4 b_h4 f_h4 H_2073 (by decide)) (by decide)
  have M_bWf_h4 := M_bWf_h2.fr (bAx.put (Wl := [(83076749736557242056487941267521536, 40)]) (bAx.rf A_h2.1) T_h4 b_h4 f_h4 H_2073 (by decide)) (by decide)
  have A_h4 := A_h2.put T_h4 b_h4 f_h4 H_2073 (by decide)
  refine yG.load xik rfl (fun _ _ => rfl) (v := yI (z3)) rfl rfl ?_
  refine yG.ifz rfl (t := 23) rfl ⟨by omega, by omega⟩ (fun c5 => ?_) (fun c5 => ?_)
  · have c5 : (z3 : Int) ≤ 0 := c5
    refine yG.load xik rfl (fun _ _ => rfl) (v := yI (z3)) rfl rfl ?_
    refine yG.ret rfl (fun _ _ => rfl) ?_
    exact (yP.int ⟨by omega, by omega⟩ ⟨⟨⟨⟨z3, rfl, by omega, by omega, trivial⟩, A_h4⟩, M_bWf_h4⟩, M_bRg_h4⟩)
  · have c5 : (z3 : Int) > 0 := c5
    refine yG.load xak rfl (fun _ _ => rfl) (v := yR 2073) rfl rfl ?_
    refine yG.invV (rest := []) A_h4.1 (bOb (d_M W) H_2073) rfl rfl rfl rfl (c_GModel_changed W (d + 11) A_h4.1 H_2073) (fun rv h6 q9 => ?_)
    obtain ⟨⟨rfl, R_z7⟩, B_h6⟩ := q9
    have A_h6 := A_h4.tr B_h6 (by decide)
    have M_bRg_h6 := M_bRg_h4.fr B_h6 (by decide)
    have M_bWf_h6 := M_bWf_h4.fr B_h6 (by decide)
    show yG _ _ _ _ _ _ _ _ _ _ [] _
    refine yG.load xik rfl (fun _ _ => rfl) (v := yI (z3)) rfl rfl ?_
    refine yG.ret rfl (fun _ _ => rfl) ?_
    exact (yP.int ⟨by omega, by omega⟩ ⟨⟨⟨⟨z3, rfl, by omega, by omega, trivial⟩, A_h6⟩, M_bWf_h6⟩, M_bRg_h6⟩)
theorem c_GModel_barred {hp : xH} (W : mW G) (d : Nat) (hT : zTy G hp) (M_bRg : bRg G hp) (M_bWf : bWf G hp) (M_bRc : bRc G hp) (M_bSr : bSr G hp) (M_bPr : bPr G hp) (H_2073 : bRo G 116 2073) (p1 : Int) (h1l : (-2147483648) ≤ p1) (h1u : p1 ≤ 2147483647) : yC (xcall 89 xfts xpools xms (d + 13)) 358 [yR 2073, yI (p1)] hp (fun rv hp' => (fun rv hp' => (bQi G [(83076749736557242056487941267521536, 0), (83076749736557242056487941267521536, 10), (83076749736557242056487941267521536, 11), (83076749736557242056487941267521536, 38), (83076749736557242056487941267521536, 40), (83076749736557242056487941267521536, 45), (83076749736557242056487941267521536, 46), (83076749736557242056487941267521536, 47), (83076749736557242056487941267521536, 135), (819538402572085051941600400225939804340683710896454849401978880, 256)] hp (-1) 24 (fun z => 0 ≤ 0 - p1 + z + 2147483647 ∧ 0 ≤ p1 - z + 2147483648)) rv hp' ∧ bWf G hp') rv hp' ∧ bRg G hp') := by
  have A_hp : bAx G [(83076749736557242056487941267521536, 0), (83076749736557242056487941267521536, 10), (83076749736557242056487941267521536, 11), (83076749736557242056487941267521536, 38), (83076749736557242056487941267521536, 40), (83076749736557242056487941267521536, 45), (83076749736557242056487941267521536, 46), (83076749736557242056487941267521536, 47), (83076749736557242056487941267521536, 135), (819538402572085051941600400225939804340683710896454849401978880, 256)] hp hp := bAx.rf hT
  have M_bRg_hp := M_bRg
  have M_bWf_hp := M_bWf
  refine yC.of (M := (xt_X13_barred, (3, (1, (14, []))))) rfl rfl (N := 93) (yfuel (by decide)) ?_
  show yG 89 xfts (xcall 89 xfts xpools xms (d + 12)) (xpool xp_RX13) [] xt_X13_barred (yP 1 (fun rv hp' => (fun rv hp' => (bQi G [(83076749736557242056487941267521536, 0), (83076749736557242056487941267521536, 10), (83076749736557242056487941267521536, 11), (83076749736557242056487941267521536, 38), (83076749736557242056487941267521536, 40), (83076749736557242056487941267521536, 45), (83076749736557242056487941267521536, 46), (83076749736557242056487941267521536, 47), (83076749736557242056487941267521536, 135), (819538402572085051941600400225939804340683710896454849401978880, 256)] hp (-1) 24 (fun z => 0 ≤ 0 - p1 + z + 2147483647 ∧ 0 ≤ p1 - z + 2147483648)) rv hp' ∧ bWf G hp') rv hp' ∧ bRg G hp')) 93 0 [(0, yR 2073), (1, yI (p1))] [] hp
  refine yG.load xak rfl (fun _ _ => rfl) (v := yR 2073) rfl rfl ?_
  refine yG.load xik rfl (fun _ _ => rfl) (v := yI (p1)) rfl rfl ?_
  refine yG.i2l rfl ⟨by omega, by omega⟩ ?_
  refine yG.numl (c := 0) rfl (fun _ _ => rfl) (by decide) ?_
  refine yG.numl (c := 1) rfl (fun _ _ => rfl) (by decide) ?_
  refine yG.invS (rest := [yR 2073]) rfl rfl rfl rfl (c_GModel_in W (d + 11) A_hp.1 (p1) (0) (1) (by omega) (by omega) (by omega) (by omega) (by omega) (by omega)) (fun rv hp9 q9 => ?_)
  obtain ⟨⟨z1, rfl, l_z1, u_z1, R_z1⟩, e9⟩ := q9
  rw [e9]
  show yG _ _ _ _ _ _ _ _ _ _ (yI z1 :: [yR 2073]) _
  refine yG.ifz rfl (t := 15) rfl ⟨by omega, by omega⟩ (fun c2 => ?_) (fun c2 => ?_)
  · have c2 : (z1 : Int) = 0 := c2
    clear R_z1
    refine yG.num (c := 1) rfl (fun _ _ => rfl) (by decide) ?_
    refine yG.putI A_hp.1 (w_M_thrown W H_2073) (W.2.1 _ _ H_2073 (by decide) (by decide)) rfl rfl (.inl rfl) ⟨by omega, by omega⟩ (by omega) (by omega) (fun h3 T_h3 b_h3 f_h3 y_h3 => ?_)
    have M_bRg_h3 := M_bRg_hp.fr (bAx.put (Wl := [(83076749736557242056487941267521536, 0)]) (bAx.rf A_hp.1) T_h3 b_h3 f_h3 H_2073 (by decide)) (by decide)
    have M_bWf_h3 := M_bWf_hp.fr (bAx.put (Wl := [(83076749736557242056487941267521536, 0)]) (bAx.rf A_hp.1) T_h3 b_h3 f_h3 H_2073 (by decide)) (by decide)
    have A_h3 := A_hp.put T_h3 b_h3 f_h3 H_2073 (by decide)
    have : ys h3 2073 0 = 1 := (y_h3 2073 0).trans (if_pos ⟨rfl, rfl⟩)
    refine yG.load xak rfl (fun _ _ => rfl) (v := yR 2073) rfl rfl ?_
    refine yG.getI A_h3.1 (w_M_thrown W H_2073) rfl rfl (fun z4 e_z4 i_z4 l_z4 u_z4 => ?_)
    refine yG.ifz rfl (t := 28) rfl ⟨by omega, by omega⟩ (fun c5 => ?_) (fun c5 => ?_)
    · have c5 : (z4 : Int) ≤ 0 := c5
      exfalso; omega
    · have c5 : (z4 : Int) > 0 := c5
      refine yG.num (c := 0) rfl (fun _ _ => rfl) (by decide) ?_
      refine yG.ret rfl (fun _ _ => rfl) ?_
      exact (yP.int ⟨by omega, by omega⟩ ⟨⟨⟨⟨0, rfl, by omega, by omega, by omega⟩, A_h3⟩, M_bWf_h3⟩, M_bRg_h3⟩)
  · have c2 : (z1 : Int) ≠ 0 := c2
    replace R_z1 := R_z1 (by omega)
    refine yG.num (c := 0) rfl (fun _ _ => rfl) (by decide) ?_
    refine yG.goto rfl (t := 16) rfl ?_
    refine yG.putI A_hp.1 (w_M_thrown W H_2073) (W.2.1 _ _ H_2073 (by decide) (by decide)) rfl rfl (.inl rfl) ⟨by omega, by omega⟩ (by omega) (by omega) (fun h6 T_h6 b_h6 f_h6 y_h6 => ?_)
    have M_bRg_h6 := M_bRg_hp.fr (bAx.put (Wl := [(83076749736557242056487941267521536, 0)]) (bAx.rf A_hp.1) T_h6 b_h6 f_h6 H_2073 (by decide)) (by decide)
    have M_bWf_h6 := M_bWf_hp.fr (bAx.put (Wl := [(83076749736557242056487941267521536, 0)]) (bAx.rf A_hp.1) T_h6 b_h6 f_h6 H_2073 (by decide)) (by decide)
    have A_h6 := A_hp.put T_h6 b_h6 f_h6 H_2073 (by decide)
    have : ys h6 2073 0 = 0 := (y_h6 2073 0).trans (if_pos ⟨rfl, rfl⟩)
    refine yG.load xak rfl (fun _ _ => rfl) (v := yR 2073) rfl rfl ?_
    refine yG.getI A_h6.1 (w_M_thrown W H_2073) rfl rfl (fun z7 e_z7 i_z7 l_z7 u_z7 => ?_)
    refine yG.ifz rfl (t := 28) rfl ⟨by omega, by omega⟩ (fun c8 => ?_) (fun c8 => ?_)
    · have c8 : (z7 : Int) ≤ 0 := c8
      refine yG.load xak rfl (fun _ _ => rfl) (v := yR 2073) rfl rfl ?_
      refine yG.invV (rest := []) A_h6.1 (bOb (d_M W) H_2073) rfl rfl rfl rfl (c_GModel_remember_w W (d + 11) A_h6.1 M_bWf_h6 H_2073) (fun rv h9 q9 => ?_)
      obtain ⟨q9, M_bWb_h9⟩ := q9
      obtain ⟨⟨rfl, R_z10⟩, B_h9⟩ := q9
      have A_h9 := A_h6.tr B_h9 (by decide)
      have M_bRg_h9 := M_bRg_h6.fr B_h9 (by decide)
      have M_bWf_h9 := M_bWf_h6.fr B_h9 (by decide)
      have : ys h9 2073 0 = ys h6 2073 0 := B_h9.ys H_2073 (by decide)
      show yG _ _ _ _ _ _ _ _ _ _ [] _
      refine yG.load xak rfl (fun _ _ => rfl) (v := yR 2073) rfl rfl ?_
      refine yG.invV (rest := []) A_h9.1 (bOb (d_M W) H_2073) rfl rfl rfl rfl (c_GModel_goThrough W d A_h9.1 M_bRg_h9 M_bWf_h9 (M_bRc.fr A_h9 (by decide)) (M_bSr.fr A_h9 (by decide)) (M_bPr.fr A_h9 (by decide)) H_2073) (fun rv h11 q9 => ?_)
      obtain ⟨q9, M_bRg_h11⟩ := q9
      obtain ⟨q9, M_bWf_h11⟩ := q9
      obtain ⟨⟨z12, rfl, l_z12, u_z12, R_z12⟩, B_h11⟩ := q9
      have A_h11 := A_h9.tr B_h11 (by decide)
      have M_bWb_h11 := M_bWb_h9.fr B_h11 (by decide)
      have : ys h11 2073 0 = ys h9 2073 0 := B_h11.ys H_2073 (by decide)
      show yG _ _ _ _ _ _ _ _ _ _ (yI z12 :: []) _
      refine yG.store1 xik (L' := [(2, yI (z12)), (0, yR 2073), (1, yI (p1))]) rfl (fun _ _ => rfl) rfl rfl ?_
      refine yG.load xak rfl (fun _ _ => rfl) (v := yR 2073) rfl rfl ?_
      refine yG.invV (rest := []) A_h11.1 (bOb (d_M W) H_2073) rfl rfl rfl rfl (c_GModel_comeBack_w W (d + 11) A_h11.1 M_bWf_h11 M_bWb_h11 H_2073) (fun rv h13 q9 => ?_)
      obtain ⟨q9, M_bWf_h13⟩ := q9
      obtain ⟨⟨rfl, R_z14⟩, B_h13⟩ := q9
      have A_h13 := A_h11.tr B_h13 (by decide)
      have M_bRg_h13 := M_bRg_h11.fr B_h13 (by decide)
      have M_bWb_h13 := M_bWb_h11.fr B_h13 (by decide)
      have : ys h13 2073 0 = ys h11 2073 0 := B_h13.ys H_2073 (by decide)
      show yG _ _ _ _ _ _ _ _ _ _ [] _
      refine yG.load xik rfl (fun _ _ => rfl) (v := yI (z12)) rfl rfl ?_
      refine yG.load xak rfl (fun _ _ => rfl) (v := yR 2073) rfl rfl ?_
      refine yG.getI A_h13.1 (w_M_steps W H_2073) rfl rfl (fun z15 e_z15 i_z15 l_z15 u_z15 => ?_)
      refine yG.icmp rfl (t := 53) rfl ⟨by omega, by omega⟩ ⟨by omega, by omega⟩ (fun c16 => ?_) (fun c16 => ?_)
      · have c16 : (z12 : Int) ≠ z15 := c16
        refine yG.load xik rfl (fun _ _ => rfl) (v := yI (p1)) rfl rfl ?_
        refine yG.ifz rfl (t := 61) rfl ⟨by omega, by omega⟩ (fun c17 => ?_) (fun c17 => ?_)
        · have c17 : (p1 : Int) ≠ 0 := c17
          refine yG.load xak rfl (fun _ _ => rfl) (v := yR 2073) rfl rfl ?_
          refine yG.getI A_h13.1 (w_M_barredBy W H_2073) rfl rfl (fun z18 e_z18 i_z18 l_z18 u_z18 => ?_)
          refine yG.ret rfl (fun _ _ => rfl) ?_
          exact (yP.int ⟨by omega, by omega⟩ ⟨⟨⟨⟨z18, rfl, by omega, by omega, by omega⟩, A_h13⟩, M_bWf_h13⟩, M_bRg_h13⟩)
        · have c17 : (p1 : Int) = 0 := c17
          refine yG.load xik rfl (fun _ _ => rfl) (v := yI (z12)) rfl rfl ?_
          refine yG.goto rfl (t := 65) rfl ?_
          refine yG.ret rfl (fun _ _ => rfl) ?_
          exact (yP.int ⟨by omega, by omega⟩ ⟨⟨⟨⟨z12, rfl, by omega, by omega, by omega⟩, A_h13⟩, M_bWf_h13⟩, M_bRg_h13⟩)
      · have c16 : (z12 : Int) = z15 := c16
        refine yG.num (c := -1) rfl (fun _ _ => rfl) (by decide) ?_
        refine yG.goto rfl (t := 65) rfl ?_
        refine yG.ret rfl (fun _ _ => rfl) ?_
        exact (yP.int ⟨by omega, by omega⟩ ⟨⟨⟨⟨(-1), rfl, by omega, by omega, by omega⟩, A_h13⟩, M_bWf_h13⟩, M_bRg_h13⟩)
    · have c8 : (z7 : Int) > 0 := c8
      exfalso; omega
theorem c_GModel_wellBy {hp : xH} (W : mW G) (d : Nat) (hT : zTy G hp) (M_bRg : bRg G hp) (M_bWf : bWf G hp) (M_bPr : bPr G hp) (H_2073 : bRo G 116 2073) (p1 : Int) (h1l : 0 ≤ p1) (h1u : p1 ≤ 255) : yC (xcall 89 xfts xpools xms (d + 8)) 542 [yR 2073, yI (p1)] hp (fun rv hp' => (fun rv hp' => (rv = none ∧ True) ∧ bAx G [(83076749736557242056487941267521536, 10), (83076749736557242056487941267521536, 11), (83076749736557242056487941267521536, 38), (83076749736557242056487941267521536, 40), (83076749736557242056487941267521536, 45), (83076749736557242056487941267521536, 46), (83076749736557242056487941267521536, 47), (19746054687854472517274824479302282201831775157676469955290202112, 256)] hp hp') rv hp' ∧ bRg G hp') := by
  have A_hp : bAx G [(83076749736557242056487941267521536, 10), (83076749736557242056487941267521536, 11), (83076749736557242056487941267521536, 38), (83076749736557242056487941267521536, 40), (83076749736557242056487941267521536, 45), (83076749736557242056487941267521536, 46), (83076749736557242056487941267521536, 47), (19746054687854472517274824479302282201831775157676469955290202112, 256)] hp hp := bAx.rf hT
  have M_bRg_hp := M_bRg
  refine yC.of (M := (xt_X13_wellBy, (2, (0, (14, []))))) rfl rfl (N := 99) (yfuel (by decide)) ?_
  show yG 89 xfts (xcall 89 xfts xpools xms (d + 7)) (xpool xp_RX13) [] xt_X13_wellBy (yP 0 (fun rv hp' => (fun rv hp' => (rv = none ∧ True) ∧ bAx G [(83076749736557242056487941267521536, 10), (83076749736557242056487941267521536, 11), (83076749736557242056487941267521536, 38), (83076749736557242056487941267521536, 40), (83076749736557242056487941267521536, 45), (83076749736557242056487941267521536, 46), (83076749736557242056487941267521536, 47), (19746054687854472517274824479302282201831775157676469955290202112, 256)] hp hp') rv hp' ∧ bRg G hp')) 99 0 [(0, yR 2073), (1, yI (p1))] [] hp
  refine yG.load xak rfl (fun _ _ => rfl) (v := yR 2073) rfl rfl ?_
  refine yG.getO A_hp.1 (w_M_isWell W H_2073) rfl rfl (fun r1 H_r1 O_r1 q_r1 => ?_)
  obtain rfl := u_M_isWell W H_r1
  refine yG.load xik rfl (fun _ _ => rfl) (v := yI (p1)) rfl rfl ?_
  refine yG.iald A_hp.1 (v_M_isWell W H_r1) rfl (by omega) (by omega) (fun z2 e_z2 i_z2 l_z2 u_z2 => ?_)
  refine yG.ifz rfl (t := 57) rfl ⟨by omega, by omega⟩ (fun c3 => ?_) (fun c3 => ?_)
  · have c3 : (z2 : Int) ≠ 0 := c3
    refine yG.ret rfl (fun _ _ => rfl) ?_
    exact (yP.void ⟨⟨⟨rfl, trivial⟩, A_hp⟩, M_bRg_hp⟩)
  · have c3 : (z2 : Int) = 0 := c3
    refine yG.load xak rfl (fun _ _ => rfl) (v := yR 2073) rfl rfl ?_
    refine yG.num (c := 0) rfl (fun _ _ => rfl) (by decide) ?_
    refine yG.putI A_hp.1 (w_M_hasFlows W H_2073) (W.2.1 _ _ H_2073 (by decide) (by decide)) rfl rfl (.inr ⟨rfl, rfl, rfl⟩) ⟨by omega, by omega⟩ (by omega) (by omega) (fun h4 T_h4 b_h4 f_h4 y_h4 => ?_)
    have M_bRg_h4 := M_bRg_hp.fr (bAx.put (Wl := [(83076749736557242056487941267521536, 40)]) (bAx.rf A_hp.1) T_h4 b_h4 f_h4 H_2073 (by decide)) (by decide)
    have A_h4 := A_hp.put T_h4 b_h4 f_h4 H_2073 (by decide)
    have qq1 : zsl h4 2073 143 = yR 2169 := ((f_h4 2073 143).trans (if_neg (fun e => absurd e.2 (by decide)))).trans q_r1
    refine yG.load xak rfl (fun _ _ => rfl) (v := yR 2073) rfl rfl ?_
    refine yG.invV (rest := []) A_h4.1 (bOb (d_M W) H_2073) rfl rfl rfl rfl (c_GModel_asItIs W (d + 4) A_h4.1 H_2073) (fun rv h5 q9 => ?_)
    obtain ⟨⟨rfl, R_z6⟩, B_h5⟩ := q9
    have A_h5 := A_h4.tr B_h5 (by decide)
    have M_bRg_h5 := M_bRg_h4.fr B_h5 (by decide)
    have qq2 : zsl h5 2073 143 = yR 2169 := (B_h5.sl H_2073 (by decide)).trans qq1
    show yG _ _ _ _ _ _ _ _ _ _ [] _
    refine yG.load xak rfl (fun _ _ => rfl) (v := yR 2073) rfl rfl ?_
    refine yG.invV (rest := []) A_h5.1 (bOb (d_M W) H_2073) rfl rfl rfl rfl (c_GModel_flows W d A_h5.1 M_bRg_h5 (M_bWf.fr A_h5 (by decide)) (M_bPr.fr A_h5 (by decide)) H_2073) (fun rv h7 q9 => ?_)
    obtain ⟨q9, M_bRg_h7⟩ := q9
    obtain ⟨q9, M_bTq_h7⟩ := q9
    obtain ⟨⟨rfl, R_z8⟩, B_h7⟩ := q9
    have A_h7 := A_h5.tr B_h7 (by decide)
    have qq3 : zsl h7 2073 143 = yR 2169 := (B_h7.sl H_2073 (by decide)).trans qq2
    show yG _ _ _ _ _ _ _ _ _ _ [] _
    refine yG.load xak rfl (fun _ _ => rfl) (v := yR 2073) rfl rfl ?_
    refine yG.getS9 A_h7.1 (w_M_isWell W H_2073) qq3 rfl rfl ?_
    refine yG.load xik rfl (fun _ _ => rfl) (v := yI (p1)) rfl rfl ?_
    refine yG.load xak rfl (fun _ _ => rfl) (v := yR 2073) rfl rfl ?_
    refine yG.getI A_h7.1 (w_M_overCount W H_2073) rfl rfl (fun z9 e_z9 i_z9 l_z9 u_z9 => ?_)
    refine yG.ifz rfl (t := 45) rfl ⟨by omega, by omega⟩ (fun c10 => ?_) (fun c10 => ?_)
    · have c10 : (z9 : Int) ≠ 0 := c10
      refine yG.num (c := 2) rfl (fun _ _ => rfl) (by decide) ?_
      refine yG.iast A_h7.1 (v_M_isWell W H_r1) (W.2.1 _ _ H_r1 (by decide) (by decide)) rfl (by omega) (by omega) ⟨by omega, by omega⟩ (by omega) (by omega) (fun h11 T_h11 b_h11 f_h11 y_h11 => ?_)
      have M_bRg_h11 := M_bRg_h7.fr (bAx.put (Wl := [(6582018229284824168619876730229402019930943462534319453394436096, 256)]) (bAx.rf A_h7.1) T_h11 b_h11 f_h11 H_r1 (bAll_ok (by decide) _)) (by decide)
      have M_bTq_h11 := M_bTq_h7.fr (bAx.put (Wl := [(6582018229284824168619876730229402019930943462534319453394436096, 256)]) (bAx.rf A_h7.1) T_h11 b_h11 f_h11 H_r1 (bAll_ok (by decide) _)) (by decide)
      have A_h11 := A_h7.put T_h11 b_h11 f_h11 H_r1 (bAll_ok (by decide) _)
      have qq4 : zsl h11 2073 143 = yR 2169 := ((f_h11 2073 143).trans (if_neg (fun e => (bRo.ne H_2073 H_r1 (by decide)) e.1))).trans qq3
      refine yG.load xak rfl (fun _ _ => rfl) (v := yR 2073) rfl rfl ?_
      refine yG.getO A_h11.1 (w_M_lostBy W H_2073) rfl rfl (fun r12 H_r12 O_r12 q_r12 => ?_)
      obtain rfl := u_M_lostBy W H_r12
      refine yG.load xik rfl (fun _ _ => rfl) (v := yI (p1)) rfl rfl ?_
      refine yG.load xak rfl (fun _ _ => rfl) (v := yR 2073) rfl rfl ?_
      refine yG.getI A_h11.1 (w_M_lost W H_2073) rfl rfl (fun z13 e_z13 i_z13 l_z13 u_z13 => ?_)
      refine yG.iast A_h11.1 (v_M_lostBy W H_r12) (W.2.1 _ _ H_r12 (by decide) (by decide)) rfl (by omega) (by omega) ⟨by omega, by omega⟩ (by omega) (by omega) (fun h14 T_h14 b_h14 f_h14 y_h14 => ?_)
      have M_bRg_h14 := M_bRg_h11.fr (bAx.put (Wl := [(13164036458569648337239753460458804039861886925068638906788872192, 256)]) (bAx.rf A_h11.1) T_h14 b_h14 f_h14 H_r12 (bAll_ok (by decide) _)) (by decide)
      have M_bTq_h14 := M_bTq_h11.fr (bAx.put (Wl := [(13164036458569648337239753460458804039861886925068638906788872192, 256)]) (bAx.rf A_h11.1) T_h14 b_h14 f_h14 H_r12 (bAll_ok (by decide) _)) (by decide)
      have A_h14 := A_h11.put T_h14 b_h14 f_h14 H_r12 (bAll_ok (by decide) _)
      have qq5 : zsl h14 2073 143 = yR 2169 := ((f_h14 2073 143).trans (if_neg (fun e => (bRo.ne H_2073 H_r12 (by decide)) e.1))).trans qq4
      refine yG.ret rfl (fun _ _ => rfl) ?_
      exact (yP.void ⟨⟨⟨rfl, trivial⟩, A_h14⟩, M_bRg_h14⟩)
    · have c10 : (z9 : Int) = 0 := c10
      refine yG.load xak rfl (fun _ _ => rfl) (v := yR 2073) rfl rfl ?_
      refine yG.getI A_h7.1 (w_M_stuckCount W H_2073) rfl rfl (fun z15 e_z15 i_z15 l_z15 u_z15 => ?_)
      refine yG.ifz rfl (t := 45) rfl ⟨by omega, by omega⟩ (fun c16 => ?_) (fun c16 => ?_)
      · have c16 : (z15 : Int) ≠ 0 := c16
        refine yG.num (c := 2) rfl (fun _ _ => rfl) (by decide) ?_
        refine yG.iast A_h7.1 (v_M_isWell W H_r1) (W.2.1 _ _ H_r1 (by decide) (by decide)) rfl (by omega) (by omega) ⟨by omega, by omega⟩ (by omega) (by omega) (fun h17 T_h17 b_h17 f_h17 y_h17 => ?_)
        have M_bRg_h17 := M_bRg_h7.fr (bAx.put (Wl := [(6582018229284824168619876730229402019930943462534319453394436096, 256)]) (bAx.rf A_h7.1) T_h17 b_h17 f_h17 H_r1 (bAll_ok (by decide) _)) (by decide)
        have M_bTq_h17 := M_bTq_h7.fr (bAx.put (Wl := [(6582018229284824168619876730229402019930943462534319453394436096, 256)]) (bAx.rf A_h7.1) T_h17 b_h17 f_h17 H_r1 (bAll_ok (by decide) _)) (by decide)
        have A_h17 := A_h7.put T_h17 b_h17 f_h17 H_r1 (bAll_ok (by decide) _)
        have qq6 : zsl h17 2073 143 = yR 2169 := ((f_h17 2073 143).trans (if_neg (fun e => (bRo.ne H_2073 H_r1 (by decide)) e.1))).trans qq3
        refine yG.load xak rfl (fun _ _ => rfl) (v := yR 2073) rfl rfl ?_
        refine yG.getO A_h17.1 (w_M_lostBy W H_2073) rfl rfl (fun r18 H_r18 O_r18 q_r18 => ?_)
        obtain rfl := u_M_lostBy W H_r18
        refine yG.load xik rfl (fun _ _ => rfl) (v := yI (p1)) rfl rfl ?_
        refine yG.load xak rfl (fun _ _ => rfl) (v := yR 2073) rfl rfl ?_
        refine yG.getI A_h17.1 (w_M_lost W H_2073) rfl rfl (fun z19 e_z19 i_z19 l_z19 u_z19 => ?_)
        refine yG.iast A_h17.1 (v_M_lostBy W H_r18) (W.2.1 _ _ H_r18 (by decide) (by decide)) rfl (by omega) (by omega) ⟨by omega, by omega⟩ (by omega) (by omega) (fun h20 T_h20 b_h20 f_h20 y_h20 => ?_)
        have M_bRg_h20 := M_bRg_h17.fr (bAx.put (Wl := [(13164036458569648337239753460458804039861886925068638906788872192, 256)]) (bAx.rf A_h17.1) T_h20 b_h20 f_h20 H_r18 (bAll_ok (by decide) _)) (by decide)
        have M_bTq_h20 := M_bTq_h17.fr (bAx.put (Wl := [(13164036458569648337239753460458804039861886925068638906788872192, 256)]) (bAx.rf A_h17.1) T_h20 b_h20 f_h20 H_r18 (bAll_ok (by decide) _)) (by decide)
        have A_h20 := A_h17.put T_h20 b_h20 f_h20 H_r18 (bAll_ok (by decide) _)
        have qq7 : zsl h20 2073 143 = yR 2169 := ((f_h20 2073 143).trans (if_neg (fun e => (bRo.ne H_2073 H_r18 (by decide)) e.1))).trans qq6
        refine yG.ret rfl (fun _ _ => rfl) ?_
        exact (yP.void ⟨⟨⟨rfl, trivial⟩, A_h20⟩, M_bRg_h20⟩)
      · have c16 : (z15 : Int) = 0 := c16
        refine yG.num (c := 1) rfl (fun _ _ => rfl) (by decide) ?_
        refine yG.goto rfl (t := 46) rfl ?_
        refine yG.iast A_h7.1 (v_M_isWell W H_r1) (W.2.1 _ _ H_r1 (by decide) (by decide)) rfl (by omega) (by omega) ⟨by omega, by omega⟩ (by omega) (by omega) (fun h21 T_h21 b_h21 f_h21 y_h21 => ?_)
        have M_bRg_h21 := M_bRg_h7.fr (bAx.put (Wl := [(6582018229284824168619876730229402019930943462534319453394436096, 256)]) (bAx.rf A_h7.1) T_h21 b_h21 f_h21 H_r1 (bAll_ok (by decide) _)) (by decide)
        have M_bTq_h21 := M_bTq_h7.fr (bAx.put (Wl := [(6582018229284824168619876730229402019930943462534319453394436096, 256)]) (bAx.rf A_h7.1) T_h21 b_h21 f_h21 H_r1 (bAll_ok (by decide) _)) (by decide)
        have A_h21 := A_h7.put T_h21 b_h21 f_h21 H_r1 (bAll_ok (by decide) _)
        have qq8 : zsl h21 2073 143 = yR 2169 := ((f_h21 2073 143).trans (if_neg (fun e => (bRo.ne H_2073 H_r1 (by decide)) e.1))).trans qq3
        refine yG.load xak rfl (fun _ _ => rfl) (v := yR 2073) rfl rfl ?_
        refine yG.getO A_h21.1 (w_M_lostBy W H_2073) rfl rfl (fun r22 H_r22 O_r22 q_r22 => ?_)
        obtain rfl := u_M_lostBy W H_r22
        refine yG.load xik rfl (fun _ _ => rfl) (v := yI (p1)) rfl rfl ?_
        refine yG.load xak rfl (fun _ _ => rfl) (v := yR 2073) rfl rfl ?_
        refine yG.getI A_h21.1 (w_M_lost W H_2073) rfl rfl (fun z23 e_z23 i_z23 l_z23 u_z23 => ?_)
        refine yG.iast A_h21.1 (v_M_lostBy W H_r22) (W.2.1 _ _ H_r22 (by decide) (by decide)) rfl (by omega) (by omega) ⟨by omega, by omega⟩ (by omega) (by omega) (fun h24 T_h24 b_h24 f_h24 y_h24 => ?_)
        have M_bRg_h24 := M_bRg_h21.fr (bAx.put (Wl := [(13164036458569648337239753460458804039861886925068638906788872192, 256)]) (bAx.rf A_h21.1) T_h24 b_h24 f_h24 H_r22 (bAll_ok (by decide) _)) (by decide)
        have M_bTq_h24 := M_bTq_h21.fr (bAx.put (Wl := [(13164036458569648337239753460458804039861886925068638906788872192, 256)]) (bAx.rf A_h21.1) T_h24 b_h24 f_h24 H_r22 (bAll_ok (by decide) _)) (by decide)
        have A_h24 := A_h21.put T_h24 b_h24 f_h24 H_r22 (bAll_ok (by decide) _)
        have qq9 : zsl h24 2073 143 = yR 2169 := ((f_h24 2073 143).trans (if_neg (fun e => (bRo.ne H_2073 H_r22 (by decide)) e.1))).trans qq8
        refine yG.ret rfl (fun _ _ => rfl) ?_
        exact (yP.void ⟨⟨⟨rfl, trivial⟩, A_h24⟩, M_bRg_h24⟩)
theorem c_GModel_goOn_3 {hp : xH} (W : mW G) (d : Nat) (hT : zTy G hp) (M_bRg : bRg G hp) (M_bWf : bWf G hp) (M_bRc : bRc G hp) (H_2073 : bRo G 116 2073) (p2 p3 : Int) (h2l : 0 ≤ p2) (h2u : p2 ≤ 255) (h3l : 3 ≤ p3) (h3u : p3 ≤ 3) : yC (xcall 89 xfts xpools xms (d + 1)) 412 [yR 2073, yI (3), yI (p2), yI (p3)] hp (fun rv hp' => (fun rv hp' => (fun rv hp' => (rv = none ∧ True) ∧ bAx G [(83076749736557242056487941267521536, 137), (83076749736557242056487941267521536, 142), (822752278660603021077484591278675252491367932816789931674304512, 256)] hp hp') rv hp' ∧ bWf G hp') rv hp' ∧ bRg G hp') := by
  have A_hp : bAx G [(83076749736557242056487941267521536, 137), (83076749736557242056487941267521536, 142), (822752278660603021077484591278675252491367932816789931674304512, 256)] hp hp := bAx.rf hT
  have M_bRg_hp := M_bRg
  have M_bWf_hp := M_bWf
  have H : ∀ m : Nat, (∀ a4 : Int, ∀ hq, bAx G [(83076749736557242056487941267521536, 137), (83076749736557242056487941267521536, 142), (822752278660603021077484591278675252491367932816789931674304512, 256)] hp hq → bRg G hq → bWf G hq → 0 ≤ a4 → (-3) ≤ 0 - a4 → 0 ≤ p2 → (-255) ≤ 0 - p2 → 3 ≤ p3 → (-3) ≤ 0 - p3 → 0 - 2 * a4 + 7 < (m : Int) → yG 89 xfts (xcall 89 xfts xpools xms d) (xpool xp_RX13) [] xt_X13_goOn (yP 0 (fun rv hp' => (fun rv hp' => (fun rv hp' => (rv = none ∧ True) ∧ bAx G [(83076749736557242056487941267521536, 137), (83076749736557242056487941267521536, 142), (822752278660603021077484591278675252491367932816789931674304512, 256)] hp hp') rv hp' ∧ bWf G hp') rv hp' ∧ bRg G hp')) (23 * m) 36 [(0, yR 2073), (1, yI (3)), (4, yI (a4))] [] hq) := by
    intro m
    induction m with
    | zero =>
      intros; exfalso; omega
    | succ m ih =>
      have i_36 := ih
      clear ih
      intro a4 hq A_hq M_bRg_hq M_bWf_hq f0 f1 f2 f3 f4 f5 hm
      refine yG.mono (N := 23 * m + 23) ?_ (by omega)
      refine yG.load xik rfl (fun _ _ => rfl) (v := yI (a4)) rfl rfl ?_
      refine yG.load xik rfl (fun _ _ => rfl) (v := yI (3)) rfl rfl ?_
      refine yG.icmp rfl (t := 62) rfl ⟨by omega, by omega⟩ ⟨by omega, by omega⟩ (fun c1 => ?_) (fun c1 => ?_)
      · have c1 : (a4 : Int) ≥ 3 := c1
        refine yG.ret rfl (fun _ _ => rfl) ?_
        exact (yP.void ⟨⟨⟨⟨rfl, trivial⟩, A_hq⟩, M_bWf_hq⟩, M_bRg_hq⟩)
      · have c1 : (a4 : Int) < 3 := c1
        refine yG.load xak rfl (fun _ _ => rfl) (v := yR 2073) rfl rfl ?_
        refine yG.getO A_hq.1 (w_M_restoredSwitch W H_2073) rfl rfl (fun r2 H_r2 O_r2 q_r2 => ?_)
        obtain rfl := u_M_restoredSwitch W H_r2
        refine yG.load xik rfl (fun _ _ => rfl) (v := yI (a4)) rfl rfl ?_
        refine yG.load xak rfl (fun _ _ => rfl) (v := yR 2073) rfl rfl ?_
        refine yG.getO A_hq.1 (w_M_row W H_2073) rfl rfl (fun r3 H_r3 O_r3 q_r3 => ?_)
        obtain rfl := u_M_row W H_r3
        refine yG.load xik rfl (fun _ _ => rfl) (v := yI (a4)) rfl rfl ?_
        refine yG.iald A_hq.1 (v_M_row W H_r3) rfl (by omega) (by omega) (fun z4 e_z4 i_z4 l_z4 u_z4 => ?_)
        refine yG.iast A_hq.1 (v_M_restoredSwitch W H_r2) (W.2.1 _ _ H_r2 (by decide) (by decide)) rfl (by omega) (by omega) ⟨by omega, by omega⟩ (by omega) (by omega) (fun h5 T_h5 b_h5 f_h5 y_h5 => ?_)
        have M_bRg_h5 := M_bRg_hq.fr (bAx.put (Wl := [(822752278660603021077484591278675252491367932816789931674304512, 256)]) (bAx.rf A_hq.1) T_h5 b_h5 f_h5 H_r2 (bAll_ok (by decide) _)) (by decide)
        have M_bWf_h5 := M_bWf_hq.fr (bAx.put (Wl := [(822752278660603021077484591278675252491367932816789931674304512, 256)]) (bAx.rf A_hq.1) T_h5 b_h5 f_h5 H_r2 (bAll_ok (by decide) _)) (by decide)
        have A_h5 := A_hq.put T_h5 b_h5 f_h5 H_r2 (bAll_ok (by decide) _)
        refine yG.iinc rfl (a := a4) rfl (L' := [(4, yI (a4 + 1)), (0, yR 2073), (1, yI (3))]) rfl ?_
        refine yG.goto rfl (t := 36) rfl ?_
        exact yG.mono (yG.sub (i_36 (a4 + 1)  h5 A_h5 M_bRg_h5 M_bWf_h5   (by omega) (by omega) (by omega) (by omega) (by omega) (by omega) (by omega)) (ySub.cons rfl (ySub.cons rfl (ySub.cons rfl (ySub.nil))))) (by omega)
  refine yC.of (M := (xt_X13_goOn, (7, (0, (14, []))))) rfl rfl (N := 230) (yfuel (by decide)) ?_
  show yG 89 xfts (xcall 89 xfts xpools xms d) (xpool xp_RX13) [] xt_X13_goOn (yP 0 (fun rv hp' => (fun rv hp' => (fun rv hp' => (rv = none ∧ True) ∧ bAx G [(83076749736557242056487941267521536, 137), (83076749736557242056487941267521536, 142), (822752278660603021077484591278675252491367932816789931674304512, 256)] hp hp') rv hp' ∧ bWf G hp') rv hp' ∧ bRg G hp')) 230 0 [(0, yR 2073), (1, yI (3)), (2, yI (p2)), (3, yI (p3))] [] hp
  have i_36 := H 9
  refine yG.load xik rfl (fun _ _ => rfl) (v := yI (3)) rfl rfl ?_
  refine yG.load xik rfl (fun _ _ => rfl) (v := yI (p3)) rfl rfl ?_
  refine yG.icmp rfl (t := 63) rfl ⟨by omega, by omega⟩ ⟨by omega, by omega⟩ (fun c1 => ?_) (fun c1 => ?_)
  · have c1 : (3 : Int) ≠ p3 := c1
    exfalso; omega
  · have c1 : (3 : Int) = p3 := c1
    refine yG.load xak rfl (fun _ _ => rfl) (v := yR 2073) rfl rfl ?_
    refine yG.getO A_hp.1 (w_M_lostBy W H_2073) rfl rfl (fun r2 H_r2 O_r2 q_r2 => ?_)
    obtain rfl := u_M_lostBy W H_r2
    refine yG.load xik rfl (fun _ _ => rfl) (v := yI (p2)) rfl rfl ?_
    refine yG.iald A_hp.1 (v_M_lostBy W H_r2) rfl (by omega) (by omega) (fun z3 e_z3 i_z3 l_z3 u_z3 => ?_)
    refine yG.load xak rfl (fun _ _ => rfl) (v := yR 2073) rfl rfl ?_
    refine yG.getI A_hp.1 (w_M_bestLost W H_2073) rfl rfl (fun z4 e_z4 i_z4 l_z4 u_z4 => ?_)
    refine yG.icmp rfl (t := 62) rfl ⟨by omega, by omega⟩ ⟨by omega, by omega⟩ (fun c5 => ?_) (fun c5 => ?_)
    · have c5 : (z3 : Int) ≥ z4 := c5
      refine yG.ret rfl (fun _ _ => rfl) ?_
      exact (yP.void ⟨⟨⟨⟨rfl, trivial⟩, A_hp⟩, M_bWf_hp⟩, M_bRg_hp⟩)
    · have c5 : (z3 : Int) < z4 := c5
      refine yG.load xak rfl (fun _ _ => rfl) (v := yR 2073) rfl rfl ?_
      refine yG.load xak rfl (fun _ _ => rfl) (v := yR 2073) rfl rfl ?_
      refine yG.getS9 A_hp.1 (w_M_lostBy W H_2073) q_r2 rfl rfl ?_
      refine yG.load xik rfl (fun _ _ => rfl) (v := yI (p2)) rfl rfl ?_
      refine yG.iald A_hp.1 (v_M_lostBy W H_r2) rfl (by omega) (by omega) (fun z6 e_z6 i_z6 l_z6 u_z6 => ?_)
      rw [show (z6 : Int) = z3 by omega]
      refine yG.putI A_hp.1 (w_M_bestLost W H_2073) (W.2.1 _ _ H_2073 (by decide) (by decide)) rfl rfl (.inl rfl) ⟨by omega, by omega⟩ (by omega) (by omega) (fun h7 T_h7 b_h7 f_h7 y_h7 => ?_)
      have M_bRg_h7 := M_bRg_hp.fr (bAx.put (Wl := [(83076749736557242056487941267521536, 142)]) (bAx.rf A_hp.1) T_h7 b_h7 f_h7 H_2073 (by decide)) (by decide)
      have M_bWf_h7 := M_bWf_hp.fr (bAx.put (Wl := [(83076749736557242056487941267521536, 142)]) (bAx.rf A_hp.1) T_h7 b_h7 f_h7 H_2073 (by decide)) (by decide)
      have A_h7 := A_hp.put T_h7 b_h7 f_h7 H_2073 (by decide)
      have qq1 : zsl h7 2073 144 = yR 2170 := ((f_h7 2073 144).trans (if_neg (fun e => absurd e.2 (by decide)))).trans q_r2
      have : ys h7 2170 (p2 : Int).toNat = ys hp 2170 (p2 : Int).toNat := (y_h7 2170 (p2 : Int).toNat).trans (if_neg (fun e => (bRo.ne H_r2 H_2073 (by decide)) e.1))
      refine yG.load xak rfl (fun _ _ => rfl) (v := yR 2073) rfl rfl ?_
      refine yG.load xik rfl (fun _ _ => rfl) (v := yI (3)) rfl rfl ?_
      refine yG.putI A_h7.1 (w_M_restored W H_2073) (W.2.1 _ _ H_2073 (by decide) (by decide)) rfl rfl (.inl rfl) ⟨by omega, by omega⟩ (by omega) (by omega) (fun h8 T_h8 b_h8 f_h8 y_h8 => ?_)
      have M_bRg_h8 := M_bRg_h7.fr (bAx.put (Wl := [(83076749736557242056487941267521536, 137)]) (bAx.rf A_h7.1) T_h8 b_h8 f_h8 H_2073 (by decide)) (by decide)
      have M_bWf_h8 := M_bWf_h7.fr (bAx.put (Wl := [(83076749736557242056487941267521536, 137)]) (bAx.rf A_h7.1) T_h8 b_h8 f_h8 H_2073 (by decide)) (by decide)
      have A_h8 := A_h7.put T_h8 b_h8 f_h8 H_2073 (by decide)
      have qq2 : zsl h8 2073 144 = yR 2170 := ((f_h8 2073 144).trans (if_neg (fun e => absurd e.2 (by decide)))).trans qq1
      have : ys h8 2170 (p2 : Int).toNat = ys h7 2170 (p2 : Int).toNat := (y_h8 2170 (p2 : Int).toNat).trans (if_neg (fun e => (bRo.ne H_r2 H_2073 (by decide)) e.1))
      refine yG.num (c := 0) rfl (fun _ _ => rfl) (by decide) ?_
      refine yG.store1 xik (L' := [(4, yI (0)), (0, yR 2073), (1, yI (3)), (2, yI (p2)), (3, yI (p3))]) rfl (fun _ _ => rfl) rfl rfl ?_
      exact yG.mono (yG.sub (i_36 (0)  h8 A_h8 M_bRg_h8 M_bWf_h8   (by omega) (by omega) (by omega) (by omega) (by omega) (by omega) (by omega)) (ySub.cons rfl (ySub.cons rfl (ySub.cons rfl (ySub.nil))))) (by omega)
theorem c_GModel_goOn_2 {hp : xH} (W : mW G) (d : Nat) (hT : zTy G hp) (M_bRg : bRg G hp) (M_bWf : bWf G hp) (M_bRc : bRc G hp) (M_bPr : bPr G hp) (H_2073 : bRo G 116 2073) (p2 p3 : Int) (h2l : 0 ≤ p2) (h2u : p2 ≤ 255) (h3l : 2 ≤ p3) (h3u : p3 ≤ 3) : yC (xcall 89 xfts xpools xms (d + 12)) 412 [yR 2073, yI (2), yI (p2), yI (p3)] hp (fun rv hp' => (fun rv hp' => (fun rv hp' => (rv = none ∧ True) ∧ bAx G [(83076749736557242056487941267521536, 10), (83076749736557242056487941267521536, 11), (83076749736557242056487941267521536, 38), (83076749736557242056487941267521536, 40), (83076749736557242056487941267521536, 45), (83076749736557242056487941267521536, 46), (83076749736557242056487941267521536, 47), (83076749736557242056487941267521536, 135), (83076749736557242056487941267521536, 137), (83076749736557242056487941267521536, 142), (24267978344399271152649911251668184500344669796174967902119657472, 256)] hp hp') rv hp' ∧ bWf G hp') rv hp' ∧ bRg G hp') := by
  have A_hp : bAx G [(83076749736557242056487941267521536, 10), (83076749736557242056487941267521536, 11), (83076749736557242056487941267521536, 38), (83076749736557242056487941267521536, 40), (83076749736557242056487941267521536, 45), (83076749736557242056487941267521536, 46), (83076749736557242056487941267521536, 47), (83076749736557242056487941267521536, 135), (83076749736557242056487941267521536, 137), (83076749736557242056487941267521536, 142), (24267978344399271152649911251668184500344669796174967902119657472, 256)] hp hp := bAx.rf hT
  have M_bRg_hp := M_bRg
  have M_bWf_hp := M_bWf
  have H : ∀ m : Nat, (∀ a4 : Int, ∀ hq, bAx G [(83076749736557242056487941267521536, 10), (83076749736557242056487941267521536, 11), (83076749736557242056487941267521536, 38), (83076749736557242056487941267521536, 40), (83076749736557242056487941267521536, 45), (83076749736557242056487941267521536, 46), (83076749736557242056487941267521536, 47), (83076749736557242056487941267521536, 135), (83076749736557242056487941267521536, 137), (83076749736557242056487941267521536, 142), (24267978344399271152649911251668184500344669796174967902119657472, 256)] hp hq → bRg G hq → bWf G hq → 0 ≤ a4 → (-2) ≤ 0 - a4 → 0 ≤ p2 → (-255) ≤ 0 - p2 → 2 ≤ p3 → (-2) ≤ 0 - p3 → 0 - 2 * a4 + 5 < (m : Int) → yG 89 xfts (xcall 89 xfts xpools xms (d + 11)) (xpool xp_RX13) [] xt_X13_goOn (yP 0 (fun rv hp' => (fun rv hp' => (fun rv hp' => (rv = none ∧ True) ∧ bAx G [(83076749736557242056487941267521536, 10), (83076749736557242056487941267521536, 11), (83076749736557242056487941267521536, 38), (83076749736557242056487941267521536, 40), (83076749736557242056487941267521536, 45), (83076749736557242056487941267521536, 46), (83076749736557242056487941267521536, 47), (83076749736557242056487941267521536, 135), (83076749736557242056487941267521536, 137), (83076749736557242056487941267521536, 142), (24267978344399271152649911251668184500344669796174967902119657472, 256)] hp hp') rv hp' ∧ bWf G hp') rv hp' ∧ bRg G hp')) (59 * m) 36 [(0, yR 2073), (1, yI (2)), (4, yI (a4))] [] hq) ∧ (∀ a4 : Int, ∀ hq, bAx G [(83076749736557242056487941267521536, 10), (83076749736557242056487941267521536, 11), (83076749736557242056487941267521536, 38), (83076749736557242056487941267521536, 40), (83076749736557242056487941267521536, 45), (83076749736557242056487941267521536, 46), (83076749736557242056487941267521536, 47), (83076749736557242056487941267521536, 135), (83076749736557242056487941267521536, 137), (83076749736557242056487941267521536, 142), (24267978344399271152649911251668184500344669796174967902119657472, 256)] hp hq → bRg G hq → bWf G hq → 0 ≤ a4 → (-8) ≤ 0 - a4 → 0 ≤ p2 → (-255) ≤ 0 - p2 → 3 ≤ p3 → (-3) ≤ 0 - p3 → 0 - 2 * a4 + 17 < (m : Int) → yG 89 xfts (xcall 89 xfts xpools xms (d + 11)) (xpool xp_RX13) [] xt_X13_goOn (yP 0 (fun rv hp' => (fun rv hp' => (fun rv hp' => (rv = none ∧ True) ∧ bAx G [(83076749736557242056487941267521536, 10), (83076749736557242056487941267521536, 11), (83076749736557242056487941267521536, 38), (83076749736557242056487941267521536, 40), (83076749736557242056487941267521536, 45), (83076749736557242056487941267521536, 46), (83076749736557242056487941267521536, 47), (83076749736557242056487941267521536, 135), (83076749736557242056487941267521536, 137), (83076749736557242056487941267521536, 142), (24267978344399271152649911251668184500344669796174967902119657472, 256)] hp hp') rv hp' ∧ bWf G hp') rv hp' ∧ bRg G hp')) (59 * m) 66 [(0, yR 2073), (1, yI (2)), (2, yI (p2)), (3, yI (p3)), (4, yI (a4))] [] hq) := by
    intro m
    induction m with
    | zero =>
      refine ⟨?_, ?_⟩ <;> (intros; exfalso; omega)
    | succ m ih =>
      obtain ⟨i_36, i_66⟩ := ih
      refine ⟨?_, ?_⟩
      · intro a4 hq A_hq M_bRg_hq M_bWf_hq f0 f1 f2 f3 f4 f5 hm
        refine yG.mono (N := 59 * m + 59) ?_ (by omega)
        refine yG.load xik rfl (fun _ _ => rfl) (v := yI (a4)) rfl rfl ?_
        refine yG.load xik rfl (fun _ _ => rfl) (v := yI (2)) rfl rfl ?_
        refine yG.icmp rfl (t := 62) rfl ⟨by omega, by omega⟩ ⟨by omega, by omega⟩ (fun c1 => ?_) (fun c1 => ?_)
        · have c1 : (a4 : Int) ≥ 2 := c1
          refine yG.ret rfl (fun _ _ => rfl) ?_
          exact (yP.void ⟨⟨⟨⟨rfl, trivial⟩, A_hq⟩, M_bWf_hq⟩, M_bRg_hq⟩)
        · have c1 : (a4 : Int) < 2 := c1
          refine yG.load xak rfl (fun _ _ => rfl) (v := yR 2073) rfl rfl ?_
          refine yG.getO A_hq.1 (w_M_restoredSwitch W H_2073) rfl rfl (fun r2 H_r2 O_r2 q_r2 => ?_)
          obtain rfl := u_M_restoredSwitch W H_r2
          refine yG.load xik rfl (fun _ _ => rfl) (v := yI (a4)) rfl rfl ?_
          refine yG.load xak rfl (fun _ _ => rfl) (v := yR 2073) rfl rfl ?_
          refine yG.getO A_hq.1 (w_M_row W H_2073) rfl rfl (fun r3 H_r3 O_r3 q_r3 => ?_)
          obtain rfl := u_M_row W H_r3
          refine yG.load xik rfl (fun _ _ => rfl) (v := yI (a4)) rfl rfl ?_
          refine yG.iald A_hq.1 (v_M_row W H_r3) rfl (by omega) (by omega) (fun z4 e_z4 i_z4 l_z4 u_z4 => ?_)
          refine yG.iast A_hq.1 (v_M_restoredSwitch W H_r2) (W.2.1 _ _ H_r2 (by decide) (by decide)) rfl (by omega) (by omega) ⟨by omega, by omega⟩ (by omega) (by omega) (fun h5 T_h5 b_h5 f_h5 y_h5 => ?_)
          have M_bRg_h5 := M_bRg_hq.fr (bAx.put (Wl := [(822752278660603021077484591278675252491367932816789931674304512, 256)]) (bAx.rf A_hq.1) T_h5 b_h5 f_h5 H_r2 (bAll_ok (by decide) _)) (by decide)
          have M_bWf_h5 := M_bWf_hq.fr (bAx.put (Wl := [(822752278660603021077484591278675252491367932816789931674304512, 256)]) (bAx.rf A_hq.1) T_h5 b_h5 f_h5 H_r2 (bAll_ok (by decide) _)) (by decide)
          have A_h5 := A_hq.put T_h5 b_h5 f_h5 H_r2 (bAll_ok (by decide) _)
          refine yG.iinc rfl (a := a4) rfl (L' := [(4, yI (a4 + 1)), (0, yR 2073), (1, yI (2))]) rfl ?_
          refine yG.goto rfl (t := 36) rfl ?_
          exact yG.mono (yG.sub (i_36 (a4 + 1)  h5 A_h5 M_bRg_h5 M_bWf_h5   (by omega) (by omega) (by omega) (by omega) (by omega) (by omega) (by omega)) (ySub.cons rfl (ySub.cons rfl (ySub.cons rfl (ySub.nil))))) (by omega)
      · intro a4 hq A_hq M_bRg_hq M_bWf_hq f0 f1 f2 f3 f4 f5 hm
        refine yG.mono (N := 59 * m + 59) ?_ (by omega)
        refine yG.load xik rfl (fun _ _ => rfl) (v := yI (a4)) rfl rfl ?_
        refine yG.load xak rfl (fun _ _ => rfl) (v := yR 2073) rfl rfl ?_
        refine yG.getI A_hq.1 (w_M_openCount W H_2073) rfl rfl (fun z1 e_z1 i_z1 l_z1 u_z1 => ?_)
        refine yG.icmp rfl (t := 165) rfl ⟨by omega, by omega⟩ ⟨by omega, by omega⟩ (fun c2 => ?_) (fun c2 => ?_)
        · have c2 : (a4 : Int) ≥ z1 := c2
          refine yG.ret rfl (fun _ _ => rfl) ?_
          exact (yP.void ⟨⟨⟨⟨rfl, trivial⟩, A_hq⟩, M_bWf_hq⟩, M_bRg_hq⟩)
        · have c2 : (a4 : Int) < z1 := c2
          refine yG.load xik rfl (fun _ _ => rfl) (v := yI (p2)) rfl rfl ?_
          refine yG.load xik rfl (fun _ _ => rfl) (v := yI (a4)) rfl rfl ?_
          refine yG.bit32 rfl (fun _ _ => rfl) (fun z3 e_z3 l_z3 u_z3 => ?_)
          refine yG.num (c := 1) rfl (fun _ _ => rfl) (by decide) ?_
          refine yG.bit32 rfl (fun _ _ => rfl) (fun z4 e_z4 l_z4 u_z4 => ?_)
          have b_z4 : 0 ≤ z4 ∧ z4 ≤ 1 := by rw [e_z4]; exact yiand ⟨by decide, by decide⟩ (by decide)
          refine yG.ifz rfl (t := 159) rfl ⟨by omega, by omega⟩ (fun c5 => ?_) (fun c5 => ?_)
          · have c5 : (z4 : Int) ≠ 0 := c5
            refine yG.iinc rfl (a := a4) rfl (L' := [(4, yI (a4 + 1)), (0, yR 2073), (1, yI (2)), (2, yI (p2)), (3, yI (p3))]) rfl ?_
            refine yG.goto rfl (t := 66) rfl ?_
            exact yG.mono (yG.sub (i_66 (a4 + 1)  hq A_hq M_bRg_hq M_bWf_hq   (by omega) (by omega) (by omega) (by omega) (by omega) (by omega) (by omega)) (ySub.cons rfl (ySub.cons rfl (ySub.cons rfl (ySub.cons rfl (ySub.cons rfl (ySub.nil))))))) (by omega)
          · have c5 : (z4 : Int) = 0 := c5
            refine yG.load xak rfl (fun _ _ => rfl) (v := yR 2073) rfl rfl ?_
            refine yG.getO A_hq.1 (w_M_openSwitch W H_2073) rfl rfl (fun r6 H_r6 O_r6 q_r6 => ?_)
            obtain rfl := u_M_openSwitch W H_r6
            refine yG.load xik rfl (fun _ _ => rfl) (v := yI (a4)) rfl rfl ?_
            refine yG.iald A_hq.1 (v_M_openSwitch W H_r6) rfl (by omega) (by omega) (fun z7 e_z7 i_z7 l_z7 u_z7 => ?_)
            refine yG.store1 xik (L' := [(5, yI (z7)), (0, yR 2073), (1, yI (2)), (2, yI (p2)), (3, yI (p3)), (4, yI (a4))]) rfl (fun _ _ => rfl) rfl rfl ?_
            refine yG.load xak rfl (fun _ _ => rfl) (v := yR 2073) rfl rfl ?_
            refine yG.num (c := 1) rfl (fun _ _ => rfl) (by decide) ?_
            refine yG.load xik rfl (fun _ _ => rfl) (v := yI (z7)) rfl rfl ?_
            refine yG.invV (rest := []) A_hq.1 (bOb (d_M W) H_2073) rfl rfl rfl rfl (c_GModel_isBarred_1 W d A_hq.1 M_bRg_hq M_bWf_hq (M_bRc.fr A_hq (by decide)) (M_bPr.fr A_hq (by decide)) H_2073 (z7) (by omega) (by omega) (by omega)) (fun rv h8 q9 => ?_)
            obtain ⟨q9, M_bRg_h8⟩ := q9
            obtain ⟨q9, M_bWf_h8⟩ := q9
            obtain ⟨⟨z9, rfl, l_z9, u_z9, R_z9⟩, B_h8⟩ := q9
            have A_h8 := A_hq.tr B_h8 (by decide)
            show yG _ _ _ _ _ _ _ _ _ _ (yI z9 :: []) _
            refine yG.ifz rfl (t := 159) rfl ⟨by omega, by omega⟩ (fun c10 => ?_) (fun c10 => ?_)
            · have c10 : (z9 : Int) ≠ 0 := c10
              refine yG.iinc rfl (a := a4) rfl (L' := [(4, yI (a4 + 1)), (5, yI (z7)), (0, yR 2073), (1, yI (2)), (2, yI (p2)), (3, yI (p3))]) rfl ?_
              refine yG.goto rfl (t := 66) rfl ?_
              exact yG.mono (yG.sub (i_66 (a4 + 1)  h8 A_h8 M_bRg_h8 M_bWf_h8   (by omega) (by omega) (by omega) (by omega) (by omega) (by omega) (by omega)) (ySub.cons rfl (ySub.cons rfl (ySub.cons rfl (ySub.cons rfl (ySub.cons rfl (ySub.nil))))))) (by omega)
            · have c10 : (z9 : Int) = 0 := c10
              refine yG.load xik rfl (fun _ _ => rfl) (v := yI (p2)) rfl rfl ?_
              refine yG.num (c := 1) rfl (fun _ _ => rfl) (by decide) ?_
              refine yG.load xik rfl (fun _ _ => rfl) (v := yI (a4)) rfl rfl ?_
              refine yG.bit32 rfl (fun _ _ => rfl) (fun z11 e_z11 l_z11 u_z11 => ?_)
              have b_z11 : 1 ≤ z11 ∧ z11 ≤ 128 := by rw [e_z11]; exact bshl1 (by omega) (by omega)
              refine yG.bit32 rfl (fun _ _ => rfl) (fun z12 e_z12 l_z12 u_z12 => ?_)
              have b_z12 : 0 ≤ z12 ∧ z12 < ((2 ^ 8 : Nat) : Int) := by rw [e_z12]; exact bior (by omega) (by omega) (by omega) (by omega) (by decide)
              refine yG.store1 xik (L' := [(6, yI (z12)), (5, yI (z7)), (0, yR 2073), (1, yI (2)), (2, yI (p2)), (3, yI (p3)), (4, yI (a4))]) rfl (fun _ _ => rfl) rfl rfl ?_
              refine yG.load xak rfl (fun _ _ => rfl) (v := yR 2073) rfl rfl ?_
              refine yG.load xik rfl (fun _ _ => rfl) (v := yI (z12)) rfl rfl ?_
              refine yG.invV (rest := []) A_h8.1 (bOb (d_M W) H_2073) rfl rfl rfl rfl (c_GModel_wellBy W (d + 3) A_h8.1 M_bRg_h8 M_bWf_h8 (M_bPr.fr A_h8 (by decide)) H_2073 (z12) (by omega) (by omega)) (fun rv h13 q9 => ?_)
              obtain ⟨q9, M_bRg_h13⟩ := q9
              obtain ⟨⟨rfl, R_z14⟩, B_h13⟩ := q9
              have A_h13 := A_h8.tr B_h13 (by decide)
              have M_bWf_h13 := M_bWf_h8.fr B_h13 (by decide)
              show yG _ _ _ _ _ _ _ _ _ _ [] _
              refine yG.load xak rfl (fun _ _ => rfl) (v := yR 2073) rfl rfl ?_
              refine yG.getO A_h13.1 (w_M_isWell W H_2073) rfl rfl (fun r15 H_r15 O_r15 q_r15 => ?_)
              obtain rfl := u_M_isWell W H_r15
              refine yG.load xik rfl (fun _ _ => rfl) (v := yI (z12)) rfl rfl ?_
              refine yG.iald A_h13.1 (v_M_isWell W H_r15) rfl (by omega) (by omega) (fun z16 e_z16 i_z16 l_z16 u_z16 => ?_)
              refine yG.num (c := 1) rfl (fun _ _ => rfl) (by decide) ?_
              refine yG.icmp rfl (t := 146) rfl ⟨by omega, by omega⟩ ⟨by omega, by omega⟩ (fun c17 => ?_) (fun c17 => ?_)
              · have c17 : (z16 : Int) ≠ 1 := c17
                refine yG.load xak rfl (fun _ _ => rfl) (v := yR 2073) rfl rfl ?_
                refine yG.getO A_h13.1 (w_M_field W H_2073) rfl rfl (fun r18 H_r18 O_r18 q_r18 => ?_)
                obtain rfl := u_M_field W H_r18
                refine yG.num (c := 1) rfl (fun _ _ => rfl) (by decide) ?_
                refine yG.load xik rfl (fun _ _ => rfl) (v := yI (z7)) rfl rfl ?_
                refine yG.num (c := 0) rfl (fun _ _ => rfl) (by decide) ?_
                refine yG.invS (rest := [yR 2089]) rfl rfl rfl rfl (c_GModel_f W (d + 10) A_h13.1 (1) (z7) (0) (by omega) (by omega) (by omega) (by omega) (by omega) (by omega)) (fun rv hp9 q9 => ?_)
                obtain ⟨⟨z19, rfl, l_z19, u_z19, R_z19⟩, e9⟩ := q9
                rw [e9]
                show yG _ _ _ _ _ _ _ _ _ _ (yI z19 :: [yR 2089]) _
                refine yG.num (c := 0) rfl (fun _ _ => rfl) (by decide) ?_
                refine yG.iastF A_h13.1 (v_M_field W H_r18) (show yfT ((z19 : Int).toNat) = (0, (0, 2)) from ((yfT_ix (s := 1) (k := 0) (by omega) (by omega) (by omega) (by decide)).trans rfl)) (W.2.1 _ _ H_r18 (by decide) (by decide)) rfl (by omega) (by omega) ⟨by omega, by omega⟩ (by omega) (by omega) (fun h20 T_h20 b_h20 f_h20 y_h20 => ?_)
                have M_bRg_h20 := M_bRg_h13.fr (bAx.put (Wl := [(5444517870735015415413993718908291383296, 256)]) (bAx.rf A_h13.1) T_h20 b_h20 f_h20 H_r18 (bAll_ok (by decide) _)) (by decide)
                have M_bWf_h20 : bWf G h20 := M_bWf_h13.putx y_h20 (fun j hj h9 hb => by unfold mBp at hb; omega) (fun j hj h9 hb => by unfold mXp at hb; omega)
                have A_h20 := A_h13.put T_h20 b_h20 f_h20 H_r18 (bAll_ok (by decide) _)
                refine yG.iinc rfl (a := a4) rfl (L' := [(4, yI (a4 + 1)), (6, yI (z12)), (5, yI (z7)), (0, yR 2073), (1, yI (2)), (2, yI (p2)), (3, yI (p3))]) rfl ?_
                refine yG.goto rfl (t := 66) rfl ?_
                exact yG.mono (yG.sub (i_66 (a4 + 1)  h20 A_h20 M_bRg_h20 M_bWf_h20   (by omega) (by omega) (by omega) (by omega) (by omega) (by omega) (by omega)) (ySub.cons rfl (ySub.cons rfl (ySub.cons rfl (ySub.cons rfl (ySub.cons rfl (ySub.nil))))))) (by omega)
              · have c17 : (z16 : Int) = 1 := c17
                refine yG.load xak rfl (fun _ _ => rfl) (v := yR 2073) rfl rfl ?_
                refine yG.getO A_h13.1 (w_M_row W H_2073) rfl rfl (fun r21 H_r21 O_r21 q_r21 => ?_)
                obtain rfl := u_M_row W H_r21
                refine yG.load xik rfl (fun _ _ => rfl) (v := yI (2)) rfl rfl ?_
                refine yG.load xik rfl (fun _ _ => rfl) (v := yI (z7)) rfl rfl ?_
                refine yG.iast A_h13.1 (v_M_row W H_r21) (W.2.1 _ _ H_r21 (by decide) (by decide)) rfl (by omega) (by omega) ⟨by omega, by omega⟩ (by omega) (by omega) (fun h22 T_h22 b_h22 f_h22 y_h22 => ?_)
                have M_bRg_h22 := M_bRg_h13.fr (bAx.put (Wl := [(3291009114642412084309938365114701009965471731267159726697218048, 256)]) (bAx.rf A_h13.1) T_h22 b_h22 f_h22 H_r21 (bAll_ok (by decide) _)) (by decide)
                have M_bWf_h22 := M_bWf_h13.fr (bAx.put (Wl := [(3291009114642412084309938365114701009965471731267159726697218048, 256)]) (bAx.rf A_h13.1) T_h22 b_h22 f_h22 H_r21 (bAll_ok (by decide) _)) (by decide)
                have A_h22 := A_h13.put T_h22 b_h22 f_h22 H_r21 (bAll_ok (by decide) _)
                refine yG.load xak rfl (fun _ _ => rfl) (v := yR 2073) rfl rfl ?_
                refine yG.load xik rfl (fun _ _ => rfl) (v := yI (2)) rfl rfl ?_
                refine yG.num (c := 1) rfl (fun _ _ => rfl) (by decide) ?_
                refine yG.iadd rfl ?_
                refine yG.load xik rfl (fun _ _ => rfl) (v := yI (z12)) rfl rfl ?_
                refine yG.load xik rfl (fun _ _ => rfl) (v := yI (p3)) rfl rfl ?_
                rw [show (2 + 1 : Int) = 3 by omega]
                refine yG.invV (rest := []) A_h22.1 (bOb (d_M W) H_2073) rfl rfl rfl rfl (c_GModel_goOn_3 W (d + 10) A_h22.1 M_bRg_h22 M_bWf_h22 (M_bRc.fr A_h22 (by decide)) H_2073 (z12) (p3) (by omega) (by omega) (by omega) (by omega)) (fun rv h23 q9 => ?_)
                obtain ⟨q9, M_bRg_h23⟩ := q9
                obtain ⟨q9, M_bWf_h23⟩ := q9
                obtain ⟨⟨rfl, R_z24⟩, B_h23⟩ := q9
                have A_h23 := A_h22.tr B_h23 (by decide)
                show yG _ _ _ _ _ _ _ _ _ _ [] _
                refine yG.load xak rfl (fun _ _ => rfl) (v := yR 2073) rfl rfl ?_
                refine yG.getO A_h23.1 (w_M_field W H_2073) rfl rfl (fun r25 H_r25 O_r25 q_r25 => ?_)
                obtain rfl := u_M_field W H_r25
                refine yG.num (c := 1) rfl (fun _ _ => rfl) (by decide) ?_
                refine yG.load xik rfl (fun _ _ => rfl) (v := yI (z7)) rfl rfl ?_
                refine yG.num (c := 0) rfl (fun _ _ => rfl) (by decide) ?_
                refine yG.invS (rest := [yR 2089]) rfl rfl rfl rfl (c_GModel_f W (d + 10) A_h23.1 (1) (z7) (0) (by omega) (by omega) (by omega) (by omega) (by omega) (by omega)) (fun rv hp9 q9 => ?_)
                obtain ⟨⟨z26, rfl, l_z26, u_z26, R_z26⟩, e9⟩ := q9
                rw [e9]
                show yG _ _ _ _ _ _ _ _ _ _ (yI z26 :: [yR 2089]) _
                refine yG.num (c := 0) rfl (fun _ _ => rfl) (by decide) ?_
                refine yG.iastF A_h23.1 (v_M_field W H_r25) (show yfT ((z26 : Int).toNat) = (0, (0, 2)) from ((yfT_ix (s := 1) (k := 0) (by omega) (by omega) (by omega) (by decide)).trans rfl)) (W.2.1 _ _ H_r25 (by decide) (by decide)) rfl (by omega) (by omega) ⟨by omega, by omega⟩ (by omega) (by omega) (fun h27 T_h27 b_h27 f_h27 y_h27 => ?_)
                have M_bRg_h27 := M_bRg_h23.fr (bAx.put (Wl := [(5444517870735015415413993718908291383296, 256)]) (bAx.rf A_h23.1) T_h27 b_h27 f_h27 H_r25 (bAll_ok (by decide) _)) (by decide)
                have M_bWf_h27 : bWf G h27 := M_bWf_h23.putx y_h27 (fun j hj h9 hb => by unfold mBp at hb; omega) (fun j hj h9 hb => by unfold mXp at hb; omega)
                have A_h27 := A_h23.put T_h27 b_h27 f_h27 H_r25 (bAll_ok (by decide) _)
                refine yG.iinc rfl (a := a4) rfl (L' := [(4, yI (a4 + 1)), (6, yI (z12)), (5, yI (z7)), (0, yR 2073), (1, yI (2)), (2, yI (p2)), (3, yI (p3))]) rfl ?_
                refine yG.goto rfl (t := 66) rfl ?_
                exact yG.mono (yG.sub (i_66 (a4 + 1)  h27 A_h27 M_bRg_h27 M_bWf_h27   (by omega) (by omega) (by omega) (by omega) (by omega) (by omega) (by omega)) (ySub.cons rfl (ySub.cons rfl (ySub.cons rfl (ySub.cons rfl (ySub.cons rfl (ySub.nil))))))) (by omega)
  refine yC.of (M := (xt_X13_goOn, (7, (0, (14, []))))) rfl rfl (N := 1180) (yfuel (by decide)) ?_
  show yG 89 xfts (xcall 89 xfts xpools xms (d + 11)) (xpool xp_RX13) [] xt_X13_goOn (yP 0 (fun rv hp' => (fun rv hp' => (fun rv hp' => (rv = none ∧ True) ∧ bAx G [(83076749736557242056487941267521536, 10), (83076749736557242056487941267521536, 11), (83076749736557242056487941267521536, 38), (83076749736557242056487941267521536, 40), (83076749736557242056487941267521536, 45), (83076749736557242056487941267521536, 46), (83076749736557242056487941267521536, 47), (83076749736557242056487941267521536, 135), (83076749736557242056487941267521536, 137), (83076749736557242056487941267521536, 142), (24267978344399271152649911251668184500344669796174967902119657472, 256)] hp hp') rv hp' ∧ bWf G hp') rv hp' ∧ bRg G hp')) 1180 0 [(0, yR 2073), (1, yI (2)), (2, yI (p2)), (3, yI (p3))] [] hp
  obtain ⟨i_36, i_66⟩ := H 19
  refine yG.load xik rfl (fun _ _ => rfl) (v := yI (2)) rfl rfl ?_
  refine yG.load xik rfl (fun _ _ => rfl) (v := yI (p3)) rfl rfl ?_
  refine yG.icmp rfl (t := 63) rfl ⟨by omega, by omega⟩ ⟨by omega, by omega⟩ (fun c1 => ?_) (fun c1 => ?_)
  · have c1 : (2 : Int) ≠ p3 := c1
    refine yG.num (c := 0) rfl (fun _ _ => rfl) (by decide) ?_
    refine yG.store1 xik (L' := [(4, yI (0)), (0, yR 2073), (1, yI (2)), (2, yI (p2)), (3, yI (p3))]) rfl (fun _ _ => rfl) rfl rfl ?_
    exact yG.mono (yG.sub (i_66 (0)  hp A_hp M_bRg_hp M_bWf_hp   (by omega) (by omega) (by omega) (by omega) (by omega) (by omega) (by omega)) (ySub.cons rfl (ySub.cons rfl (ySub.cons rfl (ySub.cons rfl (ySub.cons rfl (ySub.nil))))))) (by omega)
  · have c1 : (2 : Int) = p3 := c1
    refine yG.load xak rfl (fun _ _ => rfl) (v := yR 2073) rfl rfl ?_
    refine yG.getO A_hp.1 (w_M_lostBy W H_2073) rfl rfl (fun r2 H_r2 O_r2 q_r2 => ?_)
    obtain rfl := u_M_lostBy W H_r2
    refine yG.load xik rfl (fun _ _ => rfl) (v := yI (p2)) rfl rfl ?_
    refine yG.iald A_hp.1 (v_M_lostBy W H_r2) rfl (by omega) (by omega) (fun z3 e_z3 i_z3 l_z3 u_z3 => ?_)
    refine yG.load xak rfl (fun _ _ => rfl) (v := yR 2073) rfl rfl ?_
    refine yG.getI A_hp.1 (w_M_bestLost W H_2073) rfl rfl (fun z4 e_z4 i_z4 l_z4 u_z4 => ?_)
    refine yG.icmp rfl (t := 62) rfl ⟨by omega, by omega⟩ ⟨by omega, by omega⟩ (fun c5 => ?_) (fun c5 => ?_)
    · have c5 : (z3 : Int) ≥ z4 := c5
      refine yG.ret rfl (fun _ _ => rfl) ?_
      exact (yP.void ⟨⟨⟨⟨rfl, trivial⟩, A_hp⟩, M_bWf_hp⟩, M_bRg_hp⟩)
    · have c5 : (z3 : Int) < z4 := c5
      refine yG.load xak rfl (fun _ _ => rfl) (v := yR 2073) rfl rfl ?_
      refine yG.load xak rfl (fun _ _ => rfl) (v := yR 2073) rfl rfl ?_
      refine yG.getS9 A_hp.1 (w_M_lostBy W H_2073) q_r2 rfl rfl ?_
      refine yG.load xik rfl (fun _ _ => rfl) (v := yI (p2)) rfl rfl ?_
      refine yG.iald A_hp.1 (v_M_lostBy W H_r2) rfl (by omega) (by omega) (fun z6 e_z6 i_z6 l_z6 u_z6 => ?_)
      rw [show (z6 : Int) = z3 by omega]
      refine yG.putI A_hp.1 (w_M_bestLost W H_2073) (W.2.1 _ _ H_2073 (by decide) (by decide)) rfl rfl (.inl rfl) ⟨by omega, by omega⟩ (by omega) (by omega) (fun h7 T_h7 b_h7 f_h7 y_h7 => ?_)
      have M_bRg_h7 := M_bRg_hp.fr (bAx.put (Wl := [(83076749736557242056487941267521536, 142)]) (bAx.rf A_hp.1) T_h7 b_h7 f_h7 H_2073 (by decide)) (by decide)
      have M_bWf_h7 := M_bWf_hp.fr (bAx.put (Wl := [(83076749736557242056487941267521536, 142)]) (bAx.rf A_hp.1) T_h7 b_h7 f_h7 H_2073 (by decide)) (by decide)
      have A_h7 := A_hp.put T_h7 b_h7 f_h7 H_2073 (by decide)
      have qq1 : zsl h7 2073 144 = yR 2170 := ((f_h7 2073 144).trans (if_neg (fun e => absurd e.2 (by decide)))).trans q_r2
      have : ys h7 2170 (p2 : Int).toNat = ys hp 2170 (p2 : Int).toNat := (y_h7 2170 (p2 : Int).toNat).trans (if_neg (fun e => (bRo.ne H_r2 H_2073 (by decide)) e.1))
      refine yG.load xak rfl (fun _ _ => rfl) (v := yR 2073) rfl rfl ?_
      refine yG.load xik rfl (fun _ _ => rfl) (v := yI (2)) rfl rfl ?_
      refine yG.putI A_h7.1 (w_M_restored W H_2073) (W.2.1 _ _ H_2073 (by decide) (by decide)) rfl rfl (.inl rfl) ⟨by omega, by omega⟩ (by omega) (by omega) (fun h8 T_h8 b_h8 f_h8 y_h8 => ?_)
      have M_bRg_h8 := M_bRg_h7.fr (bAx.put (Wl := [(83076749736557242056487941267521536, 137)]) (bAx.rf A_h7.1) T_h8 b_h8 f_h8 H_2073 (by decide)) (by decide)
      have M_bWf_h8 := M_bWf_h7.fr (bAx.put (Wl := [(83076749736557242056487941267521536, 137)]) (bAx.rf A_h7.1) T_h8 b_h8 f_h8 H_2073 (by decide)) (by decide)
      have A_h8 := A_h7.put T_h8 b_h8 f_h8 H_2073 (by decide)
      have qq2 : zsl h8 2073 144 = yR 2170 := ((f_h8 2073 144).trans (if_neg (fun e => absurd e.2 (by decide)))).trans qq1
      have : ys h8 2170 (p2 : Int).toNat = ys h7 2170 (p2 : Int).toNat := (y_h8 2170 (p2 : Int).toNat).trans (if_neg (fun e => (bRo.ne H_r2 H_2073 (by decide)) e.1))
      refine yG.num (c := 0) rfl (fun _ _ => rfl) (by decide) ?_
      refine yG.store1 xik (L' := [(4, yI (0)), (0, yR 2073), (1, yI (2)), (2, yI (p2)), (3, yI (p3))]) rfl (fun _ _ => rfl) rfl rfl ?_
      exact yG.mono (yG.sub (i_36 (0)  h8 A_h8 M_bRg_h8 M_bWf_h8   (by omega) (by omega) (by omega) (by omega) (by omega) (by omega) (by omega)) (ySub.cons rfl (ySub.cons rfl (ySub.cons rfl (ySub.nil))))) (by omega)
theorem c_GModel_goOn_1 {hp : xH} (W : mW G) (d : Nat) (hT : zTy G hp) (M_bRg : bRg G hp) (M_bWf : bWf G hp) (M_bRc : bRc G hp) (M_bPr : bPr G hp) (H_2073 : bRo G 116 2073) (p2 p3 : Int) (h2l : 0 ≤ p2) (h2u : p2 ≤ 255) (h3l : 1 ≤ p3) (h3u : p3 ≤ 3) : yC (xcall 89 xfts xpools xms (d + 13)) 412 [yR 2073, yI (1), yI (p2), yI (p3)] hp (fun rv hp' => (fun rv hp' => (fun rv hp' => (rv = none ∧ True) ∧ bAx G [(83076749736557242056487941267521536, 10), (83076749736557242056487941267521536, 11), (83076749736557242056487941267521536, 38), (83076749736557242056487941267521536, 40), (83076749736557242056487941267521536, 45), (83076749736557242056487941267521536, 46), (83076749736557242056487941267521536, 47), (83076749736557242056487941267521536, 135), (83076749736557242056487941267521536, 137), (83076749736557242056487941267521536, 142), (24267978344399271152649911251668184500344669796174967902119657472, 256)] hp hp') rv hp' ∧ bWf G hp') rv hp' ∧ bRg G hp') := by
  have A_hp : bAx G [(83076749736557242056487941267521536, 10), (83076749736557242056487941267521536, 11), (83076749736557242056487941267521536, 38), (83076749736557242056487941267521536, 40), (83076749736557242056487941267521536, 45), (83076749736557242056487941267521536, 46), (83076749736557242056487941267521536, 47), (83076749736557242056487941267521536, 135), (83076749736557242056487941267521536, 137), (83076749736557242056487941267521536, 142), (24267978344399271152649911251668184500344669796174967902119657472, 256)] hp hp := bAx.rf hT
  have M_bRg_hp := M_bRg
  have M_bWf_hp := M_bWf
  have H : ∀ m : Nat, (∀ a4 : Int, ∀ hq, bAx G [(83076749736557242056487941267521536, 10), (83076749736557242056487941267521536, 11), (83076749736557242056487941267521536, 38), (83076749736557242056487941267521536, 40), (83076749736557242056487941267521536, 45), (83076749736557242056487941267521536, 46), (83076749736557242056487941267521536, 47), (83076749736557242056487941267521536, 135), (83076749736557242056487941267521536, 137), (83076749736557242056487941267521536, 142), (24267978344399271152649911251668184500344669796174967902119657472, 256)] hp hq → bRg G hq → bWf G hq → 0 ≤ a4 → (-1) ≤ 0 - a4 → 0 ≤ p2 → (-255) ≤ 0 - p2 → 1 ≤ p3 → (-1) ≤ 0 - p3 → 0 - 2 * a4 + 3 < (m : Int) → yG 89 xfts (xcall 89 xfts xpools xms (d + 12)) (xpool xp_RX13) [] xt_X13_goOn (yP 0 (fun rv hp' => (fun rv hp' => (fun rv hp' => (rv = none ∧ True) ∧ bAx G [(83076749736557242056487941267521536, 10), (83076749736557242056487941267521536, 11), (83076749736557242056487941267521536, 38), (83076749736557242056487941267521536, 40), (83076749736557242056487941267521536, 45), (83076749736557242056487941267521536, 46), (83076749736557242056487941267521536, 47), (83076749736557242056487941267521536, 135), (83076749736557242056487941267521536, 137), (83076749736557242056487941267521536, 142), (24267978344399271152649911251668184500344669796174967902119657472, 256)] hp hp') rv hp' ∧ bWf G hp') rv hp' ∧ bRg G hp')) (59 * m) 36 [(0, yR 2073), (1, yI (1)), (4, yI (a4))] [] hq) ∧ (∀ a4 : Int, ∀ hq, bAx G [(83076749736557242056487941267521536, 10), (83076749736557242056487941267521536, 11), (83076749736557242056487941267521536, 38), (83076749736557242056487941267521536, 40), (83076749736557242056487941267521536, 45), (83076749736557242056487941267521536, 46), (83076749736557242056487941267521536, 47), (83076749736557242056487941267521536, 135), (83076749736557242056487941267521536, 137), (83076749736557242056487941267521536, 142), (24267978344399271152649911251668184500344669796174967902119657472, 256)] hp hq → bRg G hq → bWf G hq → 0 ≤ a4 → (-8) ≤ 0 - a4 → 0 ≤ p2 → (-255) ≤ 0 - p2 → 2 ≤ p3 → (-3) ≤ 0 - p3 → 0 - 2 * a4 + 17 < (m : Int) → yG 89 xfts (xcall 89 xfts xpools xms (d + 12)) (xpool xp_RX13) [] xt_X13_goOn (yP 0 (fun rv hp' => (fun rv hp' => (fun rv hp' => (rv = none ∧ True) ∧ bAx G [(83076749736557242056487941267521536, 10), (83076749736557242056487941267521536, 11), (83076749736557242056487941267521536, 38), (83076749736557242056487941267521536, 40), (83076749736557242056487941267521536, 45), (83076749736557242056487941267521536, 46), (83076749736557242056487941267521536, 47), (83076749736557242056487941267521536, 135), (83076749736557242056487941267521536, 137), (83076749736557242056487941267521536, 142), (24267978344399271152649911251668184500344669796174967902119657472, 256)] hp hp') rv hp' ∧ bWf G hp') rv hp' ∧ bRg G hp')) (59 * m) 66 [(0, yR 2073), (1, yI (1)), (2, yI (p2)), (3, yI (p3)), (4, yI (a4))] [] hq) := by
    intro m
    induction m with
    | zero =>
      refine ⟨?_, ?_⟩ <;> (intros; exfalso; omega)
    | succ m ih =>
      obtain ⟨i_36, i_66⟩ := ih
      refine ⟨?_, ?_⟩
      · intro a4 hq A_hq M_bRg_hq M_bWf_hq f0 f1 f2 f3 f4 f5 hm
        refine yG.mono (N := 59 * m + 59) ?_ (by omega)
        refine yG.load xik rfl (fun _ _ => rfl) (v := yI (a4)) rfl rfl ?_
        refine yG.load xik rfl (fun _ _ => rfl) (v := yI (1)) rfl rfl ?_
        refine yG.icmp rfl (t := 62) rfl ⟨by omega, by omega⟩ ⟨by omega, by omega⟩ (fun c1 => ?_) (fun c1 => ?_)
        · have c1 : (a4 : Int) ≥ 1 := c1
          refine yG.ret rfl (fun _ _ => rfl) ?_
          exact (yP.void ⟨⟨⟨⟨rfl, trivial⟩, A_hq⟩, M_bWf_hq⟩, M_bRg_hq⟩)
        · have c1 : (a4 : Int) < 1 := c1
          refine yG.load xak rfl (fun _ _ => rfl) (v := yR 2073) rfl rfl ?_
          refine yG.getO A_hq.1 (w_M_restoredSwitch W H_2073) rfl rfl (fun r2 H_r2 O_r2 q_r2 => ?_)
          obtain rfl := u_M_restoredSwitch W H_r2
          refine yG.load xik rfl (fun _ _ => rfl) (v := yI (a4)) rfl rfl ?_
          refine yG.load xak rfl (fun _ _ => rfl) (v := yR 2073) rfl rfl ?_
          refine yG.getO A_hq.1 (w_M_row W H_2073) rfl rfl (fun r3 H_r3 O_r3 q_r3 => ?_)
          obtain rfl := u_M_row W H_r3
          refine yG.load xik rfl (fun _ _ => rfl) (v := yI (a4)) rfl rfl ?_
          refine yG.iald A_hq.1 (v_M_row W H_r3) rfl (by omega) (by omega) (fun z4 e_z4 i_z4 l_z4 u_z4 => ?_)
          refine yG.iast A_hq.1 (v_M_restoredSwitch W H_r2) (W.2.1 _ _ H_r2 (by decide) (by decide)) rfl (by omega) (by omega) ⟨by omega, by omega⟩ (by omega) (by omega) (fun h5 T_h5 b_h5 f_h5 y_h5 => ?_)
          have M_bRg_h5 := M_bRg_hq.fr (bAx.put (Wl := [(822752278660603021077484591278675252491367932816789931674304512, 256)]) (bAx.rf A_hq.1) T_h5 b_h5 f_h5 H_r2 (bAll_ok (by decide) _)) (by decide)
          have M_bWf_h5 := M_bWf_hq.fr (bAx.put (Wl := [(822752278660603021077484591278675252491367932816789931674304512, 256)]) (bAx.rf A_hq.1) T_h5 b_h5 f_h5 H_r2 (bAll_ok (by decide) _)) (by decide)
          have A_h5 := A_hq.put T_h5 b_h5 f_h5 H_r2 (bAll_ok (by decide) _)
          refine yG.iinc rfl (a := a4) rfl (L' := [(4, yI (a4 + 1)), (0, yR 2073), (1, yI (1))]) rfl ?_
          refine yG.goto rfl (t := 36) rfl ?_
          exact yG.mono (yG.sub (i_36 (a4 + 1)  h5 A_h5 M_bRg_h5 M_bWf_h5   (by omega) (by omega) (by omega) (by omega) (by omega) (by omega) (by omega)) (ySub.cons rfl (ySub.cons rfl (ySub.cons rfl (ySub.nil))))) (by omega)
      · intro a4 hq A_hq M_bRg_hq M_bWf_hq f0 f1 f2 f3 f4 f5 hm
        refine yG.mono (N := 59 * m + 59) ?_ (by omega)
        refine yG.load xik rfl (fun _ _ => rfl) (v := yI (a4)) rfl rfl ?_
        refine yG.load xak rfl (fun _ _ => rfl) (v := yR 2073) rfl rfl ?_
        refine yG.getI A_hq.1 (w_M_openCount W H_2073) rfl rfl (fun z1 e_z1 i_z1 l_z1 u_z1 => ?_)
        refine yG.icmp rfl (t := 165) rfl ⟨by omega, by omega⟩ ⟨by omega, by omega⟩ (fun c2 => ?_) (fun c2 => ?_)
        · have c2 : (a4 : Int) ≥ z1 := c2
          refine yG.ret rfl (fun _ _ => rfl) ?_
          exact (yP.void ⟨⟨⟨⟨rfl, trivial⟩, A_hq⟩, M_bWf_hq⟩, M_bRg_hq⟩)
        · have c2 : (a4 : Int) < z1 := c2
          refine yG.load xik rfl (fun _ _ => rfl) (v := yI (p2)) rfl rfl ?_
          refine yG.load xik rfl (fun _ _ => rfl) (v := yI (a4)) rfl rfl ?_
          refine yG.bit32 rfl (fun _ _ => rfl) (fun z3 e_z3 l_z3 u_z3 => ?_)
          refine yG.num (c := 1) rfl (fun _ _ => rfl) (by decide) ?_
          refine yG.bit32 rfl (fun _ _ => rfl) (fun z4 e_z4 l_z4 u_z4 => ?_)
          have b_z4 : 0 ≤ z4 ∧ z4 ≤ 1 := by rw [e_z4]; exact yiand ⟨by decide, by decide⟩ (by decide)
          refine yG.ifz rfl (t := 159) rfl ⟨by omega, by omega⟩ (fun c5 => ?_) (fun c5 => ?_)
          · have c5 : (z4 : Int) ≠ 0 := c5
            refine yG.iinc rfl (a := a4) rfl (L' := [(4, yI (a4 + 1)), (0, yR 2073), (1, yI (1)), (2, yI (p2)), (3, yI (p3))]) rfl ?_
            refine yG.goto rfl (t := 66) rfl ?_
            exact yG.mono (yG.sub (i_66 (a4 + 1)  hq A_hq M_bRg_hq M_bWf_hq   (by omega) (by omega) (by omega) (by omega) (by omega) (by omega) (by omega)) (ySub.cons rfl (ySub.cons rfl (ySub.cons rfl (ySub.cons rfl (ySub.cons rfl (ySub.nil))))))) (by omega)
          · have c5 : (z4 : Int) = 0 := c5
            refine yG.load xak rfl (fun _ _ => rfl) (v := yR 2073) rfl rfl ?_
            refine yG.getO A_hq.1 (w_M_openSwitch W H_2073) rfl rfl (fun r6 H_r6 O_r6 q_r6 => ?_)
            obtain rfl := u_M_openSwitch W H_r6
            refine yG.load xik rfl (fun _ _ => rfl) (v := yI (a4)) rfl rfl ?_
            refine yG.iald A_hq.1 (v_M_openSwitch W H_r6) rfl (by omega) (by omega) (fun z7 e_z7 i_z7 l_z7 u_z7 => ?_)
            refine yG.store1 xik (L' := [(5, yI (z7)), (0, yR 2073), (1, yI (1)), (2, yI (p2)), (3, yI (p3)), (4, yI (a4))]) rfl (fun _ _ => rfl) rfl rfl ?_
            refine yG.load xak rfl (fun _ _ => rfl) (v := yR 2073) rfl rfl ?_
            refine yG.num (c := 1) rfl (fun _ _ => rfl) (by decide) ?_
            refine yG.load xik rfl (fun _ _ => rfl) (v := yI (z7)) rfl rfl ?_
            refine yG.invV (rest := []) A_hq.1 (bOb (d_M W) H_2073) rfl rfl rfl rfl (c_GModel_isBarred_1 W (d + 1) A_hq.1 M_bRg_hq M_bWf_hq (M_bRc.fr A_hq (by decide)) (M_bPr.fr A_hq (by decide)) H_2073 (z7) (by omega) (by omega) (by omega)) (fun rv h8 q9 => ?_)
            obtain ⟨q9, M_bRg_h8⟩ := q9
            obtain ⟨q9, M_bWf_h8⟩ := q9
            obtain ⟨⟨z9, rfl, l_z9, u_z9, R_z9⟩, B_h8⟩ := q9
            have A_h8 := A_hq.tr B_h8 (by decide)
            show yG _ _ _ _ _ _ _ _ _ _ (yI z9 :: []) _
            refine yG.ifz rfl (t := 159) rfl ⟨by omega, by omega⟩ (fun c10 => ?_) (fun c10 => ?_)
            · have c10 : (z9 : Int) ≠ 0 := c10
              refine yG.iinc rfl (a := a4) rfl (L' := [(4, yI (a4 + 1)), (5, yI (z7)), (0, yR 2073), (1, yI (1)), (2, yI (p2)), (3, yI (p3))]) rfl ?_
              refine yG.goto rfl (t := 66) rfl ?_
              exact yG.mono (yG.sub (i_66 (a4 + 1)  h8 A_h8 M_bRg_h8 M_bWf_h8   (by omega) (by omega) (by omega) (by omega) (by omega) (by omega) (by omega)) (ySub.cons rfl (ySub.cons rfl (ySub.cons rfl (ySub.cons rfl (ySub.cons rfl (ySub.nil))))))) (by omega)
            · have c10 : (z9 : Int) = 0 := c10
              refine yG.load xik rfl (fun _ _ => rfl) (v := yI (p2)) rfl rfl ?_
              refine yG.num (c := 1) rfl (fun _ _ => rfl) (by decide) ?_
              refine yG.load xik rfl (fun _ _ => rfl) (v := yI (a4)) rfl rfl ?_
              refine yG.bit32 rfl (fun _ _ => rfl) (fun z11 e_z11 l_z11 u_z11 => ?_)
              have b_z11 : 1 ≤ z11 ∧ z11 ≤ 128 := by rw [e_z11]; exact bshl1 (by omega) (by omega)
              refine yG.bit32 rfl (fun _ _ => rfl) (fun z12 e_z12 l_z12 u_z12 => ?_)
              have b_z12 : 0 ≤ z12 ∧ z12 < ((2 ^ 8 : Nat) : Int) := by rw [e_z12]; exact bior (by omega) (by omega) (by omega) (by omega) (by decide)
              refine yG.store1 xik (L' := [(6, yI (z12)), (5, yI (z7)), (0, yR 2073), (1, yI (1)), (2, yI (p2)), (3, yI (p3)), (4, yI (a4))]) rfl (fun _ _ => rfl) rfl rfl ?_
              refine yG.load xak rfl (fun _ _ => rfl) (v := yR 2073) rfl rfl ?_
              refine yG.load xik rfl (fun _ _ => rfl) (v := yI (z12)) rfl rfl ?_
              refine yG.invV (rest := []) A_h8.1 (bOb (d_M W) H_2073) rfl rfl rfl rfl (c_GModel_wellBy W (d + 4) A_h8.1 M_bRg_h8 M_bWf_h8 (M_bPr.fr A_h8 (by decide)) H_2073 (z12) (by omega) (by omega)) (fun rv h13 q9 => ?_)
              obtain ⟨q9, M_bRg_h13⟩ := q9
              obtain ⟨⟨rfl, R_z14⟩, B_h13⟩ := q9
              have A_h13 := A_h8.tr B_h13 (by decide)
              have M_bWf_h13 := M_bWf_h8.fr B_h13 (by decide)
              show yG _ _ _ _ _ _ _ _ _ _ [] _
              refine yG.load xak rfl (fun _ _ => rfl) (v := yR 2073) rfl rfl ?_
              refine yG.getO A_h13.1 (w_M_isWell W H_2073) rfl rfl (fun r15 H_r15 O_r15 q_r15 => ?_)
              obtain rfl := u_M_isWell W H_r15
              refine yG.load xik rfl (fun _ _ => rfl) (v := yI (z12)) rfl rfl ?_
              refine yG.iald A_h13.1 (v_M_isWell W H_r15) rfl (by omega) (by omega) (fun z16 e_z16 i_z16 l_z16 u_z16 => ?_)
              refine yG.num (c := 1) rfl (fun _ _ => rfl) (by decide) ?_
              refine yG.icmp rfl (t := 146) rfl ⟨by omega, by omega⟩ ⟨by omega, by omega⟩ (fun c17 => ?_) (fun c17 => ?_)
              · have c17 : (z16 : Int) ≠ 1 := c17
                refine yG.load xak rfl (fun _ _ => rfl) (v := yR 2073) rfl rfl ?_
                refine yG.getO A_h13.1 (w_M_field W H_2073) rfl rfl (fun r18 H_r18 O_r18 q_r18 => ?_)
                obtain rfl := u_M_field W H_r18
                refine yG.num (c := 1) rfl (fun _ _ => rfl) (by decide) ?_
                refine yG.load xik rfl (fun _ _ => rfl) (v := yI (z7)) rfl rfl ?_
                refine yG.num (c := 0) rfl (fun _ _ => rfl) (by decide) ?_
                refine yG.invS (rest := [yR 2089]) rfl rfl rfl rfl (c_GModel_f W (d + 11) A_h13.1 (1) (z7) (0) (by omega) (by omega) (by omega) (by omega) (by omega) (by omega)) (fun rv hp9 q9 => ?_)
                obtain ⟨⟨z19, rfl, l_z19, u_z19, R_z19⟩, e9⟩ := q9
                rw [e9]
                show yG _ _ _ _ _ _ _ _ _ _ (yI z19 :: [yR 2089]) _
                refine yG.num (c := 0) rfl (fun _ _ => rfl) (by decide) ?_
                refine yG.iastF A_h13.1 (v_M_field W H_r18) (show yfT ((z19 : Int).toNat) = (0, (0, 2)) from ((yfT_ix (s := 1) (k := 0) (by omega) (by omega) (by omega) (by decide)).trans rfl)) (W.2.1 _ _ H_r18 (by decide) (by decide)) rfl (by omega) (by omega) ⟨by omega, by omega⟩ (by omega) (by omega) (fun h20 T_h20 b_h20 f_h20 y_h20 => ?_)
                have M_bRg_h20 := M_bRg_h13.fr (bAx.put (Wl := [(5444517870735015415413993718908291383296, 256)]) (bAx.rf A_h13.1) T_h20 b_h20 f_h20 H_r18 (bAll_ok (by decide) _)) (by decide)
                have M_bWf_h20 : bWf G h20 := M_bWf_h13.putx y_h20 (fun j hj h9 hb => by unfold mBp at hb; omega) (fun j hj h9 hb => by unfold mXp at hb; omega)
                have A_h20 := A_h13.put T_h20 b_h20 f_h20 H_r18 (bAll_ok (by decide) _)
                refine yG.iinc rfl (a := a4) rfl (L' := [(4, yI (a4 + 1)), (6, yI (z12)), (5, yI (z7)), (0, yR 2073), (1, yI (1)), (2, yI (p2)), (3, yI (p3))]) rfl ?_
                refine yG.goto rfl (t := 66) rfl ?_
                exact yG.mono (yG.sub (i_66 (a4 + 1)  h20 A_h20 M_bRg_h20 M_bWf_h20   (by omega) (by omega) (by omega) (by omega) (by omega) (by omega) (by omega)) (ySub.cons rfl (ySub.cons rfl (ySub.cons rfl (ySub.cons rfl (ySub.cons rfl (ySub.nil))))))) (by omega)
              · have c17 : (z16 : Int) = 1 := c17
                refine yG.load xak rfl (fun _ _ => rfl) (v := yR 2073) rfl rfl ?_
                refine yG.getO A_h13.1 (w_M_row W H_2073) rfl rfl (fun r21 H_r21 O_r21 q_r21 => ?_)
                obtain rfl := u_M_row W H_r21
                refine yG.load xik rfl (fun _ _ => rfl) (v := yI (1)) rfl rfl ?_
                refine yG.load xik rfl (fun _ _ => rfl) (v := yI (z7)) rfl rfl ?_
                refine yG.iast A_h13.1 (v_M_row W H_r21) (W.2.1 _ _ H_r21 (by decide) (by decide)) rfl (by omega) (by omega) ⟨by omega, by omega⟩ (by omega) (by omega) (fun h22 T_h22 b_h22 f_h22 y_h22 => ?_)
                have M_bRg_h22 := M_bRg_h13.fr (bAx.put (Wl := [(3291009114642412084309938365114701009965471731267159726697218048, 256)]) (bAx.rf A_h13.1) T_h22 b_h22 f_h22 H_r21 (bAll_ok (by decide) _)) (by decide)
                have M_bWf_h22 := M_bWf_h13.fr (bAx.put (Wl := [(3291009114642412084309938365114701009965471731267159726697218048, 256)]) (bAx.rf A_h13.1) T_h22 b_h22 f_h22 H_r21 (bAll_ok (by decide) _)) (by decide)
                have A_h22 := A_h13.put T_h22 b_h22 f_h22 H_r21 (bAll_ok (by decide) _)
                refine yG.load xak rfl (fun _ _ => rfl) (v := yR 2073) rfl rfl ?_
                refine yG.load xik rfl (fun _ _ => rfl) (v := yI (1)) rfl rfl ?_
                refine yG.num (c := 1) rfl (fun _ _ => rfl) (by decide) ?_
                refine yG.iadd rfl ?_
                refine yG.load xik rfl (fun _ _ => rfl) (v := yI (z12)) rfl rfl ?_
                refine yG.load xik rfl (fun _ _ => rfl) (v := yI (p3)) rfl rfl ?_
                rw [show (1 + 1 : Int) = 2 by omega]
                refine yG.invV (rest := []) A_h22.1 (bOb (d_M W) H_2073) rfl rfl rfl rfl (c_GModel_goOn_2 W d A_h22.1 M_bRg_h22 M_bWf_h22 (M_bRc.fr A_h22 (by decide)) (M_bPr.fr A_h22 (by decide)) H_2073 (z12) (p3) (by omega) (by omega) (by omega) (by omega)) (fun rv h23 q9 => ?_)
                obtain ⟨q9, M_bRg_h23⟩ := q9
                obtain ⟨q9, M_bWf_h23⟩ := q9
                obtain ⟨⟨rfl, R_z24⟩, B_h23⟩ := q9
                have A_h23 := A_h22.tr B_h23 (by decide)
                show yG _ _ _ _ _ _ _ _ _ _ [] _
                refine yG.load xak rfl (fun _ _ => rfl) (v := yR 2073) rfl rfl ?_
                refine yG.getO A_h23.1 (w_M_field W H_2073) rfl rfl (fun r25 H_r25 O_r25 q_r25 => ?_)
                obtain rfl := u_M_field W H_r25
                refine yG.num (c := 1) rfl (fun _ _ => rfl) (by decide) ?_
                refine yG.load xik rfl (fun _ _ => rfl) (v := yI (z7)) rfl rfl ?_
                refine yG.num (c := 0) rfl (fun _ _ => rfl) (by decide) ?_
                refine yG.invS (rest := [yR 2089]) rfl rfl rfl rfl (c_GModel_f W (d + 11) A_h23.1 (1) (z7) (0) (by omega) (by omega) (by omega) (by omega) (by omega) (by omega)) (fun rv hp9 q9 => ?_)
                obtain ⟨⟨z26, rfl, l_z26, u_z26, R_z26⟩, e9⟩ := q9
                rw [e9]
                show yG _ _ _ _ _ _ _ _ _ _ (yI z26 :: [yR 2089]) _
                refine yG.num (c := 0) rfl (fun _ _ => rfl) (by decide) ?_
                refine yG.iastF A_h23.1 (v_M_field W H_r25) (show yfT ((z26 : Int).toNat) = (0, (0, 2)) from ((yfT_ix (s := 1) (k := 0) (by omega) (by omega) (by omega) (by decide)).trans rfl)) (W.2.1 _ _ H_r25 (by decide) (by decide)) rfl (by omega) (by omega) ⟨by omega, by omega⟩ (by omega) (by omega) (fun h27 T_h27 b_h27 f_h27 y_h27 => ?_)
                have M_bRg_h27 := M_bRg_h23.fr (bAx.put (Wl := [(5444517870735015415413993718908291383296, 256)]) (bAx.rf A_h23.1) T_h27 b_h27 f_h27 H_r25 (bAll_ok (by decide) _)) (by decide)
                have M_bWf_h27 : bWf G h27 := M_bWf_h23.putx y_h27 (fun j hj h9 hb => by unfold mBp at hb; omega) (fun j hj h9 hb => by unfold mXp at hb; omega)
                have A_h27 := A_h23.put T_h27 b_h27 f_h27 H_r25 (bAll_ok (by decide) _)
                refine yG.iinc rfl (a := a4) rfl (L' := [(4, yI (a4 + 1)), (6, yI (z12)), (5, yI (z7)), (0, yR 2073), (1, yI (1)), (2, yI (p2)), (3, yI (p3))]) rfl ?_
                refine yG.goto rfl (t := 66) rfl ?_
                exact yG.mono (yG.sub (i_66 (a4 + 1)  h27 A_h27 M_bRg_h27 M_bWf_h27   (by omega) (by omega) (by omega) (by omega) (by omega) (by omega) (by omega)) (ySub.cons rfl (ySub.cons rfl (ySub.cons rfl (ySub.cons rfl (ySub.cons rfl (ySub.nil))))))) (by omega)
  refine yC.of (M := (xt_X13_goOn, (7, (0, (14, []))))) rfl rfl (N := 1180) (yfuel (by decide)) ?_
  show yG 89 xfts (xcall 89 xfts xpools xms (d + 12)) (xpool xp_RX13) [] xt_X13_goOn (yP 0 (fun rv hp' => (fun rv hp' => (fun rv hp' => (rv = none ∧ True) ∧ bAx G [(83076749736557242056487941267521536, 10), (83076749736557242056487941267521536, 11), (83076749736557242056487941267521536, 38), (83076749736557242056487941267521536, 40), (83076749736557242056487941267521536, 45), (83076749736557242056487941267521536, 46), (83076749736557242056487941267521536, 47), (83076749736557242056487941267521536, 135), (83076749736557242056487941267521536, 137), (83076749736557242056487941267521536, 142), (24267978344399271152649911251668184500344669796174967902119657472, 256)] hp hp') rv hp' ∧ bWf G hp') rv hp' ∧ bRg G hp')) 1180 0 [(0, yR 2073), (1, yI (1)), (2, yI (p2)), (3, yI (p3))] [] hp
  obtain ⟨i_36, i_66⟩ := H 19
  refine yG.load xik rfl (fun _ _ => rfl) (v := yI (1)) rfl rfl ?_
  refine yG.load xik rfl (fun _ _ => rfl) (v := yI (p3)) rfl rfl ?_
  refine yG.icmp rfl (t := 63) rfl ⟨by omega, by omega⟩ ⟨by omega, by omega⟩ (fun c1 => ?_) (fun c1 => ?_)
  · have c1 : (1 : Int) ≠ p3 := c1
    refine yG.num (c := 0) rfl (fun _ _ => rfl) (by decide) ?_
    refine yG.store1 xik (L' := [(4, yI (0)), (0, yR 2073), (1, yI (1)), (2, yI (p2)), (3, yI (p3))]) rfl (fun _ _ => rfl) rfl rfl ?_
    exact yG.mono (yG.sub (i_66 (0)  hp A_hp M_bRg_hp M_bWf_hp   (by omega) (by omega) (by omega) (by omega) (by omega) (by omega) (by omega)) (ySub.cons rfl (ySub.cons rfl (ySub.cons rfl (ySub.cons rfl (ySub.cons rfl (ySub.nil))))))) (by omega)
  · have c1 : (1 : Int) = p3 := c1
    refine yG.load xak rfl (fun _ _ => rfl) (v := yR 2073) rfl rfl ?_
    refine yG.getO A_hp.1 (w_M_lostBy W H_2073) rfl rfl (fun r2 H_r2 O_r2 q_r2 => ?_)
    obtain rfl := u_M_lostBy W H_r2
    refine yG.load xik rfl (fun _ _ => rfl) (v := yI (p2)) rfl rfl ?_
    refine yG.iald A_hp.1 (v_M_lostBy W H_r2) rfl (by omega) (by omega) (fun z3 e_z3 i_z3 l_z3 u_z3 => ?_)
    refine yG.load xak rfl (fun _ _ => rfl) (v := yR 2073) rfl rfl ?_
    refine yG.getI A_hp.1 (w_M_bestLost W H_2073) rfl rfl (fun z4 e_z4 i_z4 l_z4 u_z4 => ?_)
    refine yG.icmp rfl (t := 62) rfl ⟨by omega, by omega⟩ ⟨by omega, by omega⟩ (fun c5 => ?_) (fun c5 => ?_)
    · have c5 : (z3 : Int) ≥ z4 := c5
      refine yG.ret rfl (fun _ _ => rfl) ?_
      exact (yP.void ⟨⟨⟨⟨rfl, trivial⟩, A_hp⟩, M_bWf_hp⟩, M_bRg_hp⟩)
    · have c5 : (z3 : Int) < z4 := c5
      refine yG.load xak rfl (fun _ _ => rfl) (v := yR 2073) rfl rfl ?_
      refine yG.load xak rfl (fun _ _ => rfl) (v := yR 2073) rfl rfl ?_
      refine yG.getS9 A_hp.1 (w_M_lostBy W H_2073) q_r2 rfl rfl ?_
      refine yG.load xik rfl (fun _ _ => rfl) (v := yI (p2)) rfl rfl ?_
      refine yG.iald A_hp.1 (v_M_lostBy W H_r2) rfl (by omega) (by omega) (fun z6 e_z6 i_z6 l_z6 u_z6 => ?_)
      rw [show (z6 : Int) = z3 by omega]
      refine yG.putI A_hp.1 (w_M_bestLost W H_2073) (W.2.1 _ _ H_2073 (by decide) (by decide)) rfl rfl (.inl rfl) ⟨by omega, by omega⟩ (by omega) (by omega) (fun h7 T_h7 b_h7 f_h7 y_h7 => ?_)
      have M_bRg_h7 := M_bRg_hp.fr (bAx.put (Wl := [(83076749736557242056487941267521536, 142)]) (bAx.rf A_hp.1) T_h7 b_h7 f_h7 H_2073 (by decide)) (by decide)
      have M_bWf_h7 := M_bWf_hp.fr (bAx.put (Wl := [(83076749736557242056487941267521536, 142)]) (bAx.rf A_hp.1) T_h7 b_h7 f_h7 H_2073 (by decide)) (by decide)
      have A_h7 := A_hp.put T_h7 b_h7 f_h7 H_2073 (by decide)
      have qq1 : zsl h7 2073 144 = yR 2170 := ((f_h7 2073 144).trans (if_neg (fun e => absurd e.2 (by decide)))).trans q_r2
      have : ys h7 2170 (p2 : Int).toNat = ys hp 2170 (p2 : Int).toNat := (y_h7 2170 (p2 : Int).toNat).trans (if_neg (fun e => (bRo.ne H_r2 H_2073 (by decide)) e.1))
      refine yG.load xak rfl (fun _ _ => rfl) (v := yR 2073) rfl rfl ?_
      refine yG.load xik rfl (fun _ _ => rfl) (v := yI (1)) rfl rfl ?_
      refine yG.putI A_h7.1 (w_M_restored W H_2073) (W.2.1 _ _ H_2073 (by decide) (by decide)) rfl rfl (.inl rfl) ⟨by omega, by omega⟩ (by omega) (by omega) (fun h8 T_h8 b_h8 f_h8 y_h8 => ?_)
      have M_bRg_h8 := M_bRg_h7.fr (bAx.put (Wl := [(83076749736557242056487941267521536, 137)]) (bAx.rf A_h7.1) T_h8 b_h8 f_h8 H_2073 (by decide)) (by decide)
      have M_bWf_h8 := M_bWf_h7.fr (bAx.put (Wl := [(83076749736557242056487941267521536, 137)]) (bAx.rf A_h7.1) T_h8 b_h8 f_h8 H_2073 (by decide)) (by decide)
      have A_h8 := A_h7.put T_h8 b_h8 f_h8 H_2073 (by decide)
      have qq2 : zsl h8 2073 144 = yR 2170 := ((f_h8 2073 144).trans (if_neg (fun e => absurd e.2 (by decide)))).trans qq1
      have : ys h8 2170 (p2 : Int).toNat = ys h7 2170 (p2 : Int).toNat := (y_h8 2170 (p2 : Int).toNat).trans (if_neg (fun e => (bRo.ne H_r2 H_2073 (by decide)) e.1))
      refine yG.num (c := 0) rfl (fun _ _ => rfl) (by decide) ?_
      refine yG.store1 xik (L' := [(4, yI (0)), (0, yR 2073), (1, yI (1)), (2, yI (p2)), (3, yI (p3))]) rfl (fun _ _ => rfl) rfl rfl ?_
      exact yG.mono (yG.sub (i_36 (0)  h8 A_h8 M_bRg_h8 M_bWf_h8   (by omega) (by omega) (by omega) (by omega) (by omega) (by omega) (by omega)) (ySub.cons rfl (ySub.cons rfl (ySub.cons rfl (ySub.nil))))) (by omega)
theorem c_GModel_goOn_0 {hp : xH} (W : mW G) (d : Nat) (hT : zTy G hp) (M_bRg : bRg G hp) (M_bWf : bWf G hp) (M_bRc : bRc G hp) (M_bPr : bPr G hp) (H_2073 : bRo G 116 2073) (p2 p3 : Int) (h2l : 0 ≤ p2) (h2u : p2 ≤ 255) (h3l : 0 ≤ p3) (h3u : p3 ≤ 3) : yC (xcall 89 xfts xpools xms (d + 14)) 412 [yR 2073, yI (0), yI (p2), yI (p3)] hp (fun rv hp' => (fun rv hp' => (fun rv hp' => (rv = none ∧ True) ∧ bAx G [(83076749736557242056487941267521536, 10), (83076749736557242056487941267521536, 11), (83076749736557242056487941267521536, 38), (83076749736557242056487941267521536, 40), (83076749736557242056487941267521536, 45), (83076749736557242056487941267521536, 46), (83076749736557242056487941267521536, 47), (83076749736557242056487941267521536, 135), (83076749736557242056487941267521536, 137), (83076749736557242056487941267521536, 142), (24267978344399271152649911251668184500344669796174967902119657472, 256)] hp hp') rv hp' ∧ bWf G hp') rv hp' ∧ bRg G hp') := by
  have A_hp : bAx G [(83076749736557242056487941267521536, 10), (83076749736557242056487941267521536, 11), (83076749736557242056487941267521536, 38), (83076749736557242056487941267521536, 40), (83076749736557242056487941267521536, 45), (83076749736557242056487941267521536, 46), (83076749736557242056487941267521536, 47), (83076749736557242056487941267521536, 135), (83076749736557242056487941267521536, 137), (83076749736557242056487941267521536, 142), (24267978344399271152649911251668184500344669796174967902119657472, 256)] hp hp := bAx.rf hT
  have M_bRg_hp := M_bRg
  have M_bWf_hp := M_bWf
  have H : ∀ m : Nat, (∀ a4 : Int, ∀ hq, bAx G [(83076749736557242056487941267521536, 10), (83076749736557242056487941267521536, 11), (83076749736557242056487941267521536, 38), (83076749736557242056487941267521536, 40), (83076749736557242056487941267521536, 45), (83076749736557242056487941267521536, 46), (83076749736557242056487941267521536, 47), (83076749736557242056487941267521536, 135), (83076749736557242056487941267521536, 137), (83076749736557242056487941267521536, 142), (24267978344399271152649911251668184500344669796174967902119657472, 256)] hp hq → bRg G hq → bWf G hq → 0 ≤ a4 → 0 ≤ 0 - a4 → 0 ≤ p2 → (-255) ≤ 0 - p2 → 0 ≤ p3 → 0 ≤ 0 - p3 → 0 - 2 * a4 + 1 < (m : Int) → yG 89 xfts (xcall 89 xfts xpools xms (d + 13)) (xpool xp_RX13) [] xt_X13_goOn (yP 0 (fun rv hp' => (fun rv hp' => (fun rv hp' => (rv = none ∧ True) ∧ bAx G [(83076749736557242056487941267521536, 10), (83076749736557242056487941267521536, 11), (83076749736557242056487941267521536, 38), (83076749736557242056487941267521536, 40), (83076749736557242056487941267521536, 45), (83076749736557242056487941267521536, 46), (83076749736557242056487941267521536, 47), (83076749736557242056487941267521536, 135), (83076749736557242056487941267521536, 137), (83076749736557242056487941267521536, 142), (24267978344399271152649911251668184500344669796174967902119657472, 256)] hp hp') rv hp' ∧ bWf G hp') rv hp' ∧ bRg G hp')) (59 * m) 36 [(0, yR 2073), (1, yI (0)), (4, yI (a4))] [] hq) ∧ (∀ a4 : Int, ∀ hq, bAx G [(83076749736557242056487941267521536, 10), (83076749736557242056487941267521536, 11), (83076749736557242056487941267521536, 38), (83076749736557242056487941267521536, 40), (83076749736557242056487941267521536, 45), (83076749736557242056487941267521536, 46), (83076749736557242056487941267521536, 47), (83076749736557242056487941267521536, 135), (83076749736557242056487941267521536, 137), (83076749736557242056487941267521536, 142), (24267978344399271152649911251668184500344669796174967902119657472, 256)] hp hq → bRg G hq → bWf G hq → 0 ≤ a4 → (-8) ≤ 0 - a4 → 0 ≤ p2 → (-255) ≤ 0 - p2 → 1 ≤ p3 → (-3) ≤ 0 - p3 → 0 - 2 * a4 + 17 < (m : Int) → yG 89 xfts (xcall 89 xfts xpools xms (d + 13)) (xpool xp_RX13) [] xt_X13_goOn (yP 0 (fun rv hp' => (fun rv hp' => (fun rv hp' => (rv = none ∧ True) ∧ bAx G [(83076749736557242056487941267521536, 10), (83076749736557242056487941267521536, 11), (83076749736557242056487941267521536, 38), (83076749736557242056487941267521536, 40), (83076749736557242056487941267521536, 45), (83076749736557242056487941267521536, 46), (83076749736557242056487941267521536, 47), (83076749736557242056487941267521536, 135), (83076749736557242056487941267521536, 137), (83076749736557242056487941267521536, 142), (24267978344399271152649911251668184500344669796174967902119657472, 256)] hp hp') rv hp' ∧ bWf G hp') rv hp' ∧ bRg G hp')) (59 * m) 66 [(0, yR 2073), (1, yI (0)), (2, yI (p2)), (3, yI (p3)), (4, yI (a4))] [] hq) := by
    intro m
    induction m with
    | zero =>
      refine ⟨?_, ?_⟩ <;> (intros; exfalso; omega)
    | succ m ih =>
      obtain ⟨i_36, i_66⟩ := ih
      refine ⟨?_, ?_⟩
      · intro a4 hq A_hq M_bRg_hq M_bWf_hq f0 f1 f2 f3 f4 f5 hm
        refine yG.mono (N := 59 * m + 59) ?_ (by omega)
        refine yG.load xik rfl (fun _ _ => rfl) (v := yI (a4)) rfl rfl ?_
        refine yG.load xik rfl (fun _ _ => rfl) (v := yI (0)) rfl rfl ?_
        refine yG.icmp rfl (t := 62) rfl ⟨by omega, by omega⟩ ⟨by omega, by omega⟩ (fun c1 => ?_) (fun c1 => ?_)
        · have c1 : (a4 : Int) ≥ 0 := c1
          refine yG.ret rfl (fun _ _ => rfl) ?_
          exact (yP.void ⟨⟨⟨⟨rfl, trivial⟩, A_hq⟩, M_bWf_hq⟩, M_bRg_hq⟩)
        · have c1 : (a4 : Int) < 0 := c1
          exfalso; omega
      · intro a4 hq A_hq M_bRg_hq M_bWf_hq f0 f1 f2 f3 f4 f5 hm
        refine yG.mono (N := 59 * m + 59) ?_ (by omega)
        refine yG.load xik rfl (fun _ _ => rfl) (v := yI (a4)) rfl rfl ?_
        refine yG.load xak rfl (fun _ _ => rfl) (v := yR 2073) rfl rfl ?_
        refine yG.getI A_hq.1 (w_M_openCount W H_2073) rfl rfl (fun z1 e_z1 i_z1 l_z1 u_z1 => ?_)
        refine yG.icmp rfl (t := 165) rfl ⟨by omega, by omega⟩ ⟨by omega, by omega⟩ (fun c2 => ?_) (fun c2 => ?_)
        · have c2 : (a4 : Int) ≥ z1 := c2
          refine yG.ret rfl (fun _ _ => rfl) ?_
          exact (yP.void ⟨⟨⟨⟨rfl, trivial⟩, A_hq⟩, M_bWf_hq⟩, M_bRg_hq⟩)
        · have c2 : (a4 : Int) < z1 := c2
          refine yG.load xik rfl (fun _ _ => rfl) (v := yI (p2)) rfl rfl ?_
          refine yG.load xik rfl (fun _ _ => rfl) (v := yI (a4)) rfl rfl ?_
          refine yG.bit32 rfl (fun _ _ => rfl) (fun z3 e_z3 l_z3 u_z3 => ?_)
          refine yG.num (c := 1) rfl (fun _ _ => rfl) (by decide) ?_
          refine yG.bit32 rfl (fun _ _ => rfl) (fun z4 e_z4 l_z4 u_z4 => ?_)
          have b_z4 : 0 ≤ z4 ∧ z4 ≤ 1 := by rw [e_z4]; exact yiand ⟨by decide, by decide⟩ (by decide)
          refine yG.ifz rfl (t := 159) rfl ⟨by omega, by omega⟩ (fun c5 => ?_) (fun c5 => ?_)
          · have c5 : (z4 : Int) ≠ 0 := c5
            refine yG.iinc rfl (a := a4) rfl (L' := [(4, yI (a4 + 1)), (0, yR 2073), (1, yI (0)), (2, yI (p2)), (3, yI (p3))]) rfl ?_
            refine yG.goto rfl (t := 66) rfl ?_
            exact yG.mono (yG.sub (i_66 (a4 + 1)  hq A_hq M_bRg_hq M_bWf_hq   (by omega) (by omega) (by omega) (by omega) (by omega) (by omega) (by omega)) (ySub.cons rfl (ySub.cons rfl (ySub.cons rfl (ySub.cons rfl (ySub.cons rfl (ySub.nil))))))) (by omega)
          · have c5 : (z4 : Int) = 0 := c5
            refine yG.load xak rfl (fun _ _ => rfl) (v := yR 2073) rfl rfl ?_
            refine yG.getO A_hq.1 (w_M_openSwitch W H_2073) rfl rfl (fun r6 H_r6 O_r6 q_r6 => ?_)
            obtain rfl := u_M_openSwitch W H_r6
            refine yG.load xik rfl (fun _ _ => rfl) (v := yI (a4)) rfl rfl ?_
            refine yG.iald A_hq.1 (v_M_openSwitch W H_r6) rfl (by omega) (by omega) (fun z7 e_z7 i_z7 l_z7 u_z7 => ?_)
            refine yG.store1 xik (L' := [(5, yI (z7)), (0, yR 2073), (1, yI (0)), (2, yI (p2)), (3, yI (p3)), (4, yI (a4))]) rfl (fun _ _ => rfl) rfl rfl ?_
            refine yG.load xak rfl (fun _ _ => rfl) (v := yR 2073) rfl rfl ?_
            refine yG.num (c := 1) rfl (fun _ _ => rfl) (by decide) ?_
            refine yG.load xik rfl (fun _ _ => rfl) (v := yI (z7)) rfl rfl ?_
            refine yG.invV (rest := []) A_hq.1 (bOb (d_M W) H_2073) rfl rfl rfl rfl (c_GModel_isBarred_1 W (d + 2) A_hq.1 M_bRg_hq M_bWf_hq (M_bRc.fr A_hq (by decide)) (M_bPr.fr A_hq (by decide)) H_2073 (z7) (by omega) (by omega) (by omega)) (fun rv h8 q9 => ?_)
            obtain ⟨q9, M_bRg_h8⟩ := q9
            obtain ⟨q9, M_bWf_h8⟩ := q9
            obtain ⟨⟨z9, rfl, l_z9, u_z9, R_z9⟩, B_h8⟩ := q9
            have A_h8 := A_hq.tr B_h8 (by decide)
            show yG _ _ _ _ _ _ _ _ _ _ (yI z9 :: []) _
            refine yG.ifz rfl (t := 159) rfl ⟨by omega, by omega⟩ (fun c10 => ?_) (fun c10 => ?_)
            · have c10 : (z9 : Int) ≠ 0 := c10
              refine yG.iinc rfl (a := a4) rfl (L' := [(4, yI (a4 + 1)), (5, yI (z7)), (0, yR 2073), (1, yI (0)), (2, yI (p2)), (3, yI (p3))]) rfl ?_
              refine yG.goto rfl (t := 66) rfl ?_
              exact yG.mono (yG.sub (i_66 (a4 + 1)  h8 A_h8 M_bRg_h8 M_bWf_h8   (by omega) (by omega) (by omega) (by omega) (by omega) (by omega) (by omega)) (ySub.cons rfl (ySub.cons rfl (ySub.cons rfl (ySub.cons rfl (ySub.cons rfl (ySub.nil))))))) (by omega)
            · have c10 : (z9 : Int) = 0 := c10
              refine yG.load xik rfl (fun _ _ => rfl) (v := yI (p2)) rfl rfl ?_
              refine yG.num (c := 1) rfl (fun _ _ => rfl) (by decide) ?_
              refine yG.load xik rfl (fun _ _ => rfl) (v := yI (a4)) rfl rfl ?_
              refine yG.bit32 rfl (fun _ _ => rfl) (fun z11 e_z11 l_z11 u_z11 => ?_)
              have b_z11 : 1 ≤ z11 ∧ z11 ≤ 128 := by rw [e_z11]; exact bshl1 (by omega) (by omega)
              refine yG.bit32 rfl (fun _ _ => rfl) (fun z12 e_z12 l_z12 u_z12 => ?_)
              have b_z12 : 0 ≤ z12 ∧ z12 < ((2 ^ 8 : Nat) : Int) := by rw [e_z12]; exact bior (by omega) (by omega) (by omega) (by omega) (by decide)
              refine yG.store1 xik (L' := [(6, yI (z12)), (5, yI (z7)), (0, yR 2073), (1, yI (0)), (2, yI (p2)), (3, yI (p3)), (4, yI (a4))]) rfl (fun _ _ => rfl) rfl rfl ?_
              refine yG.load xak rfl (fun _ _ => rfl) (v := yR 2073) rfl rfl ?_
              refine yG.load xik rfl (fun _ _ => rfl) (v := yI (z12)) rfl rfl ?_
              refine yG.invV (rest := []) A_h8.1 (bOb (d_M W) H_2073) rfl rfl rfl rfl (c_GModel_wellBy W (d + 5) A_h8.1 M_bRg_h8 M_bWf_h8 (M_bPr.fr A_h8 (by decide)) H_2073 (z12) (by omega) (by omega)) (fun rv h13 q9 => ?_)
              obtain ⟨q9, M_bRg_h13⟩ := q9
              obtain ⟨⟨rfl, R_z14⟩, B_h13⟩ := q9
              have A_h13 := A_h8.tr B_h13 (by decide)
              have M_bWf_h13 := M_bWf_h8.fr B_h13 (by decide)
              show yG _ _ _ _ _ _ _ _ _ _ [] _
              refine yG.load xak rfl (fun _ _ => rfl) (v := yR 2073) rfl rfl ?_
              refine yG.getO A_h13.1 (w_M_isWell W H_2073) rfl rfl (fun r15 H_r15 O_r15 q_r15 => ?_)
              obtain rfl := u_M_isWell W H_r15
              refine yG.load xik rfl (fun _ _ => rfl) (v := yI (z12)) rfl rfl ?_
              refine yG.iald A_h13.1 (v_M_isWell W H_r15) rfl (by omega) (by omega) (fun z16 e_z16 i_z16 l_z16 u_z16 => ?_)
              refine yG.num (c := 1) rfl (fun _ _ => rfl) (by decide) ?_
              refine yG.icmp rfl (t := 146) rfl ⟨by omega, by omega⟩ ⟨by omega, by omega⟩ (fun c17 => ?_) (fun c17 => ?_)
              · have c17 : (z16 : Int) ≠ 1 := c17
                refine yG.load xak rfl (fun _ _ => rfl) (v := yR 2073) rfl rfl ?_
                refine yG.getO A_h13.1 (w_M_field W H_2073) rfl rfl (fun r18 H_r18 O_r18 q_r18 => ?_)
                obtain rfl := u_M_field W H_r18
                refine yG.num (c := 1) rfl (fun _ _ => rfl) (by decide) ?_
                refine yG.load xik rfl (fun _ _ => rfl) (v := yI (z7)) rfl rfl ?_
                refine yG.num (c := 0) rfl (fun _ _ => rfl) (by decide) ?_
                refine yG.invS (rest := [yR 2089]) rfl rfl rfl rfl (c_GModel_f W (d + 12) A_h13.1 (1) (z7) (0) (by omega) (by omega) (by omega) (by omega) (by omega) (by omega)) (fun rv hp9 q9 => ?_)
                obtain ⟨⟨z19, rfl, l_z19, u_z19, R_z19⟩, e9⟩ := q9
                rw [e9]
                show yG _ _ _ _ _ _ _ _ _ _ (yI z19 :: [yR 2089]) _
                refine yG.num (c := 0) rfl (fun _ _ => rfl) (by decide) ?_
                refine yG.iastF A_h13.1 (v_M_field W H_r18) (show yfT ((z19 : Int).toNat) = (0, (0, 2)) from ((yfT_ix (s := 1) (k := 0) (by omega) (by omega) (by omega) (by decide)).trans rfl)) (W.2.1 _ _ H_r18 (by decide) (by decide)) rfl (by omega) (by omega) ⟨by omega, by omega⟩ (by omega) (by omega) (fun h20 T_h20 b_h20 f_h20 y_h20 => ?_)
                have M_bRg_h20 := M_bRg_h13.fr (bAx.put (Wl := [(5444517870735015415413993718908291383296, 256)]) (bAx.rf A_h13.1) T_h20 b_h20 f_h20 H_r18 (bAll_ok (by decide) _)) (by decide)
                have M_bWf_h20 : bWf G h20 := M_bWf_h13.putx y_h20 (fun j hj h9 hb => by unfold mBp at hb; omega) (fun j hj h9 hb => by unfold mXp at hb; omega)
                have A_h20 := A_h13.put T_h20 b_h20 f_h20 H_r18 (bAll_ok (by decide) _)
                refine yG.iinc rfl (a := a4) rfl (L' := [(4, yI (a4 + 1)), (6, yI (z12)), (5, yI (z7)), (0, yR 2073), (1, yI (0)), (2, yI (p2)), (3, yI (p3))]) rfl ?_
                refine yG.goto rfl (t := 66) rfl ?_
                exact yG.mono (yG.sub (i_66 (a4 + 1)  h20 A_h20 M_bRg_h20 M_bWf_h20   (by omega) (by omega) (by omega) (by omega) (by omega) (by omega) (by omega)) (ySub.cons rfl (ySub.cons rfl (ySub.cons rfl (ySub.cons rfl (ySub.cons rfl (ySub.nil))))))) (by omega)
              · have c17 : (z16 : Int) = 1 := c17
                refine yG.load xak rfl (fun _ _ => rfl) (v := yR 2073) rfl rfl ?_
                refine yG.getO A_h13.1 (w_M_row W H_2073) rfl rfl (fun r21 H_r21 O_r21 q_r21 => ?_)
                obtain rfl := u_M_row W H_r21
                refine yG.load xik rfl (fun _ _ => rfl) (v := yI (0)) rfl rfl ?_
                refine yG.load xik rfl (fun _ _ => rfl) (v := yI (z7)) rfl rfl ?_
                refine yG.iast A_h13.1 (v_M_row W H_r21) (W.2.1 _ _ H_r21 (by decide) (by decide)) rfl (by omega) (by omega) ⟨by omega, by omega⟩ (by omega) (by omega) (fun h22 T_h22 b_h22 f_h22 y_h22 => ?_)
                have M_bRg_h22 := M_bRg_h13.fr (bAx.put (Wl := [(3291009114642412084309938365114701009965471731267159726697218048, 256)]) (bAx.rf A_h13.1) T_h22 b_h22 f_h22 H_r21 (bAll_ok (by decide) _)) (by decide)
                have M_bWf_h22 := M_bWf_h13.fr (bAx.put (Wl := [(3291009114642412084309938365114701009965471731267159726697218048, 256)]) (bAx.rf A_h13.1) T_h22 b_h22 f_h22 H_r21 (bAll_ok (by decide) _)) (by decide)
                have A_h22 := A_h13.put T_h22 b_h22 f_h22 H_r21 (bAll_ok (by decide) _)
                refine yG.load xak rfl (fun _ _ => rfl) (v := yR 2073) rfl rfl ?_
                refine yG.load xik rfl (fun _ _ => rfl) (v := yI (0)) rfl rfl ?_
                refine yG.num (c := 1) rfl (fun _ _ => rfl) (by decide) ?_
                refine yG.iadd rfl ?_
                refine yG.load xik rfl (fun _ _ => rfl) (v := yI (z12)) rfl rfl ?_
                refine yG.load xik rfl (fun _ _ => rfl) (v := yI (p3)) rfl rfl ?_
                rw [show (0 + 1 : Int) = 1 by omega]
                refine yG.invV (rest := []) A_h22.1 (bOb (d_M W) H_2073) rfl rfl rfl rfl (c_GModel_goOn_1 W d A_h22.1 M_bRg_h22 M_bWf_h22 (M_bRc.fr A_h22 (by decide)) (M_bPr.fr A_h22 (by decide)) H_2073 (z12) (p3) (by omega) (by omega) (by omega) (by omega)) (fun rv h23 q9 => ?_)
                obtain ⟨q9, M_bRg_h23⟩ := q9
                obtain ⟨q9, M_bWf_h23⟩ := q9
                obtain ⟨⟨rfl, R_z24⟩, B_h23⟩ := q9
                have A_h23 := A_h22.tr B_h23 (by decide)
                show yG _ _ _ _ _ _ _ _ _ _ [] _
                refine yG.load xak rfl (fun _ _ => rfl) (v := yR 2073) rfl rfl ?_
                refine yG.getO A_h23.1 (w_M_field W H_2073) rfl rfl (fun r25 H_r25 O_r25 q_r25 => ?_)
                obtain rfl := u_M_field W H_r25
                refine yG.num (c := 1) rfl (fun _ _ => rfl) (by decide) ?_
                refine yG.load xik rfl (fun _ _ => rfl) (v := yI (z7)) rfl rfl ?_
                refine yG.num (c := 0) rfl (fun _ _ => rfl) (by decide) ?_
                refine yG.invS (rest := [yR 2089]) rfl rfl rfl rfl (c_GModel_f W (d + 12) A_h23.1 (1) (z7) (0) (by omega) (by omega) (by omega) (by omega) (by omega) (by omega)) (fun rv hp9 q9 => ?_)
                obtain ⟨⟨z26, rfl, l_z26, u_z26, R_z26⟩, e9⟩ := q9
                rw [e9]
                show yG _ _ _ _ _ _ _ _ _ _ (yI z26 :: [yR 2089]) _
                refine yG.num (c := 0) rfl (fun _ _ => rfl) (by decide) ?_
                refine yG.iastF A_h23.1 (v_M_field W H_r25) (show yfT ((z26 : Int).toNat) = (0, (0, 2)) from ((yfT_ix (s := 1) (k := 0) (by omega) (by omega) (by omega) (by decide)).trans rfl)) (W.2.1 _ _ H_r25 (by decide) (by decide)) rfl (by omega) (by omega) ⟨by omega, by omega⟩ (by omega) (by omega) (fun h27 T_h27 b_h27 f_h27 y_h27 => ?_)
                have M_bRg_h27 := M_bRg_h23.fr (bAx.put (Wl := [(5444517870735015415413993718908291383296, 256)]) (bAx.rf A_h23.1) T_h27 b_h27 f_h27 H_r25 (bAll_ok (by decide) _)) (by decide)
                have M_bWf_h27 : bWf G h27 := M_bWf_h23.putx y_h27 (fun j hj h9 hb => by unfold mBp at hb; omega) (fun j hj h9 hb => by unfold mXp at hb; omega)
                have A_h27 := A_h23.put T_h27 b_h27 f_h27 H_r25 (bAll_ok (by decide) _)
                refine yG.iinc rfl (a := a4) rfl (L' := [(4, yI (a4 + 1)), (6, yI (z12)), (5, yI (z7)), (0, yR 2073), (1, yI (0)), (2, yI (p2)), (3, yI (p3))]) rfl ?_
                refine yG.goto rfl (t := 66) rfl ?_
                exact yG.mono (yG.sub (i_66 (a4 + 1)  h27 A_h27 M_bRg_h27 M_bWf_h27   (by omega) (by omega) (by omega) (by omega) (by omega) (by omega) (by omega)) (ySub.cons rfl (ySub.cons rfl (ySub.cons rfl (ySub.cons rfl (ySub.cons rfl (ySub.nil))))))) (by omega)
  refine yC.of (M := (xt_X13_goOn, (7, (0, (14, []))))) rfl rfl (N := 1180) (yfuel (by decide)) ?_
  show yG 89 xfts (xcall 89 xfts xpools xms (d + 13)) (xpool xp_RX13) [] xt_X13_goOn (yP 0 (fun rv hp' => (fun rv hp' => (fun rv hp' => (rv = none ∧ True) ∧ bAx G [(83076749736557242056487941267521536, 10), (83076749736557242056487941267521536, 11), (83076749736557242056487941267521536, 38), (83076749736557242056487941267521536, 40), (83076749736557242056487941267521536, 45), (83076749736557242056487941267521536, 46), (83076749736557242056487941267521536, 47), (83076749736557242056487941267521536, 135), (83076749736557242056487941267521536, 137), (83076749736557242056487941267521536, 142), (24267978344399271152649911251668184500344669796174967902119657472, 256)] hp hp') rv hp' ∧ bWf G hp') rv hp' ∧ bRg G hp')) 1180 0 [(0, yR 2073), (1, yI (0)), (2, yI (p2)), (3, yI (p3))] [] hp
  obtain ⟨i_36, i_66⟩ := H 19
  refine yG.load xik rfl (fun _ _ => rfl) (v := yI (0)) rfl rfl ?_
  refine yG.load xik rfl (fun _ _ => rfl) (v := yI (p3)) rfl rfl ?_
  refine yG.icmp rfl (t := 63) rfl ⟨by omega, by omega⟩ ⟨by omega, by omega⟩ (fun c1 => ?_) (fun c1 => ?_)
  · have c1 : (0 : Int) ≠ p3 := c1
    refine yG.num (c := 0) rfl (fun _ _ => rfl) (by decide) ?_
    refine yG.store1 xik (L' := [(4, yI (0)), (0, yR 2073), (1, yI (0)), (2, yI (p2)), (3, yI (p3))]) rfl (fun _ _ => rfl) rfl rfl ?_
    exact yG.mono (yG.sub (i_66 (0)  hp A_hp M_bRg_hp M_bWf_hp   (by omega) (by omega) (by omega) (by omega) (by omega) (by omega) (by omega)) (ySub.cons rfl (ySub.cons rfl (ySub.cons rfl (ySub.cons rfl (ySub.cons rfl (ySub.nil))))))) (by omega)
  · have c1 : (0 : Int) = p3 := c1
    refine yG.load xak rfl (fun _ _ => rfl) (v := yR 2073) rfl rfl ?_
    refine yG.getO A_hp.1 (w_M_lostBy W H_2073) rfl rfl (fun r2 H_r2 O_r2 q_r2 => ?_)
    obtain rfl := u_M_lostBy W H_r2
    refine yG.load xik rfl (fun _ _ => rfl) (v := yI (p2)) rfl rfl ?_
    refine yG.iald A_hp.1 (v_M_lostBy W H_r2) rfl (by omega) (by omega) (fun z3 e_z3 i_z3 l_z3 u_z3 => ?_)
    refine yG.load xak rfl (fun _ _ => rfl) (v := yR 2073) rfl rfl ?_
    refine yG.getI A_hp.1 (w_M_bestLost W H_2073) rfl rfl (fun z4 e_z4 i_z4 l_z4 u_z4 => ?_)
    refine yG.icmp rfl (t := 62) rfl ⟨by omega, by omega⟩ ⟨by omega, by omega⟩ (fun c5 => ?_) (fun c5 => ?_)
    · have c5 : (z3 : Int) ≥ z4 := c5
      refine yG.ret rfl (fun _ _ => rfl) ?_
      exact (yP.void ⟨⟨⟨⟨rfl, trivial⟩, A_hp⟩, M_bWf_hp⟩, M_bRg_hp⟩)
    · have c5 : (z3 : Int) < z4 := c5
      refine yG.load xak rfl (fun _ _ => rfl) (v := yR 2073) rfl rfl ?_
      refine yG.load xak rfl (fun _ _ => rfl) (v := yR 2073) rfl rfl ?_
      refine yG.getS9 A_hp.1 (w_M_lostBy W H_2073) q_r2 rfl rfl ?_
      refine yG.load xik rfl (fun _ _ => rfl) (v := yI (p2)) rfl rfl ?_
      refine yG.iald A_hp.1 (v_M_lostBy W H_r2) rfl (by omega) (by omega) (fun z6 e_z6 i_z6 l_z6 u_z6 => ?_)
      rw [show (z6 : Int) = z3 by omega]
      refine yG.putI A_hp.1 (w_M_bestLost W H_2073) (W.2.1 _ _ H_2073 (by decide) (by decide)) rfl rfl (.inl rfl) ⟨by omega, by omega⟩ (by omega) (by omega) (fun h7 T_h7 b_h7 f_h7 y_h7 => ?_)
      have M_bRg_h7 := M_bRg_hp.fr (bAx.put (Wl := [(83076749736557242056487941267521536, 142)]) (bAx.rf A_hp.1) T_h7 b_h7 f_h7 H_2073 (by decide)) (by decide)
      have M_bWf_h7 := M_bWf_hp.fr (bAx.put (Wl := [(83076749736557242056487941267521536, 142)]) (bAx.rf A_hp.1) T_h7 b_h7 f_h7 H_2073 (by decide)) (by decide)
      have A_h7 := A_hp.put T_h7 b_h7 f_h7 H_2073 (by decide)
      have qq1 : zsl h7 2073 144 = yR 2170 := ((f_h7 2073 144).trans (if_neg (fun e => absurd e.2 (by decide)))).trans q_r2
      have : ys h7 2170 (p2 : Int).toNat = ys hp 2170 (p2 : Int).toNat := (y_h7 2170 (p2 : Int).toNat).trans (if_neg (fun e => (bRo.ne H_r2 H_2073 (by decide)) e.1))
      refine yG.load xak rfl (fun _ _ => rfl) (v := yR 2073) rfl rfl ?_
      refine yG.load xik rfl (fun _ _ => rfl) (v := yI (0)) rfl rfl ?_
      refine yG.putI A_h7.1 (w_M_restored W H_2073) (W.2.1 _ _ H_2073 (by decide) (by decide)) rfl rfl (.inl rfl) ⟨by omega, by omega⟩ (by omega) (by omega) (fun h8 T_h8 b_h8 f_h8 y_h8 => ?_)
      have M_bRg_h8 := M_bRg_h7.fr (bAx.put (Wl := [(83076749736557242056487941267521536, 137)]) (bAx.rf A_h7.1) T_h8 b_h8 f_h8 H_2073 (by decide)) (by decide)
      have M_bWf_h8 := M_bWf_h7.fr (bAx.put (Wl := [(83076749736557242056487941267521536, 137)]) (bAx.rf A_h7.1) T_h8 b_h8 f_h8 H_2073 (by decide)) (by decide)
      have A_h8 := A_h7.put T_h8 b_h8 f_h8 H_2073 (by decide)
      have qq2 : zsl h8 2073 144 = yR 2170 := ((f_h8 2073 144).trans (if_neg (fun e => absurd e.2 (by decide)))).trans qq1
      have : ys h8 2170 (p2 : Int).toNat = ys h7 2170 (p2 : Int).toNat := (y_h8 2170 (p2 : Int).toNat).trans (if_neg (fun e => (bRo.ne H_r2 H_2073 (by decide)) e.1))
      refine yG.num (c := 0) rfl (fun _ _ => rfl) (by decide) ?_
      refine yG.store1 xik (L' := [(4, yI (0)), (0, yR 2073), (1, yI (0)), (2, yI (p2)), (3, yI (p3))]) rfl (fun _ _ => rfl) rfl rfl ?_
      exact yG.mono (yG.sub (i_36 (0)  h8 A_h8 M_bRg_h8 M_bWf_h8   (by omega) (by omega) (by omega) (by omega) (by omega) (by omega) (by omega)) (ySub.cons rfl (ySub.cons rfl (ySub.cons rfl (ySub.nil))))) (by omega)
theorem c_GModel_restore {hp : xH} (W : mW G) (d : Nat) (hT : zTy G hp) (M_bRg : bRg G hp) (M_bWf : bWf G hp) (M_bRc : bRc G hp) (M_bPr : bPr G hp) (H_2073 : bRo G 116 2073) (p1 : Int) (h1l : (-2147483648) ≤ p1) (h1u : p1 ≤ 2147483647) : yC (xcall 89 xfts xpools xms (d + 15)) 494 [yR 2073, yI (p1)] hp (fun rv hp' => (fun rv hp' => (bQi G [(83076749736557242056487941267521536, 0), (83076749736557242056487941267521536, 10), (83076749736557242056487941267521536, 11), (83076749736557242056487941267521536, 38), (83076749736557242056487941267521536, 40), (83076749736557242056487941267521536, 45), (83076749736557242056487941267521536, 46), (83076749736557242056487941267521536, 47), (83076749736557242056487941267521536, 135), (83076749736557242056487941267521536, 137), (83076749736557242056487941267521536, 140), (83076749736557242056487941267521536, 142), (25913482901720477194804880434225535005327405661808547765468266496, 256)] hp 0 3 (fun z => 0 ≤ p1 - z + 2147483648)) rv hp' ∧ bWf G hp') rv hp' ∧ bRg G hp') := by
  have A_hp : bAx G [(83076749736557242056487941267521536, 0), (83076749736557242056487941267521536, 10), (83076749736557242056487941267521536, 11), (83076749736557242056487941267521536, 38), (83076749736557242056487941267521536, 40), (83076749736557242056487941267521536, 45), (83076749736557242056487941267521536, 46), (83076749736557242056487941267521536, 47), (83076749736557242056487941267521536, 135), (83076749736557242056487941267521536, 137), (83076749736557242056487941267521536, 140), (83076749736557242056487941267521536, 142), (25913482901720477194804880434225535005327405661808547765468266496, 256)] hp hp := bAx.rf hT
  have M_bRg_hp := M_bRg
  have M_bWf_hp := M_bWf
  have H : ∀ m : Nat, (∀ a2 : Int, ∀ hq, bAx G [(83076749736557242056487941267521536, 0), (83076749736557242056487941267521536, 10), (83076749736557242056487941267521536, 11), (83076749736557242056487941267521536, 38), (83076749736557242056487941267521536, 40), (83076749736557242056487941267521536, 45), (83076749736557242056487941267521536, 46), (83076749736557242056487941267521536, 47), (83076749736557242056487941267521536, 135), (83076749736557242056487941267521536, 137), (83076749736557242056487941267521536, 140), (83076749736557242056487941267521536, 142), (25913482901720477194804880434225535005327405661808547765468266496, 256)] hp hq → bRg G hq → bWf G hq → 0 ≤ a2 → (-24) ≤ 0 - a2 → 1 ≤ p1 → (-3) ≤ 0 - p1 → 0 - 2828 * a2 + 70699 < (m : Int) → yG 89 xfts (xcall 89 xfts xpools xms (d + 14)) (xpool xp_RX13) [] xt_X13_restore (yP 1 (fun rv hp' => (fun rv hp' => (bQi G [(83076749736557242056487941267521536, 0), (83076749736557242056487941267521536, 10), (83076749736557242056487941267521536, 11), (83076749736557242056487941267521536, 38), (83076749736557242056487941267521536, 40), (83076749736557242056487941267521536, 45), (83076749736557242056487941267521536, 46), (83076749736557242056487941267521536, 47), (83076749736557242056487941267521536, 135), (83076749736557242056487941267521536, 137), (83076749736557242056487941267521536, 140), (83076749736557242056487941267521536, 142), (25913482901720477194804880434225535005327405661808547765468266496, 256)] hp 0 3 (fun z => 0 ≤ p1 - z + 2147483648)) rv hp' ∧ bWf G hp') rv hp' ∧ bRg G hp')) (38 * m) 37 [(0, yR 2073), (1, yI (p1)), (2, yI (a2))] [] hq) ∧ (∀ a2 : Int, ∀ hq, bAx G [(83076749736557242056487941267521536, 0), (83076749736557242056487941267521536, 10), (83076749736557242056487941267521536, 11), (83076749736557242056487941267521536, 38), (83076749736557242056487941267521536, 40), (83076749736557242056487941267521536, 45), (83076749736557242056487941267521536, 46), (83076749736557242056487941267521536, 47), (83076749736557242056487941267521536, 135), (83076749736557242056487941267521536, 137), (83076749736557242056487941267521536, 140), (83076749736557242056487941267521536, 142), (25913482901720477194804880434225535005327405661808547765468266496, 256)] hp hq → bRg G hq → bWf G hq → 0 ≤ a2 → (-256) ≤ 0 - a2 → 1 ≤ p1 → (-3) ≤ 0 - p1 → 0 - 11 * a2 + 2826 < (m : Int) → yG 89 xfts (xcall 89 xfts xpools xms (d + 14)) (xpool xp_RX13) [] xt_X13_restore (yP 1 (fun rv hp' => (fun rv hp' => (bQi G [(83076749736557242056487941267521536, 0), (83076749736557242056487941267521536, 10), (83076749736557242056487941267521536, 11), (83076749736557242056487941267521536, 38), (83076749736557242056487941267521536, 40), (83076749736557242056487941267521536, 45), (83076749736557242056487941267521536, 46), (83076749736557242056487941267521536, 47), (83076749736557242056487941267521536, 135), (83076749736557242056487941267521536, 137), (83076749736557242056487941267521536, 140), (83076749736557242056487941267521536, 142), (25913482901720477194804880434225535005327405661808547765468266496, 256)] hp 0 3 (fun z => 0 ≤ p1 - z + 2147483648)) rv hp' ∧ bWf G hp') rv hp' ∧ bRg G hp')) (38 * m) 104 [(0, yR 2073), (1, yI (p1)), (2, yI (a2))] [] hq) ∧ (∀ a2 : Int, ∀ hq, bAx G [(83076749736557242056487941267521536, 0), (83076749736557242056487941267521536, 10), (83076749736557242056487941267521536, 11), (83076749736557242056487941267521536, 38), (83076749736557242056487941267521536, 40), (83076749736557242056487941267521536, 45), (83076749736557242056487941267521536, 46), (83076749736557242056487941267521536, 47), (83076749736557242056487941267521536, 135), (83076749736557242056487941267521536, 137), (83076749736557242056487941267521536, 140), (83076749736557242056487941267521536, 142), (25913482901720477194804880434225535005327405661808547765468266496, 256)] hp hq → bRg G hq → bWf G hq → 0 ≤ a2 → (-4) ≤ 0 - a2 → 1 ≤ p1 → (-3) ≤ 0 - p1 → (-1) ≤ 0 - a2 + p1 → 0 - 2 * a2 + 9 < (m : Int) → yG 89 xfts (xcall 89 xfts xpools xms (d + 14)) (xpool xp_RX13) [] xt_X13_restore (yP 1 (fun rv hp' => (fun rv hp' => (bQi G [(83076749736557242056487941267521536, 0), (83076749736557242056487941267521536, 10), (83076749736557242056487941267521536, 11), (83076749736557242056487941267521536, 38), (83076749736557242056487941267521536, 40), (83076749736557242056487941267521536, 45), (83076749736557242056487941267521536, 46), (83076749736557242056487941267521536, 47), (83076749736557242056487941267521536, 135), (83076749736557242056487941267521536, 137), (83076749736557242056487941267521536, 140), (83076749736557242056487941267521536, 142), (25913482901720477194804880434225535005327405661808547765468266496, 256)] hp 0 3 (fun z => 0 ≤ p1 - z + 2147483648)) rv hp' ∧ bWf G hp') rv hp' ∧ bRg G hp')) (38 * m) 143 [(0, yR 2073), (1, yI (p1)), (2, yI (a2))] [] hq) := by
    intro m
    induction m with
    | zero =>
      refine ⟨?_, ?_, ?_⟩ <;> (intros; exfalso; omega)
    | succ m ih =>
      obtain ⟨i_37, i_104, i_143⟩ := ih
      refine ⟨?_, ?_, ?_⟩
      · intro a2 hq A_hq M_bRg_hq M_bWf_hq f0 f1 f2 f3 hm
        refine yG.mono (N := 38 * m + 38) ?_ (by omega)
        refine yG.load xik rfl (fun _ _ => rfl) (v := yI (a2)) rfl rfl ?_
        refine yG.load xak rfl (fun _ _ => rfl) (v := yR 2073) rfl rfl ?_
        refine yG.getO A_hq.1 (w_M_count W H_2073) rfl rfl (fun r1 H_r1 O_r1 q_r1 => ?_)
        obtain rfl := u_M_count W H_r1
        refine yG.num (c := 1) rfl (fun _ _ => rfl) (by decide) ?_
        refine yG.ialdF A_hq.1 (v_M_count W H_r1) rfl rfl (by omega) (by omega) (fun z2 e_z2 i_z2 l_z2 u_z2 => ?_)
        refine yG.icmp rfl (t := 102) rfl ⟨by omega, by omega⟩ ⟨by omega, by omega⟩ (fun c3 => ?_) (fun c3 => ?_)
        · have c3 : (a2 : Int) ≥ z2 := c3
          refine yG.num (c := 0) rfl (fun _ _ => rfl) (by decide) ?_
          refine yG.store1 xik (L' := [(2, yI (0)), (0, yR 2073), (1, yI (p1))]) rfl (fun _ _ => rfl) rfl rfl ?_
          exact yG.mono (yG.sub (i_104 (0)  hq A_hq M_bRg_hq M_bWf_hq   (by omega) (by omega) (by omega) (by omega) (by omega)) (ySub.cons rfl (ySub.cons rfl (ySub.cons rfl (ySub.nil))))) (by omega)
        · have c3 : (a2 : Int) < z2 := c3
          refine yG.load xak rfl (fun _ _ => rfl) (v := yR 2073) rfl rfl ?_
          refine yG.getI A_hq.1 (w_M_openCount W H_2073) rfl rfl (fun z4 e_z4 i_z4 l_z4 u_z4 => ?_)
          refine yG.num (c := 8) rfl (fun _ _ => rfl) (by decide) ?_
          refine yG.icmp rfl (t := 102) rfl ⟨by omega, by omega⟩ ⟨by omega, by omega⟩ (fun c5 => ?_) (fun c5 => ?_)
          · have c5 : (z4 : Int) ≥ 8 := c5
            refine yG.num (c := 0) rfl (fun _ _ => rfl) (by decide) ?_
            refine yG.store1 xik (L' := [(2, yI (0)), (0, yR 2073), (1, yI (p1))]) rfl (fun _ _ => rfl) rfl rfl ?_
            exact yG.mono (yG.sub (i_104 (0)  hq A_hq M_bRg_hq M_bWf_hq   (by omega) (by omega) (by omega) (by omega) (by omega)) (ySub.cons rfl (ySub.cons rfl (ySub.cons rfl (ySub.nil))))) (by omega)
          · have c5 : (z4 : Int) < 8 := c5
            refine yG.load xak rfl (fun _ _ => rfl) (v := yR 2073) rfl rfl ?_
            refine yG.num (c := 1) rfl (fun _ _ => rfl) (by decide) ?_
            refine yG.load xik rfl (fun _ _ => rfl) (v := yI (a2)) rfl rfl ?_
            refine yG.num (c := 0) rfl (fun _ _ => rfl) (by decide) ?_
            refine yG.invV (rest := []) A_hq.1 (bOb (d_M W) H_2073) rfl rfl rfl rfl (c_GModel_of_1_0 W (d + 12) A_hq.1 H_2073 (a2) (by omega) (by omega)) (fun rv hp9 q9 => ?_)
            obtain ⟨⟨z6, rfl, l_z6, u_z6, R_z6⟩, e9⟩ := q9
            rw [e9]
            show yG _ _ _ _ _ _ _ _ _ _ (yI z6 :: []) _
            refine yG.ifz rfl (t := 96) rfl ⟨by omega, by omega⟩ (fun c7 => ?_) (fun c7 => ?_)
            · have c7 : (z6 : Int) ≠ 0 := c7
              refine yG.iinc rfl (a := a2) rfl (L' := [(2, yI (a2 + 1)), (0, yR 2073), (1, yI (p1))]) rfl ?_
              refine yG.goto rfl (t := 37) rfl ?_
              exact yG.mono (yG.sub (i_37 (a2 + 1)  hq A_hq M_bRg_hq M_bWf_hq   (by omega) (by omega) (by omega) (by omega) (by omega)) (ySub.cons rfl (ySub.cons rfl (ySub.cons rfl (ySub.nil))))) (by omega)
            · have c7 : (z6 : Int) = 0 := c7
              refine yG.load xak rfl (fun _ _ => rfl) (v := yR 2073) rfl rfl ?_
              refine yG.num (c := 1) rfl (fun _ _ => rfl) (by decide) ?_
              refine yG.load xik rfl (fun _ _ => rfl) (v := yI (a2)) rfl rfl ?_
              refine yG.num (c := 2) rfl (fun _ _ => rfl) (by decide) ?_
              refine yG.invV (rest := []) A_hq.1 (bOb (d_M W) H_2073) rfl rfl rfl rfl (c_GModel_of_1_2 W (d + 12) A_hq.1 H_2073 (a2) (by omega) (by omega)) (fun rv hp9 q9 => ?_)
              obtain ⟨⟨z8, rfl, l_z8, u_z8, R_z8⟩, e9⟩ := q9
              rw [e9]
              show yG _ _ _ _ _ _ _ _ _ _ (yI z8 :: []) _
              refine yG.ifz rfl (t := 96) rfl ⟨by omega, by omega⟩ (fun c9 => ?_) (fun c9 => ?_)
              · have c9 : (z8 : Int) ≠ 0 := c9
                refine yG.iinc rfl (a := a2) rfl (L' := [(2, yI (a2 + 1)), (0, yR 2073), (1, yI (p1))]) rfl ?_
                refine yG.goto rfl (t := 37) rfl ?_
                exact yG.mono (yG.sub (i_37 (a2 + 1)  hq A_hq M_bRg_hq M_bWf_hq   (by omega) (by omega) (by omega) (by omega) (by omega)) (ySub.cons rfl (ySub.cons rfl (ySub.cons rfl (ySub.nil))))) (by omega)
              · have c9 : (z8 : Int) = 0 := c9
                refine yG.load xak rfl (fun _ _ => rfl) (v := yR 2073) rfl rfl ?_
                refine yG.getO A_hq.1 (w_M_openSwitch W H_2073) rfl rfl (fun r10 H_r10 O_r10 q_r10 => ?_)
                obtain rfl := u_M_openSwitch W H_r10
                refine yG.load xak rfl (fun _ _ => rfl) (v := yR 2073) rfl rfl ?_
                refine yG.getI A_hq.1 (w_M_openCount W H_2073) rfl rfl (fun z11 e_z11 i_z11 l_z11 u_z11 => ?_)
                rw [show (z11 : Int) = z4 by omega]
                refine yG.load xik rfl (fun _ _ => rfl) (v := yI (a2)) rfl rfl ?_
                refine yG.iast A_hq.1 (v_M_openSwitch W H_r10) (W.2.1 _ _ H_r10 (by decide) (by decide)) rfl (by omega) (by omega) ⟨by omega, by omega⟩ (by omega) (by omega) (fun h12 T_h12 b_h12 f_h12 y_h12 => ?_)
                have M_bRg_h12 := M_bRg_hq.fr (bAx.put (Wl := [(1645504557321206042154969182557350504982735865633579863348609024, 256)]) (bAx.rf A_hq.1) T_h12 b_h12 f_h12 H_r10 (bAll_ok (by decide) _)) (by decide)
                have M_bWf_h12 := M_bWf_hq.fr (bAx.put (Wl := [(1645504557321206042154969182557350504982735865633579863348609024, 256)]) (bAx.rf A_hq.1) T_h12 b_h12 f_h12 H_r10 (bAll_ok (by decide) _)) (by decide)
                have A_h12 := A_hq.put T_h12 b_h12 f_h12 H_r10 (bAll_ok (by decide) _)
                have : ys h12 2073 140 = ys hq 2073 140 := (y_h12 2073 140).trans (if_neg (fun e => (bRo.ne H_2073 H_r10 (by decide)) e.1))
                refine yG.load xak rfl (fun _ _ => rfl) (v := yR 2073) rfl rfl ?_
                refine yG.step (pc' := 88) (stk' := [yR 2073, yR 2073]) rfl (fun _ _ => rfl) ?_
                refine yG.getI A_h12.1 (w_M_openCount W H_2073) rfl rfl (fun z13 e_z13 i_z13 l_z13 u_z13 => ?_)
                rw [show (z13 : Int) = z4 by omega]
                refine yG.num (c := 1) rfl (fun _ _ => rfl) (by decide) ?_
                refine yG.iadd rfl ?_
                refine yG.putI A_h12.1 (w_M_openCount W H_2073) (W.2.1 _ _ H_2073 (by decide) (by decide)) rfl rfl (.inl rfl) ⟨by omega, by omega⟩ (by omega) (by omega) (fun h14 T_h14 b_h14 f_h14 y_h14 => ?_)
                have M_bRg_h14 := M_bRg_h12.fr (bAx.put (Wl := [(83076749736557242056487941267521536, 140)]) (bAx.rf A_h12.1) T_h14 b_h14 f_h14 H_2073 (by decide)) (by decide)
                have M_bWf_h14 := M_bWf_h12.fr (bAx.put (Wl := [(83076749736557242056487941267521536, 140)]) (bAx.rf A_h12.1) T_h14 b_h14 f_h14 H_2073 (by decide)) (by decide)
                have A_h14 := A_h12.put T_h14 b_h14 f_h14 H_2073 (by decide)
                have : ys h14 2073 140 = z4 + 1 := (y_h14 2073 140).trans (if_pos ⟨rfl, rfl⟩)
                refine yG.iinc rfl (a := a2) rfl (L' := [(2, yI (a2 + 1)), (0, yR 2073), (1, yI (p1))]) rfl ?_
                refine yG.goto rfl (t := 37) rfl ?_
                exact yG.mono (yG.sub (i_37 (a2 + 1)  h14 A_h14 M_bRg_h14 M_bWf_h14   (by omega) (by omega) (by omega) (by omega) (by omega)) (ySub.cons rfl (ySub.cons rfl (ySub.cons rfl (ySub.nil))))) (by omega)
      · intro a2 hq A_hq M_bRg_hq M_bWf_hq f0 f1 f2 f3 hm
        refine yG.mono (N := 38 * m + 38) ?_ (by omega)
        refine yG.load xik rfl (fun _ _ => rfl) (v := yI (a2)) rfl rfl ?_
        refine yG.num (c := 256) rfl (fun _ _ => rfl) (by decide) ?_
        refine yG.icmp rfl (t := 124) rfl ⟨by omega, by omega⟩ ⟨by omega, by omega⟩ (fun c1 => ?_) (fun c1 => ?_)
        · have c1 : (a2 : Int) ≥ 256 := c1
          refine yG.load xak rfl (fun _ _ => rfl) (v := yR 2073) rfl rfl ?_
          refine yG.num (c := 2147483647) rfl (fun _ _ => rfl) (by decide) ?_
          refine yG.putI A_hq.1 (w_M_bestLost W H_2073) (W.2.1 _ _ H_2073 (by decide) (by decide)) rfl rfl (.inl rfl) ⟨by omega, by omega⟩ (by omega) (by omega) (fun h2 T_h2 b_h2 f_h2 y_h2 => ?_)
          have M_bRg_h2 := M_bRg_hq.fr (bAx.put (Wl := [(83076749736557242056487941267521536, 142)]) (bAx.rf A_hq.1) T_h2 b_h2 f_h2 H_2073 (by decide)) (by decide)
          have M_bWf_h2 := M_bWf_hq.fr (bAx.put (Wl := [(83076749736557242056487941267521536, 142)]) (bAx.rf A_hq.1) T_h2 b_h2 f_h2 H_2073 (by decide)) (by decide)
          have A_h2 := A_hq.put T_h2 b_h2 f_h2 H_2073 (by decide)
          refine yG.load xak rfl (fun _ _ => rfl) (v := yR 2073) rfl rfl ?_
          refine yG.num (c := 0) rfl (fun _ _ => rfl) (by decide) ?_
          refine yG.putI A_h2.1 (w_M_restored W H_2073) (W.2.1 _ _ H_2073 (by decide) (by decide)) rfl rfl (.inl rfl) ⟨by omega, by omega⟩ (by omega) (by omega) (fun h3 T_h3 b_h3 f_h3 y_h3 => ?_)
          have M_bRg_h3 := M_bRg_h2.fr (bAx.put (Wl := [(83076749736557242056487941267521536, 137)]) (bAx.rf A_h2.1) T_h3 b_h3 f_h3 H_2073 (by decide)) (by decide)
          have M_bWf_h3 := M_bWf_h2.fr (bAx.put (Wl := [(83076749736557242056487941267521536, 137)]) (bAx.rf A_h2.1) T_h3 b_h3 f_h3 H_2073 (by decide)) (by decide)
          have A_h3 := A_h2.put T_h3 b_h3 f_h3 H_2073 (by decide)
          refine yG.load xak rfl (fun _ _ => rfl) (v := yR 2073) rfl rfl ?_
          refine yG.num (c := 0) rfl (fun _ _ => rfl) (by decide) ?_
          refine yG.invV (rest := []) A_h3.1 (bOb (d_M W) H_2073) rfl rfl rfl rfl (c_GModel_wellBy W (d + 6) A_h3.1 M_bRg_h3 M_bWf_h3 (M_bPr.fr A_h3 (by decide)) H_2073 (0) (by omega) (by omega)) (fun rv h4 q9 => ?_)
          obtain ⟨q9, M_bRg_h4⟩ := q9
          obtain ⟨⟨rfl, R_z5⟩, B_h4⟩ := q9
          have A_h4 := A_h3.tr B_h4 (by decide)
          have M_bWf_h4 := M_bWf_h3.fr B_h4 (by decide)
          show yG _ _ _ _ _ _ _ _ _ _ [] _
          refine yG.num (c := 0) rfl (fun _ _ => rfl) (by decide) ?_
          refine yG.store1 xik (L' := [(2, yI (0)), (0, yR 2073), (1, yI (p1))]) rfl (fun _ _ => rfl) rfl rfl ?_
          exact yG.mono (yG.sub (i_143 (0)  h4 A_h4 M_bRg_h4 M_bWf_h4   (by omega) (by omega) (by omega) (by omega) (by omega) (by omega)) (ySub.cons rfl (ySub.cons rfl (ySub.cons rfl (ySub.nil))))) (by omega)
        · have c1 : (a2 : Int) < 256 := c1
          refine yG.load xak rfl (fun _ _ => rfl) (v := yR 2073) rfl rfl ?_
          refine yG.getO A_hq.1 (w_M_isWell W H_2073) rfl rfl (fun r6 H_r6 O_r6 q_r6 => ?_)
          obtain rfl := u_M_isWell W H_r6
          refine yG.load xik rfl (fun _ _ => rfl) (v := yI (a2)) rfl rfl ?_
          refine yG.num (c := 0) rfl (fun _ _ => rfl) (by decide) ?_
          refine yG.iast A_hq.1 (v_M_isWell W H_r6) (W.2.1 _ _ H_r6 (by decide) (by decide)) rfl (by omega) (by omega) ⟨by omega, by omega⟩ (by omega) (by omega) (fun h7 T_h7 b_h7 f_h7 y_h7 => ?_)
          have M_bRg_h7 := M_bRg_hq.fr (bAx.put (Wl := [(6582018229284824168619876730229402019930943462534319453394436096, 256)]) (bAx.rf A_hq.1) T_h7 b_h7 f_h7 H_r6 (bAll_ok (by decide) _)) (by decide)
          have M_bWf_h7 := M_bWf_hq.fr (bAx.put (Wl := [(6582018229284824168619876730229402019930943462534319453394436096, 256)]) (bAx.rf A_hq.1) T_h7 b_h7 f_h7 H_r6 (bAll_ok (by decide) _)) (by decide)
          have A_h7 := A_hq.put T_h7 b_h7 f_h7 H_r6 (bAll_ok (by decide) _)
          refine yG.iinc rfl (a := a2) rfl (L' := [(2, yI (a2 + 1)), (0, yR 2073), (1, yI (p1))]) rfl ?_
          refine yG.goto rfl (t := 104) rfl ?_
          exact yG.mono (yG.sub (i_104 (a2 + 1)  h7 A_h7 M_bRg_h7 M_bWf_h7   (by omega) (by omega) (by omega) (by omega) (by omega)) (ySub.cons rfl (ySub.cons rfl (ySub.cons rfl (ySub.nil))))) (by omega)
      · intro a2 hq A_hq M_bRg_hq M_bWf_hq f0 f1 f2 f3 f4 hm
        refine yG.mono (N := 38 * m + 38) ?_ (by omega)
        refine yG.load xik rfl (fun _ _ => rfl) (v := yI (a2)) rfl rfl ?_
        refine yG.load xik rfl (fun _ _ => rfl) (v := yI (p1)) rfl rfl ?_
        refine yG.icmp rfl (t := 161) rfl ⟨by omega, by omega⟩ ⟨by omega, by omega⟩ (fun c1 => ?_) (fun c1 => ?_)
        · have c1 : (a2 : Int) > p1 := c1
          refine yG.load xak rfl (fun _ _ => rfl) (v := yR 2073) rfl rfl ?_
          refine yG.num (c := 0) rfl (fun _ _ => rfl) (by decide) ?_
          refine yG.putI A_hq.1 (w_M_hasFlows W H_2073) (W.2.1 _ _ H_2073 (by decide) (by decide)) rfl rfl (.inr ⟨rfl, rfl, rfl⟩) ⟨by omega, by omega⟩ (by omega) (by omega) (fun h2 T_h2 b_h2 f_h2 y_h2 => ?_)
          have M_bRg_h2 := M_bRg_hq.fr (bAx.put (Wl := [(83076749736557242056487941267521536, 40)]) (bAx.rf A_hq.1) T_h2 b_h2 f_h2 H_2073 (by decide)) (by decide)
          have M_bWf_h2 := M_bWf_hq.fr (bAx.put (Wl := [(83076749736557242056487941267521536, 40)]) (bAx.rf A_hq.1) T_h2 b_h2 f_h2 H_2073 (by decide)) (by decide)
          have A_h2 := A_hq.put T_h2 b_h2 f_h2 H_2073 (by decide)
          refine yG.load xak rfl (fun _ _ => rfl) (v := yR 2073) rfl rfl ?_
          refine yG.getI A_h2.1 (w_M_restored W H_2073) rfl rfl (fun z3 e_z3 i_z3 l_z3 u_z3 => ?_)
          refine yG.ret rfl (fun _ _ => rfl) ?_
          exact (yP.int ⟨by omega, by omega⟩ ⟨⟨⟨⟨z3, rfl, by omega, by omega, by omega⟩, A_h2⟩, M_bWf_h2⟩, M_bRg_h2⟩)
        · have c1 : (a2 : Int) ≤ p1 := c1
          refine yG.load xak rfl (fun _ _ => rfl) (v := yR 2073) rfl rfl ?_
          refine yG.num (c := 0) rfl (fun _ _ => rfl) (by decide) ?_
          refine yG.num (c := 0) rfl (fun _ _ => rfl) (by decide) ?_
          refine yG.load xik rfl (fun _ _ => rfl) (v := yI (a2)) rfl rfl ?_
          refine yG.invV (rest := []) A_hq.1 (bOb (d_M W) H_2073) rfl rfl rfl rfl (c_GModel_goOn_0 W d A_hq.1 M_bRg_hq M_bWf_hq (M_bRc.fr A_hq (by decide)) (M_bPr.fr A_hq (by decide)) H_2073 (0) (a2) (by omega) (by omega) (by omega) (by omega)) (fun rv h4 q9 => ?_)
          obtain ⟨q9, M_bRg_h4⟩ := q9
          obtain ⟨q9, M_bWf_h4⟩ := q9
          obtain ⟨⟨rfl, R_z5⟩, B_h4⟩ := q9
          have A_h4 := A_hq.tr B_h4 (by decide)
          show yG _ _ _ _ _ _ _ _ _ _ [] _
          refine yG.iinc rfl (a := a2) rfl (L' := [(2, yI (a2 + 1)), (0, yR 2073), (1, yI (p1))]) rfl ?_
          refine yG.goto rfl (t := 143) rfl ?_
          exact yG.mono (yG.sub (i_143 (a2 + 1)  h4 A_h4 M_bRg_h4 M_bWf_h4   (by omega) (by omega) (by omega) (by omega) (by omega) (by omega)) (ySub.cons rfl (ySub.cons rfl (ySub.cons rfl (ySub.nil))))) (by omega)
  refine yC.of (M := (xt_X13_restore, (3, (1, (14, []))))) rfl rfl (N := 2686676) (yfuel (by decide)) ?_
  show yG 89 xfts (xcall 89 xfts xpools xms (d + 14)) (xpool xp_RX13) [] xt_X13_restore (yP 1 (fun rv hp' => (fun rv hp' => (bQi G [(83076749736557242056487941267521536, 0), (83076749736557242056487941267521536, 10), (83076749736557242056487941267521536, 11), (83076749736557242056487941267521536, 38), (83076749736557242056487941267521536, 40), (83076749736557242056487941267521536, 45), (83076749736557242056487941267521536, 46), (83076749736557242056487941267521536, 47), (83076749736557242056487941267521536, 135), (83076749736557242056487941267521536, 137), (83076749736557242056487941267521536, 140), (83076749736557242056487941267521536, 142), (25913482901720477194804880434225535005327405661808547765468266496, 256)] hp 0 3 (fun z => 0 ≤ p1 - z + 2147483648)) rv hp' ∧ bWf G hp') rv hp' ∧ bRg G hp')) 2686676 0 [(0, yR 2073), (1, yI (p1))] [] hp
  obtain ⟨i_37, i_104, i_143⟩ := H 70701
  refine yG.load xak rfl (fun _ _ => rfl) (v := yR 2073) rfl rfl ?_
  refine yG.load xik rfl (fun _ _ => rfl) (v := yI (p1)) rfl rfl ?_
  refine yG.i2l rfl ⟨by omega, by omega⟩ ?_
  refine yG.numl (c := 1) rfl (fun _ _ => rfl) (by decide) ?_
  refine yG.numl (c := 3) rfl (fun _ _ => rfl) (by decide) ?_
  refine yG.invS (rest := [yR 2073]) rfl rfl rfl rfl (c_GModel_in W (d + 13) A_hp.1 (p1) (1) (3) (by omega) (by omega) (by omega) (by omega) (by omega) (by omega)) (fun rv hp9 q9 => ?_)
  obtain ⟨⟨z1, rfl, l_z1, u_z1, R_z1⟩, e9⟩ := q9
  rw [e9]
  show yG _ _ _ _ _ _ _ _ _ _ (yI z1 :: [yR 2073]) _
  refine yG.ifz rfl (t := 17) rfl ⟨by omega, by omega⟩ (fun c2 => ?_) (fun c2 => ?_)
  · have c2 : (z1 : Int) = 0 := c2
    clear R_z1
    refine yG.num (c := 1) rfl (fun _ _ => rfl) (by decide) ?_
    refine yG.putI A_hp.1 (w_M_thrown W H_2073) (W.2.1 _ _ H_2073 (by decide) (by decide)) rfl rfl (.inl rfl) ⟨by omega, by omega⟩ (by omega) (by omega) (fun h3 T_h3 b_h3 f_h3 y_h3 => ?_)
    have M_bRg_h3 := M_bRg_hp.fr (bAx.put (Wl := [(83076749736557242056487941267521536, 0)]) (bAx.rf A_hp.1) T_h3 b_h3 f_h3 H_2073 (by decide)) (by decide)
    have M_bWf_h3 := M_bWf_hp.fr (bAx.put (Wl := [(83076749736557242056487941267521536, 0)]) (bAx.rf A_hp.1) T_h3 b_h3 f_h3 H_2073 (by decide)) (by decide)
    have A_h3 := A_hp.put T_h3 b_h3 f_h3 H_2073 (by decide)
    have : ys h3 2073 0 = 1 := (y_h3 2073 0).trans (if_pos ⟨rfl, rfl⟩)
    refine yG.load xak rfl (fun _ _ => rfl) (v := yR 2073) rfl rfl ?_
    refine yG.getI A_h3.1 (w_M_thrown W H_2073) rfl rfl (fun z4 e_z4 i_z4 l_z4 u_z4 => ?_)
    refine yG.ifz rfl (t := 30) rfl ⟨by omega, by omega⟩ (fun c5 => ?_) (fun c5 => ?_)
    · have c5 : (z4 : Int) ≤ 0 := c5
      exfalso; omega
    · have c5 : (z4 : Int) > 0 := c5
      refine yG.num (c := 0) rfl (fun _ _ => rfl) (by decide) ?_
      refine yG.ret rfl (fun _ _ => rfl) ?_
      exact (yP.int ⟨by omega, by omega⟩ ⟨⟨⟨⟨0, rfl, by omega, by omega, by omega⟩, A_h3⟩, M_bWf_h3⟩, M_bRg_h3⟩)
  · have c2 : (z1 : Int) ≠ 0 := c2
    replace R_z1 := R_z1 (by omega)
    refine yG.num (c := 0) rfl (fun _ _ => rfl) (by decide) ?_
    refine yG.goto rfl (t := 18) rfl ?_
    refine yG.putI A_hp.1 (w_M_thrown W H_2073) (W.2.1 _ _ H_2073 (by decide) (by decide)) rfl rfl (.inl rfl) ⟨by omega, by omega⟩ (by omega) (by omega) (fun h6 T_h6 b_h6 f_h6 y_h6 => ?_)
    have M_bRg_h6 := M_bRg_hp.fr (bAx.put (Wl := [(83076749736557242056487941267521536, 0)]) (bAx.rf A_hp.1) T_h6 b_h6 f_h6 H_2073 (by decide)) (by decide)
    have M_bWf_h6 := M_bWf_hp.fr (bAx.put (Wl := [(83076749736557242056487941267521536, 0)]) (bAx.rf A_hp.1) T_h6 b_h6 f_h6 H_2073 (by decide)) (by decide)
    have A_h6 := A_hp.put T_h6 b_h6 f_h6 H_2073 (by decide)
    have : ys h6 2073 0 = 0 := (y_h6 2073 0).trans (if_pos ⟨rfl, rfl⟩)
    refine yG.load xak rfl (fun _ _ => rfl) (v := yR 2073) rfl rfl ?_
    refine yG.getI A_h6.1 (w_M_thrown W H_2073) rfl rfl (fun z7 e_z7 i_z7 l_z7 u_z7 => ?_)
    refine yG.ifz rfl (t := 30) rfl ⟨by omega, by omega⟩ (fun c8 => ?_) (fun c8 => ?_)
    · have c8 : (z7 : Int) ≤ 0 := c8
      refine yG.load xak rfl (fun _ _ => rfl) (v := yR 2073) rfl rfl ?_
      refine yG.num (c := 0) rfl (fun _ _ => rfl) (by decide) ?_
      refine yG.putI A_h6.1 (w_M_openCount W H_2073) (W.2.1 _ _ H_2073 (by decide) (by decide)) rfl rfl (.inl rfl) ⟨by omega, by omega⟩ (by omega) (by omega) (fun h9 T_h9 b_h9 f_h9 y_h9 => ?_)
      have M_bRg_h9 := M_bRg_h6.fr (bAx.put (Wl := [(83076749736557242056487941267521536, 140)]) (bAx.rf A_h6.1) T_h9 b_h9 f_h9 H_2073 (by decide)) (by decide)
      have M_bWf_h9 := M_bWf_h6.fr (bAx.put (Wl := [(83076749736557242056487941267521536, 140)]) (bAx.rf A_h6.1) T_h9 b_h9 f_h9 H_2073 (by decide)) (by decide)
      have A_h9 := A_h6.put T_h9 b_h9 f_h9 H_2073 (by decide)
      have : ys h9 2073 0 = ys h6 2073 0 := (y_h9 2073 0).trans (if_neg (fun e => absurd e.2 (by decide)))
      refine yG.num (c := 0) rfl (fun _ _ => rfl) (by decide) ?_
      refine yG.store1 xik (L' := [(2, yI (0)), (0, yR 2073), (1, yI (p1))]) rfl (fun _ _ => rfl) rfl rfl ?_
      exact yG.mono (yG.sub (i_37 (0)  h9 A_h9 M_bRg_h9 M_bWf_h9   (by omega) (by omega) (by omega) (by omega) (by omega)) (ySub.cons rfl (ySub.cons rfl (ySub.cons rfl (ySub.nil))))) (by omega)
    · have c8 : (z7 : Int) > 0 := c8
      exfalso; omega
end MRulesAsked
