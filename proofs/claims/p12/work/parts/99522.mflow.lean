/-! ===== the reference: an island's flows ===== -/
section MFlowsOf
variable {G : zW}
theorem c_GModel_listNodes_s {hp : xH} (W : mW G) (d : Nat) (hT : zTy G hp) (H_2073 : bRo G 116 2073) (p1 : Int) (h1l : (-1) ≤ p1) (h1u : p1 ≤ 15) : yC (xcall 89 xfts xpools xms (d + 1)) 445 [yR 2073, yI (p1)] hp (fun rv hp' => (rv = none ∧ gLs hp' p1 (ys hp' 2073 38 - 1 : Int).toNat ∧ (0 ≤ p1 → p1 < ys hp 2088 0 → gIl hp (p1 : Int).toNat = p1 → gNd hp (p1 : Int).toNat = p1 → 1 ≤ ys hp' 2073 38)) ∧ bAx G [(83076749736557242056487941267521536, 38), (267608942382367477698428619271780338071764992, 256)] hp hp') := by
  have A_hp : bAx G [(83076749736557242056487941267521536, 38), (267608942382367477698428619271780338071764992, 256)] hp hp := bAx.rf hT
  have H : ∀ m : Nat, (∀ a2 : Int, ∀ gg0 : Int, ∀ gg1 : Int, ∀ hq, bAx G [(83076749736557242056487941267521536, 38), (267608942382367477698428619271780338071764992, 256)] hp hq → ys hq 2073 38 = gg0 → ys hq 2088 (0 : Int).toNat = gg1 → 0 ≤ a2 → (-16) ≤ 0 - a2 → 0 ≤ gg0 → (-16) ≤ 0 - gg0 → 0 ≤ gg1 → (-16) ≤ 0 - gg1 → (-1) ≤ p1 → (-15) ≤ 0 - p1 → 0 ≤ a2 - gg0 → 0 ≤ 0 - a2 + gg1 → (-16) ≤ 0 - gg0 + p1 → gLq hp hq p1 a2 (ys hq 2073 38) → 0 - 2 * a2 + 33 < (m : Int) → yG 89 xfts (xcall 89 xfts xpools xms d) (xpool xp_RX13) [] xt_X13_listNodes (yP 0 (fun rv hp' => (rv = none ∧ gLs hp' p1 (ys hp' 2073 38 - 1 : Int).toNat ∧ (0 ≤ p1 → p1 < ys hp 2088 0 → gIl hp (p1 : Int).toNat = p1 → gNd hp (p1 : Int).toNat = p1 → 1 ≤ ys hp' 2073 38)) ∧ bAx G [(83076749736557242056487941267521536, 38), (267608942382367477698428619271780338071764992, 256)] hp hp')) (42 * m) 7 [(0, yR 2073), (1, yI (p1)), (2, yI (a2))] [] hq) := by
    intro m
    induction m with
    | zero =>
      intros; exfalso; omega
    | succ m ih =>
      have i_7 := ih
      clear ih
      intro a2 gg0 gg1 hq A_hq E_0 E_1 f0 f1 f2 f3 f4 f5 f6 f7 f8 f9 f10 X_7 hm
      refine yG.mono (N := 42 * m + 42) ?_ (by omega)
      obtain ⟨-, -, g_0l, g_0u⟩ := (w_M_nodes W H_2073).int A_hq.1
      obtain ⟨-, -, g_1l, g_1u⟩ := (v_M_count W (s_M_count W)).int A_hq.1 (j := (0 : Int).toNat) (by decide) rfl
      have kN : gNd hq = gNd hp := funext fun j => A_hq.ys (s_M_node W) (bNo_ok (by decide) j)
      have kI : gIl hq = gIl hp := funext fun j => A_hq.ys (s_M_island W) (bNo_ok (by decide) j)
      have kC0 : ys hq 2088 0 = ys hp 2088 0 := A_hq.ys (s_M_count W) (bNo_ok (by decide) _)
      have kcz : ys hq 2088 (0 : Int).toNat = ys hq 2088 0 := rfl
      refine yG.load xik rfl (fun _ _ => rfl) (v := yI (a2)) rfl rfl ?_
      refine yG.load xak rfl (fun _ _ => rfl) (v := yR 2073) rfl rfl ?_
      refine yG.getO A_hq.1 (w_M_count W H_2073) rfl rfl (fun r1 H_r1 O_r1 q_r1 => ?_)
      obtain rfl := u_M_count W H_r1
      refine yG.num (c := 0) rfl (fun _ _ => rfl) (by decide) ?_
      refine yG.ialdF A_hq.1 (v_M_count W H_r1) rfl rfl (by omega) (by omega) (fun z2 e_z2 i_z2 l_z2 u_z2 => ?_)
      rw [show (z2 : Int) = gg1 by omega]
      refine yG.icmp rfl (t := 75) rfl ⟨by omega, by omega⟩ ⟨by omega, by omega⟩ (fun c3 => ?_) (fun c3 => ?_)
      · have c3 : (a2 : Int) ≥ gg1 := c3
        refine yG.ret rfl (fun _ _ => rfl) ?_
        exact (yP.void ⟨⟨rfl, (X_7.done (by omega) kC0 kI kN)⟩, A_hq⟩)
      · have c3 : (a2 : Int) < gg1 := c3
        refine yG.load xak rfl (fun _ _ => rfl) (v := yR 2073) rfl rfl ?_
        refine yG.getO A_hq.1 (w_M_island W H_2073) rfl rfl (fun r4 H_r4 O_r4 q_r4 => ?_)
        obtain rfl := u_M_island W H_r4
        refine yG.load xik rfl (fun _ _ => rfl) (v := yI (a2)) rfl rfl ?_
        refine yG.ialdF A_hq.1 (v_M_island W H_r4) rfl rfl (by omega) (by omega) (fun z5 e_z5 i_z5 l_z5 u_z5 => ?_)
        refine yG.load xik rfl (fun _ _ => rfl) (v := yI (p1)) rfl rfl ?_
        refine yG.icmp rfl (t := 69) rfl ⟨by omega, by omega⟩ ⟨by omega, by omega⟩ (fun c6 => ?_) (fun c6 => ?_)
        · have c6 : (z5 : Int) ≠ p1 := c6
          refine yG.iinc rfl (a := a2) rfl (L' := [(2, yI (a2 + 1)), (0, yR 2073), (1, yI (p1))]) rfl ?_
          refine yG.goto rfl (t := 7) rfl ?_
          exact yG.mono (yG.sub (i_7 (a2 + 1) (ys hq 2073 38) (ys hq 2088 (0 : Int).toNat) hq A_hq  rfl rfl (by omega) (by omega) (by omega) (by omega) (by omega) (by omega) (by omega) (by omega) (by omega) (by omega) (by omega) (X_7.skip (k := (a2 : Int).toNat) (by omega) (by rintro ⟨f1, f2⟩; rw [← kI] at f1; rw [← kN] at f2; have f1 : ys hq 2101 (a2 : Int).toNat = p1 := f1; have f2 : ys hq 2100 (a2 : Int).toNat = ((a2 : Int).toNat : Int) := f2; omega)) (by omega)) (ySub.cons rfl (ySub.cons rfl (ySub.cons rfl (ySub.nil))))) (by omega)
        · have c6 : (z5 : Int) = p1 := c6
          refine yG.load xak rfl (fun _ _ => rfl) (v := yR 2073) rfl rfl ?_
          refine yG.getO A_hq.1 (w_M_node W H_2073) rfl rfl (fun r7 H_r7 O_r7 q_r7 => ?_)
          obtain rfl := u_M_node W H_r7
          refine yG.load xik rfl (fun _ _ => rfl) (v := yI (a2)) rfl rfl ?_
          refine yG.ialdF A_hq.1 (v_M_node W H_r7) rfl rfl (by omega) (by omega) (fun z8 e_z8 i_z8 l_z8 u_z8 => ?_)
          refine yG.load xik rfl (fun _ _ => rfl) (v := yI (a2)) rfl rfl ?_
          refine yG.icmp rfl (t := 69) rfl ⟨by omega, by omega⟩ ⟨by omega, by omega⟩ (fun c9 => ?_) (fun c9 => ?_)
          · have c9 : (z8 : Int) ≠ a2 := c9
            refine yG.iinc rfl (a := a2) rfl (L' := [(2, yI (a2 + 1)), (0, yR 2073), (1, yI (p1))]) rfl ?_
            refine yG.goto rfl (t := 7) rfl ?_
            exact yG.mono (yG.sub (i_7 (a2 + 1) (ys hq 2073 38) (ys hq 2088 (0 : Int).toNat) hq A_hq  rfl rfl (by omega) (by omega) (by omega) (by omega) (by omega) (by omega) (by omega) (by omega) (by omega) (by omega) (by omega) (X_7.skip (k := (a2 : Int).toNat) (by omega) (by rintro ⟨f1, f2⟩; rw [← kI] at f1; rw [← kN] at f2; have f1 : ys hq 2101 (a2 : Int).toNat = p1 := f1; have f2 : ys hq 2100 (a2 : Int).toNat = ((a2 : Int).toNat : Int) := f2; omega)) (by omega)) (ySub.cons rfl (ySub.cons rfl (ySub.cons rfl (ySub.nil))))) (by omega)
          · have c9 : (z8 : Int) = a2 := c9
            refine yG.load xak rfl (fun _ _ => rfl) (v := yR 2073) rfl rfl ?_
            refine yG.getO A_hq.1 (w_M_nodeAt W H_2073) rfl rfl (fun r10 H_r10 O_r10 q_r10 => ?_)
            obtain rfl := u_M_nodeAt W H_r10
            refine yG.load xak rfl (fun _ _ => rfl) (v := yR 2073) rfl rfl ?_
            refine yG.getI A_hq.1 (w_M_nodes W H_2073) rfl rfl (fun z11 e_z11 i_z11 l_z11 u_z11 => ?_)
            rw [show (z11 : Int) = gg0 by omega]
            refine yG.load xik rfl (fun _ _ => rfl) (v := yI (a2)) rfl rfl ?_
            refine yG.iast A_hq.1 (v_M_nodeAt W H_r10) (W.2.1 _ _ H_r10 (by decide) (by decide)) rfl (by omega) (by omega) ⟨by omega, by omega⟩ (by omega) (by omega) (fun h12 T_h12 b_h12 f_h12 y_h12 => ?_)
            have A_h12 := A_hq.put T_h12 b_h12 f_h12 H_r10 (bAll_ok (by decide) _)
            have : ys h12 2073 38 = ys hq 2073 38 := (y_h12 2073 38).trans (if_neg (fun e => (bRo.ne H_2073 H_r10 (by decide)) e.1))
            have : ys h12 2088 (0 : Int).toNat = ys hq 2088 (0 : Int).toNat := (y_h12 2088 (0 : Int).toNat).trans (if_neg (fun e => (bRo.ne H_r1 H_r10 (by decide)) e.1))
            refine yG.load xak rfl (fun _ _ => rfl) (v := yR 2073) rfl rfl ?_
            refine yG.getO A_h12.1 (w_M_placeOf W H_2073) rfl rfl (fun r13 H_r13 O_r13 q_r13 => ?_)
            obtain rfl := u_M_placeOf W H_r13
            refine yG.load xik rfl (fun _ _ => rfl) (v := yI (a2)) rfl rfl ?_
            refine yG.load xak rfl (fun _ _ => rfl) (v := yR 2073) rfl rfl ?_
            refine yG.getI A_h12.1 (w_M_nodes W H_2073) rfl rfl (fun z14 e_z14 i_z14 l_z14 u_z14 => ?_)
            rw [show (z14 : Int) = gg0 by omega]
            refine yG.num (c := 1) rfl (fun _ _ => rfl) (by decide) ?_
            refine yG.isub rfl ?_
            refine yG.iast A_h12.1 (v_M_placeOf W H_r13) (W.2.1 _ _ H_r13 (by decide) (by decide)) rfl (by omega) (by omega) ⟨by omega, by omega⟩ (by omega) (by omega) (fun h15 T_h15 b_h15 f_h15 y_h15 => ?_)
            have A_h15 := A_h12.put T_h15 b_h15 f_h15 H_r13 (bAll_ok (by decide) _)
            have : ys h15 2073 38 = ys h12 2073 38 := (y_h15 2073 38).trans (if_neg (fun e => (bRo.ne H_2073 H_r13 (by decide)) e.1))
            have : ys h15 2088 (0 : Int).toNat = ys h12 2088 (0 : Int).toNat := (y_h15 2088 (0 : Int).toNat).trans (if_neg (fun e => (bRo.ne H_r1 H_r13 (by decide)) e.1))
            refine yG.load xak rfl (fun _ _ => rfl) (v := yR 2073) rfl rfl ?_
            refine yG.step (pc' := 61) (stk' := [yR 2073, yR 2073]) rfl (fun _ _ => rfl) ?_
            refine yG.getI A_h15.1 (w_M_nodes W H_2073) rfl rfl (fun z16 e_z16 i_z16 l_z16 u_z16 => ?_)
            rw [show (z16 : Int) = gg0 by omega]
            refine yG.num (c := 1) rfl (fun _ _ => rfl) (by decide) ?_
            refine yG.iadd rfl ?_
            refine yG.putI A_h15.1 (w_M_nodes W H_2073) (W.2.1 _ _ H_2073 (by decide) (by decide)) rfl rfl (.inl rfl) ⟨by omega, by omega⟩ (by omega) (by omega) (fun h17 T_h17 b_h17 f_h17 y_h17 => ?_)
            have A_h17 := A_h15.put T_h17 b_h17 f_h17 H_2073 (by decide)
            have : ys h17 2088 (0 : Int).toNat = ys h15 2088 (0 : Int).toNat := (y_h17 2088 (0 : Int).toNat).trans (if_neg (fun e => (bRo.ne H_r1 H_2073 (by decide)) e.1))
            have : ys h17 2073 38 = gg0 + 1 := (y_h17 2073 38).trans (if_pos ⟨rfl, rfl⟩)
            refine yG.iinc rfl (a := a2) rfl (L' := [(2, yI (a2 + 1)), (0, yR 2073), (1, yI (p1))]) rfl ?_
            refine yG.goto rfl (t := 7) rfl ?_
            have nn9 : ys h17 2073 38 = ys hq 2073 38 + 1 := by omega
            have py9 : ∀ j, ys h17 2104 j = if j = (a2 : Int).toNat then ys hq 2073 38 - 1 else ys hq 2104 j := fun j => by
              rw [(y_h17 2104 j).trans (if_neg (fun e => absurd e.1 (by decide))), y_h15 2104 j]
              by_cases e : j = (a2 : Int).toNat
              · rw [if_pos ⟨rfl, e⟩, if_pos e]; omega
              · rw [if_neg (fun x => e x.2), if_neg e]; exact (y_h12 2104 j).trans (if_neg (fun e => absurd e.1 (by decide)))
            have e19 : gIl hp (a2 : Int).toNat = p1 := by rw [← kI]; show ys hq 2101 (a2 : Int).toNat = p1; omega
            have e29 : gNd hp (a2 : Int).toNat = ((a2 : Int).toNat : Int) := by rw [← kN]; show ys hq 2100 (a2 : Int).toNat = _; omega
            have le9 := gIl_bd W hT (b := (a2 : Int).toNat) (by omega)
            exact yG.mono (yG.sub (i_7 (a2 + 1) (ys h17 2073 38) (ys h17 2088 (0 : Int).toNat) h17 A_h17  rfl rfl (by omega) (by omega) (by omega) (by omega) (by omega) (by omega) (by omega) (by omega) (by omega) (by omega) (by omega) (by rw [nn9]; exact X_7.put (k := (a2 : Int).toNat) (by omega) e19 e29 (by omega) py9) (by omega)) (ySub.cons rfl (ySub.cons rfl (ySub.cons rfl (ySub.nil))))) (by omega)
  refine yC.of (M := (xt_X13_listNodes, (3, (0, (14, []))))) rfl rfl (N := 1512) (yfuel (by decide)) ?_
  show yG 89 xfts (xcall 89 xfts xpools xms d) (xpool xp_RX13) [] xt_X13_listNodes (yP 0 (fun rv hp' => (rv = none ∧ gLs hp' p1 (ys hp' 2073 38 - 1 : Int).toNat ∧ (0 ≤ p1 → p1 < ys hp 2088 0 → gIl hp (p1 : Int).toNat = p1 → gNd hp (p1 : Int).toNat = p1 → 1 ≤ ys hp' 2073 38)) ∧ bAx G [(83076749736557242056487941267521536, 38), (267608942382367477698428619271780338071764992, 256)] hp hp')) 1512 0 [(0, yR 2073), (1, yI (p1))] [] hp
  have i_7 := H 35
  obtain ⟨gg0, E_0⟩ : ∃ z : Int, ys hp 2073 38 = z := ⟨_, rfl⟩
  obtain ⟨-, -, g_0l, g_0u⟩ := (w_M_nodes W H_2073).int hT
  obtain ⟨gg1, E_1⟩ : ∃ z : Int, ys hp 2088 (0 : Int).toNat = z := ⟨_, rfl⟩
  obtain ⟨-, -, g_1l, g_1u⟩ := (v_M_count W (s_M_count W)).int hT (j := (0 : Int).toNat) (by decide) rfl
  refine yG.load xak rfl (fun _ _ => rfl) (v := yR 2073) rfl rfl ?_
  refine yG.num (c := 0) rfl (fun _ _ => rfl) (by decide) ?_
  refine yG.putI A_hp.1 (w_M_nodes W H_2073) (W.2.1 _ _ H_2073 (by decide) (by decide)) rfl rfl (.inl rfl) ⟨by omega, by omega⟩ (by omega) (by omega) (fun h1 T_h1 b_h1 f_h1 y_h1 => ?_)
  have A_h1 := A_hp.put T_h1 b_h1 f_h1 H_2073 (by decide)
  have : ys h1 2088 (0 : Int).toNat = ys hp 2088 (0 : Int).toNat := (y_h1 2088 (0 : Int).toNat).trans (if_neg (fun e => (bRo.ne (s_M_count W) H_2073 (by decide)) e.1))
  have : ys h1 2073 38 = 0 := (y_h1 2073 38).trans (if_pos ⟨rfl, rfl⟩)
  refine yG.num (c := 0) rfl (fun _ _ => rfl) (by decide) ?_
  refine yG.store1 xik (L' := [(2, yI (0)), (0, yR 2073), (1, yI (p1))]) rfl (fun _ _ => rfl) rfl rfl ?_
  exact yG.mono (yG.sub (i_7 (0) (ys h1 2073 38) (ys h1 2088 (0 : Int).toNat) h1 A_h1  rfl rfl (by omega) (by omega) (by omega) (by omega) (by omega) (by omega) (by omega) (by omega) (by omega) (by omega) (by omega) (by rw [show ys h1 2073 38 = 0 by omega]; exact gLq.start) (by omega)) (ySub.cons rfl (ySub.cons rfl (ySub.cons rfl (ySub.nil))))) (by omega)
theorem c_GModel_flowsOf {hp : xH} (W : mW G) (d : Nat) (hT : zTy G hp) (M_bRg : bRg G hp) (M_bWf : bWf G hp) (M_bTq : bTq G hp) (M_bPr : bPr G hp) (H_2073 : bRo G 116 2073) (p1 : Int) (h1l : 0 ≤ p1) (h1u : p1 ≤ 15) (g90 : p1 < ys hp 2088 0) (g91 : gIl hp (p1 : Int).toNat = p1) (g92 : gNd hp (p1 : Int).toNat = p1) : yC (xcall 89 xfts xpools xms (d + 6)) 406 [yR 2073, yI (p1)] hp (fun rv hp' => (fun rv hp' => (rv = none ∧ True) ∧ bAx G [(83076749736557242056487941267521536, 10), (83076749736557242056487941267521536, 11), (83076749736557242056487941267521536, 38), (5976600053322420423396921476331392432835919872, 256)] hp hp') rv hp' ∧ bRg G hp') := by
  have A_hp : bAx G [(83076749736557242056487941267521536, 10), (83076749736557242056487941267521536, 11), (83076749736557242056487941267521536, 38), (5976600053322420423396921476331392432835919872, 256)] hp hp := bAx.rf hT
  have M_bRg_hp := M_bRg
  have H : ∀ m : Nat, (∀ a2 : Int, ∀ a3 : Int, ∀ gg0 : Int, ∀ gg1 : Int, ∀ hq, bAx G [(83076749736557242056487941267521536, 10), (83076749736557242056487941267521536, 11), (83076749736557242056487941267521536, 38), (5976600053322420423396921476331392432835919872, 256)] hp hq → bRg G hq → ys hq 2073 10 = gg0 → ys hq 2073 11 = gg1 → (-1) ≤ a2 → (-15) ≤ 0 - a2 → 0 ≤ a3 → (-40) ≤ 0 - a3 → 0 ≤ gg0 → (-7) ≤ 0 - gg0 → 0 ≤ gg1 → (-2147483647) ≤ 0 - gg1 → 0 ≤ p1 → (-15) ≤ 0 - p1 → (-39) ≤ a2 - a3 → (-6) ≤ a2 - gg0 → 0 ≤ a3 - gg0 → 0 ≤ 0 - a3 + gg1 → (gF1 hq p1 (a2 : Int).toNat a3 ∧ 1 ≤ a2 ∧ a2 = ys hq 2073 38 - 1) → 0 - 689 * a3 + 28248 < (m : Int) → yG 89 xfts (xcall 89 xfts xpools xms (d + 5)) (xpool xp_RX13) [] xt_X13_flowsOf (yP 0 (fun rv hp' => (fun rv hp' => (rv = none ∧ True) ∧ bAx G [(83076749736557242056487941267521536, 10), (83076749736557242056487941267521536, 11), (83076749736557242056487941267521536, 38), (5976600053322420423396921476331392432835919872, 256)] hp hp') rv hp' ∧ bRg G hp')) (27 * m) 29 [(0, yR 2073), (1, yI (p1)), (2, yI (a2)), (3, yI (a3))] [] hq) ∧ (∀ a2 : Int, ∀ a3 : Int, ∀ a4 : Int, ∀ a6 : Int, ∀ gg0 : Int, ∀ gg1 : Int, ∀ hq, bAx G [(83076749736557242056487941267521536, 10), (83076749736557242056487941267521536, 11), (83076749736557242056487941267521536, 38), (5976600053322420423396921476331392432835919872, 256)] hp hq → bRg G hq → ys hq 2073 10 = gg0 → ys hq 2073 11 = gg1 → 1 ≤ a2 → (-15) ≤ 0 - a2 → 0 ≤ a3 → (-39) ≤ 0 - a3 → 0 ≤ a4 → (-2147483646) ≤ 0 - a4 → 0 ≤ a6 → (-15) ≤ 0 - a6 → 0 ≤ gg0 → (-6) ≤ 0 - gg0 → 2147482801 ≤ gg1 → (-2147483647) ≤ 0 - gg1 → 0 ≤ p1 → (-15) ≤ 0 - p1 → 0 ≤ a2 - a6 → 0 ≤ a3 - gg0 → (gF1 hq p1 (a2 : Int).toNat a3 ∧ 1 ≤ a2 ∧ a2 = ys hq 2073 38 - 1 ∧ mPr (ys hq 2073 11).toNat ∧ gF2 hq p1 (a2 : Int).toNat a3 a4) → 0 - 689 * a3 - 33 * a6 + 28087 < (m : Int) → yG 89 xfts (xcall 89 xfts xpools xms (d + 5)) (xpool xp_RX13) [] xt_X13_flowsOf (yP 0 (fun rv hp' => (fun rv hp' => (rv = none ∧ True) ∧ bAx G [(83076749736557242056487941267521536, 10), (83076749736557242056487941267521536, 11), (83076749736557242056487941267521536, 38), (5976600053322420423396921476331392432835919872, 256)] hp hp') rv hp' ∧ bRg G hp')) (27 * m) 72 [(0, yR 2073), (1, yI (p1)), (2, yI (a2)), (3, yI (a3)), (4, yJ (a4)), (6, yI (a6))] [] hq) ∧ (∀ a2 : Int, ∀ a3 : Int, ∀ a6 : Int, ∀ a8 : Int, ∀ gg0 : Int, ∀ gg1 : Int, ∀ hq, bAx G [(83076749736557242056487941267521536, 10), (83076749736557242056487941267521536, 11), (83076749736557242056487941267521536, 38), (5976600053322420423396921476331392432835919872, 256)] hp hq → bRg G hq → ys hq 2073 10 = gg0 → ys hq 2073 11 = gg1 → 1 ≤ a2 → (-15) ≤ 0 - a2 → 0 ≤ a3 → (-39) ≤ 0 - a3 → 1 ≤ a6 → (-2147483646) ≤ 0 - a6 → 0 ≤ a8 → (-15) ≤ 0 - a8 → 0 ≤ gg0 → (-6) ≤ 0 - gg0 → 2147482801 ≤ gg1 → (-2147483647) ≤ 0 - gg1 → 0 ≤ p1 → (-15) ≤ 0 - p1 → 0 ≤ a2 - a8 → 0 ≤ a3 - gg0 → 1 ≤ 0 - a6 + gg1 → (gLs hq p1 (a2 : Int).toNat ∧ 1 ≤ a2 ∧ a2 = ys hq 2073 38 - 1) → 0 - 689 * a3 - 2 * a8 + 27591 < (m : Int) → yG 89 xfts (xcall 89 xfts xpools xms (d + 5)) (xpool xp_RX13) [] xt_X13_flowsOf (yP 0 (fun rv hp' => (fun rv hp' => (rv = none ∧ True) ∧ bAx G [(83076749736557242056487941267521536, 10), (83076749736557242056487941267521536, 11), (83076749736557242056487941267521536, 38), (5976600053322420423396921476331392432835919872, 256)] hp hp') rv hp' ∧ bRg G hp')) (27 * m) 149 [(0, yR 2073), (1, yI (p1)), (2, yI (a2)), (3, yI (a3)), (6, yJ (a6)), (8, yI (a8))] [] hq) ∧ (∀ a2 : Int, ∀ a3 : Int, ∀ gg0 : Int, ∀ gg1 : Int, ∀ hq, bAx G [(83076749736557242056487941267521536, 10), (83076749736557242056487941267521536, 11), (83076749736557242056487941267521536, 38), (5976600053322420423396921476331392432835919872, 256)] hp hq → bRg G hq → ys hq 2073 10 = gg0 → ys hq 2073 11 = gg1 → 1 ≤ a2 → (-15) ≤ 0 - a2 → 0 ≤ a3 → (-15) ≤ 0 - a3 → 1 ≤ gg0 → (-7) ≤ 0 - gg0 → 7 ≤ gg1 → (-2147483647) ≤ 0 - gg1 → 0 ≤ p1 → (-15) ≤ 0 - p1 → 0 ≤ a2 - a3 → 0 - 43 * a3 + 687 < (m : Int) → yG 89 xfts (xcall 89 xfts xpools xms (d + 5)) (xpool xp_RX13) [] xt_X13_flowsOf (yP 0 (fun rv hp' => (fun rv hp' => (rv = none ∧ True) ∧ bAx G [(83076749736557242056487941267521536, 10), (83076749736557242056487941267521536, 11), (83076749736557242056487941267521536, 38), (5976600053322420423396921476331392432835919872, 256)] hp hp') rv hp' ∧ bRg G hp')) (27 * m) 218 [(0, yR 2073), (1, yI (p1)), (2, yI (a2)), (3, yI (a3))] [] hq) ∧ (∀ a3 : Int, ∀ gg0 : Int, ∀ gg1 : Int, ∀ hq, bAx G [(83076749736557242056487941267521536, 10), (83076749736557242056487941267521536, 11), (83076749736557242056487941267521536, 38), (5976600053322420423396921476331392432835919872, 256)] hp hq → bRg G hq → ys hq 2073 10 = gg0 → ys hq 2073 11 = gg1 → 0 ≤ a3 → (-20) ≤ 0 - a3 → 1 ≤ gg0 → (-7) ≤ 0 - gg0 → 7 ≤ gg1 → (-2147483647) ≤ 0 - gg1 → 0 ≤ p1 → (-15) ≤ 0 - p1 → 0 - 2 * a3 + 41 < (m : Int) → yG 89 xfts (xcall 89 xfts xpools xms (d + 5)) (xpool xp_RX13) [] xt_X13_flowsOf (yP 0 (fun rv hp' => (fun rv hp' => (rv = none ∧ True) ∧ bAx G [(83076749736557242056487941267521536, 10), (83076749736557242056487941267521536, 11), (83076749736557242056487941267521536, 38), (5976600053322420423396921476331392432835919872, 256)] hp hp') rv hp' ∧ bRg G hp')) (27 * m) 249 [(0, yR 2073), (1, yI (p1)), (3, yI (a3))] [] hq) := by
    intro m
    induction m with
    | zero =>
      refine ⟨?_, ?_, ?_, ?_, ?_⟩ <;> (intros; exfalso; omega)
    | succ m ih =>
      obtain ⟨i_29, i_72, i_149, i_218, i_249⟩ := ih
      refine ⟨?_, ?_, ?_, ?_, ?_⟩
      · intro a2 a3 gg0 gg1 hq A_hq M_bRg_hq E_0 E_1 f0 f1 f2 f3 f4 f5 f6 f7 f8 f9 f10 f11 f12 f13 X_29 hm
        refine yG.mono (N := 27 * m + 27) ?_ (by omega)
        obtain ⟨-, -, g_0l, g_0u⟩ := (w_M_usedCount W H_2073).int A_hq.1
        obtain ⟨-, -, g_1l, g_1u⟩ := (w_M_p W H_2073).long A_hq.1
        have a29 := X_29.2.1
        have b29 := X_29.2.2
        refine yG.load xik rfl (fun _ _ => rfl) (v := yI (a3)) rfl rfl ?_
        refine yG.num (c := 40) rfl (fun _ _ => rfl) (by decide) ?_
        refine yG.icmp rfl (t := 208) rfl ⟨by omega, by omega⟩ ⟨by omega, by omega⟩ (fun c1 => ?_) (fun c1 => ?_)
        · have c1 : (a3 : Int) ≥ 40 := c1
          have uc9 : 1 ≤ ys hq 2073 10 := by
            apply Decidable.byContradiction
            intro hu9
            have kc9 : ys hq 2088 0 ≤ 16 := ((v_M_count W (s_M_count W)).int A_hq.1 (j := 0) (by decide) rfl).2.2.2
            have kd9 : ys hq 2088 2 ≤ 20 := ((v_M_count W (s_M_count W)).int A_hq.1 (j := 2) (by decide) rfl).2.2.2
            have ke9 : ys hq 2088 0 = ys hp 2088 0 := A_hq.ys (s_M_count W) (bNo_ok (by decide) _)
            have ki9 : gIl hq (p1 : Int).toNat = gIl hp (p1 : Int).toNat := A_hq.ys (s_M_island W) (bNo_ok (by decide) _)
            exact X_29.1.1.no ((M_bTq.fr A_hq (by decide))) ((M_bWf.fr A_hq (by decide))) (by omega) (by omega) (by omega) (by omega) (by omega) (fun b hb => gNd_bd W A_hq.1 hb) (fun b hb => gIl_bd W A_hq.1 hb) kc9 kd9 (fun k hk => lX_bd W A_hq.1 hk) (fun p hp9 => by obtain ⟨j, j1, j2⟩ := mPs_ix hp9; exact X_29.1.2 (by omega) j (by omega) p j2)
          refine yG.load xak rfl (fun _ _ => rfl) (v := yR 2073) rfl rfl ?_
          refine yG.num (c := 0) rfl (fun _ _ => rfl) (by decide) ?_
          refine yG.load xik rfl (fun _ _ => rfl) (v := yI (p1)) rfl rfl ?_
          refine yG.iadd rfl ?_
          refine yG.num (c := 0) rfl (fun _ _ => rfl) (by decide) ?_
          refine yG.invV (rest := []) A_hq.1 (bOb (d_M W) H_2073) rfl rfl rfl rfl (c_GModel_fromResidues_F W (d + 2) A_hq.1 M_bRg_hq H_2073 (0 + p1) (0) (by omega) (by omega) (by omega) (by omega) (by omega) (by omega)) (fun rv h2 q9 => ?_)
          obtain ⟨q9, M_bRg_h2⟩ := q9
          obtain ⟨⟨rfl, R_z3⟩, B_h2⟩ := q9
          have A_h2 := A_hq.tr B_h2 (by decide)
          have : ys h2 2073 10 = ys hq 2073 10 := B_h2.ys H_2073 (by decide)
          have : ys h2 2073 11 = ys hq 2073 11 := B_h2.ys H_2073 (by decide)
          show yG _ _ _ _ _ _ _ _ _ _ [] _
          refine yG.num (c := 0) rfl (fun _ _ => rfl) (by decide) ?_
          refine yG.store1 xik (L' := [(3, yI (0)), (0, yR 2073), (1, yI (p1)), (2, yI (a2))]) rfl (fun _ _ => rfl) rfl rfl ?_
          exact yG.mono (yG.sub (i_218 (a2) (0) (ys h2 2073 10) (ys h2 2073 11) h2 A_h2 M_bRg_h2  rfl rfl (by omega) (by omega) (by omega) (by omega) (by omega) (by omega) (by omega) (by omega) (by omega) (by omega) (by omega) (by omega)) (ySub.cons rfl (ySub.cons rfl (ySub.cons rfl (ySub.cons rfl (ySub.nil)))))) (by omega)
        · have c1 : (a3 : Int) < 40 := c1
          refine yG.load xak rfl (fun _ _ => rfl) (v := yR 2073) rfl rfl ?_
          refine yG.getI A_hq.1 (w_M_usedCount W H_2073) rfl rfl (fun z4 e_z4 i_z4 l_z4 u_z4 => ?_)
          rw [show (z4 : Int) = gg0 by omega]
          refine yG.num (c := 7) rfl (fun _ _ => rfl) (by decide) ?_
          refine yG.icmp rfl (t := 208) rfl ⟨by omega, by omega⟩ ⟨by omega, by omega⟩ (fun c5 => ?_) (fun c5 => ?_)
          · have c5 : (gg0 : Int) ≥ 7 := c5
            refine yG.load xak rfl (fun _ _ => rfl) (v := yR 2073) rfl rfl ?_
            refine yG.num (c := 0) rfl (fun _ _ => rfl) (by decide) ?_
            refine yG.load xik rfl (fun _ _ => rfl) (v := yI (p1)) rfl rfl ?_
            refine yG.iadd rfl ?_
            refine yG.num (c := 0) rfl (fun _ _ => rfl) (by decide) ?_
            refine yG.invV (rest := []) A_hq.1 (bOb (d_M W) H_2073) rfl rfl rfl rfl (c_GModel_fromResidues_F W (d + 2) A_hq.1 M_bRg_hq H_2073 (0 + p1) (0) (by omega) (by omega) (by omega) (by omega) (by omega) (by omega)) (fun rv h6 q9 => ?_)
            obtain ⟨q9, M_bRg_h6⟩ := q9
            obtain ⟨⟨rfl, R_z7⟩, B_h6⟩ := q9
            have A_h6 := A_hq.tr B_h6 (by decide)
            have : ys h6 2073 10 = ys hq 2073 10 := B_h6.ys H_2073 (by decide)
            have : ys h6 2073 11 = ys hq 2073 11 := B_h6.ys H_2073 (by decide)
            show yG _ _ _ _ _ _ _ _ _ _ [] _
            refine yG.num (c := 0) rfl (fun _ _ => rfl) (by decide) ?_
            refine yG.store1 xik (L' := [(3, yI (0)), (0, yR 2073), (1, yI (p1)), (2, yI (a2))]) rfl (fun _ _ => rfl) rfl rfl ?_
            exact yG.mono (yG.sub (i_218 (a2) (0) (ys h6 2073 10) (ys h6 2073 11) h6 A_h6 M_bRg_h6  rfl rfl (by omega) (by omega) (by omega) (by omega) (by omega) (by omega) (by omega) (by omega) (by omega) (by omega) (by omega) (by omega)) (ySub.cons rfl (ySub.cons rfl (ySub.cons rfl (ySub.cons rfl (ySub.nil)))))) (by omega)
          · have c5 : (gg0 : Int) < 7 := c5
            refine yG.load xak rfl (fun _ _ => rfl) (v := yR 2073) rfl rfl ?_
            refine yG.getS (c := 14) rfl rfl ?_
            refine yG.load xik rfl (fun _ _ => rfl) (v := yI (a3)) rfl rfl ?_
            refine yG.iald A_hq.1 (v_M_PRIME W (s_M_PRIME W)) rfl (by omega) (by omega) (fun z8 e_z8 i_z8 l_z8 u_z8 => ?_)
            refine yG.i2l rfl ⟨by omega, by omega⟩ ?_
            refine yG.putJ A_hq.1 (w_M_p W H_2073) (W.2.1 _ _ H_2073 (by decide) (by decide)) rfl rfl rfl ⟨by omega, by omega⟩ (by omega) (by omega) (fun h9 T_h9 b_h9 f_h9 y_h9 => ?_)
            have M_bRg_h9 := M_bRg_hq.fr (bAx.put (Wl := [(83076749736557242056487941267521536, 11)]) (bAx.rf A_hq.1) T_h9 b_h9 f_h9 H_2073 (by decide)) (by decide)
            have A_h9 := A_hq.put T_h9 b_h9 f_h9 H_2073 (by decide)
            have : ys h9 2073 10 = ys hq 2073 10 := (y_h9 2073 10).trans (if_neg (fun e => absurd e.2 (by decide)))
            have : ys h9 2073 11 = z8 := (y_h9 2073 11).trans (if_pos ⟨rfl, rfl⟩)
            obtain ⟨v9, hv9, mv9, pv9, lv9⟩ := mPs_get (j := (a3 : Int).toNat) (by omega)
            have pz9 : ys h9 2073 11 = (v9 : Int) := by have q9 := ((M_bPr.fr A_hq (by decide))) (a3 : Int).toNat (by omega) v9 hv9; omega
            refine yG.load xak rfl (fun _ _ => rfl) (v := yR 2073) rfl rfl ?_
            refine yG.load xik rfl (fun _ _ => rfl) (v := yI (a2)) rfl rfl ?_
            refine yG.load xik rfl (fun _ _ => rfl) (v := yI (a2)) rfl rfl ?_
            refine yG.num (c := 1) rfl (fun _ _ => rfl) (by decide) ?_
            refine yG.iadd rfl ?_
            refine yG.invV (rest := []) A_h9.1 (bOb (d_M W) H_2073) rfl rfl rfl rfl (c_GModel_clearMatrix_s W (d + 4) A_h9.1 H_2073 (a2) (a2 + 1) (by omega) (by omega) (by omega) (by omega)) (fun rv h10 q9 => ?_)
            obtain ⟨⟨rfl, R_z11⟩, B_h10⟩ := q9
            have A_h10 := A_h9.tr B_h10 (by decide)
            have M_bRg_h10 := M_bRg_h9.fr B_h10 (by decide)
            have : ys h10 2073 10 = ys h9 2073 10 := B_h10.ys H_2073 (by decide)
            have : ys h10 2073 11 = ys h9 2073 11 := B_h10.ys H_2073 (by decide)
            show yG _ _ _ _ _ _ _ _ _ _ [] _
            refine yG.load xak rfl (fun _ _ => rfl) (v := yR 2073) rfl rfl ?_
            refine yG.load xik rfl (fun _ _ => rfl) (v := yI (p1)) rfl rfl ?_
            have pq9 : ys h10 2073 11 = (v9 : Int) := by omega
            have A9q : bAx G [(83076749736557242056487941267521536, 11), (85070591730234615865843651857942052864, 256)] hq h10 := (bAx.put (Wl := [(83076749736557242056487941267521536, 11), (85070591730234615865843651857942052864, 256)]) (bAx.rf A_hq.1) T_h9 b_h9 f_h9 H_2073 (by decide)).tr B_h10 (by decide)
            have sm9 : gSame hq h10 := gSame.of A9q (by decide)
            have ls9 : gLs h10 p1 (a2 : Int).toNat := sm9.ls X_29.1.1
            have kp9 : ys h10 2073 38 = ys hq 2073 38 := A9q.ys H_2073 (by decide)
            have nn9 : (ys h10 2073 38 - 1 : Int).toNat = (a2 : Int).toNat := by omega
            have kf9 : ys h10 2088 0 = ys hp 2088 0 := A_h10.ys (s_M_count W) (bNo_ok (by decide) _)
            have kc9 : ys h10 2088 0 ≤ 16 := ((v_M_count W (s_M_count W)).int A_h10.1 (j := 0) (by decide) rfl).2.2.2
            have kd9 : ys h10 2088 2 ≤ 20 := ((v_M_count W (s_M_count W)).int A_h10.1 (j := 2) (by decide) rfl).2.2.2
            have pl9 : ∀ k : Nat, cntL h10 p1 k = true → (-1 ≤ paL h10 k ∧ paL h10 k < (((ys h10 2073 38 - 1 : Int).toNat : Nat) : Int)) ∧ (-1 ≤ pbL h10 k ∧ pbL h10 k < (((ys h10 2073 38 - 1 : Int).toNat : Nat) : Int)) := fun k hc => by
              have lt9 := (cntL_lt hc).1
              obtain ⟨en1, en2⟩ := ((M_bWf.fr A_h10 (by decide))).ends (k := k) lt9 (by omega) (by omega)
              rw [nn9]
              exact ls9.place ((M_bTq.fr A_h10 (by decide))) hc en1 en2 (fun b hb => gNd_bd W A_h10.1 hb) kc9
            refine yG.invV (rest := []) A_h10.1 (bOb (d_M W) H_2073) rfl rfl rfl rfl (c_GModel_joinLines_s W d A_h10.1 (M_bWf.fr A_h10 (by decide)) H_2073 (p1) (by omega) (by omega) (by omega) (by omega) (by rw [pq9]; exact pv9) pl9) (fun rv h12 q9 => ?_)
            obtain ⟨q9, T2_z13⟩ := q9
            obtain ⟨⟨z13, rfl, l_z13, u_z13, R_z13⟩, B_h12⟩ := q9
            have R2_z13 := T2_z13 z13 rfl l_z13 u_z13
            have A_h12 := A_h10.tr B_h12 (by decide)
            have M_bRg_h12 := M_bRg_h10.fr B_h12 (by decide)
            have : ys h12 2073 10 = ys h10 2073 10 := B_h12.ys H_2073 (by decide)
            have : ys h12 2073 11 = ys h10 2073 11 := B_h12.ys H_2073 (by decide)
            show yG _ _ _ _ _ _ _ _ _ _ (yJ z13 :: []) _
            refine yG.store2 xlk2 (L' := [(4, yJ (z13)), (0, yR 2073), (1, yI (p1)), (2, yI (a2)), (3, yI (a3))]) rfl (fun _ _ => rfl) rfl rfl ?_
            refine yG.num (c := 0) rfl (fun _ _ => rfl) (by decide) ?_
            refine yG.store1 xik (L' := [(6, yI (0)), (4, yJ (z13)), (0, yR 2073), (1, yI (p1)), (2, yI (a2)), (3, yI (a3))]) rfl (fun _ _ => rfl) rfl rfl ?_
            have jl9 := R2_z13
            rw [nn9, pq9] at jl9
            have sm8 : gSame h10 h12 := gSame.of B_h12 (by decide)
            have z9 := R_z11
            have ph9 : ys h12 2073 11 = ys h10 2073 11 := B_h12.ys H_2073 (by decide)
            have f29 : gF2 h12 p1 (a2 : Int).toNat a3 z13 := ⟨v9, h10, h12, hv9, by omega, jl9, sm8, fun r hr k hk => z9 r k (by omega) (by omega), fun _ _ _ _ => rfl, jl9.2.2 (fun r hr k hk => by rw [z9 r k (by omega) (by omega)]; omega)⟩
            have A9r : bAx G [(83076749736557242056487941267521536, 11), (85070591730234615865843651857942052864, 256)] hq h12 := A9q.tr B_h12 (by decide)
            exact yG.mono (yG.sub (i_72 (a2) (a3) (z13) (0) (ys h12 2073 10) (ys h12 2073 11) h12 A_h12 M_bRg_h12  rfl rfl (by omega) (by omega) (by omega) (by omega) (by omega) (by omega) (by omega) (by omega) (by omega) (by omega) (by omega) (by omega) (by omega) (by omega) (by omega) (by omega) ⟨X_29.1.cg (sm9.tr sm8) (fun e => by have : ys h12 2073 10 = ys hq 2073 10 := A9r.ys H_2073 (by decide); omega), X_29.2.1, (by have : ys h12 2073 38 = ys hq 2073 38 := A9r.ys H_2073 (by decide); omega), (by rw [ph9, pq9]; exact pv9), f29⟩ (by omega)) (ySub.cons rfl (ySub.cons rfl (ySub.cons rfl (ySub.cons rfl (ySub.cons rfl (ySub.cons rfl (ySub.nil)))))))) (by omega)
      · intro a2 a3 a4 a6 gg0 gg1 hq A_hq M_bRg_hq E_0 E_1 f0 f1 f2 f3 f4 f5 f6 f7 f8 f9 f10 f11 f12 f13 f14 f15 X_72 hm
        refine yG.mono (N := 27 * m + 27) ?_ (by omega)
        obtain ⟨-, -, g_0l, g_0u⟩ := (w_M_usedCount W H_2073).int A_hq.1
        obtain ⟨-, -, g_1l, g_1u⟩ := (w_M_p W H_2073).long A_hq.1
        have a29 := X_72.2.1
        have b29 := X_72.2.2.1
        refine yG.load xik rfl (fun _ _ => rfl) (v := yI (a6)) rfl rfl ?_
        refine yG.load xik rfl (fun _ _ => rfl) (v := yI (a2)) rfl rfl ?_
        refine yG.icmp rfl (t := 114) rfl ⟨by omega, by omega⟩ ⟨by omega, by omega⟩ (fun c1 => ?_) (fun c1 => ?_)
        · have c1 : (a6 : Int) ≥ a2 := c1
          refine yG.load xak rfl (fun _ _ => rfl) (v := yR 2073) rfl rfl ?_
          refine yG.load xik rfl (fun _ _ => rfl) (v := yI (a2)) rfl rfl ?_
          refine yG.load xik rfl (fun _ _ => rfl) (v := yI (a2)) rfl rfl ?_
          refine yG.num (c := 1) rfl (fun _ _ => rfl) (by decide) ?_
          refine yG.iadd rfl ?_
          refine yG.invV (rest := []) A_hq.1 (bOb (d_M W) H_2073) rfl rfl rfl rfl (c_GModel_solve_s W (d + 1) A_hq.1 H_2073 (a2) (a2 + 1) (by omega) (by omega) (by omega) (by omega) (by omega) (by omega) X_72.2.2.2.1 (by obtain ⟨v, hA, hB, g1, g2, g3, g4, g5, g6, g7⟩ := X_72.2.2.2.2; rw [g2, show (a2 + 1 : Int).toNat = (a2 : Int).toNat + 1 by omega]; exact g7) (by omega)) (fun rv h2 q9 => ?_)
          obtain ⟨⟨z3, rfl, l_z3, u_z3, R_z3⟩, B_h2⟩ := q9
          have A_h2 := A_hq.tr B_h2 (by decide)
          have M_bRg_h2 := M_bRg_hq.fr B_h2 (by decide)
          have : ys h2 2073 10 = ys hq 2073 10 := B_h2.ys H_2073 (by decide)
          have : ys h2 2073 11 = ys hq 2073 11 := B_h2.ys H_2073 (by decide)
          show yG _ _ _ _ _ _ _ _ _ _ (yJ z3 :: []) _
          refine yG.load xlk2 rfl (fun _ _ => rfl) (v := yJ (a4)) rfl rfl ?_
          refine yG.lmul rfl ?_
          obtain ⟨z4, e_z4⟩ : ∃ z : Int, z = z3 * a4 := ⟨_, rfl⟩
          rw [← e_z4]
          have b_z4 : 0 ≤ z4 ∧ z4 ≤ 4611686009837453316 := e_z4 ▸ ymulb (A := 2147483646) (B := 2147483646) (by omega) (by omega) (by omega) (by omega) (by decide)
          have b2_z4 : z4 ≤ 2147483646 * a4 := e_z4 ▸ bmulx (by omega) (by omega)
          have b3_z4 : z4 ≤ 2147483646 * z3 := e_z4 ▸ bmuly (by omega) (by omega)
          refine yG.load xak rfl (fun _ _ => rfl) (v := yR 2073) rfl rfl ?_
          refine yG.getJ A_h2.1 (w_M_p W H_2073) rfl rfl (fun z5 e_z5 i_z5 l_z5 u_z5 => ?_)
          rw [show (z5 : Int) = gg1 by omega]
          refine yG.lrem rfl ⟨by omega, by omega⟩ ⟨by omega, by omega⟩ (by omega) (by omega) ?_
          obtain ⟨z6, e_z6⟩ : ∃ z : Int, z = (z4) % (gg1) := ⟨_, rfl⟩
          rw [← e_z6]
          have b_z6 : 0 ≤ z6 ∧ z6 < gg1 := e_z6 ▸ ⟨Int.emod_nonneg _ (by omega), Int.emod_lt_of_pos _ (by omega)⟩
          refine yG.store2 xlk2 (L' := [(6, yJ (z6)), (0, yR 2073), (1, yI (p1)), (2, yI (a2)), (3, yI (a3)), (4, yJ (a4))]) rfl (fun _ _ => rfl) rfl rfl ?_
          refine yG.load xlk2 rfl (fun _ _ => rfl) (v := yJ (z6)) rfl rfl ?_
          refine yG.numl (c := 0) rfl (fun _ _ => rfl) (by decide) ?_
          refine yG.lcmp rfl ⟨by omega, by omega⟩ ⟨by omega, by omega⟩ (fun z7 e_z7 => ?_)
          refine yG.ifz rfl (t := 202) rfl ⟨by omega, by omega⟩ (fun c8 => ?_) (fun c8 => ?_)
          · have c8 : (z7 : Int) = 0 := c8
            refine yG.iinc rfl (a := a3) rfl (L' := [(3, yI (a3 + 1)), (6, yJ (z6)), (0, yR 2073), (1, yI (p1)), (2, yI (a2)), (4, yJ (a4))]) rfl ?_
            refine yG.goto rfl (t := 29) rfl ?_
            have rs0 := R_z3.2
            have rs9 := rs0.1
            have rs8 := rs0.2
            have dz9 : ys hq 2073 11 ∣ z3 * a4 := by rw [show ys hq 2073 11 = gg1 by omega]; exact mdv_0 (show gg1 ∣ z6 - z3 * a4 from by rw [show z3 * a4 = z4 by rw [e_z4]]; exact mdv_mod (by omega) e_z6) (by omega)
            have kd9 := ((v_M_count W (s_M_count W)).int A_hq.1 (j := 2) (by decide) rfl).2.2
            have sg9 := X_72.2.2.2.2.fin (z := z3) kd9 X_72.2.2.2.1 dz9 (by omega) (by omega) (by rw [show (a2 : Int).toNat + 1 = (a2 + 1 : Int).toNat by omega]; exact rs9)
            have sm9 : gSame hq h2 := gSame.of B_h2 (by decide)
            exact yG.mono (yG.sub (i_29 (a2) (a3 + 1) (ys h2 2073 10) (ys h2 2073 11) h2 A_h2 M_bRg_h2  rfl rfl (by omega) (by omega) (by omega) (by omega) (by omega) (by omega) (by omega) (by omega) (by omega) (by omega) (by omega) (by omega) (by omega) (by omega) ⟨(X_72.1.next (by omega) sg9).cg sm9 (fun e => by have : ys h2 2073 10 = ys hq 2073 10 := B_h2.ys H_2073 (by decide); omega), X_72.2.1, (by have : ys h2 2073 38 = ys hq 2073 38 := B_h2.ys H_2073 (by decide); omega)⟩ (by omega)) (ySub.cons rfl (ySub.cons rfl (ySub.cons rfl (ySub.cons rfl (ySub.nil)))))) (by omega)
          · have c8 : (z7 : Int) ≠ 0 := c8
            refine yG.load xak rfl (fun _ _ => rfl) (v := yR 2073) rfl rfl ?_
            refine yG.num (c := 0) rfl (fun _ _ => rfl) (by decide) ?_
            refine yG.load xlk2 rfl (fun _ _ => rfl) (v := yJ (z6)) rfl rfl ?_
            refine yG.invV (rest := []) A_h2.1 (bOb (d_M W) H_2073) rfl rfl rfl rfl (c_GModel_tell W (d + 4) A_h2.1 H_2073 (0) (z6) (by omega) (by omega) (by omega) (by omega) (by omega) (by omega)) (fun rv h9 q9 => ?_)
            obtain ⟨⟨rfl, R_z10⟩, B_h9⟩ := q9
            have A_h9 := A_h2.tr B_h9 (by decide)
            have M_bRg_h9 := M_bRg_h2.fr B_h9 (by decide)
            have : ys h9 2073 10 = ys h2 2073 10 := B_h9.ys H_2073 (by decide)
            have : ys h9 2073 11 = ys h2 2073 11 := B_h9.ys H_2073 (by decide)
            show yG _ _ _ _ _ _ _ _ _ _ [] _
            refine yG.num (c := 0) rfl (fun _ _ => rfl) (by decide) ?_
            refine yG.store1 xik (L' := [(8, yI (0)), (6, yJ (z6)), (0, yR 2073), (1, yI (p1)), (2, yI (a2)), (3, yI (a3)), (4, yJ (a4))]) rfl (fun _ _ => rfl) rfl rfl ?_
            have A9t : bAx G [(106338239662793269832304564822427566080, 256)] hq h9 := (((bAx.rf A_hq.1 : bAx G [(106338239662793269832304564822427566080, 256)] hq hq).tr B_h2 (by decide)).tr B_h9 (by decide))
            have sm9 : gSame hq h9 := gSame.of A9t (by decide)
            exact yG.mono (yG.sub (i_149 (a2) (a3) (z6) (0) (ys h9 2073 10) (ys h9 2073 11) h9 A_h9 M_bRg_h9  rfl rfl (by omega) (by omega) (by omega) (by omega) (by omega) (by omega) (by omega) (by omega) (by omega) (by omega) (by omega) (by omega) (by omega) (by omega) (by omega) (by omega) (by omega) ⟨sm9.ls X_72.1.1, X_72.2.1, (by have : ys h9 2073 38 = ys hq 2073 38 := A9t.ys H_2073 (by decide); omega)⟩ (by omega)) (ySub.cons rfl (ySub.cons rfl (ySub.cons rfl (ySub.cons rfl (ySub.cons rfl (ySub.cons rfl (ySub.nil)))))))) (by omega)
        · have c1 : (a6 : Int) < a2 := c1
          refine yG.load xak rfl (fun _ _ => rfl) (v := yR 2073) rfl rfl ?_
          refine yG.getO A_hq.1 (w_M_matrix W H_2073) rfl rfl (fun r11 H_r11 O_r11 q_r11 => ?_)
          obtain rfl := u_M_matrix W H_r11
          refine yG.num (c := 48) rfl (fun _ _ => rfl) (by decide) ?_
          refine yG.load xik rfl (fun _ _ => rfl) (v := yI (a6)) rfl rfl ?_
          refine yG.imul rfl ?_
          refine yG.load xik rfl (fun _ _ => rfl) (v := yI (a2)) rfl rfl ?_
          refine yG.iadd rfl ?_
          refine yG.load xak rfl (fun _ _ => rfl) (v := yR 2073) rfl rfl ?_
          refine yG.load xak rfl (fun _ _ => rfl) (v := yR 2073) rfl rfl ?_
          refine yG.getO A_hq.1 (w_M_putIn W H_2073) rfl rfl (fun r12 H_r12 O_r12 q_r12 => ?_)
          obtain rfl := u_M_putIn W H_r12
          refine yG.load xak rfl (fun _ _ => rfl) (v := yR 2073) rfl rfl ?_
          refine yG.getO A_hq.1 (w_M_nodeAt W H_2073) rfl rfl (fun r13 H_r13 O_r13 q_r13 => ?_)
          obtain rfl := u_M_nodeAt W H_r13
          refine yG.load xik rfl (fun _ _ => rfl) (v := yI (a6)) rfl rfl ?_
          refine yG.num (c := 1) rfl (fun _ _ => rfl) (by decide) ?_
          refine yG.iadd rfl ?_
          refine yG.iald A_hq.1 (v_M_nodeAt W H_r13) rfl (by omega) (by omega) (fun z14 e_z14 i_z14 l_z14 u_z14 => ?_)
          refine yG.lald A_hq.1 (v_M_putIn W H_r12) rfl (by omega) (by omega) (fun z15 e_z15 i_z15 l_z15 u_z15 => ?_)
          refine yG.invV (rest := [yI ((48 * a6) + a2), yR 2083]) A_hq.1 (bOb (d_M W) H_2073) rfl rfl rfl rfl (c_GModel_mod_s W (d + 4) A_hq.1 H_2073 (z15) (by omega) (by omega) (by omega) (by omega)) (fun rv hp9 q9 => ?_)
          obtain ⟨⟨z16, rfl, l_z16, u_z16, R_z16⟩, e9⟩ := q9
          rw [e9]
          show yG _ _ _ _ _ _ _ _ _ _ (yJ z16 :: [yI ((48 * a6) + a2), yR 2083]) _
          refine yG.last A_hq.1 (v_M_matrix W H_r11) (W.2.1 _ _ H_r11 (by decide) (by decide)) rfl (by omega) (by omega) ⟨by omega, by omega⟩ (by omega) (by omega) (fun h17 T_h17 b_h17 f_h17 y_h17 => ?_)
          have M_bRg_h17 := M_bRg_hq.fr (bAx.put (Wl := [(85070591730234615865843651857942052864, 256)]) (bAx.rf A_hq.1) T_h17 b_h17 f_h17 H_r11 (bAll_ok (by decide) _)) (by decide)
          have A_h17 := A_hq.put T_h17 b_h17 f_h17 H_r11 (bAll_ok (by decide) _)
          have : ys h17 2073 10 = ys hq 2073 10 := (y_h17 2073 10).trans (if_neg (fun e => (bRo.ne H_2073 H_r11 (by decide)) e.1))
          have : ys h17 2073 11 = ys hq 2073 11 := (y_h17 2073 11).trans (if_neg (fun e => (bRo.ne H_2073 H_r11 (by decide)) e.1))
          refine yG.iinc rfl (a := a6) rfl (L' := [(6, yI (a6 + 1)), (0, yR 2073), (1, yI (p1)), (2, yI (a2)), (3, yI (a3)), (4, yJ (a4))]) rfl ?_
          refine yG.goto rfl (t := 72) rfl ?_
          have A9s : bAx G [(85070591730234615865843651857942052864, 256)] hq h17 := bAx.put (Wl := [(85070591730234615865843651857942052864, 256)]) (bAx.rf A_hq.1) T_h17 b_h17 f_h17 (s_M_matrix W) (bAll_ok (by decide) _)
          have sm9 : gSame hq h17 := gSame.of A9s (by decide)
          have ph9 : ys h17 2073 11 = ys hq 2073 11 := A9s.ys H_2073 (by decide)
          exact yG.mono (yG.sub (i_72 (a2) (a3) (a4) (a6 + 1) (ys h17 2073 10) (ys h17 2073 11) h17 A_h17 M_bRg_h17  rfl rfl (by omega) (by omega) (by omega) (by omega) (by omega) (by omega) (by omega) (by omega) (by omega) (by omega) (by omega) (by omega) (by omega) (by omega) (by omega) (by omega) ⟨X_72.1.cg sm9 (fun e => by have : ys h17 2073 10 = ys hq 2073 10 := A9s.ys H_2073 (by decide); omega), X_72.2.1, (by have : ys h17 2073 38 = ys hq 2073 38 := A9s.ys H_2073 (by decide); omega), (by rw [ph9]; exact X_72.2.2.2.1), X_72.2.2.2.2.put (r := (a6 : Int).toNat) (by omega) (by omega) y_h17 (by omega) (by omega) (by omega)⟩ (by omega)) (ySub.cons rfl (ySub.cons rfl (ySub.cons rfl (ySub.cons rfl (ySub.cons rfl (ySub.cons rfl (ySub.nil)))))))) (by omega)
      · intro a2 a3 a6 a8 gg0 gg1 hq A_hq M_bRg_hq E_0 E_1 f0 f1 f2 f3 f4 f5 f6 f7 f8 f9 f10 f11 f12 f13 f14 f15 f16 X_149 hm
        refine yG.mono (N := 27 * m + 27) ?_ (by omega)
        obtain ⟨-, -, g_0l, g_0u⟩ := (w_M_usedCount W H_2073).int A_hq.1
        obtain ⟨-, -, g_1l, g_1u⟩ := (w_M_p W H_2073).long A_hq.1
        have a29 := X_149.2.1
        have b29 := X_149.2.2
        refine yG.load xik rfl (fun _ _ => rfl) (v := yI (a8)) rfl rfl ?_
        refine yG.load xik rfl (fun _ _ => rfl) (v := yI (a2)) rfl rfl ?_
        refine yG.icmp rfl (t := 189) rfl ⟨by omega, by omega⟩ ⟨by omega, by omega⟩ (fun c1 => ?_) (fun c1 => ?_)
        · have c1 : (a8 : Int) ≥ a2 := c1
          refine yG.load xak rfl (fun _ _ => rfl) (v := yR 2073) rfl rfl ?_
          refine yG.load xik rfl (fun _ _ => rfl) (v := yI (p1)) rfl rfl ?_
          refine yG.load xik rfl (fun _ _ => rfl) (v := yI (a2)) rfl rfl ?_
          refine yG.load xlk2 rfl (fun _ _ => rfl) (v := yJ (a6)) rfl rfl ?_
          refine yG.invV (rest := []) A_hq.1 (bOb (d_M W) H_2073) rfl rfl rfl rfl (c_GModel_tellLines W d A_hq.1 H_2073 (p1) (a2) (a6) (by omega) (by omega) (by omega) (by omega) (by omega) (by omega) (by omega) (by omega) (by omega) (by omega)) (fun rv h2 q9 => ?_)
          obtain ⟨⟨rfl, R_z3⟩, B_h2⟩ := q9
          have A_h2 := A_hq.tr B_h2 (by decide)
          have M_bRg_h2 := M_bRg_hq.fr B_h2 (by decide)
          have : ys h2 2073 10 = ys hq 2073 10 := B_h2.ys H_2073 (by decide)
          have : ys h2 2073 11 = ys hq 2073 11 := B_h2.ys H_2073 (by decide)
          show yG _ _ _ _ _ _ _ _ _ _ [] _
          refine yG.load xak rfl (fun _ _ => rfl) (v := yR 2073) rfl rfl ?_
          refine yG.load xik rfl (fun _ _ => rfl) (v := yI (a3)) rfl rfl ?_
          refine yG.invV (rest := []) A_h2.1 (bOb (d_M W) H_2073) rfl rfl rfl rfl (c_GModel_usePrime_r W (d + 4) A_h2.1 H_2073 (a3) (by omega) (by omega) (by omega) (by omega)) (fun rv h4 q9 => ?_)
          obtain ⟨q9, pr0_z5⟩ := q9
          obtain ⟨⟨rfl, R_z5⟩, B_h4⟩ := q9
          have A_h4 := A_h2.tr B_h4 (by decide)
          have M_bRg_h4 := M_bRg_h2.fr B_h4 (by decide)
          have : ys h4 2073 11 = ys h2 2073 11 := B_h4.ys H_2073 (by decide)
          show yG _ _ _ _ _ _ _ _ _ _ [] _
          refine yG.iinc rfl (a := a3) rfl (L' := [(3, yI (a3 + 1)), (0, yR 2073), (1, yI (p1)), (2, yI (a2)), (6, yJ (a6)), (8, yI (a8))]) rfl ?_
          refine yG.goto rfl (t := 29) rfl ?_
          have A9u : bAx G [(83076749736557242056487941267521536, 10), (63802943797675961899382738893456539648, 256)] hq h4 := (((bAx.rf A_hq.1 : bAx G [(83076749736557242056487941267521536, 10), (63802943797675961899382738893456539648, 256)] hq hq).tr B_h2 (by decide)).tr B_h4 (by decide))
          have sm9 : gSame hq h4 := gSame.of A9u (by decide)
          exact yG.mono (yG.sub (i_29 (a2) (a3 + 1) (ys h4 2073 10) (ys h4 2073 11) h4 A_h4 M_bRg_h4  rfl rfl (by omega) (by omega) (by omega) (by omega) (by omega) (by omega) (by omega) (by omega) (by omega) (by omega) (by omega) (by omega) (by omega) (by omega) ⟨⟨sm9.ls X_149.1, fun e => by exfalso; omega⟩, X_149.2.1, (by have : ys h4 2073 38 = ys hq 2073 38 := A9u.ys H_2073 (by decide); omega)⟩ (by omega)) (ySub.cons rfl (ySub.cons rfl (ySub.cons rfl (ySub.cons rfl (ySub.nil)))))) (by omega)
        · have c1 : (a8 : Int) < a2 := c1
          refine yG.load xak rfl (fun _ _ => rfl) (v := yR 2073) rfl rfl ?_
          refine yG.num (c := 1) rfl (fun _ _ => rfl) (by decide) ?_
          refine yG.load xik rfl (fun _ _ => rfl) (v := yI (a8)) rfl rfl ?_
          refine yG.iadd rfl ?_
          refine yG.load xak rfl (fun _ _ => rfl) (v := yR 2073) rfl rfl ?_
          refine yG.getO A_hq.1 (w_M_matrix W H_2073) rfl rfl (fun r6 H_r6 O_r6 q_r6 => ?_)
          obtain rfl := u_M_matrix W H_r6
          refine yG.num (c := 48) rfl (fun _ _ => rfl) (by decide) ?_
          refine yG.load xik rfl (fun _ _ => rfl) (v := yI (a8)) rfl rfl ?_
          refine yG.imul rfl ?_
          refine yG.load xik rfl (fun _ _ => rfl) (v := yI (a2)) rfl rfl ?_
          refine yG.iadd rfl ?_
          refine yG.lald A_hq.1 (v_M_matrix W H_r6) rfl (by omega) (by omega) (fun z7 e_z7 i_z7 l_z7 u_z7 => ?_)
          refine yG.load xlk2 rfl (fun _ _ => rfl) (v := yJ (a6)) rfl rfl ?_
          refine yG.lmul rfl ?_
          obtain ⟨z8, e_z8⟩ : ∃ z : Int, z = z7 * a6 := ⟨_, rfl⟩
          rw [← e_z8]
          have b_z8 : 0 ≤ z8 ∧ z8 ≤ 4611686011984936962 := e_z8 ▸ ymulb (A := 2147483647) (B := 2147483646) (by omega) (by omega) (by omega) (by omega) (by decide)
          have b2_z8 : z8 ≤ 2147483647 * a6 := e_z8 ▸ bmulx (by omega) (by omega)
          have b3_z8 : z8 ≤ 2147483646 * z7 := e_z8 ▸ bmuly (by omega) (by omega)
          refine yG.load xak rfl (fun _ _ => rfl) (v := yR 2073) rfl rfl ?_
          refine yG.getJ A_hq.1 (w_M_p W H_2073) rfl rfl (fun z9 e_z9 i_z9 l_z9 u_z9 => ?_)
          rw [show (z9 : Int) = gg1 by omega]
          refine yG.lrem rfl ⟨by omega, by omega⟩ ⟨by omega, by omega⟩ (by omega) (by omega) ?_
          obtain ⟨z10, e_z10⟩ : ∃ z : Int, z = (z8) % (gg1) := ⟨_, rfl⟩
          rw [← e_z10]
          have b_z10 : 0 ≤ z10 ∧ z10 < gg1 := e_z10 ▸ ⟨Int.emod_nonneg _ (by omega), Int.emod_lt_of_pos _ (by omega)⟩
          refine yG.invV (rest := []) A_hq.1 (bOb (d_M W) H_2073) rfl rfl rfl rfl (c_GModel_tell W (d + 4) A_hq.1 H_2073 (1 + a8) (z10) (by omega) (by omega) (by omega) (by omega) (by omega) (by omega)) (fun rv h11 q9 => ?_)
          obtain ⟨⟨rfl, R_z12⟩, B_h11⟩ := q9
          have A_h11 := A_hq.tr B_h11 (by decide)
          have M_bRg_h11 := M_bRg_hq.fr B_h11 (by decide)
          have : ys h11 2073 10 = ys hq 2073 10 := B_h11.ys H_2073 (by decide)
          have : ys h11 2073 11 = ys hq 2073 11 := B_h11.ys H_2073 (by decide)
          show yG _ _ _ _ _ _ _ _ _ _ [] _
          refine yG.iinc rfl (a := a8) rfl (L' := [(8, yI (a8 + 1)), (0, yR 2073), (1, yI (p1)), (2, yI (a2)), (3, yI (a3)), (6, yJ (a6))]) rfl ?_
          refine yG.goto rfl (t := 149) rfl ?_
          have A9t : bAx G [(106338239662793269832304564822427566080, 256)] hq h11 := ((bAx.rf A_hq.1 : bAx G [(106338239662793269832304564822427566080, 256)] hq hq).tr B_h11 (by decide))
          have sm9 : gSame hq h11 := gSame.of A9t (by decide)
          exact yG.mono (yG.sub (i_149 (a2) (a3) (a6) (a8 + 1) (ys h11 2073 10) (ys h11 2073 11) h11 A_h11 M_bRg_h11  rfl rfl (by omega) (by omega) (by omega) (by omega) (by omega) (by omega) (by omega) (by omega) (by omega) (by omega) (by omega) (by omega) (by omega) (by omega) (by omega) (by omega) (by omega) ⟨sm9.ls X_149.1, X_149.2.1, (by have : ys h11 2073 38 = ys hq 2073 38 := A9t.ys H_2073 (by decide); omega)⟩ (by omega)) (ySub.cons rfl (ySub.cons rfl (ySub.cons rfl (ySub.cons rfl (ySub.cons rfl (ySub.cons rfl (ySub.nil)))))))) (by omega)
      · intro a2 a3 gg0 gg1 hq A_hq M_bRg_hq E_0 E_1 f0 f1 f2 f3 f4 f5 f6 f7 f8 f9 f10 hm
        refine yG.mono (N := 27 * m + 27) ?_ (by omega)
        obtain ⟨-, -, g_0l, g_0u⟩ := (w_M_usedCount W H_2073).int A_hq.1
        obtain ⟨-, -, g_1l, g_1u⟩ := (w_M_p W H_2073).long A_hq.1
        refine yG.load xik rfl (fun _ _ => rfl) (v := yI (a3)) rfl rfl ?_
        refine yG.load xik rfl (fun _ _ => rfl) (v := yI (a2)) rfl rfl ?_
        refine yG.icmp rfl (t := 247) rfl ⟨by omega, by omega⟩ ⟨by omega, by omega⟩ (fun c1 => ?_) (fun c1 => ?_)
        · have c1 : (a3 : Int) ≥ a2 := c1
          refine yG.num (c := 0) rfl (fun _ _ => rfl) (by decide) ?_
          refine yG.store1 xik (L' := [(3, yI (0)), (0, yR 2073), (1, yI (p1)), (2, yI (a2))]) rfl (fun _ _ => rfl) rfl rfl ?_
          exact yG.mono (yG.sub (i_249 (0) (ys hq 2073 10) (ys hq 2073 11) hq A_hq M_bRg_hq  rfl rfl (by omega) (by omega) (by omega) (by omega) (by omega) (by omega) (by omega) (by omega) (by omega)) (ySub.cons rfl (ySub.cons rfl (ySub.cons rfl (ySub.nil))))) (by omega)
        · have c1 : (a3 : Int) < a2 := c1
          refine yG.load xak rfl (fun _ _ => rfl) (v := yR 2073) rfl rfl ?_
          refine yG.num (c := 16) rfl (fun _ _ => rfl) (by decide) ?_
          refine yG.load xak rfl (fun _ _ => rfl) (v := yR 2073) rfl rfl ?_
          refine yG.getO A_hq.1 (w_M_nodeAt W H_2073) rfl rfl (fun r2 H_r2 O_r2 q_r2 => ?_)
          obtain rfl := u_M_nodeAt W H_r2
          refine yG.load xik rfl (fun _ _ => rfl) (v := yI (a3)) rfl rfl ?_
          refine yG.num (c := 1) rfl (fun _ _ => rfl) (by decide) ?_
          refine yG.iadd rfl ?_
          refine yG.iald A_hq.1 (v_M_nodeAt W H_r2) rfl (by omega) (by omega) (fun z3 e_z3 i_z3 l_z3 u_z3 => ?_)
          refine yG.iadd rfl ?_
          refine yG.num (c := 1) rfl (fun _ _ => rfl) (by decide) ?_
          refine yG.load xik rfl (fun _ _ => rfl) (v := yI (a3)) rfl rfl ?_
          refine yG.iadd rfl ?_
          refine yG.invV (rest := []) A_hq.1 (bOb (d_M W) H_2073) rfl rfl rfl rfl (c_GModel_fromResidues_F W (d + 2) A_hq.1 M_bRg_hq H_2073 (16 + z3) (1 + a3) (by omega) (by omega) (by omega) (by omega) (by omega) (by omega)) (fun rv h4 q9 => ?_)
          obtain ⟨q9, M_bRg_h4⟩ := q9
          obtain ⟨⟨rfl, R_z5⟩, B_h4⟩ := q9
          have A_h4 := A_hq.tr B_h4 (by decide)
          have : ys h4 2073 10 = ys hq 2073 10 := B_h4.ys H_2073 (by decide)
          have : ys h4 2073 11 = ys hq 2073 11 := B_h4.ys H_2073 (by decide)
          show yG _ _ _ _ _ _ _ _ _ _ [] _
          refine yG.iinc rfl (a := a3) rfl (L' := [(3, yI (a3 + 1)), (0, yR 2073), (1, yI (p1)), (2, yI (a2))]) rfl ?_
          refine yG.goto rfl (t := 218) rfl ?_
          exact yG.mono (yG.sub (i_218 (a2) (a3 + 1) (ys h4 2073 10) (ys h4 2073 11) h4 A_h4 M_bRg_h4  rfl rfl (by omega) (by omega) (by omega) (by omega) (by omega) (by omega) (by omega) (by omega) (by omega) (by omega) (by omega) (by omega)) (ySub.cons rfl (ySub.cons rfl (ySub.cons rfl (ySub.cons rfl (ySub.nil)))))) (by omega)
      · intro a3 gg0 gg1 hq A_hq M_bRg_hq E_0 E_1 f0 f1 f2 f3 f4 f5 f6 f7 hm
        refine yG.mono (N := 27 * m + 27) ?_ (by omega)
        obtain ⟨-, -, g_0l, g_0u⟩ := (w_M_usedCount W H_2073).int A_hq.1
        obtain ⟨-, -, g_1l, g_1u⟩ := (w_M_p W H_2073).long A_hq.1
        refine yG.load xik rfl (fun _ _ => rfl) (v := yI (a3)) rfl rfl ?_
        refine yG.load xak rfl (fun _ _ => rfl) (v := yR 2073) rfl rfl ?_
        refine yG.getO A_hq.1 (w_M_count W H_2073) rfl rfl (fun r1 H_r1 O_r1 q_r1 => ?_)
        obtain rfl := u_M_count W H_r1
        refine yG.num (c := 2) rfl (fun _ _ => rfl) (by decide) ?_
        refine yG.ialdF A_hq.1 (v_M_count W H_r1) rfl rfl (by omega) (by omega) (fun z2 e_z2 i_z2 l_z2 u_z2 => ?_)
        refine yG.icmp rfl (t := 294) rfl ⟨by omega, by omega⟩ ⟨by omega, by omega⟩ (fun c3 => ?_) (fun c3 => ?_)
        · have c3 : (a3 : Int) ≥ z2 := c3
          refine yG.ret rfl (fun _ _ => rfl) ?_
          exact (yP.void ⟨⟨⟨rfl, trivial⟩, A_hq⟩, M_bRg_hq⟩)
        · have c3 : (a3 : Int) < z2 := c3
          refine yG.load xak rfl (fun _ _ => rfl) (v := yR 2073) rfl rfl ?_
          refine yG.load xik rfl (fun _ _ => rfl) (v := yI (a3)) rfl rfl ?_
          refine yG.invV (rest := []) A_hq.1 (bOb (d_M W) H_2073) rfl rfl rfl rfl (c_GModel_islandOfLine_s W (d + 2) A_hq.1 H_2073 (a3) (by omega) (by omega)) (fun rv hp9 q9 => ?_)
          obtain ⟨⟨z4, rfl, l_z4, u_z4, R_z4⟩, e9⟩ := q9
          rw [e9]
          show yG _ _ _ _ _ _ _ _ _ _ (yI z4 :: []) _
          refine yG.load xik rfl (fun _ _ => rfl) (v := yI (p1)) rfl rfl ?_
          refine yG.icmp rfl (t := 288) rfl ⟨by omega, by omega⟩ ⟨by omega, by omega⟩ (fun c5 => ?_) (fun c5 => ?_)
          · have c5 : (z4 : Int) ≠ p1 := c5
            refine yG.iinc rfl (a := a3) rfl (L' := [(3, yI (a3 + 1)), (0, yR 2073), (1, yI (p1))]) rfl ?_
            refine yG.goto rfl (t := 249) rfl ?_
            exact yG.mono (yG.sub (i_249 (a3 + 1) (ys hq 2073 10) (ys hq 2073 11) hq A_hq M_bRg_hq  rfl rfl (by omega) (by omega) (by omega) (by omega) (by omega) (by omega) (by omega) (by omega) (by omega)) (ySub.cons rfl (ySub.cons rfl (ySub.cons rfl (ySub.nil))))) (by omega)
          · have c5 : (z4 : Int) = p1 := c5
            refine yG.load xak rfl (fun _ _ => rfl) (v := yR 2073) rfl rfl ?_
            refine yG.load xik rfl (fun _ _ => rfl) (v := yI (a3)) rfl rfl ?_
            refine yG.invV (rest := []) A_hq.1 (bOb (d_M W) H_2073) rfl rfl rfl rfl (c_GModel_isBetween_s W (d + 1) A_hq.1 H_2073 (a3) (by omega) (by omega)) (fun rv hp9 q9 => ?_)
            obtain ⟨⟨z6, rfl, l_z6, u_z6, R_z6⟩, e9⟩ := q9
            rw [e9]
            show yG _ _ _ _ _ _ _ _ _ _ (yI z6 :: []) _
            refine yG.ifz rfl (t := 288) rfl ⟨by omega, by omega⟩ (fun c7 => ?_) (fun c7 => ?_)
            · have c7 : (z6 : Int) = 0 := c7
              refine yG.iinc rfl (a := a3) rfl (L' := [(3, yI (a3 + 1)), (0, yR 2073), (1, yI (p1))]) rfl ?_
              refine yG.goto rfl (t := 249) rfl ?_
              exact yG.mono (yG.sub (i_249 (a3 + 1) (ys hq 2073 10) (ys hq 2073 11) hq A_hq M_bRg_hq  rfl rfl (by omega) (by omega) (by omega) (by omega) (by omega) (by omega) (by omega) (by omega) (by omega)) (ySub.cons rfl (ySub.cons rfl (ySub.cons rfl (ySub.nil))))) (by omega)
            · have c7 : (z6 : Int) ≠ 0 := c7
              refine yG.load xak rfl (fun _ _ => rfl) (v := yR 2073) rfl rfl ?_
              refine yG.num (c := 32) rfl (fun _ _ => rfl) (by decide) ?_
              refine yG.load xik rfl (fun _ _ => rfl) (v := yI (a3)) rfl rfl ?_
              refine yG.iadd rfl ?_
              refine yG.num (c := 20) rfl (fun _ _ => rfl) (by decide) ?_
              refine yG.load xik rfl (fun _ _ => rfl) (v := yI (a3)) rfl rfl ?_
              refine yG.iadd rfl ?_
              refine yG.invV (rest := []) A_hq.1 (bOb (d_M W) H_2073) rfl rfl rfl rfl (c_GModel_fromResidues_F W (d + 2) A_hq.1 M_bRg_hq H_2073 (32 + a3) (20 + a3) (by omega) (by omega) (by omega) (by omega) (by omega) (by omega)) (fun rv h8 q9 => ?_)
              obtain ⟨q9, M_bRg_h8⟩ := q9
              obtain ⟨⟨rfl, R_z9⟩, B_h8⟩ := q9
              have A_h8 := A_hq.tr B_h8 (by decide)
              have : ys h8 2073 10 = ys hq 2073 10 := B_h8.ys H_2073 (by decide)
              have : ys h8 2073 11 = ys hq 2073 11 := B_h8.ys H_2073 (by decide)
              show yG _ _ _ _ _ _ _ _ _ _ [] _
              refine yG.iinc rfl (a := a3) rfl (L' := [(3, yI (a3 + 1)), (0, yR 2073), (1, yI (p1))]) rfl ?_
              refine yG.goto rfl (t := 249) rfl ?_
              exact yG.mono (yG.sub (i_249 (a3 + 1) (ys h8 2073 10) (ys h8 2073 11) h8 A_h8 M_bRg_h8  rfl rfl (by omega) (by omega) (by omega) (by omega) (by omega) (by omega) (by omega) (by omega) (by omega)) (ySub.cons rfl (ySub.cons rfl (ySub.cons rfl (ySub.nil))))) (by omega)
  refine yC.of (M := (xt_X13_flowsOf, (9, (0, (14, []))))) rfl rfl (N := 762777) (yfuel (by decide)) ?_
  show yG 89 xfts (xcall 89 xfts xpools xms (d + 5)) (xpool xp_RX13) [] xt_X13_flowsOf (yP 0 (fun rv hp' => (fun rv hp' => (rv = none ∧ True) ∧ bAx G [(83076749736557242056487941267521536, 10), (83076749736557242056487941267521536, 11), (83076749736557242056487941267521536, 38), (5976600053322420423396921476331392432835919872, 256)] hp hp') rv hp' ∧ bRg G hp')) 762777 0 [(0, yR 2073), (1, yI (p1))] [] hp
  obtain ⟨i_29, i_72, i_149, i_218, i_249⟩ := H 28250
  obtain ⟨gg0, E_0⟩ : ∃ z : Int, ys hp 2073 10 = z := ⟨_, rfl⟩
  obtain ⟨-, -, g_0l, g_0u⟩ := (w_M_usedCount W H_2073).int hT
  obtain ⟨gg1, E_1⟩ : ∃ z : Int, ys hp 2073 11 = z := ⟨_, rfl⟩
  obtain ⟨-, -, g_1l, g_1u⟩ := (w_M_p W H_2073).long hT
  refine yG.load xak rfl (fun _ _ => rfl) (v := yR 2073) rfl rfl ?_
  refine yG.load xik rfl (fun _ _ => rfl) (v := yI (p1)) rfl rfl ?_
  refine yG.invV (rest := []) A_hp.1 (bOb (d_M W) H_2073) rfl rfl rfl rfl (c_GModel_listNodes_s W (d + 4) A_hp.1 H_2073 (p1) (by omega) (by omega)) (fun rv h1 q9 => ?_)
  obtain ⟨⟨rfl, R_z2⟩, B_h1⟩ := q9
  have A_h1 := A_hp.tr B_h1 (by decide)
  have M_bRg_h1 := M_bRg_hp.fr B_h1 (by decide)
  have : ys h1 2073 10 = ys hp 2073 10 := B_h1.ys H_2073 (by decide)
  have : ys h1 2073 11 = ys hp 2073 11 := B_h1.ys H_2073 (by decide)
  show yG _ _ _ _ _ _ _ _ _ _ [] _
  refine yG.load xak rfl (fun _ _ => rfl) (v := yR 2073) rfl rfl ?_
  refine yG.getI A_h1.1 (w_M_nodes W H_2073) rfl rfl (fun z3 e_z3 i_z3 l_z3 u_z3 => ?_)
  refine yG.num (c := 1) rfl (fun _ _ => rfl) (by decide) ?_
  refine yG.isub rfl ?_
  obtain ⟨z4, e_z4⟩ : ∃ z : Int, z = z3 - 1 := ⟨_, rfl⟩
  rw [← e_z4]
  refine yG.store1 xik (L' := [(2, yI (z4)), (0, yR 2073), (1, yI (p1))]) rfl (fun _ _ => rfl) rfl rfl ?_
  refine yG.load xik rfl (fun _ _ => rfl) (v := yI (z4)) rfl rfl ?_
  refine yG.ifz rfl (t := 17) rfl ⟨by omega, by omega⟩ (fun c5 => ?_) (fun c5 => ?_)
  · have c5 : (z4 : Int) ≠ 0 := c5
    refine yG.load xak rfl (fun _ _ => rfl) (v := yR 2073) rfl rfl ?_
    refine yG.load xik rfl (fun _ _ => rfl) (v := yI (p1)) rfl rfl ?_
    refine yG.invV (rest := []) A_h1.1 (bOb (d_M W) H_2073) rfl rfl rfl rfl (c_GModel_putAllIn W (d + 2) A_h1.1 H_2073 (p1) (by omega) (by omega)) (fun rv h6 q9 => ?_)
    obtain ⟨⟨rfl, R_z7⟩, B_h6⟩ := q9
    have A_h6 := A_h1.tr B_h6 (by decide)
    have M_bRg_h6 := M_bRg_h1.fr B_h6 (by decide)
    have : ys h6 2073 10 = ys h1 2073 10 := B_h6.ys H_2073 (by decide)
    have : ys h6 2073 11 = ys h1 2073 11 := B_h6.ys H_2073 (by decide)
    show yG _ _ _ _ _ _ _ _ _ _ [] _
    refine yG.load xak rfl (fun _ _ => rfl) (v := yR 2073) rfl rfl ?_
    refine yG.num (c := 0) rfl (fun _ _ => rfl) (by decide) ?_
    refine yG.putI A_h6.1 (w_M_usedCount W H_2073) (W.2.1 _ _ H_2073 (by decide) (by decide)) rfl rfl (.inl rfl) ⟨by omega, by omega⟩ (by omega) (by omega) (fun h8 T_h8 b_h8 f_h8 y_h8 => ?_)
    have M_bRg_h8 := M_bRg_h6.fr (bAx.put (Wl := [(83076749736557242056487941267521536, 10)]) (bAx.rf A_h6.1) T_h8 b_h8 f_h8 H_2073 (by decide)) (by decide)
    have A_h8 := A_h6.put T_h8 b_h8 f_h8 H_2073 (by decide)
    have : ys h8 2073 11 = ys h6 2073 11 := (y_h8 2073 11).trans (if_neg (fun e => absurd e.2 (by decide)))
    have : ys h8 2073 10 = 0 := (y_h8 2073 10).trans (if_pos ⟨rfl, rfl⟩)
    refine yG.num (c := 0) rfl (fun _ _ => rfl) (by decide) ?_
    refine yG.store1 xik (L' := [(3, yI (0)), (2, yI (z4)), (0, yR 2073), (1, yI (p1))]) rfl (fun _ _ => rfl) rfl rfl ?_
    have ls8 := R_z2
    have A9e : bAx G [(83076749736557242056487941267521536, 10), (5708990770823839524233143877797980545530986496, 256)] h1 h8 := ((bAx.rf A_h1.1 : bAx G [(83076749736557242056487941267521536, 10), (5708990770823839524233143877797980545530986496, 256)] h1 h1).tr B_h6 (by decide)).tr (bAx.put (Wl := [(83076749736557242056487941267521536, 10)]) (bAx.rf A_h6.1) T_h8 b_h8 f_h8 H_2073 (by decide)) (by decide)
    have kl9 : ys h8 2073 38 = ys h1 2073 38 := A9e.ys H_2073 (by decide)
    have ls9 : gLs h8 p1 (z4 : Int).toNat := by rw [show (z4 : Int).toNat = (ys h1 2073 38 - 1 : Int).toNat by omega]; exact (gSame.of A9e (by decide)).ls ls8.1
    have on9 := ls8.2 (by omega) g90 g91 g92
    exact yG.mono (yG.sub (i_29 (z4) (0) (ys h8 2073 10) (ys h8 2073 11) h8 A_h8 M_bRg_h8  rfl rfl (by omega) (by omega) (by omega) (by omega) (by omega) (by omega) (by omega) (by omega) (by omega) (by omega) (by omega) (by omega) (by omega) (by omega) ⟨⟨ls9, fun _ j hj => absurd hj (by omega)⟩, by omega, by omega⟩ (by omega)) (ySub.cons rfl (ySub.cons rfl (ySub.cons rfl (ySub.cons rfl (ySub.nil)))))) (by omega)
  · have c5 : (z4 : Int) = 0 := c5
    refine yG.ret rfl (fun _ _ => rfl) ?_
    exact (yP.void ⟨⟨⟨rfl, trivial⟩, A_h1⟩, M_bRg_h1⟩)
end MFlowsOf
