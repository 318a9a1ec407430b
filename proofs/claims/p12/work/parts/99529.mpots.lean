/-! ===== the reference: a short's potentials ===== -/
section MPotsM
variable {G : zW}
theorem c_GModel_joinParts_s1 {hp : xH} (W : mW G) (d : Nat) (hT : zTy G hp) (M_bWf : bWf G hp) (H_2073 : bRo G 116 2073) (p1 : Int) (h1l : 0 ≤ p1) (h1u : p1 ≤ 19) (q0l : 4501 ≤ ys hp 2073 11) (q0u : ys hp 2073 11 ≤ 2147483647) (g90 : mPr ((ys hp 2073 11)).toNat) (g91 : p1 < ys hp 2088 2) (g92 : (ys hp 2073 70 = 1 → 1 ≤ ys hp 2073 72)) : yC (xcall 89 xfts xpools xms (d + 4)) 441 [yR 2073, yI (p1), yI (1)] hp (fun rv hp' => (bQj G [(85070591730234615865843651857942052864, 256)] hp 0 2147483646 (fun _ => True)) rv hp' ∧ ∀ z : Int, rv = some (yJ z) → 0 ≤ z → z ≤ 2147483646 → (mJp hp hp' (ys hp 2073 11) (ys hp 2073 70) (ys hp 2073 38) (ys hp 2073 71 : Int).toNat (p1 : Int).toNat (gPl hp (gNd hp (gA hp (p1 : Int).toNat)).toNat) (gPl hp (gNd hp (gB hp (p1 : Int).toNat)).toNat) (ys hp 2089 (529 + 11 * (p1 : Int).toNat)) (ys hp 2073 72) z)) := by
  have A_hp : bAx G [(85070591730234615865843651857942052864, 256)] hp hp := bAx.rf hT
  refine yC.of (M := (xt_X13_joinParts, (11, (2, (14, []))))) rfl rfl (N := 249) (yfuel (by decide)) ?_
  show yG 89 xfts (xcall 89 xfts xpools xms (d + 3)) (xpool xp_RX13) [] xt_X13_joinParts (yP 2 (fun rv hp' => (bQj G [(85070591730234615865843651857942052864, 256)] hp 0 2147483646 (fun _ => True)) rv hp' ∧ ∀ z : Int, rv = some (yJ z) → 0 ≤ z → z ≤ 2147483646 → (mJp hp hp' (ys hp 2073 11) (ys hp 2073 70) (ys hp 2073 38) (ys hp 2073 71 : Int).toNat (p1 : Int).toNat (gPl hp (gNd hp (gA hp (p1 : Int).toNat)).toNat) (gPl hp (gNd hp (gB hp (p1 : Int).toNat)).toNat) (ys hp 2089 (529 + 11 * (p1 : Int).toNat)) (ys hp 2073 72) z))) 249 0 [(0, yR 2073), (1, yI (p1)), (2, yI (1))] [] hp
  obtain ⟨gg0, E_0⟩ : ∃ z : Int, ys hp 2073 11 = z := ⟨_, rfl⟩
  obtain ⟨-, -, g_0l, g_0u⟩ := (w_M_p W H_2073).long hT
  obtain ⟨gg1, E_1⟩ : ∃ z : Int, ys hp 2073 70 = z := ⟨_, rfl⟩
  obtain ⟨-, -, g_1l, g_1u⟩ := (w_M_isOnLine W H_2073).int hT
  obtain ⟨gg2, E_2⟩ : ∃ z : Int, ys hp 2073 71 = z := ⟨_, rfl⟩
  obtain ⟨-, -, g_2l, g_2u⟩ := (w_M_shortPlace W H_2073).int hT
  obtain ⟨gg3, E_3⟩ : ∃ z : Int, ys hp 2073 72 = z := ⟨_, rfl⟩
  obtain ⟨-, -, g_3l, g_3u⟩ := (w_M_shortK W H_2073).int hT
  obtain ⟨gg4, E_4⟩ : ∃ z : Int, ys hp 2073 38 = z := ⟨_, rfl⟩
  obtain ⟨-, -, g_4l, g_4u⟩ := (w_M_nodes W H_2073).int hT
  refine yG.load xak rfl (fun _ _ => rfl) (v := yR 2073) rfl rfl ?_
  refine yG.getO A_hp.1 (w_M_placeOf W H_2073) rfl rfl (fun r1 H_r1 O_r1 q_r1 => ?_)
  obtain rfl := u_M_placeOf W H_r1
  refine yG.load xak rfl (fun _ _ => rfl) (v := yR 2073) rfl rfl ?_
  refine yG.load xik rfl (fun _ _ => rfl) (v := yI (p1)) rfl rfl ?_
  refine yG.num (c := 0) rfl (fun _ _ => rfl) (by decide) ?_
  refine yG.invV (rest := [yR 2104]) A_hp.1 (bOb (d_M W) H_2073) rfl rfl rfl rfl (c_GModel_nodeOfLine_s0 W d A_hp.1 H_2073 (p1) (by omega) (by omega)) (fun rv hp9 q9 => ?_)
  obtain ⟨⟨z2, rfl, l_z2, u_z2, R_z2⟩, e9⟩ := q9
  rw [e9]
  show yG _ _ _ _ _ _ _ _ _ _ (yI z2 :: [yR 2104]) _
  refine yG.iald A_hp.1 (v_M_placeOf W H_r1) rfl (by omega) (by omega) (fun z3 e_z3 i_z3 l_z3 u_z3 => ?_)
  refine yG.num (c := 1) rfl (fun _ _ => rfl) (by decide) ?_
  refine yG.iadd rfl ?_
  obtain ⟨z4, e_z4⟩ : ∃ z : Int, z = z3 + 1 := ⟨_, rfl⟩
  rw [← e_z4]
  refine yG.store1 xik (L' := [(3, yI (z4)), (0, yR 2073), (1, yI (p1)), (2, yI (1))]) rfl (fun _ _ => rfl) rfl rfl ?_
  refine yG.load xak rfl (fun _ _ => rfl) (v := yR 2073) rfl rfl ?_
  refine yG.getS9 A_hp.1 (w_M_placeOf W H_2073) q_r1 rfl rfl ?_
  refine yG.load xak rfl (fun _ _ => rfl) (v := yR 2073) rfl rfl ?_
  refine yG.load xik rfl (fun _ _ => rfl) (v := yI (p1)) rfl rfl ?_
  refine yG.num (c := 1) rfl (fun _ _ => rfl) (by decide) ?_
  refine yG.invV (rest := [yR 2104]) A_hp.1 (bOb (d_M W) H_2073) rfl rfl rfl rfl (c_GModel_nodeOfLine_s1 W d A_hp.1 H_2073 (p1) (by omega) (by omega)) (fun rv hp9 q9 => ?_)
  obtain ⟨⟨z5, rfl, l_z5, u_z5, R_z5⟩, e9⟩ := q9
  rw [e9]
  show yG _ _ _ _ _ _ _ _ _ _ (yI z5 :: [yR 2104]) _
  refine yG.iald A_hp.1 (v_M_placeOf W H_r1) rfl (by omega) (by omega) (fun z6 e_z6 i_z6 l_z6 u_z6 => ?_)
  refine yG.num (c := 1) rfl (fun _ _ => rfl) (by decide) ?_
  refine yG.iadd rfl ?_
  obtain ⟨z7, e_z7⟩ : ∃ z : Int, z = z6 + 1 := ⟨_, rfl⟩
  rw [← e_z7]
  refine yG.store1 xik (L' := [(4, yI (z7)), (3, yI (z4)), (0, yR 2073), (1, yI (p1)), (2, yI (1))]) rfl (fun _ _ => rfl) rfl rfl ?_
  refine yG.load xak rfl (fun _ _ => rfl) (v := yR 2073) rfl rfl ?_
  refine yG.num (c := 2) rfl (fun _ _ => rfl) (by decide) ?_
  refine yG.load xik rfl (fun _ _ => rfl) (v := yI (p1)) rfl rfl ?_
  refine yG.load xik rfl (fun _ _ => rfl) (v := yI (1)) rfl rfl ?_
  refine yG.invV (rest := []) A_hp.1 (bOb (d_M W) H_2073) rfl rfl rfl rfl (c_GModel_of_v2_1 W (d + 1) A_hp.1 H_2073 (p1) (by omega) (by omega)) (fun rv hp9 q9 => ?_)
  obtain ⟨⟨z8, rfl, l_z8, u_z8, R_z8⟩, e9⟩ := q9
  rw [e9]
  show yG _ _ _ _ _ _ _ _ _ _ (yI z8 :: []) _
  refine yG.i2l rfl ⟨by omega, by omega⟩ ?_
  refine yG.store2 xlk2 (L' := [(5, yJ (z8)), (4, yI (z7)), (3, yI (z4)), (0, yR 2073), (1, yI (p1)), (2, yI (1))]) rfl (fun _ _ => rfl) rfl rfl ?_
  refine yG.load xak rfl (fun _ _ => rfl) (v := yR 2073) rfl rfl ?_
  refine yG.getI A_hp.1 (w_M_isOnLine W H_2073) rfl rfl (fun z9 e_z9 i_z9 l_z9 u_z9 => ?_)
  rw [show (z9 : Int) = gg1 by omega]
  refine yG.ifz rfl (t := 137) rfl ⟨by omega, by omega⟩ (fun c10 => ?_) (fun c10 => ?_)
  · have c10 : (gg1 : Int) = 0 := c10
    refine yG.load xik rfl (fun _ _ => rfl) (v := yI (z4)) rfl rfl ?_
    refine yG.load xik rfl (fun _ _ => rfl) (v := yI (z7)) rfl rfl ?_
    refine yG.icmp rfl (t := 159) rfl ⟨by omega, by omega⟩ ⟨by omega, by omega⟩ (fun c11 => ?_) (fun c11 => ?_)
    · have c11 : (z4 : Int) = z7 := c11
      refine yG.numl (c := 1) rfl (fun _ _ => rfl) (by decide) ?_
      refine yG.ret rfl (fun _ _ => rfl) ?_
      exact (yP.long ⟨by omega, by omega⟩ ⟨⟨⟨1, rfl, by omega, by omega, trivial⟩, A_hp⟩, (fun z e9 l9 u9 => by have e8 := yJinj e9 (by omega) (by omega) (by omega) (by omega); subst e8; exact (by have ea : gPl hp (gNd hp (gA hp (p1 : Int).toNat)).toNat = z3 + 1 := (by unfold gPl; rw [e_z3, R_z2]); have eb : gPl hp (gNd hp (gB hp (p1 : Int).toNat)).toNat = z6 + 1 := (by unfold gPl; rw [e_z6, R_z5]); have ex : ys hp 2089 (529 + 11 * (p1 : Int).toNat) = z8 := (by rw [R_z8]; congr 1; omega); have x1 : 1 ≤ z8 := (M_bWf.x (s := 2) (k := 1) (j := 529 + 11 * (p1 : Int).toNat) (i := p1) (.inl ⟨rfl, by omega⟩) (by omega) (by omega) (by omega) ex.symm (by omega)); exact mJp.nil (by omega) (by omega)))⟩)
    · have c11 : (z4 : Int) ≠ z7 := c11
      refine yG.load xak rfl (fun _ _ => rfl) (v := yR 2073) rfl rfl ?_
      refine yG.load xik rfl (fun _ _ => rfl) (v := yI (z4)) rfl rfl ?_
      refine yG.load xik rfl (fun _ _ => rfl) (v := yI (z7)) rfl rfl ?_
      refine yG.load xak rfl (fun _ _ => rfl) (v := yR 2073) rfl rfl ?_
      refine yG.load xlk2 rfl (fun _ _ => rfl) (v := yJ (z8)) rfl rfl ?_
      refine yG.invV (rest := [yI (z7), yI (z4), yR 2073]) A_hp.1 (bOb (d_M W) H_2073) rfl rfl rfl rfl (c_GModel_inverse__s W (d + 1) A_hp.1 H_2073 (z8) (by omega) (by omega) (by omega) (by omega)) (fun rv hp9 q9 => ?_)
      obtain ⟨⟨z12, rfl, l_z12, u_z12, R_z12⟩, e9⟩ := q9
      rw [e9]
      show yG _ _ _ _ _ _ _ _ _ _ (yJ z12 :: [yI (z7), yI (z4), yR 2073]) _
      refine yG.invV (rest := []) A_hp.1 (bOb (d_M W) H_2073) rfl rfl rfl rfl (c_GModel_join_s W (d + 1) A_hp.1 H_2073 (z4) (z7) (z12) (by omega) (by omega) (by omega) (by omega) (by omega) (by omega) (by omega) (by omega)) (fun rv h13 q9 => ?_)
      obtain ⟨⟨rfl, R_z14⟩, B_h13⟩ := q9
      have A_h13 := A_hp.tr B_h13 (by decide)
      have : ys h13 2073 11 = ys hp 2073 11 := B_h13.ys H_2073 (by decide)
      have : ys h13 2073 70 = ys hp 2073 70 := B_h13.ys H_2073 (by decide)
      have : ys h13 2073 71 = ys hp 2073 71 := B_h13.ys H_2073 (by decide)
      have : ys h13 2073 72 = ys hp 2073 72 := B_h13.ys H_2073 (by decide)
      have : ys h13 2073 38 = ys hp 2073 38 := B_h13.ys H_2073 (by decide)
      have qq1 : zsl h13 2073 39 = yR 2104 := (B_h13.sl H_2073 (by decide)).trans q_r1
      show yG _ _ _ _ _ _ _ _ _ _ [] _
      refine yG.load xlk2 rfl (fun _ _ => rfl) (v := yJ (z8)) rfl rfl ?_
      refine yG.ret rfl (fun _ _ => rfl) ?_
      exact (yP.long ⟨by omega, by omega⟩ ⟨⟨⟨z8, rfl, by omega, by omega, trivial⟩, A_h13⟩, (fun z e9 l9 u9 => by have e8 := yJinj e9 (by omega) (by omega) (by omega) (by omega); subst e8; exact (by first | (have ea : gPl hp (gNd hp (gA hp (p1 : Int).toNat)).toNat = z3 + 1 := (by unfold gPl; rw [e_z3, R_z2]); have eb : gPl hp (gNd hp (gB hp (p1 : Int).toNat)).toNat = z6 + 1 := (by unfold gPl; rw [e_z6, R_z5]); have ex : ys hp 2089 (529 + 11 * (p1 : Int).toNat) = z8 := (by rw [R_z8]; congr 1; omega); have x1 : 1 ≤ z8 := (M_bWf.x (s := 2) (k := 1) (j := 529 + 11 * (p1 : Int).toNat) (i := p1) (.inl ⟨rfl, by omega⟩) (by omega) (by omega) (by omega) ex.symm (by omega)); have nv := R_z12 g90 (mNdvd (by omega) (by omega)); rw [show gPl hp (gNd hp (gA hp (p1 : Int).toNat)).toNat = z4 by omega, show gPl hp (gNd hp (gB hp (p1 : Int).toNat)).toNat = z7 by omega, ex]; exact mJp.one (by omega) (by omega) R_z14 nv) | (have ea : gPl hp (gNd hp (gA hp (p1 : Int).toNat)).toNat = z3 + 1 := (by unfold gPl; rw [e_z3, R_z2]); have eb : gPl hp (gNd hp (gB hp (p1 : Int).toNat)).toNat = z6 + 1 := (by unfold gPl; rw [e_z6, R_z5]); have ex : ys hp 2089 (529 + 11 * (p1 : Int).toNat) = z := (by rw [R_z8]; congr 1; omega); have x1 : 1 ≤ z := (M_bWf.x (s := 2) (k := 1) (j := 529 + 11 * (p1 : Int).toNat) (i := p1) (.inl ⟨rfl, by omega⟩) (by omega) (by omega) (by omega) ex.symm (by omega)); have nv := R_z12 g90 (mNdvd (by omega) (by omega)); rw [show gPl hp (gNd hp (gA hp (p1 : Int).toNat)).toNat = z4 by omega, show gPl hp (gNd hp (gB hp (p1 : Int).toNat)).toNat = z7 by omega, ex]; exact mJp.one (by omega) (by omega) R_z14 nv)))⟩)
  · have c10 : (gg1 : Int) ≠ 0 := c10
    refine yG.load xik rfl (fun _ _ => rfl) (v := yI (p1)) rfl rfl ?_
    refine yG.load xak rfl (fun _ _ => rfl) (v := yR 2073) rfl rfl ?_
    refine yG.getI A_hp.1 (w_M_shortPlace W H_2073) rfl rfl (fun z15 e_z15 i_z15 l_z15 u_z15 => ?_)
    rw [show (z15 : Int) = gg2 by omega]
    refine yG.icmp rfl (t := 137) rfl ⟨by omega, by omega⟩ ⟨by omega, by omega⟩ (fun c16 => ?_) (fun c16 => ?_)
    · have c16 : (p1 : Int) ≠ gg2 := c16
      refine yG.load xik rfl (fun _ _ => rfl) (v := yI (z4)) rfl rfl ?_
      refine yG.load xik rfl (fun _ _ => rfl) (v := yI (z7)) rfl rfl ?_
      refine yG.icmp rfl (t := 159) rfl ⟨by omega, by omega⟩ ⟨by omega, by omega⟩ (fun c17 => ?_) (fun c17 => ?_)
      · have c17 : (z4 : Int) = z7 := c17
        refine yG.numl (c := 1) rfl (fun _ _ => rfl) (by decide) ?_
        refine yG.ret rfl (fun _ _ => rfl) ?_
        exact (yP.long ⟨by omega, by omega⟩ ⟨⟨⟨1, rfl, by omega, by omega, trivial⟩, A_hp⟩, (fun z e9 l9 u9 => by have e8 := yJinj e9 (by omega) (by omega) (by omega) (by omega); subst e8; exact (by have ea : gPl hp (gNd hp (gA hp (p1 : Int).toNat)).toNat = z3 + 1 := (by unfold gPl; rw [e_z3, R_z2]); have eb : gPl hp (gNd hp (gB hp (p1 : Int).toNat)).toNat = z6 + 1 := (by unfold gPl; rw [e_z6, R_z5]); have ex : ys hp 2089 (529 + 11 * (p1 : Int).toNat) = z8 := (by rw [R_z8]; congr 1; omega); have x1 : 1 ≤ z8 := (M_bWf.x (s := 2) (k := 1) (j := 529 + 11 * (p1 : Int).toNat) (i := p1) (.inl ⟨rfl, by omega⟩) (by omega) (by omega) (by omega) ex.symm (by omega)); exact mJp.nil (by omega) (by omega)))⟩)
      · have c17 : (z4 : Int) ≠ z7 := c17
        refine yG.load xak rfl (fun _ _ => rfl) (v := yR 2073) rfl rfl ?_
        refine yG.load xik rfl (fun _ _ => rfl) (v := yI (z4)) rfl rfl ?_
        refine yG.load xik rfl (fun _ _ => rfl) (v := yI (z7)) rfl rfl ?_
        refine yG.load xak rfl (fun _ _ => rfl) (v := yR 2073) rfl rfl ?_
        refine yG.load xlk2 rfl (fun _ _ => rfl) (v := yJ (z8)) rfl rfl ?_
        refine yG.invV (rest := [yI (z7), yI (z4), yR 2073]) A_hp.1 (bOb (d_M W) H_2073) rfl rfl rfl rfl (c_GModel_inverse__s W (d + 1) A_hp.1 H_2073 (z8) (by omega) (by omega) (by omega) (by omega)) (fun rv hp9 q9 => ?_)
        obtain ⟨⟨z18, rfl, l_z18, u_z18, R_z18⟩, e9⟩ := q9
        rw [e9]
        show yG _ _ _ _ _ _ _ _ _ _ (yJ z18 :: [yI (z7), yI (z4), yR 2073]) _
        refine yG.invV (rest := []) A_hp.1 (bOb (d_M W) H_2073) rfl rfl rfl rfl (c_GModel_join_s W (d + 1) A_hp.1 H_2073 (z4) (z7) (z18) (by omega) (by omega) (by omega) (by omega) (by omega) (by omega) (by omega) (by omega)) (fun rv h19 q9 => ?_)
        obtain ⟨⟨rfl, R_z20⟩, B_h19⟩ := q9
        have A_h19 := A_hp.tr B_h19 (by decide)
        have : ys h19 2073 11 = ys hp 2073 11 := B_h19.ys H_2073 (by decide)
        have : ys h19 2073 70 = ys hp 2073 70 := B_h19.ys H_2073 (by decide)
        have : ys h19 2073 71 = ys hp 2073 71 := B_h19.ys H_2073 (by decide)
        have : ys h19 2073 72 = ys hp 2073 72 := B_h19.ys H_2073 (by decide)
        have : ys h19 2073 38 = ys hp 2073 38 := B_h19.ys H_2073 (by decide)
        have qq2 : zsl h19 2073 39 = yR 2104 := (B_h19.sl H_2073 (by decide)).trans q_r1
        show yG _ _ _ _ _ _ _ _ _ _ [] _
        refine yG.load xlk2 rfl (fun _ _ => rfl) (v := yJ (z8)) rfl rfl ?_
        refine yG.ret rfl (fun _ _ => rfl) ?_
        exact (yP.long ⟨by omega, by omega⟩ ⟨⟨⟨z8, rfl, by omega, by omega, trivial⟩, A_h19⟩, (fun z e9 l9 u9 => by have e8 := yJinj e9 (by omega) (by omega) (by omega) (by omega); subst e8; exact (by first | (have ea : gPl hp (gNd hp (gA hp (p1 : Int).toNat)).toNat = z3 + 1 := (by unfold gPl; rw [e_z3, R_z2]); have eb : gPl hp (gNd hp (gB hp (p1 : Int).toNat)).toNat = z6 + 1 := (by unfold gPl; rw [e_z6, R_z5]); have ex : ys hp 2089 (529 + 11 * (p1 : Int).toNat) = z8 := (by rw [R_z8]; congr 1; omega); have x1 : 1 ≤ z8 := (M_bWf.x (s := 2) (k := 1) (j := 529 + 11 * (p1 : Int).toNat) (i := p1) (.inl ⟨rfl, by omega⟩) (by omega) (by omega) (by omega) ex.symm (by omega)); have nv := R_z18 g90 (mNdvd (by omega) (by omega)); rw [show gPl hp (gNd hp (gA hp (p1 : Int).toNat)).toNat = z4 by omega, show gPl hp (gNd hp (gB hp (p1 : Int).toNat)).toNat = z7 by omega, ex]; exact mJp.one (by omega) (by omega) R_z20 nv) | (have ea : gPl hp (gNd hp (gA hp (p1 : Int).toNat)).toNat = z3 + 1 := (by unfold gPl; rw [e_z3, R_z2]); have eb : gPl hp (gNd hp (gB hp (p1 : Int).toNat)).toNat = z6 + 1 := (by unfold gPl; rw [e_z6, R_z5]); have ex : ys hp 2089 (529 + 11 * (p1 : Int).toNat) = z := (by rw [R_z8]; congr 1; omega); have x1 : 1 ≤ z := (M_bWf.x (s := 2) (k := 1) (j := 529 + 11 * (p1 : Int).toNat) (i := p1) (.inl ⟨rfl, by omega⟩) (by omega) (by omega) (by omega) ex.symm (by omega)); have nv := R_z18 g90 (mNdvd (by omega) (by omega)); rw [show gPl hp (gNd hp (gA hp (p1 : Int).toNat)).toNat = z4 by omega, show gPl hp (gNd hp (gB hp (p1 : Int).toNat)).toNat = z7 by omega, ex]; exact mJp.one (by omega) (by omega) R_z20 nv)))⟩)
    · have c16 : (p1 : Int) = gg2 := c16
      refine yG.load xlk2 rfl (fun _ _ => rfl) (v := yJ (z8)) rfl rfl ?_
      refine yG.load xak rfl (fun _ _ => rfl) (v := yR 2073) rfl rfl ?_
      refine yG.getI A_hp.1 (w_M_shortK W H_2073) rfl rfl (fun z21 e_z21 i_z21 l_z21 u_z21 => ?_)
      rw [show (z21 : Int) = gg3 by omega]
      refine yG.i2l rfl ⟨by omega, by omega⟩ ?_
      refine yG.lmul rfl ?_
      obtain ⟨z22, e_z22⟩ : ∃ z : Int, z = z8 * gg3 := ⟨_, rfl⟩
      rw [← e_z22]
      have b_z22 : 0 ≤ z22 ∧ z22 ≤ 1485 := e_z22 ▸ ymulb (A := 99) (B := 15) (by omega) (by omega) (by omega) (by omega) (by decide)
      have b2_z22 : z22 ≤ 99 * gg3 := e_z22 ▸ bmulx (by omega) (by omega)
      have b3_z22 : z22 ≤ 15 * z8 := e_z22 ▸ bmuly (by omega) (by omega)
      refine yG.store2 xlk2 (L' := [(7, yJ (z22)), (5, yJ (z8)), (4, yI (z7)), (3, yI (z4)), (0, yR 2073), (1, yI (p1)), (2, yI (1))]) rfl (fun _ _ => rfl) rfl rfl ?_
      refine yG.load xlk2 rfl (fun _ _ => rfl) (v := yJ (z8)) rfl rfl ?_
      refine yG.num (c := 16) rfl (fun _ _ => rfl) (by decide) ?_
      refine yG.load xak rfl (fun _ _ => rfl) (v := yR 2073) rfl rfl ?_
      refine yG.getI A_hp.1 (w_M_shortK W H_2073) rfl rfl (fun z23 e_z23 i_z23 l_z23 u_z23 => ?_)
      rw [show (z23 : Int) = gg3 by omega]
      refine yG.isub rfl ?_
      refine yG.i2l rfl ⟨by omega, by omega⟩ ?_
      refine yG.lmul rfl ?_
      obtain ⟨z24, e_z24⟩ : ∃ z : Int, z = z8 * (16 - gg3) := ⟨_, rfl⟩
      rw [← e_z24]
      have b_z24 : 0 ≤ z24 ∧ z24 ≤ 1584 := e_z24 ▸ ymulb (A := 99) (B := 16) (by omega) (by omega) (by omega) (by omega) (by decide)
      have b2_z24 : z24 ≤ 99 * (16 - gg3) := e_z24 ▸ bmulx (by omega) (by omega)
      have b3_z24 : z24 ≤ 16 * z8 := e_z24 ▸ bmuly (by omega) (by omega)
      refine yG.store2 xlk2 (L' := [(9, yJ (z24)), (7, yJ (z22)), (5, yJ (z8)), (4, yI (z7)), (3, yI (z4)), (0, yR 2073), (1, yI (p1)), (2, yI (1))]) rfl (fun _ _ => rfl) rfl rfl ?_
      refine yG.load xak rfl (fun _ _ => rfl) (v := yR 2073) rfl rfl ?_
      refine yG.load xik rfl (fun _ _ => rfl) (v := yI (z4)) rfl rfl ?_
      refine yG.load xak rfl (fun _ _ => rfl) (v := yR 2073) rfl rfl ?_
      refine yG.getI A_hp.1 (w_M_nodes W H_2073) rfl rfl (fun z25 e_z25 i_z25 l_z25 u_z25 => ?_)
      rw [show (z25 : Int) = gg4 by omega]
      refine yG.numl (c := 16) rfl (fun _ _ => rfl) (by decide) ?_
      refine yG.load xak rfl (fun _ _ => rfl) (v := yR 2073) rfl rfl ?_
      refine yG.load xlk2 rfl (fun _ _ => rfl) (v := yJ (z22)) rfl rfl ?_
      refine yG.invV (rest := [yJ (16), yI (gg4), yI (z4), yR 2073]) A_hp.1 (bOb (d_M W) H_2073) rfl rfl rfl rfl (c_GModel_inverse__s W (d + 1) A_hp.1 H_2073 (z22) (by omega) (by omega) (by omega) (by omega)) (fun rv hp9 q9 => ?_)
      obtain ⟨⟨z26, rfl, l_z26, u_z26, R_z26⟩, e9⟩ := q9
      rw [e9]
      show yG _ _ _ _ _ _ _ _ _ _ (yJ z26 :: [yJ (16), yI (gg4), yI (z4), yR 2073]) _
      refine yG.lmul rfl ?_
      refine yG.load xak rfl (fun _ _ => rfl) (v := yR 2073) rfl rfl ?_
      refine yG.getJ A_hp.1 (w_M_p W H_2073) rfl rfl (fun z27 e_z27 i_z27 l_z27 u_z27 => ?_)
      rw [show (z27 : Int) = gg0 by omega]
      refine yG.lrem rfl ⟨by omega, by omega⟩ ⟨by omega, by omega⟩ (by omega) (by omega) ?_
      obtain ⟨z28, e_z28⟩ : ∃ z : Int, z = (16 * z26) % (gg0) := ⟨_, rfl⟩
      rw [← e_z28]
      have b_z28 : 0 ≤ z28 ∧ z28 < gg0 := e_z28 ▸ ⟨Int.emod_nonneg _ (by omega), Int.emod_lt_of_pos _ (by omega)⟩
      refine yG.invV (rest := []) A_hp.1 (bOb (d_M W) H_2073) rfl rfl rfl rfl (c_GModel_join_s W (d + 1) A_hp.1 H_2073 (z4) (gg4) (z28) (by omega) (by omega) (by omega) (by omega) (by omega) (by omega) (by omega) (by omega)) (fun rv h29 q9 => ?_)
      obtain ⟨⟨rfl, R_z30⟩, B_h29⟩ := q9
      have A_h29 := A_hp.tr B_h29 (by decide)
      have : ys h29 2073 11 = ys hp 2073 11 := B_h29.ys H_2073 (by decide)
      have : ys h29 2073 70 = ys hp 2073 70 := B_h29.ys H_2073 (by decide)
      have : ys h29 2073 71 = ys hp 2073 71 := B_h29.ys H_2073 (by decide)
      have : ys h29 2073 72 = ys hp 2073 72 := B_h29.ys H_2073 (by decide)
      have : ys h29 2073 38 = ys hp 2073 38 := B_h29.ys H_2073 (by decide)
      have qq3 : zsl h29 2073 39 = yR 2104 := (B_h29.sl H_2073 (by decide)).trans q_r1
      show yG _ _ _ _ _ _ _ _ _ _ [] _
      refine yG.load xak rfl (fun _ _ => rfl) (v := yR 2073) rfl rfl ?_
      refine yG.load xik rfl (fun _ _ => rfl) (v := yI (z7)) rfl rfl ?_
      refine yG.load xak rfl (fun _ _ => rfl) (v := yR 2073) rfl rfl ?_
      refine yG.getI A_h29.1 (w_M_nodes W H_2073) rfl rfl (fun z31 e_z31 i_z31 l_z31 u_z31 => ?_)
      rw [show (z31 : Int) = gg4 by omega]
      refine yG.numl (c := 16) rfl (fun _ _ => rfl) (by decide) ?_
      refine yG.load xak rfl (fun _ _ => rfl) (v := yR 2073) rfl rfl ?_
      refine yG.load xlk2 rfl (fun _ _ => rfl) (v := yJ (z24)) rfl rfl ?_
      refine yG.invV (rest := [yJ (16), yI (gg4), yI (z7), yR 2073]) A_h29.1 (bOb (d_M W) H_2073) rfl rfl rfl rfl (c_GModel_inverse__s W (d + 1) A_h29.1 H_2073 (z24) (by omega) (by omega) (by omega) (by omega)) (fun rv hp9 q9 => ?_)
      obtain ⟨⟨z32, rfl, l_z32, u_z32, R_z32⟩, e9⟩ := q9
      rw [e9]
      show yG _ _ _ _ _ _ _ _ _ _ (yJ z32 :: [yJ (16), yI (gg4), yI (z7), yR 2073]) _
      refine yG.lmul rfl ?_
      refine yG.load xak rfl (fun _ _ => rfl) (v := yR 2073) rfl rfl ?_
      refine yG.getJ A_h29.1 (w_M_p W H_2073) rfl rfl (fun z33 e_z33 i_z33 l_z33 u_z33 => ?_)
      rw [show (z33 : Int) = gg0 by omega]
      refine yG.lrem rfl ⟨by omega, by omega⟩ ⟨by omega, by omega⟩ (by omega) (by omega) ?_
      obtain ⟨z34, e_z34⟩ : ∃ z : Int, z = (16 * z32) % (gg0) := ⟨_, rfl⟩
      rw [← e_z34]
      have b_z34 : 0 ≤ z34 ∧ z34 < gg0 := e_z34 ▸ ⟨Int.emod_nonneg _ (by omega), Int.emod_lt_of_pos _ (by omega)⟩
      refine yG.invV (rest := []) A_h29.1 (bOb (d_M W) H_2073) rfl rfl rfl rfl (c_GModel_join_s W (d + 1) A_h29.1 H_2073 (z7) (gg4) (z34) (by omega) (by omega) (by omega) (by omega) (by omega) (by omega) (by omega) (by omega)) (fun rv h35 q9 => ?_)
      obtain ⟨⟨rfl, R_z36⟩, B_h35⟩ := q9
      have A_h35 := A_h29.tr B_h35 (by decide)
      have : ys h35 2073 11 = ys h29 2073 11 := B_h35.ys H_2073 (by decide)
      have : ys h35 2073 70 = ys h29 2073 70 := B_h35.ys H_2073 (by decide)
      have : ys h35 2073 71 = ys h29 2073 71 := B_h35.ys H_2073 (by decide)
      have : ys h35 2073 72 = ys h29 2073 72 := B_h35.ys H_2073 (by decide)
      have : ys h35 2073 38 = ys h29 2073 38 := B_h35.ys H_2073 (by decide)
      have qq4 : zsl h35 2073 39 = yR 2104 := (B_h35.sl H_2073 (by decide)).trans qq3
      show yG _ _ _ _ _ _ _ _ _ _ [] _
      refine yG.load xlk2 rfl (fun _ _ => rfl) (v := yJ (z22)) rfl rfl ?_
      refine yG.load xlk2 rfl (fun _ _ => rfl) (v := yJ (z24)) rfl rfl ?_
      refine yG.lmul rfl ?_
      obtain ⟨z37, e_z37⟩ : ∃ z : Int, z = z22 * z24 := ⟨_, rfl⟩
      rw [← e_z37]
      have b_z37 : 0 ≤ z37 ∧ z37 ≤ 2352240 := e_z37 ▸ ymulb (A := 1485) (B := 1584) (by omega) (by omega) (by omega) (by omega) (by decide)
      have b2_z37 : z37 ≤ 1485 * z24 := e_z37 ▸ bmulx (by omega) (by omega)
      have b3_z37 : z37 ≤ 1584 * z22 := e_z37 ▸ bmuly (by omega) (by omega)
      refine yG.load xak rfl (fun _ _ => rfl) (v := yR 2073) rfl rfl ?_
      refine yG.getJ A_h35.1 (w_M_p W H_2073) rfl rfl (fun z38 e_z38 i_z38 l_z38 u_z38 => ?_)
      rw [show (z38 : Int) = gg0 by omega]
      refine yG.lrem rfl ⟨by omega, by omega⟩ ⟨by omega, by omega⟩ (by omega) (by omega) ?_
      obtain ⟨z39, e_z39⟩ : ∃ z : Int, z = (z37) % (gg0) := ⟨_, rfl⟩
      rw [← e_z39]
      have b_z39 : 0 ≤ z39 ∧ z39 < gg0 := e_z39 ▸ ⟨Int.emod_nonneg _ (by omega), Int.emod_lt_of_pos _ (by omega)⟩
      refine yG.ret rfl (fun _ _ => rfl) ?_
      exact (yP.long ⟨by omega, by omega⟩ ⟨⟨⟨z39, rfl, by omega, by omega, trivial⟩, A_h35⟩, (fun z e9 l9 u9 => by have e8 := yJinj e9 (by omega) (by omega) (by omega) (by omega); subst e8; exact (by first | (have ea : gPl hp (gNd hp (gA hp (p1 : Int).toNat)).toNat = z3 + 1 := (by unfold gPl; rw [e_z3, R_z2]); have eb : gPl hp (gNd hp (gB hp (p1 : Int).toNat)).toNat = z6 + 1 := (by unfold gPl; rw [e_z6, R_z5]); have ex : ys hp 2089 (529 + 11 * (p1 : Int).toNat) = z8 := (by rw [R_z8]; congr 1; omega); have x1 : 1 ≤ z8 := (M_bWf.x (s := 2) (k := 1) (j := 529 + 11 * (p1 : Int).toNat) (i := p1) (.inl ⟨rfl, by omega⟩) (by omega) (by omega) (by omega) ex.symm (by omega)); have sb : 1 ≤ gg3 ∧ gg3 ≤ 15 := (by omega); have mb0 := mul_bd (a := z8) (b := gg3) x1 (by omega) (by omega) (by omega); have mb1 := mul_bd (a := z8) (b := 16 - gg3) x1 (by omega) (by omega) (by omega); have nv0 := R_z26; rw [show ys hp 2073 11 = ys hp 2073 11 by omega] at nv0; have jj0 := R_z30; rw [show ys hp 2073 11 = ys hp 2073 11 by omega] at jj0; have rr0 : (ys hp 2073 11) ∣ z28 - 16 * z26 := (by rw [show (ys hp 2073 11) = gg0 by omega]; exact mdv_mod (by omega) e_z28); have nw0 := nv0 g90 (mNdvd (by rw [e_z22]; omega) (by rw [e_z22]; omega)); rw [e_z22] at nw0; have nv1 := R_z32; rw [show ys h29 2073 11 = ys hp 2073 11 by omega] at nv1; have jj1 := R_z36; rw [show ys h29 2073 11 = ys hp 2073 11 by omega] at jj1; have rr1 : (ys hp 2073 11) ∣ z34 - 16 * z32 := (by rw [show (ys hp 2073 11) = gg0 by omega]; exact mdv_mod (by omega) e_z34); have nw1 := nv1 g90 (mNdvd (by rw [e_z24]; omega) (by rw [e_z24]; omega)); rw [e_z24] at nw1; have e3 := mdv_mod (p := gg0) (by omega) e_z39; rw [e_z37, e_z22, e_z24, show gg0 = (ys hp 2073 11) by omega] at e3; rw [show gPl hp (gNd hp (gA hp (p1 : Int).toNat)).toNat = z4 by omega, show gPl hp (gNd hp (gB hp (p1 : Int).toNat)).toNat = z7 by omega, ex, show ys hp 2073 72 = gg3 by omega, show ys hp 2073 38 = gg4 by omega]; exact mJp.two ⟨by omega, by omega⟩ jj0 jj1 (mJy nw0 rr0) (mJy nw1 rr1) e3) | (have ea : gPl hp (gNd hp (gA hp (p1 : Int).toNat)).toNat = z3 + 1 := (by unfold gPl; rw [e_z3, R_z2]); have eb : gPl hp (gNd hp (gB hp (p1 : Int).toNat)).toNat = z6 + 1 := (by unfold gPl; rw [e_z6, R_z5]); have ex : ys hp 2089 (529 + 11 * (p1 : Int).toNat) = z8 := (by rw [R_z8]; congr 1; omega); have x1 : 1 ≤ z8 := (M_bWf.x (s := 2) (k := 1) (j := 529 + 11 * (p1 : Int).toNat) (i := p1) (.inl ⟨rfl, by omega⟩) (by omega) (by omega) (by omega) ex.symm (by omega)); have sb : 1 ≤ gg3 ∧ gg3 ≤ 15 := (by omega); have mb0 := mul_bd (a := z8) (b := gg3) x1 (by omega) (by omega) (by omega); have mb1 := mul_bd (a := z8) (b := 16 - gg3) x1 (by omega) (by omega) (by omega); have nv0 := R_z26; rw [show ys hp 2073 11 = ys hp 2073 11 by omega] at nv0; have jj0 := R_z30; rw [show ys hp 2073 11 = ys hp 2073 11 by omega] at jj0; have rr0 : (ys hp 2073 11) ∣ z28 - 16 * z26 := (by rw [show (ys hp 2073 11) = gg0 by omega]; exact mdv_mod (by omega) e_z28); have nw0 := nv0 g90 (mNdvd (by rw [e_z22]; omega) (by rw [e_z22]; omega)); rw [e_z22] at nw0; have nv1 := R_z32; rw [show ys h29 2073 11 = ys hp 2073 11 by omega] at nv1; have jj1 := R_z36; rw [show ys h29 2073 11 = ys hp 2073 11 by omega] at jj1; have rr1 : (ys hp 2073 11) ∣ z34 - 16 * z32 := (by rw [show (ys hp 2073 11) = gg0 by omega]; exact mdv_mod (by omega) e_z34); have nw1 := nv1 g90 (mNdvd (by rw [e_z24]; omega) (by rw [e_z24]; omega)); rw [e_z24] at nw1; have e3 := mdv_mod (p := gg0) (by omega) e_z39; rw [e_z37, e_z22, e_z24, show gg0 = (ys hp 2073 11) by omega] at e3; rw [show gPl hp (gNd hp (gA hp (p1 : Int).toNat)).toNat = z4 by omega, show gPl hp (gNd hp (gB hp (p1 : Int).toNat)).toNat = z7 by omega, ex, show ys hp 2073 72 = gg3 by omega, show ys hp 2073 38 = gg4 by omega]; exact mJp.two ⟨by omega, by omega⟩ jj0 jj1 (mJy nw0 rr0) (mJy nw1 rr1) e3)))⟩)
theorem c_GModel_joinParts_s2 {hp : xH} (W : mW G) (d : Nat) (hT : zTy G hp) (M_bWf : bWf G hp) (H_2073 : bRo G 116 2073) (p1 : Int) (h1l : 0 ≤ p1) (h1u : p1 ≤ 19) (q0l : 4501 ≤ ys hp 2073 11) (q0u : ys hp 2073 11 ≤ 2147483647) (g90 : mPr ((ys hp 2073 11)).toNat) (g91 : p1 < ys hp 2088 2) (g92 : (ys hp 2073 70 = 1 → 1 ≤ ys hp 2073 72)) : yC (xcall 89 xfts xpools xms (d + 4)) 441 [yR 2073, yI (p1), yI (2)] hp (fun rv hp' => (bQj G [(85070591730234615865843651857942052864, 256)] hp 0 2147483646 (fun _ => True)) rv hp' ∧ ∀ z : Int, rv = some (yJ z) → 0 ≤ z → z ≤ 2147483646 → (mJp hp hp' (ys hp 2073 11) (ys hp 2073 70) (ys hp 2073 38) (ys hp 2073 71 : Int).toNat (p1 : Int).toNat (gPl hp (gNd hp (gA hp (p1 : Int).toNat)).toNat) (gPl hp (gNd hp (gB hp (p1 : Int).toNat)).toNat) (ys hp 2089 (530 + 11 * (p1 : Int).toNat)) (ys hp 2073 72) z)) := by
  have A_hp : bAx G [(85070591730234615865843651857942052864, 256)] hp hp := bAx.rf hT
  refine yC.of (M := (xt_X13_joinParts, (11, (2, (14, []))))) rfl rfl (N := 249) (yfuel (by decide)) ?_
  show yG 89 xfts (xcall 89 xfts xpools xms (d + 3)) (xpool xp_RX13) [] xt_X13_joinParts (yP 2 (fun rv hp' => (bQj G [(85070591730234615865843651857942052864, 256)] hp 0 2147483646 (fun _ => True)) rv hp' ∧ ∀ z : Int, rv = some (yJ z) → 0 ≤ z → z ≤ 2147483646 → (mJp hp hp' (ys hp 2073 11) (ys hp 2073 70) (ys hp 2073 38) (ys hp 2073 71 : Int).toNat (p1 : Int).toNat (gPl hp (gNd hp (gA hp (p1 : Int).toNat)).toNat) (gPl hp (gNd hp (gB hp (p1 : Int).toNat)).toNat) (ys hp 2089 (530 + 11 * (p1 : Int).toNat)) (ys hp 2073 72) z))) 249 0 [(0, yR 2073), (1, yI (p1)), (2, yI (2))] [] hp
  obtain ⟨gg0, E_0⟩ : ∃ z : Int, ys hp 2073 11 = z := ⟨_, rfl⟩
  obtain ⟨-, -, g_0l, g_0u⟩ := (w_M_p W H_2073).long hT
  obtain ⟨gg1, E_1⟩ : ∃ z : Int, ys hp 2073 70 = z := ⟨_, rfl⟩
  obtain ⟨-, -, g_1l, g_1u⟩ := (w_M_isOnLine W H_2073).int hT
  obtain ⟨gg2, E_2⟩ : ∃ z : Int, ys hp 2073 71 = z := ⟨_, rfl⟩
  obtain ⟨-, -, g_2l, g_2u⟩ := (w_M_shortPlace W H_2073).int hT
  obtain ⟨gg3, E_3⟩ : ∃ z : Int, ys hp 2073 72 = z := ⟨_, rfl⟩
  obtain ⟨-, -, g_3l, g_3u⟩ := (w_M_shortK W H_2073).int hT
  obtain ⟨gg4, E_4⟩ : ∃ z : Int, ys hp 2073 38 = z := ⟨_, rfl⟩
  obtain ⟨-, -, g_4l, g_4u⟩ := (w_M_nodes W H_2073).int hT
  refine yG.load xak rfl (fun _ _ => rfl) (v := yR 2073) rfl rfl ?_
  refine yG.getO A_hp.1 (w_M_placeOf W H_2073) rfl rfl (fun r1 H_r1 O_r1 q_r1 => ?_)
  obtain rfl := u_M_placeOf W H_r1
  refine yG.load xak rfl (fun _ _ => rfl) (v := yR 2073) rfl rfl ?_
  refine yG.load xik rfl (fun _ _ => rfl) (v := yI (p1)) rfl rfl ?_
  refine yG.num (c := 0) rfl (fun _ _ => rfl) (by decide) ?_
  refine yG.invV (rest := [yR 2104]) A_hp.1 (bOb (d_M W) H_2073) rfl rfl rfl rfl (c_GModel_nodeOfLine_s0 W d A_hp.1 H_2073 (p1) (by omega) (by omega)) (fun rv hp9 q9 => ?_)
  obtain ⟨⟨z2, rfl, l_z2, u_z2, R_z2⟩, e9⟩ := q9
  rw [e9]
  show yG _ _ _ _ _ _ _ _ _ _ (yI z2 :: [yR 2104]) _
  refine yG.iald A_hp.1 (v_M_placeOf W H_r1) rfl (by omega) (by omega) (fun z3 e_z3 i_z3 l_z3 u_z3 => ?_)
  refine yG.num (c := 1) rfl (fun _ _ => rfl) (by decide) ?_
  refine yG.iadd rfl ?_
  obtain ⟨z4, e_z4⟩ : ∃ z : Int, z = z3 + 1 := ⟨_, rfl⟩
  rw [← e_z4]
  refine yG.store1 xik (L' := [(3, yI (z4)), (0, yR 2073), (1, yI (p1)), (2, yI (2))]) rfl (fun _ _ => rfl) rfl rfl ?_
  refine yG.load xak rfl (fun _ _ => rfl) (v := yR 2073) rfl rfl ?_
  refine yG.getS9 A_hp.1 (w_M_placeOf W H_2073) q_r1 rfl rfl ?_
  refine yG.load xak rfl (fun _ _ => rfl) (v := yR 2073) rfl rfl ?_
  refine yG.load xik rfl (fun _ _ => rfl) (v := yI (p1)) rfl rfl ?_
  refine yG.num (c := 1) rfl (fun _ _ => rfl) (by decide) ?_
  refine yG.invV (rest := [yR 2104]) A_hp.1 (bOb (d_M W) H_2073) rfl rfl rfl rfl (c_GModel_nodeOfLine_s1 W d A_hp.1 H_2073 (p1) (by omega) (by omega)) (fun rv hp9 q9 => ?_)
  obtain ⟨⟨z5, rfl, l_z5, u_z5, R_z5⟩, e9⟩ := q9
  rw [e9]
  show yG _ _ _ _ _ _ _ _ _ _ (yI z5 :: [yR 2104]) _
  refine yG.iald A_hp.1 (v_M_placeOf W H_r1) rfl (by omega) (by omega) (fun z6 e_z6 i_z6 l_z6 u_z6 => ?_)
  refine yG.num (c := 1) rfl (fun _ _ => rfl) (by decide) ?_
  refine yG.iadd rfl ?_
  obtain ⟨z7, e_z7⟩ : ∃ z : Int, z = z6 + 1 := ⟨_, rfl⟩
  rw [← e_z7]
  refine yG.store1 xik (L' := [(4, yI (z7)), (3, yI (z4)), (0, yR 2073), (1, yI (p1)), (2, yI (2))]) rfl (fun _ _ => rfl) rfl rfl ?_
  refine yG.load xak rfl (fun _ _ => rfl) (v := yR 2073) rfl rfl ?_
  refine yG.num (c := 2) rfl (fun _ _ => rfl) (by decide) ?_
  refine yG.load xik rfl (fun _ _ => rfl) (v := yI (p1)) rfl rfl ?_
  refine yG.load xik rfl (fun _ _ => rfl) (v := yI (2)) rfl rfl ?_
  refine yG.invV (rest := []) A_hp.1 (bOb (d_M W) H_2073) rfl rfl rfl rfl (c_GModel_of_v2_2 W (d + 1) A_hp.1 H_2073 (p1) (by omega) (by omega)) (fun rv hp9 q9 => ?_)
  obtain ⟨⟨z8, rfl, l_z8, u_z8, R_z8⟩, e9⟩ := q9
  rw [e9]
  show yG _ _ _ _ _ _ _ _ _ _ (yI z8 :: []) _
  refine yG.i2l rfl ⟨by omega, by omega⟩ ?_
  refine yG.store2 xlk2 (L' := [(5, yJ (z8)), (4, yI (z7)), (3, yI (z4)), (0, yR 2073), (1, yI (p1)), (2, yI (2))]) rfl (fun _ _ => rfl) rfl rfl ?_
  refine yG.load xak rfl (fun _ _ => rfl) (v := yR 2073) rfl rfl ?_
  refine yG.getI A_hp.1 (w_M_isOnLine W H_2073) rfl rfl (fun z9 e_z9 i_z9 l_z9 u_z9 => ?_)
  rw [show (z9 : Int) = gg1 by omega]
  refine yG.ifz rfl (t := 137) rfl ⟨by omega, by omega⟩ (fun c10 => ?_) (fun c10 => ?_)
  · have c10 : (gg1 : Int) = 0 := c10
    refine yG.load xik rfl (fun _ _ => rfl) (v := yI (z4)) rfl rfl ?_
    refine yG.load xik rfl (fun _ _ => rfl) (v := yI (z7)) rfl rfl ?_
    refine yG.icmp rfl (t := 159) rfl ⟨by omega, by omega⟩ ⟨by omega, by omega⟩ (fun c11 => ?_) (fun c11 => ?_)
    · have c11 : (z4 : Int) = z7 := c11
      refine yG.numl (c := 1) rfl (fun _ _ => rfl) (by decide) ?_
      refine yG.ret rfl (fun _ _ => rfl) ?_
      exact (yP.long ⟨by omega, by omega⟩ ⟨⟨⟨1, rfl, by omega, by omega, trivial⟩, A_hp⟩, (fun z e9 l9 u9 => by have e8 := yJinj e9 (by omega) (by omega) (by omega) (by omega); subst e8; exact (by have ea : gPl hp (gNd hp (gA hp (p1 : Int).toNat)).toNat = z3 + 1 := (by unfold gPl; rw [e_z3, R_z2]); have eb : gPl hp (gNd hp (gB hp (p1 : Int).toNat)).toNat = z6 + 1 := (by unfold gPl; rw [e_z6, R_z5]); have ex : ys hp 2089 (530 + 11 * (p1 : Int).toNat) = z8 := (by rw [R_z8]; congr 1; omega); have x1 : 1 ≤ z8 := (M_bWf.x (s := 2) (k := 2) (j := 530 + 11 * (p1 : Int).toNat) (i := p1) (.inl ⟨rfl, by omega⟩) (by omega) (by omega) (by omega) ex.symm (by omega)); exact mJp.nil (by omega) (by omega)))⟩)
    · have c11 : (z4 : Int) ≠ z7 := c11
      refine yG.load xak rfl (fun _ _ => rfl) (v := yR 2073) rfl rfl ?_
      refine yG.load xik rfl (fun _ _ => rfl) (v := yI (z4)) rfl rfl ?_
      refine yG.load xik rfl (fun _ _ => rfl) (v := yI (z7)) rfl rfl ?_
      refine yG.load xak rfl (fun _ _ => rfl) (v := yR 2073) rfl rfl ?_
      refine yG.load xlk2 rfl (fun _ _ => rfl) (v := yJ (z8)) rfl rfl ?_
      refine yG.invV (rest := [yI (z7), yI (z4), yR 2073]) A_hp.1 (bOb (d_M W) H_2073) rfl rfl rfl rfl (c_GModel_inverse__s W (d + 1) A_hp.1 H_2073 (z8) (by omega) (by omega) (by omega) (by omega)) (fun rv hp9 q9 => ?_)
      obtain ⟨⟨z12, rfl, l_z12, u_z12, R_z12⟩, e9⟩ := q9
      rw [e9]
      show yG _ _ _ _ _ _ _ _ _ _ (yJ z12 :: [yI (z7), yI (z4), yR 2073]) _
      refine yG.invV (rest := []) A_hp.1 (bOb (d_M W) H_2073) rfl rfl rfl rfl (c_GModel_join_s W (d + 1) A_hp.1 H_2073 (z4) (z7) (z12) (by omega) (by omega) (by omega) (by omega) (by omega) (by omega) (by omega) (by omega)) (fun rv h13 q9 => ?_)
      obtain ⟨⟨rfl, R_z14⟩, B_h13⟩ := q9
      have A_h13 := A_hp.tr B_h13 (by decide)
      have : ys h13 2073 11 = ys hp 2073 11 := B_h13.ys H_2073 (by decide)
      have : ys h13 2073 70 = ys hp 2073 70 := B_h13.ys H_2073 (by decide)
      have : ys h13 2073 71 = ys hp 2073 71 := B_h13.ys H_2073 (by decide)
      have : ys h13 2073 72 = ys hp 2073 72 := B_h13.ys H_2073 (by decide)
      have : ys h13 2073 38 = ys hp 2073 38 := B_h13.ys H_2073 (by decide)
      have qq1 : zsl h13 2073 39 = yR 2104 := (B_h13.sl H_2073 (by decide)).trans q_r1
      show yG _ _ _ _ _ _ _ _ _ _ [] _
      refine yG.load xlk2 rfl (fun _ _ => rfl) (v := yJ (z8)) rfl rfl ?_
      refine yG.ret rfl (fun _ _ => rfl) ?_
      exact (yP.long ⟨by omega, by omega⟩ ⟨⟨⟨z8, rfl, by omega, by omega, trivial⟩, A_h13⟩, (fun z e9 l9 u9 => by have e8 := yJinj e9 (by omega) (by omega) (by omega) (by omega); subst e8; exact (by first | (have ea : gPl hp (gNd hp (gA hp (p1 : Int).toNat)).toNat = z3 + 1 := (by unfold gPl; rw [e_z3, R_z2]); have eb : gPl hp (gNd hp (gB hp (p1 : Int).toNat)).toNat = z6 + 1 := (by unfold gPl; rw [e_z6, R_z5]); have ex : ys hp 2089 (530 + 11 * (p1 : Int).toNat) = z8 := (by rw [R_z8]; congr 1; omega); have x1 : 1 ≤ z8 := (M_bWf.x (s := 2) (k := 2) (j := 530 + 11 * (p1 : Int).toNat) (i := p1) (.inl ⟨rfl, by omega⟩) (by omega) (by omega) (by omega) ex.symm (by omega)); have nv := R_z12 g90 (mNdvd (by omega) (by omega)); rw [show gPl hp (gNd hp (gA hp (p1 : Int).toNat)).toNat = z4 by omega, show gPl hp (gNd hp (gB hp (p1 : Int).toNat)).toNat = z7 by omega, ex]; exact mJp.one (by omega) (by omega) R_z14 nv) | (have ea : gPl hp (gNd hp (gA hp (p1 : Int).toNat)).toNat = z3 + 1 := (by unfold gPl; rw [e_z3, R_z2]); have eb : gPl hp (gNd hp (gB hp (p1 : Int).toNat)).toNat = z6 + 1 := (by unfold gPl; rw [e_z6, R_z5]); have ex : ys hp 2089 (530 + 11 * (p1 : Int).toNat) = z := (by rw [R_z8]; congr 1; omega); have x1 : 1 ≤ z := (M_bWf.x (s := 2) (k := 2) (j := 530 + 11 * (p1 : Int).toNat) (i := p1) (.inl ⟨rfl, by omega⟩) (by omega) (by omega) (by omega) ex.symm (by omega)); have nv := R_z12 g90 (mNdvd (by omega) (by omega)); rw [show gPl hp (gNd hp (gA hp (p1 : Int).toNat)).toNat = z4 by omega, show gPl hp (gNd hp (gB hp (p1 : Int).toNat)).toNat = z7 by omega, ex]; exact mJp.one (by omega) (by omega) R_z14 nv)))⟩)
  · have c10 : (gg1 : Int) ≠ 0 := c10
    refine yG.load xik rfl (fun _ _ => rfl) (v := yI (p1)) rfl rfl ?_
    refine yG.load xak rfl (fun _ _ => rfl) (v := yR 2073) rfl rfl ?_
    refine yG.getI A_hp.1 (w_M_shortPlace W H_2073) rfl rfl (fun z15 e_z15 i_z15 l_z15 u_z15 => ?_)
    rw [show (z15 : Int) = gg2 by omega]
    refine yG.icmp rfl (t := 137) rfl ⟨by omega, by omega⟩ ⟨by omega, by omega⟩ (fun c16 => ?_) (fun c16 => ?_)
    · have c16 : (p1 : Int) ≠ gg2 := c16
      refine yG.load xik rfl (fun _ _ => rfl) (v := yI (z4)) rfl rfl ?_
      refine yG.load xik rfl (fun _ _ => rfl) (v := yI (z7)) rfl rfl ?_
      refine yG.icmp rfl (t := 159) rfl ⟨by omega, by omega⟩ ⟨by omega, by omega⟩ (fun c17 => ?_) (fun c17 => ?_)
      · have c17 : (z4 : Int) = z7 := c17
        refine yG.numl (c := 1) rfl (fun _ _ => rfl) (by decide) ?_
        refine yG.ret rfl (fun _ _ => rfl) ?_
        exact (yP.long ⟨by omega, by omega⟩ ⟨⟨⟨1, rfl, by omega, by omega, trivial⟩, A_hp⟩, (fun z e9 l9 u9 => by have e8 := yJinj e9 (by omega) (by omega) (by omega) (by omega); subst e8; exact (by have ea : gPl hp (gNd hp (gA hp (p1 : Int).toNat)).toNat = z3 + 1 := (by unfold gPl; rw [e_z3, R_z2]); have eb : gPl hp (gNd hp (gB hp (p1 : Int).toNat)).toNat = z6 + 1 := (by unfold gPl; rw [e_z6, R_z5]); have ex : ys hp 2089 (530 + 11 * (p1 : Int).toNat) = z8 := (by rw [R_z8]; congr 1; omega); have x1 : 1 ≤ z8 := (M_bWf.x (s := 2) (k := 2) (j := 530 + 11 * (p1 : Int).toNat) (i := p1) (.inl ⟨rfl, by omega⟩) (by omega) (by omega) (by omega) ex.symm (by omega)); exact mJp.nil (by omega) (by omega)))⟩)
      · have c17 : (z4 : Int) ≠ z7 := c17
        refine yG.load xak rfl (fun _ _ => rfl) (v := yR 2073) rfl rfl ?_
        refine yG.load xik rfl (fun _ _ => rfl) (v := yI (z4)) rfl rfl ?_
        refine yG.load xik rfl (fun _ _ => rfl) (v := yI (z7)) rfl rfl ?_
        refine yG.load xak rfl (fun _ _ => rfl) (v := yR 2073) rfl rfl ?_
        refine yG.load xlk2 rfl (fun _ _ => rfl) (v := yJ (z8)) rfl rfl ?_
        refine yG.invV (rest := [yI (z7), yI (z4), yR 2073]) A_hp.1 (bOb (d_M W) H_2073) rfl rfl rfl rfl (c_GModel_inverse__s W (d + 1) A_hp.1 H_2073 (z8) (by omega) (by omega) (by omega) (by omega)) (fun rv hp9 q9 => ?_)
        obtain ⟨⟨z18, rfl, l_z18, u_z18, R_z18⟩, e9⟩ := q9
        rw [e9]
        show yG _ _ _ _ _ _ _ _ _ _ (yJ z18 :: [yI (z7), yI (z4), yR 2073]) _
        refine yG.invV (rest := []) A_hp.1 (bOb (d_M W) H_2073) rfl rfl rfl rfl (c_GModel_join_s W (d + 1) A_hp.1 H_2073 (z4) (z7) (z18) (by omega) (by omega) (by omega) (by omega) (by omega) (by omega) (by omega) (by omega)) (fun rv h19 q9 => ?_)
        obtain ⟨⟨rfl, R_z20⟩, B_h19⟩ := q9
        have A_h19 := A_hp.tr B_h19 (by decide)
        have : ys h19 2073 11 = ys hp 2073 11 := B_h19.ys H_2073 (by decide)
        have : ys h19 2073 70 = ys hp 2073 70 := B_h19.ys H_2073 (by decide)
        have : ys h19 2073 71 = ys hp 2073 71 := B_h19.ys H_2073 (by decide)
        have : ys h19 2073 72 = ys hp 2073 72 := B_h19.ys H_2073 (by decide)
        have : ys h19 2073 38 = ys hp 2073 38 := B_h19.ys H_2073 (by decide)
        have qq2 : zsl h19 2073 39 = yR 2104 := (B_h19.sl H_2073 (by decide)).trans q_r1
        show yG _ _ _ _ _ _ _ _ _ _ [] _
        refine yG.load xlk2 rfl (fun _ _ => rfl) (v := yJ (z8)) rfl rfl ?_
        refine yG.ret rfl (fun _ _ => rfl) ?_
        exact (yP.long ⟨by omega, by omega⟩ ⟨⟨⟨z8, rfl, by omega, by omega, trivial⟩, A_h19⟩, (fun z e9 l9 u9 => by have e8 := yJinj e9 (by omega) (by omega) (by omega) (by omega); subst e8; exact (by first | (have ea : gPl hp (gNd hp (gA hp (p1 : Int).toNat)).toNat = z3 + 1 := (by unfold gPl; rw [e_z3, R_z2]); have eb : gPl hp (gNd hp (gB hp (p1 : Int).toNat)).toNat = z6 + 1 := (by unfold gPl; rw [e_z6, R_z5]); have ex : ys hp 2089 (530 + 11 * (p1 : Int).toNat) = z8 := (by rw [R_z8]; congr 1; omega); have x1 : 1 ≤ z8 := (M_bWf.x (s := 2) (k := 2) (j := 530 + 11 * (p1 : Int).toNat) (i := p1) (.inl ⟨rfl, by omega⟩) (by omega) (by omega) (by omega) ex.symm (by omega)); have nv := R_z18 g90 (mNdvd (by omega) (by omega)); rw [show gPl hp (gNd hp (gA hp (p1 : Int).toNat)).toNat = z4 by omega, show gPl hp (gNd hp (gB hp (p1 : Int).toNat)).toNat = z7 by omega, ex]; exact mJp.one (by omega) (by omega) R_z20 nv) | (have ea : gPl hp (gNd hp (gA hp (p1 : Int).toNat)).toNat = z3 + 1 := (by unfold gPl; rw [e_z3, R_z2]); have eb : gPl hp (gNd hp (gB hp (p1 : Int).toNat)).toNat = z6 + 1 := (by unfold gPl; rw [e_z6, R_z5]); have ex : ys hp 2089 (530 + 11 * (p1 : Int).toNat) = z := (by rw [R_z8]; congr 1; omega); have x1 : 1 ≤ z := (M_bWf.x (s := 2) (k := 2) (j := 530 + 11 * (p1 : Int).toNat) (i := p1) (.inl ⟨rfl, by omega⟩) (by omega) (by omega) (by omega) ex.symm (by omega)); have nv := R_z18 g90 (mNdvd (by omega) (by omega)); rw [show gPl hp (gNd hp (gA hp (p1 : Int).toNat)).toNat = z4 by omega, show gPl hp (gNd hp (gB hp (p1 : Int).toNat)).toNat = z7 by omega, ex]; exact mJp.one (by omega) (by omega) R_z20 nv)))⟩)
    · have c16 : (p1 : Int) = gg2 := c16
      refine yG.load xlk2 rfl (fun _ _ => rfl) (v := yJ (z8)) rfl rfl ?_
      refine yG.load xak rfl (fun _ _ => rfl) (v := yR 2073) rfl rfl ?_
      refine yG.getI A_hp.1 (w_M_shortK W H_2073) rfl rfl (fun z21 e_z21 i_z21 l_z21 u_z21 => ?_)
      rw [show (z21 : Int) = gg3 by omega]
      refine yG.i2l rfl ⟨by omega, by omega⟩ ?_
      refine yG.lmul rfl ?_
      obtain ⟨z22, e_z22⟩ : ∃ z : Int, z = z8 * gg3 := ⟨_, rfl⟩
      rw [← e_z22]
      have b_z22 : 0 ≤ z22 ∧ z22 ≤ 4485 := e_z22 ▸ ymulb (A := 299) (B := 15) (by omega) (by omega) (by omega) (by omega) (by decide)
      have b2_z22 : z22 ≤ 299 * gg3 := e_z22 ▸ bmulx (by omega) (by omega)
      have b3_z22 : z22 ≤ 15 * z8 := e_z22 ▸ bmuly (by omega) (by omega)
      refine yG.store2 xlk2 (L' := [(7, yJ (z22)), (5, yJ (z8)), (4, yI (z7)), (3, yI (z4)), (0, yR 2073), (1, yI (p1)), (2, yI (2))]) rfl (fun _ _ => rfl) rfl rfl ?_
      refine yG.load xlk2 rfl (fun _ _ => rfl) (v := yJ (z8)) rfl rfl ?_
      refine yG.num (c := 16) rfl (fun _ _ => rfl) (by decide) ?_
      refine yG.load xak rfl (fun _ _ => rfl) (v := yR 2073) rfl rfl ?_
      refine yG.getI A_hp.1 (w_M_shortK W H_2073) rfl rfl (fun z23 e_z23 i_z23 l_z23 u_z23 => ?_)
      rw [show (z23 : Int) = gg3 by omega]
      refine yG.isub rfl ?_
      refine yG.i2l rfl ⟨by omega, by omega⟩ ?_
      refine yG.lmul rfl ?_
      obtain ⟨z24, e_z24⟩ : ∃ z : Int, z = z8 * (16 - gg3) := ⟨_, rfl⟩
      rw [← e_z24]
      have b_z24 : 0 ≤ z24 ∧ z24 ≤ 4784 := e_z24 ▸ ymulb (A := 299) (B := 16) (by omega) (by omega) (by omega) (by omega) (by decide)
      have b2_z24 : z24 ≤ 299 * (16 - gg3) := e_z24 ▸ bmulx (by omega) (by omega)
      have b3_z24 : z24 ≤ 16 * z8 := e_z24 ▸ bmuly (by omega) (by omega)
      refine yG.store2 xlk2 (L' := [(9, yJ (z24)), (7, yJ (z22)), (5, yJ (z8)), (4, yI (z7)), (3, yI (z4)), (0, yR 2073), (1, yI (p1)), (2, yI (2))]) rfl (fun _ _ => rfl) rfl rfl ?_
      refine yG.load xak rfl (fun _ _ => rfl) (v := yR 2073) rfl rfl ?_
      refine yG.load xik rfl (fun _ _ => rfl) (v := yI (z4)) rfl rfl ?_
      refine yG.load xak rfl (fun _ _ => rfl) (v := yR 2073) rfl rfl ?_
      refine yG.getI A_hp.1 (w_M_nodes W H_2073) rfl rfl (fun z25 e_z25 i_z25 l_z25 u_z25 => ?_)
      rw [show (z25 : Int) = gg4 by omega]
      refine yG.numl (c := 16) rfl (fun _ _ => rfl) (by decide) ?_
      refine yG.load xak rfl (fun _ _ => rfl) (v := yR 2073) rfl rfl ?_
      refine yG.load xlk2 rfl (fun _ _ => rfl) (v := yJ (z22)) rfl rfl ?_
      refine yG.invV (rest := [yJ (16), yI (gg4), yI (z4), yR 2073]) A_hp.1 (bOb (d_M W) H_2073) rfl rfl rfl rfl (c_GModel_inverse__s W (d + 1) A_hp.1 H_2073 (z22) (by omega) (by omega) (by omega) (by omega)) (fun rv hp9 q9 => ?_)
      obtain ⟨⟨z26, rfl, l_z26, u_z26, R_z26⟩, e9⟩ := q9
      rw [e9]
      show yG _ _ _ _ _ _ _ _ _ _ (yJ z26 :: [yJ (16), yI (gg4), yI (z4), yR 2073]) _
      refine yG.lmul rfl ?_
      refine yG.load xak rfl (fun _ _ => rfl) (v := yR 2073) rfl rfl ?_
      refine yG.getJ A_hp.1 (w_M_p W H_2073) rfl rfl (fun z27 e_z27 i_z27 l_z27 u_z27 => ?_)
      rw [show (z27 : Int) = gg0 by omega]
      refine yG.lrem rfl ⟨by omega, by omega⟩ ⟨by omega, by omega⟩ (by omega) (by omega) ?_
      obtain ⟨z28, e_z28⟩ : ∃ z : Int, z = (16 * z26) % (gg0) := ⟨_, rfl⟩
      rw [← e_z28]
      have b_z28 : 0 ≤ z28 ∧ z28 < gg0 := e_z28 ▸ ⟨Int.emod_nonneg _ (by omega), Int.emod_lt_of_pos _ (by omega)⟩
      refine yG.invV (rest := []) A_hp.1 (bOb (d_M W) H_2073) rfl rfl rfl rfl (c_GModel_join_s W (d + 1) A_hp.1 H_2073 (z4) (gg4) (z28) (by omega) (by omega) (by omega) (by omega) (by omega) (by omega) (by omega) (by omega)) (fun rv h29 q9 => ?_)
      obtain ⟨⟨rfl, R_z30⟩, B_h29⟩ := q9
      have A_h29 := A_hp.tr B_h29 (by decide)
      have : ys h29 2073 11 = ys hp 2073 11 := B_h29.ys H_2073 (by decide)
      have : ys h29 2073 70 = ys hp 2073 70 := B_h29.ys H_2073 (by decide)
      have : ys h29 2073 71 = ys hp 2073 71 := B_h29.ys H_2073 (by decide)
      have : ys h29 2073 72 = ys hp 2073 72 := B_h29.ys H_2073 (by decide)
      have : ys h29 2073 38 = ys hp 2073 38 := B_h29.ys H_2073 (by decide)
      have qq3 : zsl h29 2073 39 = yR 2104 := (B_h29.sl H_2073 (by decide)).trans q_r1
      show yG _ _ _ _ _ _ _ _ _ _ [] _
      refine yG.load xak rfl (fun _ _ => rfl) (v := yR 2073) rfl rfl ?_
      refine yG.load xik rfl (fun _ _ => rfl) (v := yI (z7)) rfl rfl ?_
      refine yG.load xak rfl (fun _ _ => rfl) (v := yR 2073) rfl rfl ?_
      refine yG.getI A_h29.1 (w_M_nodes W H_2073) rfl rfl (fun z31 e_z31 i_z31 l_z31 u_z31 => ?_)
      rw [show (z31 : Int) = gg4 by omega]
      refine yG.numl (c := 16) rfl (fun _ _ => rfl) (by decide) ?_
      refine yG.load xak rfl (fun _ _ => rfl) (v := yR 2073) rfl rfl ?_
      refine yG.load xlk2 rfl (fun _ _ => rfl) (v := yJ (z24)) rfl rfl ?_
      refine yG.invV (rest := [yJ (16), yI (gg4), yI (z7), yR 2073]) A_h29.1 (bOb (d_M W) H_2073) rfl rfl rfl rfl (c_GModel_inverse__s W (d + 1) A_h29.1 H_2073 (z24) (by omega) (by omega) (by omega) (by omega)) (fun rv hp9 q9 => ?_)
      obtain ⟨⟨z32, rfl, l_z32, u_z32, R_z32⟩, e9⟩ := q9
      rw [e9]
      show yG _ _ _ _ _ _ _ _ _ _ (yJ z32 :: [yJ (16), yI (gg4), yI (z7), yR 2073]) _
      refine yG.lmul rfl ?_
      refine yG.load xak rfl (fun _ _ => rfl) (v := yR 2073) rfl rfl ?_
      refine yG.getJ A_h29.1 (w_M_p W H_2073) rfl rfl (fun z33 e_z33 i_z33 l_z33 u_z33 => ?_)
      rw [show (z33 : Int) = gg0 by omega]
      refine yG.lrem rfl ⟨by omega, by omega⟩ ⟨by omega, by omega⟩ (by omega) (by omega) ?_
      obtain ⟨z34, e_z34⟩ : ∃ z : Int, z = (16 * z32) % (gg0) := ⟨_, rfl⟩
      rw [← e_z34]
      have b_z34 : 0 ≤ z34 ∧ z34 < gg0 := e_z34 ▸ ⟨Int.emod_nonneg _ (by omega), Int.emod_lt_of_pos _ (by omega)⟩
      refine yG.invV (rest := []) A_h29.1 (bOb (d_M W) H_2073) rfl rfl rfl rfl (c_GModel_join_s W (d + 1) A_h29.1 H_2073 (z7) (gg4) (z34) (by omega) (by omega) (by omega) (by omega) (by omega) (by omega) (by omega) (by omega)) (fun rv h35 q9 => ?_)
      obtain ⟨⟨rfl, R_z36⟩, B_h35⟩ := q9
      have A_h35 := A_h29.tr B_h35 (by decide)
      have : ys h35 2073 11 = ys h29 2073 11 := B_h35.ys H_2073 (by decide)
      have : ys h35 2073 70 = ys h29 2073 70 := B_h35.ys H_2073 (by decide)
      have : ys h35 2073 71 = ys h29 2073 71 := B_h35.ys H_2073 (by decide)
      have : ys h35 2073 72 = ys h29 2073 72 := B_h35.ys H_2073 (by decide)
      have : ys h35 2073 38 = ys h29 2073 38 := B_h35.ys H_2073 (by decide)
      have qq4 : zsl h35 2073 39 = yR 2104 := (B_h35.sl H_2073 (by decide)).trans qq3
      show yG _ _ _ _ _ _ _ _ _ _ [] _
      refine yG.load xlk2 rfl (fun _ _ => rfl) (v := yJ (z22)) rfl rfl ?_
      refine yG.load xlk2 rfl (fun _ _ => rfl) (v := yJ (z24)) rfl rfl ?_
      refine yG.lmul rfl ?_
      obtain ⟨z37, e_z37⟩ : ∃ z : Int, z = z22 * z24 := ⟨_, rfl⟩
      rw [← e_z37]
      have b_z37 : 0 ≤ z37 ∧ z37 ≤ 21456240 := e_z37 ▸ ymulb (A := 4485) (B := 4784) (by omega) (by omega) (by omega) (by omega) (by decide)
      have b2_z37 : z37 ≤ 4485 * z24 := e_z37 ▸ bmulx (by omega) (by omega)
      have b3_z37 : z37 ≤ 4784 * z22 := e_z37 ▸ bmuly (by omega) (by omega)
      refine yG.load xak rfl (fun _ _ => rfl) (v := yR 2073) rfl rfl ?_
      refine yG.getJ A_h35.1 (w_M_p W H_2073) rfl rfl (fun z38 e_z38 i_z38 l_z38 u_z38 => ?_)
      rw [show (z38 : Int) = gg0 by omega]
      refine yG.lrem rfl ⟨by omega, by omega⟩ ⟨by omega, by omega⟩ (by omega) (by omega) ?_
      obtain ⟨z39, e_z39⟩ : ∃ z : Int, z = (z37) % (gg0) := ⟨_, rfl⟩
      rw [← e_z39]
      have b_z39 : 0 ≤ z39 ∧ z39 < gg0 := e_z39 ▸ ⟨Int.emod_nonneg _ (by omega), Int.emod_lt_of_pos _ (by omega)⟩
      refine yG.ret rfl (fun _ _ => rfl) ?_
      exact (yP.long ⟨by omega, by omega⟩ ⟨⟨⟨z39, rfl, by omega, by omega, trivial⟩, A_h35⟩, (fun z e9 l9 u9 => by have e8 := yJinj e9 (by omega) (by omega) (by omega) (by omega); subst e8; exact (by first | (have ea : gPl hp (gNd hp (gA hp (p1 : Int).toNat)).toNat = z3 + 1 := (by unfold gPl; rw [e_z3, R_z2]); have eb : gPl hp (gNd hp (gB hp (p1 : Int).toNat)).toNat = z6 + 1 := (by unfold gPl; rw [e_z6, R_z5]); have ex : ys hp 2089 (530 + 11 * (p1 : Int).toNat) = z8 := (by rw [R_z8]; congr 1; omega); have x1 : 1 ≤ z8 := (M_bWf.x (s := 2) (k := 2) (j := 530 + 11 * (p1 : Int).toNat) (i := p1) (.inl ⟨rfl, by omega⟩) (by omega) (by omega) (by omega) ex.symm (by omega)); have sb : 1 ≤ gg3 ∧ gg3 ≤ 15 := (by omega); have mb0 := mul_bd (a := z8) (b := gg3) x1 (by omega) (by omega) (by omega); have mb1 := mul_bd (a := z8) (b := 16 - gg3) x1 (by omega) (by omega) (by omega); have nv0 := R_z26; rw [show ys hp 2073 11 = ys hp 2073 11 by omega] at nv0; have jj0 := R_z30; rw [show ys hp 2073 11 = ys hp 2073 11 by omega] at jj0; have rr0 : (ys hp 2073 11) ∣ z28 - 16 * z26 := (by rw [show (ys hp 2073 11) = gg0 by omega]; exact mdv_mod (by omega) e_z28); have nw0 := nv0 g90 (mNdvd (by rw [e_z22]; omega) (by rw [e_z22]; omega)); rw [e_z22] at nw0; have nv1 := R_z32; rw [show ys h29 2073 11 = ys hp 2073 11 by omega] at nv1; have jj1 := R_z36; rw [show ys h29 2073 11 = ys hp 2073 11 by omega] at jj1; have rr1 : (ys hp 2073 11) ∣ z34 - 16 * z32 := (by rw [show (ys hp 2073 11) = gg0 by omega]; exact mdv_mod (by omega) e_z34); have nw1 := nv1 g90 (mNdvd (by rw [e_z24]; omega) (by rw [e_z24]; omega)); rw [e_z24] at nw1; have e3 := mdv_mod (p := gg0) (by omega) e_z39; rw [e_z37, e_z22, e_z24, show gg0 = (ys hp 2073 11) by omega] at e3; rw [show gPl hp (gNd hp (gA hp (p1 : Int).toNat)).toNat = z4 by omega, show gPl hp (gNd hp (gB hp (p1 : Int).toNat)).toNat = z7 by omega, ex, show ys hp 2073 72 = gg3 by omega, show ys hp 2073 38 = gg4 by omega]; exact mJp.two ⟨by omega, by omega⟩ jj0 jj1 (mJy nw0 rr0) (mJy nw1 rr1) e3) | (have ea : gPl hp (gNd hp (gA hp (p1 : Int).toNat)).toNat = z3 + 1 := (by unfold gPl; rw [e_z3, R_z2]); have eb : gPl hp (gNd hp (gB hp (p1 : Int).toNat)).toNat = z6 + 1 := (by unfold gPl; rw [e_z6, R_z5]); have ex : ys hp 2089 (530 + 11 * (p1 : Int).toNat) = z8 := (by rw [R_z8]; congr 1; omega); have x1 : 1 ≤ z8 := (M_bWf.x (s := 2) (k := 2) (j := 530 + 11 * (p1 : Int).toNat) (i := p1) (.inl ⟨rfl, by omega⟩) (by omega) (by omega) (by omega) ex.symm (by omega)); have sb : 1 ≤ gg3 ∧ gg3 ≤ 15 := (by omega); have mb0 := mul_bd (a := z8) (b := gg3) x1 (by omega) (by omega) (by omega); have mb1 := mul_bd (a := z8) (b := 16 - gg3) x1 (by omega) (by omega) (by omega); have nv0 := R_z26; rw [show ys hp 2073 11 = ys hp 2073 11 by omega] at nv0; have jj0 := R_z30; rw [show ys hp 2073 11 = ys hp 2073 11 by omega] at jj0; have rr0 : (ys hp 2073 11) ∣ z28 - 16 * z26 := (by rw [show (ys hp 2073 11) = gg0 by omega]; exact mdv_mod (by omega) e_z28); have nw0 := nv0 g90 (mNdvd (by rw [e_z22]; omega) (by rw [e_z22]; omega)); rw [e_z22] at nw0; have nv1 := R_z32; rw [show ys h29 2073 11 = ys hp 2073 11 by omega] at nv1; have jj1 := R_z36; rw [show ys h29 2073 11 = ys hp 2073 11 by omega] at jj1; have rr1 : (ys hp 2073 11) ∣ z34 - 16 * z32 := (by rw [show (ys hp 2073 11) = gg0 by omega]; exact mdv_mod (by omega) e_z34); have nw1 := nv1 g90 (mNdvd (by rw [e_z24]; omega) (by rw [e_z24]; omega)); rw [e_z24] at nw1; have e3 := mdv_mod (p := gg0) (by omega) e_z39; rw [e_z37, e_z22, e_z24, show gg0 = (ys hp 2073 11) by omega] at e3; rw [show gPl hp (gNd hp (gA hp (p1 : Int).toNat)).toNat = z4 by omega, show gPl hp (gNd hp (gB hp (p1 : Int).toNat)).toNat = z7 by omega, ex, show ys hp 2073 72 = gg3 by omega, show ys hp 2073 38 = gg4 by omega]; exact mJp.two ⟨by omega, by omega⟩ jj0 jj1 (mJy nw0 rr0) (mJy nw1 rr1) e3)))⟩)
theorem c_GModel_isOnIn_s {hp : xH} (W : mW G) (d : Nat) (hT : zTy G hp) (H_2073 : bRo G 116 2073) (p1 p2 : Int) (h1l : 0 ≤ p1) (h1u : p1 ≤ 23) (h2l : 0 ≤ p2) (h2u : p2 ≤ 15) : yC (xcall 89 xfts xpools xms (d + 3)) 435 [yR 2073, yI (p1), yI (p2)] hp (bQpi hp 0 1 (fun z => ((z = 1 → ys hp 2089 (792 + 11 * (p1 : Int).toNat) = 1 ∧ gIl hp (gMb hp (p1 : Int).toNat) = p2) ∧ (z = 0 → ¬ (ys hp 2089 (792 + 11 * (p1 : Int).toNat) = 1 ∧ gIl hp (gMb hp (p1 : Int).toNat) = p2))))) := by
  have A_hp : bAx G [] hp hp := bAx.rf hT
  refine yC.of (M := (xt_X13_isOnIn, (3, (4, (14, []))))) rfl rfl (N := 66) (yfuel (by decide)) ?_
  show yG 89 xfts (xcall 89 xfts xpools xms (d + 2)) (xpool xp_RX13) [] xt_X13_isOnIn (yP 4 (bQpi hp 0 1 (fun z => ((z = 1 → ys hp 2089 (792 + 11 * (p1 : Int).toNat) = 1 ∧ gIl hp (gMb hp (p1 : Int).toNat) = p2) ∧ (z = 0 → ¬ (ys hp 2089 (792 + 11 * (p1 : Int).toNat) = 1 ∧ gIl hp (gMb hp (p1 : Int).toNat) = p2)))))) 66 0 [(0, yR 2073), (1, yI (p1)), (2, yI (p2))] [] hp
  refine yG.load xak rfl (fun _ _ => rfl) (v := yR 2073) rfl rfl ?_
  refine yG.num (c := 3) rfl (fun _ _ => rfl) (by decide) ?_
  refine yG.load xik rfl (fun _ _ => rfl) (v := yI (p1)) rfl rfl ?_
  refine yG.num (c := 0) rfl (fun _ _ => rfl) (by decide) ?_
  refine yG.invV (rest := []) A_hp.1 (bOb (d_M W) H_2073) rfl rfl rfl rfl (c_GModel_of_v3_0 W d A_hp.1 H_2073 (p1) (by omega) (by omega)) (fun rv hp9 q9 => ?_)
  obtain ⟨⟨z1, rfl, l_z1, u_z1, R_z1⟩, e9⟩ := q9
  rw [e9]
  show yG _ _ _ _ _ _ _ _ _ _ (yI z1 :: []) _
  refine yG.num (c := 1) rfl (fun _ _ => rfl) (by decide) ?_
  refine yG.icmp rfl (t := 32) rfl ⟨by omega, by omega⟩ ⟨by omega, by omega⟩ (fun c2 => ?_) (fun c2 => ?_)
  · have c2 : (z1 : Int) ≠ 1 := c2
    refine yG.num (c := 0) rfl (fun _ _ => rfl) (by decide) ?_
    refine yG.ret rfl (fun _ _ => rfl) ?_
    exact (yP.bool (by omega) ⟨⟨0, rfl, by omega, by omega, (by have o0 : ys hp 2089 (792 + 11 * (p1 : Int).toNat) = z1 := (by rw [R_z1]; congr 1; omega); omega)⟩, rfl⟩)
  · have c2 : (z1 : Int) = 1 := c2
    refine yG.load xak rfl (fun _ _ => rfl) (v := yR 2073) rfl rfl ?_
    refine yG.getO A_hp.1 (w_M_island W H_2073) rfl rfl (fun r3 H_r3 O_r3 q_r3 => ?_)
    obtain rfl := u_M_island W H_r3
    refine yG.load xak rfl (fun _ _ => rfl) (v := yR 2073) rfl rfl ?_
    refine yG.num (c := 3) rfl (fun _ _ => rfl) (by decide) ?_
    refine yG.load xik rfl (fun _ _ => rfl) (v := yI (p1)) rfl rfl ?_
    refine yG.num (c := 10) rfl (fun _ _ => rfl) (by decide) ?_
    refine yG.invV (rest := [yR 2101]) A_hp.1 (bOb (d_M W) H_2073) rfl rfl rfl rfl (c_GModel_of_v3_10 W d A_hp.1 H_2073 (p1) (by omega) (by omega)) (fun rv hp9 q9 => ?_)
    obtain ⟨⟨z4, rfl, l_z4, u_z4, R_z4⟩, e9⟩ := q9
    rw [e9]
    show yG _ _ _ _ _ _ _ _ _ _ (yI z4 :: [yR 2101]) _
    refine yG.ialdF A_hp.1 (v_M_island W H_r3) rfl rfl (by omega) (by omega) (fun z5 e_z5 i_z5 l_z5 u_z5 => ?_)
    refine yG.load xik rfl (fun _ _ => rfl) (v := yI (p2)) rfl rfl ?_
    refine yG.icmp rfl (t := 32) rfl ⟨by omega, by omega⟩ ⟨by omega, by omega⟩ (fun c6 => ?_) (fun c6 => ?_)
    · have c6 : (z5 : Int) ≠ p2 := c6
      refine yG.num (c := 0) rfl (fun _ _ => rfl) (by decide) ?_
      refine yG.ret rfl (fun _ _ => rfl) ?_
      exact (yP.bool (by omega) ⟨⟨0, rfl, by omega, by omega, (by have o0 : ys hp 2089 (792 + 11 * (p1 : Int).toNat) = z1 := (by rw [R_z1]; congr 1; omega); have o1 : gIl hp (gMb hp (p1 : Int).toNat) = z5 := (by unfold gIl gMb; rw [e_z5]; congr 2; rw [R_z4]; congr 1; omega); omega)⟩, rfl⟩)
    · have c6 : (z5 : Int) = p2 := c6
      refine yG.num (c := 1) rfl (fun _ _ => rfl) (by decide) ?_
      refine yG.goto rfl (t := 33) rfl ?_
      refine yG.ret rfl (fun _ _ => rfl) ?_
      exact (yP.bool (by omega) ⟨⟨1, rfl, by omega, by omega, (by have o0 : ys hp 2089 (792 + 11 * (p1 : Int).toNat) = z1 := (by rw [R_z1]; congr 1; omega); have o1 : gIl hp (gMb hp (p1 : Int).toNat) = z5 := (by unfold gIl gMb; rw [e_z5]; congr 2; rw [R_z4]; congr 1; omega); omega)⟩, rfl⟩)
theorem c_GModel_placeRow_s {hp : xH} (W : mW G) (d : Nat) (hT : zTy G hp) (M_bSm : bSm G hp) (H_2073 : bRo G 116 2073) : yC (xcall 89 xfts xpools xms (d + 1)) 480 [yR 2073] hp (bQpi hp 0 16 (fun z => ((ys hp 2073 70 = 1 → z = ys hp 2073 38) ∧ (ys hp 2073 70 = 0 → z = gPl hp (gNd hp (ys hp 2073 71 : Int).toNat).toNat)))) := by
  have A_hp : bAx G [] hp hp := bAx.rf hT
  refine yC.of (M := (xt_X13_placeRow, (1, (1, (14, []))))) rfl rfl (N := 48) (yfuel (by decide)) ?_
  show yG 89 xfts (xcall 89 xfts xpools xms d) (xpool xp_RX13) [] xt_X13_placeRow (yP 1 (bQpi hp 0 16 (fun z => ((ys hp 2073 70 = 1 → z = ys hp 2073 38) ∧ (ys hp 2073 70 = 0 → z = gPl hp (gNd hp (ys hp 2073 71 : Int).toNat).toNat))))) 48 0 [(0, yR 2073)] [] hp
  obtain ⟨gg0, E_0⟩ : ∃ z : Int, ys hp 2073 70 = z := ⟨_, rfl⟩
  obtain ⟨-, -, g_0l, g_0u⟩ := (w_M_isOnLine W H_2073).int hT
  obtain ⟨gg1, E_1⟩ : ∃ z : Int, ys hp 2073 71 = z := ⟨_, rfl⟩
  obtain ⟨-, -, g_1l, g_1u⟩ := (w_M_shortPlace W H_2073).int hT
  obtain ⟨gg2, E_2⟩ : ∃ z : Int, ys hp 2073 38 = z := ⟨_, rfl⟩
  obtain ⟨-, -, g_2l, g_2u⟩ := (w_M_nodes W H_2073).int hT
  refine yG.load xak rfl (fun _ _ => rfl) (v := yR 2073) rfl rfl ?_
  refine yG.getI A_hp.1 (w_M_isOnLine W H_2073) rfl rfl (fun z1 e_z1 i_z1 l_z1 u_z1 => ?_)
  rw [show (z1 : Int) = gg0 by omega]
  refine yG.ifz rfl (t := 14) rfl ⟨by omega, by omega⟩ (fun c2 => ?_) (fun c2 => ?_)
  · have c2 : (gg0 : Int) = 0 := c2
    refine yG.load xak rfl (fun _ _ => rfl) (v := yR 2073) rfl rfl ?_
    refine yG.getO A_hp.1 (w_M_placeOf W H_2073) rfl rfl (fun r3 H_r3 O_r3 q_r3 => ?_)
    obtain rfl := u_M_placeOf W H_r3
    refine yG.load xak rfl (fun _ _ => rfl) (v := yR 2073) rfl rfl ?_
    refine yG.getO A_hp.1 (w_M_node W H_2073) rfl rfl (fun r4 H_r4 O_r4 q_r4 => ?_)
    obtain rfl := u_M_node W H_r4
    refine yG.load xak rfl (fun _ _ => rfl) (v := yR 2073) rfl rfl ?_
    refine yG.getI A_hp.1 (w_M_shortPlace W H_2073) rfl rfl (fun z5 e_z5 i_z5 l_z5 u_z5 => ?_)
    rw [show (z5 : Int) = gg1 by omega]
    have v22 : ys hp 2073 71 ≤ 15 := M_bSm 2073 H_2073 (by omega)
    refine yG.ialdF A_hp.1 (v_M_node W H_r4) rfl rfl (by omega) (by omega) (fun z6 e_z6 i_z6 l_z6 u_z6 => ?_)
    refine yG.iald A_hp.1 (v_M_placeOf W H_r3) rfl (by omega) (by omega) (fun z7 e_z7 i_z7 l_z7 u_z7 => ?_)
    refine yG.num (c := 1) rfl (fun _ _ => rfl) (by decide) ?_
    refine yG.iadd rfl ?_
    refine yG.ret rfl (fun _ _ => rfl) ?_
    exact (yP.int ⟨by omega, by omega⟩ ⟨⟨z7 + 1, rfl, by omega, by omega, (by have o0 : gPl hp (gNd hp (ys hp 2073 71 : Int).toNat).toNat = z7 + 1 := (by unfold gPl gNd; rw [show ys hp 2073 71 = gg1 by omega, ← e_z6, ← e_z7]); omega)⟩, rfl⟩)
  · have c2 : (gg0 : Int) ≠ 0 := c2
    refine yG.load xak rfl (fun _ _ => rfl) (v := yR 2073) rfl rfl ?_
    refine yG.getI A_hp.1 (w_M_nodes W H_2073) rfl rfl (fun z8 e_z8 i_z8 l_z8 u_z8 => ?_)
    rw [show (z8 : Int) = gg2 by omega]
    refine yG.goto rfl (t := 30) rfl ?_
    refine yG.ret rfl (fun _ _ => rfl) ?_
    exact (yP.int ⟨by omega, by omega⟩ ⟨⟨gg2, rfl, by omega, by omega, (by omega)⟩, rfl⟩)
end MPotsM
