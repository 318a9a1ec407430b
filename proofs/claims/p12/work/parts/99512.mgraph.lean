/-! ===== the reference: nodes and islands ===== -/
section MNodes
variable {G : zW}
theorem c_GModel_of_v3_0 {hp : xH} (W : mW G) (d : Nat) (hT : zTy G hp) (H_2073 : bRo G 116 2073) (p2 : Int) (h2l : 0 ≤ p2) (h2u : p2 ≤ 23) : yC (xcall 89 xfts xpools xms (d + 2)) 471 [yR 2073, yI (3), yI (p2), yI (0)] hp (bQpi hp 0 1 (fun z => z = ys hp 2089 (792 + 11 * p2 : Int).toNat)) := by
  have A_hp : bAx G [] hp hp := bAx.rf hT
  refine yC.of (M := (xt_X13_of, (4, (1, (14, []))))) rfl rfl (N := 30) (yfuel (by decide)) ?_
  show yG 89 xfts (xcall 89 xfts xpools xms (d + 1)) (xpool xp_RX13) [] xt_X13_of (yP 1 (bQpi hp 0 1 (fun z => z = ys hp 2089 (792 + 11 * p2 : Int).toNat))) 30 0 [(0, yR 2073), (1, yI (3)), (2, yI (p2)), (3, yI (0))] [] hp
  refine yG.load xak rfl (fun _ _ => rfl) (v := yR 2073) rfl rfl ?_
  refine yG.getO A_hp.1 (w_M_field W H_2073) rfl rfl (fun r1 H_r1 O_r1 q_r1 => ?_)
  obtain rfl := u_M_field W H_r1
  refine yG.load xik rfl (fun _ _ => rfl) (v := yI (3)) rfl rfl ?_
  refine yG.load xik rfl (fun _ _ => rfl) (v := yI (p2)) rfl rfl ?_
  refine yG.load xik rfl (fun _ _ => rfl) (v := yI (0)) rfl rfl ?_
  refine yG.invS (rest := [yR 2089]) rfl rfl rfl rfl (c_GModel_f W d A_hp.1 (3) (p2) (0) (by omega) (by omega) (by omega) (by omega) (by omega) (by omega)) (fun rv hp9 q9 => ?_)
  obtain ⟨⟨z2, rfl, l_z2, u_z2, R_z2⟩, e9⟩ := q9
  rw [e9]
  show yG _ _ _ _ _ _ _ _ _ _ (yI z2 :: [yR 2089]) _
  refine yG.ialdF A_hp.1 (v_M_field W H_r1) (lo := 0) (hi := 1) ((yfT_ix (s := 3) (k := 0) (by omega) (by omega) (by omega) (by decide)).trans rfl) rfl (by omega) (by omega) (fun z3 e_z3 i_z3 l_z3 u_z3 => ?_)
  refine yG.ret rfl (fun _ _ => rfl) ?_
  exact (yP.int ⟨by omega, by omega⟩ ⟨⟨z3, rfl, by omega, by omega, by rw [e_z3]; congr 1; omega⟩, rfl⟩)
theorem c_GModel_of_v2_1 {hp : xH} (W : mW G) (d : Nat) (hT : zTy G hp) (H_2073 : bRo G 116 2073) (p2 : Int) (h2l : 0 ≤ p2) (h2u : p2 ≤ 23) : yC (xcall 89 xfts xpools xms (d + 2)) 471 [yR 2073, yI (2), yI (p2), yI (1)] hp (bQpi hp 0 99 (fun z => z = ys hp 2089 (529 + 11 * p2 : Int).toNat)) := by
  have A_hp : bAx G [] hp hp := bAx.rf hT
  refine yC.of (M := (xt_X13_of, (4, (1, (14, []))))) rfl rfl (N := 30) (yfuel (by decide)) ?_
  show yG 89 xfts (xcall 89 xfts xpools xms (d + 1)) (xpool xp_RX13) [] xt_X13_of (yP 1 (bQpi hp 0 99 (fun z => z = ys hp 2089 (529 + 11 * p2 : Int).toNat))) 30 0 [(0, yR 2073), (1, yI (2)), (2, yI (p2)), (3, yI (1))] [] hp
  refine yG.load xak rfl (fun _ _ => rfl) (v := yR 2073) rfl rfl ?_
  refine yG.getO A_hp.1 (w_M_field W H_2073) rfl rfl (fun r1 H_r1 O_r1 q_r1 => ?_)
  obtain rfl := u_M_field W H_r1
  refine yG.load xik rfl (fun _ _ => rfl) (v := yI (2)) rfl rfl ?_
  refine yG.load xik rfl (fun _ _ => rfl) (v := yI (p2)) rfl rfl ?_
  refine yG.load xik rfl (fun _ _ => rfl) (v := yI (1)) rfl rfl ?_
  refine yG.invS (rest := [yR 2089]) rfl rfl rfl rfl (c_GModel_f W d A_hp.1 (2) (p2) (1) (by omega) (by omega) (by omega) (by omega) (by omega) (by omega)) (fun rv hp9 q9 => ?_)
  obtain ⟨⟨z2, rfl, l_z2, u_z2, R_z2⟩, e9⟩ := q9
  rw [e9]
  show yG _ _ _ _ _ _ _ _ _ _ (yI z2 :: [yR 2089]) _
  refine yG.ialdF A_hp.1 (v_M_field W H_r1) (lo := 0) (hi := 99) ((yfT_ix (s := 2) (k := 1) (by omega) (by omega) (by omega) (by decide)).trans rfl) rfl (by omega) (by omega) (fun z3 e_z3 i_z3 l_z3 u_z3 => ?_)
  refine yG.ret rfl (fun _ _ => rfl) ?_
  exact (yP.int ⟨by omega, by omega⟩ ⟨⟨z3, rfl, by omega, by omega, by rw [e_z3]; congr 1; omega⟩, rfl⟩)
theorem c_GModel_of_v2_2 {hp : xH} (W : mW G) (d : Nat) (hT : zTy G hp) (H_2073 : bRo G 116 2073) (p2 : Int) (h2l : 0 ≤ p2) (h2u : p2 ≤ 23) : yC (xcall 89 xfts xpools xms (d + 2)) 471 [yR 2073, yI (2), yI (p2), yI (2)] hp (bQpi hp 0 299 (fun z => z = ys hp 2089 (530 + 11 * p2 : Int).toNat)) := by
  have A_hp : bAx G [] hp hp := bAx.rf hT
  refine yC.of (M := (xt_X13_of, (4, (1, (14, []))))) rfl rfl (N := 30) (yfuel (by decide)) ?_
  show yG 89 xfts (xcall 89 xfts xpools xms (d + 1)) (xpool xp_RX13) [] xt_X13_of (yP 1 (bQpi hp 0 299 (fun z => z = ys hp 2089 (530 + 11 * p2 : Int).toNat))) 30 0 [(0, yR 2073), (1, yI (2)), (2, yI (p2)), (3, yI (2))] [] hp
  refine yG.load xak rfl (fun _ _ => rfl) (v := yR 2073) rfl rfl ?_
  refine yG.getO A_hp.1 (w_M_field W H_2073) rfl rfl (fun r1 H_r1 O_r1 q_r1 => ?_)
  obtain rfl := u_M_field W H_r1
  refine yG.load xik rfl (fun _ _ => rfl) (v := yI (2)) rfl rfl ?_
  refine yG.load xik rfl (fun _ _ => rfl) (v := yI (p2)) rfl rfl ?_
  refine yG.load xik rfl (fun _ _ => rfl) (v := yI (2)) rfl rfl ?_
  refine yG.invS (rest := [yR 2089]) rfl rfl rfl rfl (c_GModel_f W d A_hp.1 (2) (p2) (2) (by omega) (by omega) (by omega) (by omega) (by omega) (by omega)) (fun rv hp9 q9 => ?_)
  obtain ⟨⟨z2, rfl, l_z2, u_z2, R_z2⟩, e9⟩ := q9
  rw [e9]
  show yG _ _ _ _ _ _ _ _ _ _ (yI z2 :: [yR 2089]) _
  refine yG.ialdF A_hp.1 (v_M_field W H_r1) (lo := 0) (hi := 299) ((yfT_ix (s := 2) (k := 2) (by omega) (by omega) (by omega) (by decide)).trans rfl) rfl (by omega) (by omega) (fun z3 e_z3 i_z3 l_z3 u_z3 => ?_)
  refine yG.ret rfl (fun _ _ => rfl) ?_
  exact (yP.int ⟨by omega, by omega⟩ ⟨⟨z3, rfl, by omega, by omega, by rw [e_z3]; congr 1; omega⟩, rfl⟩)
theorem c_GModel_of_v3_2 {hp : xH} (W : mW G) (d : Nat) (hT : zTy G hp) (H_2073 : bRo G 116 2073) (p2 : Int) (h2l : 0 ≤ p2) (h2u : p2 ≤ 23) : yC (xcall 89 xfts xpools xms (d + 2)) 471 [yR 2073, yI (3), yI (p2), yI (2)] hp (bQpi hp 0 99 (fun z => z = ys hp 2089 (794 + 11 * p2 : Int).toNat)) := by
  have A_hp : bAx G [] hp hp := bAx.rf hT
  refine yC.of (M := (xt_X13_of, (4, (1, (14, []))))) rfl rfl (N := 30) (yfuel (by decide)) ?_
  show yG 89 xfts (xcall 89 xfts xpools xms (d + 1)) (xpool xp_RX13) [] xt_X13_of (yP 1 (bQpi hp 0 99 (fun z => z = ys hp 2089 (794 + 11 * p2 : Int).toNat))) 30 0 [(0, yR 2073), (1, yI (3)), (2, yI (p2)), (3, yI (2))] [] hp
  refine yG.load xak rfl (fun _ _ => rfl) (v := yR 2073) rfl rfl ?_
  refine yG.getO A_hp.1 (w_M_field W H_2073) rfl rfl (fun r1 H_r1 O_r1 q_r1 => ?_)
  obtain rfl := u_M_field W H_r1
  refine yG.load xik rfl (fun _ _ => rfl) (v := yI (3)) rfl rfl ?_
  refine yG.load xik rfl (fun _ _ => rfl) (v := yI (p2)) rfl rfl ?_
  refine yG.load xik rfl (fun _ _ => rfl) (v := yI (2)) rfl rfl ?_
  refine yG.invS (rest := [yR 2089]) rfl rfl rfl rfl (c_GModel_f W d A_hp.1 (3) (p2) (2) (by omega) (by omega) (by omega) (by omega) (by omega) (by omega)) (fun rv hp9 q9 => ?_)
  obtain ⟨⟨z2, rfl, l_z2, u_z2, R_z2⟩, e9⟩ := q9
  rw [e9]
  show yG _ _ _ _ _ _ _ _ _ _ (yI z2 :: [yR 2089]) _
  refine yG.ialdF A_hp.1 (v_M_field W H_r1) (lo := 0) (hi := 99) ((yfT_ix (s := 3) (k := 2) (by omega) (by omega) (by omega) (by decide)).trans rfl) rfl (by omega) (by omega) (fun z3 e_z3 i_z3 l_z3 u_z3 => ?_)
  refine yG.ret rfl (fun _ _ => rfl) ?_
  exact (yP.int ⟨by omega, by omega⟩ ⟨⟨z3, rfl, by omega, by omega, by rw [e_z3]; congr 1; omega⟩, rfl⟩)
theorem c_GModel_of_v3_3 {hp : xH} (W : mW G) (d : Nat) (hT : zTy G hp) (H_2073 : bRo G 116 2073) (p2 : Int) (h2l : 0 ≤ p2) (h2u : p2 ≤ 23) : yC (xcall 89 xfts xpools xms (d + 2)) 471 [yR 2073, yI (3), yI (p2), yI (3)] hp (bQpi hp 0 299 (fun z => z = ys hp 2089 (795 + 11 * p2 : Int).toNat)) := by
  have A_hp : bAx G [] hp hp := bAx.rf hT
  refine yC.of (M := (xt_X13_of, (4, (1, (14, []))))) rfl rfl (N := 30) (yfuel (by decide)) ?_
  show yG 89 xfts (xcall 89 xfts xpools xms (d + 1)) (xpool xp_RX13) [] xt_X13_of (yP 1 (bQpi hp 0 299 (fun z => z = ys hp 2089 (795 + 11 * p2 : Int).toNat))) 30 0 [(0, yR 2073), (1, yI (3)), (2, yI (p2)), (3, yI (3))] [] hp
  refine yG.load xak rfl (fun _ _ => rfl) (v := yR 2073) rfl rfl ?_
  refine yG.getO A_hp.1 (w_M_field W H_2073) rfl rfl (fun r1 H_r1 O_r1 q_r1 => ?_)
  obtain rfl := u_M_field W H_r1
  refine yG.load xik rfl (fun _ _ => rfl) (v := yI (3)) rfl rfl ?_
  refine yG.load xik rfl (fun _ _ => rfl) (v := yI (p2)) rfl rfl ?_
  refine yG.load xik rfl (fun _ _ => rfl) (v := yI (3)) rfl rfl ?_
  refine yG.invS (rest := [yR 2089]) rfl rfl rfl rfl (c_GModel_f W d A_hp.1 (3) (p2) (3) (by omega) (by omega) (by omega) (by omega) (by omega) (by omega)) (fun rv hp9 q9 => ?_)
  obtain ⟨⟨z2, rfl, l_z2, u_z2, R_z2⟩, e9⟩ := q9
  rw [e9]
  show yG _ _ _ _ _ _ _ _ _ _ (yI z2 :: [yR 2089]) _
  refine yG.ialdF A_hp.1 (v_M_field W H_r1) (lo := 0) (hi := 299) ((yfT_ix (s := 3) (k := 3) (by omega) (by omega) (by omega) (by decide)).trans rfl) rfl (by omega) (by omega) (fun z3 e_z3 i_z3 l_z3 u_z3 => ?_)
  refine yG.ret rfl (fun _ _ => rfl) ?_
  exact (yP.int ⟨by omega, by omega⟩ ⟨⟨z3, rfl, by omega, by omega, by rw [e_z3]; congr 1; omega⟩, rfl⟩)
theorem c_GModel_of_v2_0 {hp : xH} (W : mW G) (d : Nat) (hT : zTy G hp) (H_2073 : bRo G 116 2073) (p2 : Int) (h2l : 0 ≤ p2) (h2u : p2 ≤ 23) : yC (xcall 89 xfts xpools xms (d + 2)) 471 [yR 2073, yI (2), yI (p2), yI (0)] hp (bQpi hp 0 1 (fun z => z = ys hp 2089 (528 + 11 * p2 : Int).toNat)) := by
  have A_hp : bAx G [] hp hp := bAx.rf hT
  refine yC.of (M := (xt_X13_of, (4, (1, (14, []))))) rfl rfl (N := 30) (yfuel (by decide)) ?_
  show yG 89 xfts (xcall 89 xfts xpools xms (d + 1)) (xpool xp_RX13) [] xt_X13_of (yP 1 (bQpi hp 0 1 (fun z => z = ys hp 2089 (528 + 11 * p2 : Int).toNat))) 30 0 [(0, yR 2073), (1, yI (2)), (2, yI (p2)), (3, yI (0))] [] hp
  refine yG.load xak rfl (fun _ _ => rfl) (v := yR 2073) rfl rfl ?_
  refine yG.getO A_hp.1 (w_M_field W H_2073) rfl rfl (fun r1 H_r1 O_r1 q_r1 => ?_)
  obtain rfl := u_M_field W H_r1
  refine yG.load xik rfl (fun _ _ => rfl) (v := yI (2)) rfl rfl ?_
  refine yG.load xik rfl (fun _ _ => rfl) (v := yI (p2)) rfl rfl ?_
  refine yG.load xik rfl (fun _ _ => rfl) (v := yI (0)) rfl rfl ?_
  refine yG.invS (rest := [yR 2089]) rfl rfl rfl rfl (c_GModel_f W d A_hp.1 (2) (p2) (0) (by omega) (by omega) (by omega) (by omega) (by omega) (by omega)) (fun rv hp9 q9 => ?_)
  obtain ⟨⟨z2, rfl, l_z2, u_z2, R_z2⟩, e9⟩ := q9
  rw [e9]
  show yG _ _ _ _ _ _ _ _ _ _ (yI z2 :: [yR 2089]) _
  refine yG.ialdF A_hp.1 (v_M_field W H_r1) (lo := 0) (hi := 1) ((yfT_ix (s := 2) (k := 0) (by omega) (by omega) (by omega) (by decide)).trans rfl) rfl (by omega) (by omega) (fun z3 e_z3 i_z3 l_z3 u_z3 => ?_)
  refine yG.ret rfl (fun _ _ => rfl) ?_
  exact (yP.int ⟨by omega, by omega⟩ ⟨⟨z3, rfl, by omega, by omega, by rw [e_z3]; congr 1; omega⟩, rfl⟩)
theorem c_GModel_merge_sn {hp : xH} (W : mW G) (d : Nat) (hT : zTy G hp) (H_2073 : bRo G 116 2073) (H_2100 : bRo G 143 2100) (p2 p3 : Int) (h2l : 0 ≤ p2) (h2u : p2 ≤ 15) (h3l : 0 ≤ p3) (h3u : p3 ≤ 15) : yC (xcall 89 xfts xpools xms (d + 1)) 454 [yR 2073, yR 2100, yI (p2), yI (p3)] hp (fun rv hp' => (rv = none ∧ gMg (fun b => ys hp 2100 b) (fun b => ys hp' 2100 b) (ys hp 2088 0) (ys hp 2100 (p2 : Int).toNat) (ys hp 2100 (p3 : Int).toNat)) ∧ bAx G [(11150372599265311570767859136324180752990208, 256)] hp hp') := by
  have A_hp : bAx G [(11150372599265311570767859136324180752990208, 256)] hp hp := bAx.rf hT
  have H : ∀ m : Nat, (∀ a4 : Int, ∀ a5 : Int, ∀ a6 : Int, ∀ a7 : Int, ∀ hq, bAx G [(11150372599265311570767859136324180752990208, 256)] hp hq → 0 ≤ a4 → (-15) ≤ 0 - a4 → 0 ≤ a5 → (-15) ≤ 0 - a5 → 0 ≤ a6 → (-15) ≤ 0 - a6 → 0 ≤ a7 → (-16) ≤ 0 - a7 → 0 ≤ p2 → (-15) ≤ 0 - p2 → 0 ≤ p3 → (-15) ≤ 0 - p3 → 0 ≤ a4 - a6 → 0 ≤ a5 - a6 → 0 ≤ 0 - a4 + p2 → 0 ≤ 0 - a5 + p3 → (a4 = ys hp 2100 (p2 : Int).toNat ∧ a5 = ys hp 2100 (p3 : Int).toNat ∧ gMq (fun b => ys hp 2100 b) (fun b => ys hq 2100 b) a4 a5 a6 a7) → 0 - 2 * a7 + 33 < (m : Int) → yG 89 xfts (xcall 89 xfts xpools xms d) (xpool xp_RX13) [] xt_X13_merge (yP 0 (fun rv hp' => (rv = none ∧ gMg (fun b => ys hp 2100 b) (fun b => ys hp' 2100 b) (ys hp 2088 0) (ys hp 2100 (p2 : Int).toNat) (ys hp 2100 (p3 : Int).toNat)) ∧ bAx G [(11150372599265311570767859136324180752990208, 256)] hp hp')) (26 * m) 29 [(0, yR 2073), (1, yR 2100), (4, yI (a4)), (5, yI (a5)), (6, yI (a6)), (7, yI (a7))] [] hq) := by
    intro m
    induction m with
    | zero =>
      intros; exfalso; omega
    | succ m ih =>
      have i_29 := ih
      clear ih
      intro a4 a5 a6 a7 hq A_hq f0 f1 f2 f3 f4 f5 f6 f7 f8 f9 f10 f11 f12 f13 f14 f15 X_29 hm
      refine yG.mono (N := 26 * m + 26) ?_ (by omega)
      refine yG.load xik rfl (fun _ _ => rfl) (v := yI (a7)) rfl rfl ?_
      refine yG.load xak rfl (fun _ _ => rfl) (v := yR 2073) rfl rfl ?_
      refine yG.getO A_hq.1 (w_M_count W H_2073) rfl rfl (fun r1 H_r1 O_r1 q_r1 => ?_)
      obtain rfl := u_M_count W H_r1
      refine yG.num (c := 0) rfl (fun _ _ => rfl) (by decide) ?_
      refine yG.ialdF A_hq.1 (v_M_count W H_r1) rfl rfl (by omega) (by omega) (fun z2 e_z2 i_z2 l_z2 u_z2 => ?_)
      refine yG.icmp rfl (t := 77) rfl ⟨by omega, by omega⟩ ⟨by omega, by omega⟩ (fun c3 => ?_) (fun c3 => ?_)
      · have c3 : (a7 : Int) ≥ z2 := c3
        refine yG.ret rfl (fun _ _ => rfl) ?_
        exact (yP.void ⟨⟨rfl, (fun b hb => by have k0 : ys hq 2088 (0 : Int).toNat = ys hp 2088 0 := A_hq.ys (s_M_count W) (bNo_ok (by decide) _); have q := X_29.2.2.done (N := ys hp 2088 0) (by omega) b hb; rw [X_29.1, X_29.2.1] at q; exact q)⟩, A_hq⟩)
      · have c3 : (a7 : Int) < z2 := c3
        refine yG.load xak rfl (fun _ _ => rfl) (v := yR 2100) rfl rfl ?_
        refine yG.load xik rfl (fun _ _ => rfl) (v := yI (a7)) rfl rfl ?_
        refine yG.load xak rfl (fun _ _ => rfl) (v := yR 2100) rfl rfl ?_
        refine yG.load xik rfl (fun _ _ => rfl) (v := yI (a7)) rfl rfl ?_
        refine yG.ialdF A_hq.1 (v_M_node W H_2100) rfl rfl (by omega) (by omega) (fun z4 e_z4 i_z4 l_z4 u_z4 => ?_)
        refine yG.load xik rfl (fun _ _ => rfl) (v := yI (a4)) rfl rfl ?_
        refine yG.icmp rfl (t := 61) rfl ⟨by omega, by omega⟩ ⟨by omega, by omega⟩ (fun c5 => ?_) (fun c5 => ?_)
        · have c5 : (z4 : Int) = a4 := c5
          refine yG.load xik rfl (fun _ _ => rfl) (v := yI (a6)) rfl rfl ?_
          refine yG.goto rfl (t := 70) rfl ?_
          refine yG.iastF A_hq.1 (v_M_node W H_2100) rfl (W.2.1 _ _ H_2100 (by decide) (by decide)) rfl (by omega) (by omega) ⟨by omega, by omega⟩ (by omega) (by omega) (fun h6 T_h6 b_h6 f_h6 y_h6 => ?_)
          have A_h6 := A_hq.put T_h6 b_h6 f_h6 H_2100 (bAll_ok (by decide) _)
          have : ys h6 2100 (a7 : Int).toNat = a6 := (y_h6 2100 _).trans (if_pos ⟨rfl, rfl⟩)
          refine yG.iinc rfl (a := a7) rfl (L' := [(7, yI (a7 + 1)), (0, yR 2073), (1, yR 2100), (4, yI (a4)), (5, yI (a5)), (6, yI (a6))]) rfl ?_
          refine yG.goto rfl (t := 29) rfl ?_
          exact yG.mono (yG.sub (i_29 (a4) (a5) (a6) (a7 + 1)  h6 A_h6   (by omega) (by omega) (by omega) (by omega) (by omega) (by omega) (by omega) (by omega) (by omega) (by omega) (by omega) (by omega) (by omega) (by omega) (by omega) (by omega) ⟨X_29.1, X_29.2.1, X_29.2.2.step (k := (a7 : Int).toNat) (by omega) y_h6 (by omega) (by rw [show ys hq 2100 (a7 : Int).toNat = z4 by omega]; split <;> omega)⟩ (by omega)) (ySub.cons rfl (ySub.cons rfl (ySub.cons rfl (ySub.cons rfl (ySub.cons rfl (ySub.cons rfl (ySub.nil)))))))) (by omega)
        · have c5 : (z4 : Int) ≠ a4 := c5
          refine yG.load xak rfl (fun _ _ => rfl) (v := yR 2100) rfl rfl ?_
          refine yG.load xik rfl (fun _ _ => rfl) (v := yI (a7)) rfl rfl ?_
          refine yG.ialdF A_hq.1 (v_M_node W H_2100) rfl rfl (by omega) (by omega) (fun z7 e_z7 i_z7 l_z7 u_z7 => ?_)
          rw [show (z7 : Int) = z4 by omega]
          refine yG.load xik rfl (fun _ _ => rfl) (v := yI (a5)) rfl rfl ?_
          refine yG.icmp rfl (t := 66) rfl ⟨by omega, by omega⟩ ⟨by omega, by omega⟩ (fun c8 => ?_) (fun c8 => ?_)
          · have c8 : (z4 : Int) ≠ a5 := c8
            refine yG.load xak rfl (fun _ _ => rfl) (v := yR 2100) rfl rfl ?_
            refine yG.load xik rfl (fun _ _ => rfl) (v := yI (a7)) rfl rfl ?_
            refine yG.ialdF A_hq.1 (v_M_node W H_2100) rfl rfl (by omega) (by omega) (fun z9 e_z9 i_z9 l_z9 u_z9 => ?_)
            rw [show (z9 : Int) = z4 by omega]
            refine yG.iastF A_hq.1 (v_M_node W H_2100) rfl (W.2.1 _ _ H_2100 (by decide) (by decide)) rfl (by omega) (by omega) ⟨by omega, by omega⟩ (by omega) (by omega) (fun h10 T_h10 b_h10 f_h10 y_h10 => ?_)
            have A_h10 := A_hq.put T_h10 b_h10 f_h10 H_2100 (bAll_ok (by decide) _)
            have : ys h10 2100 (a7 : Int).toNat = z4 := (y_h10 2100 _).trans (if_pos ⟨rfl, rfl⟩)
            refine yG.iinc rfl (a := a7) rfl (L' := [(7, yI (a7 + 1)), (0, yR 2073), (1, yR 2100), (4, yI (a4)), (5, yI (a5)), (6, yI (a6))]) rfl ?_
            refine yG.goto rfl (t := 29) rfl ?_
            exact yG.mono (yG.sub (i_29 (a4) (a5) (a6) (a7 + 1)  h10 A_h10   (by omega) (by omega) (by omega) (by omega) (by omega) (by omega) (by omega) (by omega) (by omega) (by omega) (by omega) (by omega) (by omega) (by omega) (by omega) (by omega) ⟨X_29.1, X_29.2.1, X_29.2.2.step (k := (a7 : Int).toNat) (by omega) y_h10 (by omega) (by rw [show ys hq 2100 (a7 : Int).toNat = z4 by omega]; split <;> omega)⟩ (by omega)) (ySub.cons rfl (ySub.cons rfl (ySub.cons rfl (ySub.cons rfl (ySub.cons rfl (ySub.cons rfl (ySub.nil)))))))) (by omega)
          · have c8 : (z4 : Int) = a5 := c8
            refine yG.load xik rfl (fun _ _ => rfl) (v := yI (a6)) rfl rfl ?_
            refine yG.goto rfl (t := 70) rfl ?_
            refine yG.iastF A_hq.1 (v_M_node W H_2100) rfl (W.2.1 _ _ H_2100 (by decide) (by decide)) rfl (by omega) (by omega) ⟨by omega, by omega⟩ (by omega) (by omega) (fun h11 T_h11 b_h11 f_h11 y_h11 => ?_)
            have A_h11 := A_hq.put T_h11 b_h11 f_h11 H_2100 (bAll_ok (by decide) _)
            have : ys h11 2100 (a7 : Int).toNat = a6 := (y_h11 2100 _).trans (if_pos ⟨rfl, rfl⟩)
            refine yG.iinc rfl (a := a7) rfl (L' := [(7, yI (a7 + 1)), (0, yR 2073), (1, yR 2100), (4, yI (a4)), (5, yI (a5)), (6, yI (a6))]) rfl ?_
            refine yG.goto rfl (t := 29) rfl ?_
            exact yG.mono (yG.sub (i_29 (a4) (a5) (a6) (a7 + 1)  h11 A_h11   (by omega) (by omega) (by omega) (by omega) (by omega) (by omega) (by omega) (by omega) (by omega) (by omega) (by omega) (by omega) (by omega) (by omega) (by omega) (by omega) ⟨X_29.1, X_29.2.1, X_29.2.2.step (k := (a7 : Int).toNat) (by omega) y_h11 (by omega) (by rw [show ys hq 2100 (a7 : Int).toNat = z4 by omega]; split <;> omega)⟩ (by omega)) (ySub.cons rfl (ySub.cons rfl (ySub.cons rfl (ySub.cons rfl (ySub.cons rfl (ySub.cons rfl (ySub.nil)))))))) (by omega)
  refine yC.of (M := (xt_X13_merge, (8, (0, (14, []))))) rfl rfl (N := 936) (yfuel (by decide)) ?_
  show yG 89 xfts (xcall 89 xfts xpools xms d) (xpool xp_RX13) [] xt_X13_merge (yP 0 (fun rv hp' => (rv = none ∧ gMg (fun b => ys hp 2100 b) (fun b => ys hp' 2100 b) (ys hp 2088 0) (ys hp 2100 (p2 : Int).toNat) (ys hp 2100 (p3 : Int).toNat)) ∧ bAx G [(11150372599265311570767859136324180752990208, 256)] hp hp')) 936 0 [(0, yR 2073), (1, yR 2100), (2, yI (p2)), (3, yI (p3))] [] hp
  have i_29 := H 35
  refine yG.load xak rfl (fun _ _ => rfl) (v := yR 2100) rfl rfl ?_
  refine yG.load xik rfl (fun _ _ => rfl) (v := yI (p2)) rfl rfl ?_
  refine yG.ialdF A_hp.1 (v_M_node W H_2100) rfl rfl (by omega) (by omega) (fun z1 e_z1 i_z1 l_z1 u_z1 => ?_)
  refine yG.store1 xik (L' := [(4, yI (z1)), (0, yR 2073), (1, yR 2100), (2, yI (p2)), (3, yI (p3))]) rfl (fun _ _ => rfl) rfl rfl ?_
  refine yG.load xak rfl (fun _ _ => rfl) (v := yR 2100) rfl rfl ?_
  refine yG.load xik rfl (fun _ _ => rfl) (v := yI (p3)) rfl rfl ?_
  refine yG.ialdF A_hp.1 (v_M_node W H_2100) rfl rfl (by omega) (by omega) (fun z2 e_z2 i_z2 l_z2 u_z2 => ?_)
  refine yG.store1 xik (L' := [(5, yI (z2)), (4, yI (z1)), (0, yR 2073), (1, yR 2100), (2, yI (p2)), (3, yI (p3))]) rfl (fun _ _ => rfl) rfl rfl ?_
  refine yG.load xik rfl (fun _ _ => rfl) (v := yI (z1)) rfl rfl ?_
  refine yG.load xik rfl (fun _ _ => rfl) (v := yI (z2)) rfl rfl ?_
  refine yG.icmp rfl (t := 22) rfl ⟨by omega, by omega⟩ ⟨by omega, by omega⟩ (fun c3 => ?_) (fun c3 => ?_)
  · have c3 : (z1 : Int) ≥ z2 := c3
    refine yG.load xik rfl (fun _ _ => rfl) (v := yI (z2)) rfl rfl ?_
    refine yG.store1 xik (L' := [(6, yI (z2)), (5, yI (z2)), (4, yI (z1)), (0, yR 2073), (1, yR 2100), (2, yI (p2)), (3, yI (p3))]) rfl (fun _ _ => rfl) rfl rfl ?_
    refine yG.num (c := 0) rfl (fun _ _ => rfl) (by decide) ?_
    refine yG.store1 xik (L' := [(7, yI (0)), (6, yI (z2)), (5, yI (z2)), (4, yI (z1)), (0, yR 2073), (1, yR 2100), (2, yI (p2)), (3, yI (p3))]) rfl (fun _ _ => rfl) rfl rfl ?_
    exact yG.mono (yG.sub (i_29 (z1) (z2) (z2) (0)  hp A_hp   (by omega) (by omega) (by omega) (by omega) (by omega) (by omega) (by omega) (by omega) (by omega) (by omega) (by omega) (by omega) (by omega) (by omega) (by omega) (by omega) ⟨e_z1, e_z2, gMq.start (by split <;> omega)⟩ (by omega)) (ySub.cons rfl (ySub.cons rfl (ySub.cons rfl (ySub.cons rfl (ySub.cons rfl (ySub.cons rfl (ySub.nil)))))))) (by omega)
  · have c3 : (z1 : Int) < z2 := c3
    refine yG.load xik rfl (fun _ _ => rfl) (v := yI (z1)) rfl rfl ?_
    refine yG.goto rfl (t := 24) rfl ?_
    refine yG.store1 xik (L' := [(6, yI (z1)), (5, yI (z2)), (4, yI (z1)), (0, yR 2073), (1, yR 2100), (2, yI (p2)), (3, yI (p3))]) rfl (fun _ _ => rfl) rfl rfl ?_
    refine yG.num (c := 0) rfl (fun _ _ => rfl) (by decide) ?_
    refine yG.store1 xik (L' := [(7, yI (0)), (6, yI (z1)), (5, yI (z2)), (4, yI (z1)), (0, yR 2073), (1, yR 2100), (2, yI (p2)), (3, yI (p3))]) rfl (fun _ _ => rfl) rfl rfl ?_
    exact yG.mono (yG.sub (i_29 (z1) (z2) (z1) (0)  hp A_hp   (by omega) (by omega) (by omega) (by omega) (by omega) (by omega) (by omega) (by omega) (by omega) (by omega) (by omega) (by omega) (by omega) (by omega) (by omega) (by omega) ⟨e_z1, e_z2, gMq.start (by split <;> omega)⟩ (by omega)) (ySub.cons rfl (ySub.cons rfl (ySub.cons rfl (ySub.cons rfl (ySub.cons rfl (ySub.cons rfl (ySub.nil)))))))) (by omega)
theorem c_GModel_merge_si {hp : xH} (W : mW G) (d : Nat) (hT : zTy G hp) (H_2073 : bRo G 116 2073) (H_2101 : bRo G 144 2101) (p2 p3 : Int) (h2l : 0 ≤ p2) (h2u : p2 ≤ 15) (h3l : 0 ≤ p3) (h3u : p3 ≤ 15) : yC (xcall 89 xfts xpools xms (d + 1)) 454 [yR 2073, yR 2101, yI (p2), yI (p3)] hp (fun rv hp' => (rv = none ∧ gMg (fun b => ys hp 2101 b) (fun b => ys hp' 2101 b) (ys hp 2088 0) (ys hp 2101 (p2 : Int).toNat) (ys hp 2101 (p3 : Int).toNat)) ∧ bAx G [(22300745198530623141535718272648361505980416, 256)] hp hp') := by
  have A_hp : bAx G [(22300745198530623141535718272648361505980416, 256)] hp hp := bAx.rf hT
  have H : ∀ m : Nat, (∀ a4 : Int, ∀ a5 : Int, ∀ a6 : Int, ∀ a7 : Int, ∀ hq, bAx G [(22300745198530623141535718272648361505980416, 256)] hp hq → 0 ≤ a4 → (-15) ≤ 0 - a4 → 0 ≤ a5 → (-15) ≤ 0 - a5 → 0 ≤ a6 → (-15) ≤ 0 - a6 → 0 ≤ a7 → (-16) ≤ 0 - a7 → 0 ≤ p2 → (-15) ≤ 0 - p2 → 0 ≤ p3 → (-15) ≤ 0 - p3 → 0 ≤ a4 - a6 → 0 ≤ a5 - a6 → 0 ≤ 0 - a4 + p2 → 0 ≤ 0 - a5 + p3 → (a4 = ys hp 2101 (p2 : Int).toNat ∧ a5 = ys hp 2101 (p3 : Int).toNat ∧ gMq (fun b => ys hp 2101 b) (fun b => ys hq 2101 b) a4 a5 a6 a7) → 0 - 2 * a7 + 33 < (m : Int) → yG 89 xfts (xcall 89 xfts xpools xms d) (xpool xp_RX13) [] xt_X13_merge (yP 0 (fun rv hp' => (rv = none ∧ gMg (fun b => ys hp 2101 b) (fun b => ys hp' 2101 b) (ys hp 2088 0) (ys hp 2101 (p2 : Int).toNat) (ys hp 2101 (p3 : Int).toNat)) ∧ bAx G [(22300745198530623141535718272648361505980416, 256)] hp hp')) (26 * m) 29 [(0, yR 2073), (1, yR 2101), (4, yI (a4)), (5, yI (a5)), (6, yI (a6)), (7, yI (a7))] [] hq) := by
    intro m
    induction m with
    | zero =>
      intros; exfalso; omega
    | succ m ih =>
      have i_29 := ih
      clear ih
      intro a4 a5 a6 a7 hq A_hq f0 f1 f2 f3 f4 f5 f6 f7 f8 f9 f10 f11 f12 f13 f14 f15 X_29 hm
      refine yG.mono (N := 26 * m + 26) ?_ (by omega)
      refine yG.load xik rfl (fun _ _ => rfl) (v := yI (a7)) rfl rfl ?_
      refine yG.load xak rfl (fun _ _ => rfl) (v := yR 2073) rfl rfl ?_
      refine yG.getO A_hq.1 (w_M_count W H_2073) rfl rfl (fun r1 H_r1 O_r1 q_r1 => ?_)
      obtain rfl := u_M_count W H_r1
      refine yG.num (c := 0) rfl (fun _ _ => rfl) (by decide) ?_
      refine yG.ialdF A_hq.1 (v_M_count W H_r1) rfl rfl (by omega) (by omega) (fun z2 e_z2 i_z2 l_z2 u_z2 => ?_)
      refine yG.icmp rfl (t := 77) rfl ⟨by omega, by omega⟩ ⟨by omega, by omega⟩ (fun c3 => ?_) (fun c3 => ?_)
      · have c3 : (a7 : Int) ≥ z2 := c3
        refine yG.ret rfl (fun _ _ => rfl) ?_
        exact (yP.void ⟨⟨rfl, (fun b hb => by have k0 : ys hq 2088 (0 : Int).toNat = ys hp 2088 0 := A_hq.ys (s_M_count W) (bNo_ok (by decide) _); have q := X_29.2.2.done (N := ys hp 2088 0) (by omega) b hb; rw [X_29.1, X_29.2.1] at q; exact q)⟩, A_hq⟩)
      · have c3 : (a7 : Int) < z2 := c3
        refine yG.load xak rfl (fun _ _ => rfl) (v := yR 2101) rfl rfl ?_
        refine yG.load xik rfl (fun _ _ => rfl) (v := yI (a7)) rfl rfl ?_
        refine yG.load xak rfl (fun _ _ => rfl) (v := yR 2101) rfl rfl ?_
        refine yG.load xik rfl (fun _ _ => rfl) (v := yI (a7)) rfl rfl ?_
        refine yG.ialdF A_hq.1 (v_M_island W H_2101) rfl rfl (by omega) (by omega) (fun z4 e_z4 i_z4 l_z4 u_z4 => ?_)
        refine yG.load xik rfl (fun _ _ => rfl) (v := yI (a4)) rfl rfl ?_
        refine yG.icmp rfl (t := 61) rfl ⟨by omega, by omega⟩ ⟨by omega, by omega⟩ (fun c5 => ?_) (fun c5 => ?_)
        · have c5 : (z4 : Int) = a4 := c5
          refine yG.load xik rfl (fun _ _ => rfl) (v := yI (a6)) rfl rfl ?_
          refine yG.goto rfl (t := 70) rfl ?_
          refine yG.iastF A_hq.1 (v_M_island W H_2101) rfl (W.2.1 _ _ H_2101 (by decide) (by decide)) rfl (by omega) (by omega) ⟨by omega, by omega⟩ (by omega) (by omega) (fun h6 T_h6 b_h6 f_h6 y_h6 => ?_)
          have A_h6 := A_hq.put T_h6 b_h6 f_h6 H_2101 (bAll_ok (by decide) _)
          have : ys h6 2101 (a7 : Int).toNat = a6 := (y_h6 2101 _).trans (if_pos ⟨rfl, rfl⟩)
          refine yG.iinc rfl (a := a7) rfl (L' := [(7, yI (a7 + 1)), (0, yR 2073), (1, yR 2101), (4, yI (a4)), (5, yI (a5)), (6, yI (a6))]) rfl ?_
          refine yG.goto rfl (t := 29) rfl ?_
          exact yG.mono (yG.sub (i_29 (a4) (a5) (a6) (a7 + 1)  h6 A_h6   (by omega) (by omega) (by omega) (by omega) (by omega) (by omega) (by omega) (by omega) (by omega) (by omega) (by omega) (by omega) (by omega) (by omega) (by omega) (by omega) ⟨X_29.1, X_29.2.1, X_29.2.2.step (k := (a7 : Int).toNat) (by omega) y_h6 (by omega) (by rw [show ys hq 2101 (a7 : Int).toNat = z4 by omega]; split <;> omega)⟩ (by omega)) (ySub.cons rfl (ySub.cons rfl (ySub.cons rfl (ySub.cons rfl (ySub.cons rfl (ySub.cons rfl (ySub.nil)))))))) (by omega)
        · have c5 : (z4 : Int) ≠ a4 := c5
          refine yG.load xak rfl (fun _ _ => rfl) (v := yR 2101) rfl rfl ?_
          refine yG.load xik rfl (fun _ _ => rfl) (v := yI (a7)) rfl rfl ?_
          refine yG.ialdF A_hq.1 (v_M_island W H_2101) rfl rfl (by omega) (by omega) (fun z7 e_z7 i_z7 l_z7 u_z7 => ?_)
          rw [show (z7 : Int) = z4 by omega]
          refine yG.load xik rfl (fun _ _ => rfl) (v := yI (a5)) rfl rfl ?_
          refine yG.icmp rfl (t := 66) rfl ⟨by omega, by omega⟩ ⟨by omega, by omega⟩ (fun c8 => ?_) (fun c8 => ?_)
          · have c8 : (z4 : Int) ≠ a5 := c8
            refine yG.load xak rfl (fun _ _ => rfl) (v := yR 2101) rfl rfl ?_
            refine yG.load xik rfl (fun _ _ => rfl) (v := yI (a7)) rfl rfl ?_
            refine yG.ialdF A_hq.1 (v_M_island W H_2101) rfl rfl (by omega) (by omega) (fun z9 e_z9 i_z9 l_z9 u_z9 => ?_)
            rw [show (z9 : Int) = z4 by omega]
            refine yG.iastF A_hq.1 (v_M_island W H_2101) rfl (W.2.1 _ _ H_2101 (by decide) (by decide)) rfl (by omega) (by omega) ⟨by omega, by omega⟩ (by omega) (by omega) (fun h10 T_h10 b_h10 f_h10 y_h10 => ?_)
            have A_h10 := A_hq.put T_h10 b_h10 f_h10 H_2101 (bAll_ok (by decide) _)
            have : ys h10 2101 (a7 : Int).toNat = z4 := (y_h10 2101 _).trans (if_pos ⟨rfl, rfl⟩)
            refine yG.iinc rfl (a := a7) rfl (L' := [(7, yI (a7 + 1)), (0, yR 2073), (1, yR 2101), (4, yI (a4)), (5, yI (a5)), (6, yI (a6))]) rfl ?_
            refine yG.goto rfl (t := 29) rfl ?_
            exact yG.mono (yG.sub (i_29 (a4) (a5) (a6) (a7 + 1)  h10 A_h10   (by omega) (by omega) (by omega) (by omega) (by omega) (by omega) (by omega) (by omega) (by omega) (by omega) (by omega) (by omega) (by omega) (by omega) (by omega) (by omega) ⟨X_29.1, X_29.2.1, X_29.2.2.step (k := (a7 : Int).toNat) (by omega) y_h10 (by omega) (by rw [show ys hq 2101 (a7 : Int).toNat = z4 by omega]; split <;> omega)⟩ (by omega)) (ySub.cons rfl (ySub.cons rfl (ySub.cons rfl (ySub.cons rfl (ySub.cons rfl (ySub.cons rfl (ySub.nil)))))))) (by omega)
          · have c8 : (z4 : Int) = a5 := c8
            refine yG.load xik rfl (fun _ _ => rfl) (v := yI (a6)) rfl rfl ?_
            refine yG.goto rfl (t := 70) rfl ?_
            refine yG.iastF A_hq.1 (v_M_island W H_2101) rfl (W.2.1 _ _ H_2101 (by decide) (by decide)) rfl (by omega) (by omega) ⟨by omega, by omega⟩ (by omega) (by omega) (fun h11 T_h11 b_h11 f_h11 y_h11 => ?_)
            have A_h11 := A_hq.put T_h11 b_h11 f_h11 H_2101 (bAll_ok (by decide) _)
            have : ys h11 2101 (a7 : Int).toNat = a6 := (y_h11 2101 _).trans (if_pos ⟨rfl, rfl⟩)
            refine yG.iinc rfl (a := a7) rfl (L' := [(7, yI (a7 + 1)), (0, yR 2073), (1, yR 2101), (4, yI (a4)), (5, yI (a5)), (6, yI (a6))]) rfl ?_
            refine yG.goto rfl (t := 29) rfl ?_
            exact yG.mono (yG.sub (i_29 (a4) (a5) (a6) (a7 + 1)  h11 A_h11   (by omega) (by omega) (by omega) (by omega) (by omega) (by omega) (by omega) (by omega) (by omega) (by omega) (by omega) (by omega) (by omega) (by omega) (by omega) (by omega) ⟨X_29.1, X_29.2.1, X_29.2.2.step (k := (a7 : Int).toNat) (by omega) y_h11 (by omega) (by rw [show ys hq 2101 (a7 : Int).toNat = z4 by omega]; split <;> omega)⟩ (by omega)) (ySub.cons rfl (ySub.cons rfl (ySub.cons rfl (ySub.cons rfl (ySub.cons rfl (ySub.cons rfl (ySub.nil)))))))) (by omega)
  refine yC.of (M := (xt_X13_merge, (8, (0, (14, []))))) rfl rfl (N := 936) (yfuel (by decide)) ?_
  show yG 89 xfts (xcall 89 xfts xpools xms d) (xpool xp_RX13) [] xt_X13_merge (yP 0 (fun rv hp' => (rv = none ∧ gMg (fun b => ys hp 2101 b) (fun b => ys hp' 2101 b) (ys hp 2088 0) (ys hp 2101 (p2 : Int).toNat) (ys hp 2101 (p3 : Int).toNat)) ∧ bAx G [(22300745198530623141535718272648361505980416, 256)] hp hp')) 936 0 [(0, yR 2073), (1, yR 2101), (2, yI (p2)), (3, yI (p3))] [] hp
  have i_29 := H 35
  refine yG.load xak rfl (fun _ _ => rfl) (v := yR 2101) rfl rfl ?_
  refine yG.load xik rfl (fun _ _ => rfl) (v := yI (p2)) rfl rfl ?_
  refine yG.ialdF A_hp.1 (v_M_island W H_2101) rfl rfl (by omega) (by omega) (fun z1 e_z1 i_z1 l_z1 u_z1 => ?_)
  refine yG.store1 xik (L' := [(4, yI (z1)), (0, yR 2073), (1, yR 2101), (2, yI (p2)), (3, yI (p3))]) rfl (fun _ _ => rfl) rfl rfl ?_
  refine yG.load xak rfl (fun _ _ => rfl) (v := yR 2101) rfl rfl ?_
  refine yG.load xik rfl (fun _ _ => rfl) (v := yI (p3)) rfl rfl ?_
  refine yG.ialdF A_hp.1 (v_M_island W H_2101) rfl rfl (by omega) (by omega) (fun z2 e_z2 i_z2 l_z2 u_z2 => ?_)
  refine yG.store1 xik (L' := [(5, yI (z2)), (4, yI (z1)), (0, yR 2073), (1, yR 2101), (2, yI (p2)), (3, yI (p3))]) rfl (fun _ _ => rfl) rfl rfl ?_
  refine yG.load xik rfl (fun _ _ => rfl) (v := yI (z1)) rfl rfl ?_
  refine yG.load xik rfl (fun _ _ => rfl) (v := yI (z2)) rfl rfl ?_
  refine yG.icmp rfl (t := 22) rfl ⟨by omega, by omega⟩ ⟨by omega, by omega⟩ (fun c3 => ?_) (fun c3 => ?_)
  · have c3 : (z1 : Int) ≥ z2 := c3
    refine yG.load xik rfl (fun _ _ => rfl) (v := yI (z2)) rfl rfl ?_
    refine yG.store1 xik (L' := [(6, yI (z2)), (5, yI (z2)), (4, yI (z1)), (0, yR 2073), (1, yR 2101), (2, yI (p2)), (3, yI (p3))]) rfl (fun _ _ => rfl) rfl rfl ?_
    refine yG.num (c := 0) rfl (fun _ _ => rfl) (by decide) ?_
    refine yG.store1 xik (L' := [(7, yI (0)), (6, yI (z2)), (5, yI (z2)), (4, yI (z1)), (0, yR 2073), (1, yR 2101), (2, yI (p2)), (3, yI (p3))]) rfl (fun _ _ => rfl) rfl rfl ?_
    exact yG.mono (yG.sub (i_29 (z1) (z2) (z2) (0)  hp A_hp   (by omega) (by omega) (by omega) (by omega) (by omega) (by omega) (by omega) (by omega) (by omega) (by omega) (by omega) (by omega) (by omega) (by omega) (by omega) (by omega) ⟨e_z1, e_z2, gMq.start (by split <;> omega)⟩ (by omega)) (ySub.cons rfl (ySub.cons rfl (ySub.cons rfl (ySub.cons rfl (ySub.cons rfl (ySub.cons rfl (ySub.nil)))))))) (by omega)
  · have c3 : (z1 : Int) < z2 := c3
    refine yG.load xik rfl (fun _ _ => rfl) (v := yI (z1)) rfl rfl ?_
    refine yG.goto rfl (t := 24) rfl ?_
    refine yG.store1 xik (L' := [(6, yI (z1)), (5, yI (z2)), (4, yI (z1)), (0, yR 2073), (1, yR 2101), (2, yI (p2)), (3, yI (p3))]) rfl (fun _ _ => rfl) rfl rfl ?_
    refine yG.num (c := 0) rfl (fun _ _ => rfl) (by decide) ?_
    refine yG.store1 xik (L' := [(7, yI (0)), (6, yI (z1)), (5, yI (z2)), (4, yI (z1)), (0, yR 2073), (1, yR 2101), (2, yI (p2)), (3, yI (p3))]) rfl (fun _ _ => rfl) rfl rfl ?_
    exact yG.mono (yG.sub (i_29 (z1) (z2) (z1) (0)  hp A_hp   (by omega) (by omega) (by omega) (by omega) (by omega) (by omega) (by omega) (by omega) (by omega) (by omega) (by omega) (by omega) (by omega) (by omega) (by omega) (by omega) ⟨e_z1, e_z2, gMq.start (by split <;> omega)⟩ (by omega)) (ySub.cons rfl (ySub.cons rfl (ySub.cons rfl (ySub.cons rfl (ySub.cons rfl (ySub.cons rfl (ySub.nil)))))))) (by omega)
theorem c_GModel_topology_s {hp : xH} (W : mW G) (d : Nat) (hT : zTy G hp) (M_bWf : bWf G hp) (H_2073 : bRo G 116 2073) : yC (xcall 89 xfts xpools xms (d + 3)) 534 [yR 2073] hp (fun rv hp' => (fun rv hp' => (rv = none ∧ True) ∧ bAx G [(78052608194857180995375013954269265270931456, 256)] hp hp') rv hp' ∧ bTq G hp') := by
  have A_hp : bAx G [(78052608194857180995375013954269265270931456, 256)] hp hp := bAx.rf hT
  have H : ∀ m : Nat, (∀ a1 : Int, ∀ gg0 : Int, ∀ gg1 : Int, ∀ gg2 : Int, ∀ hq, bAx G [(78052608194857180995375013954269265270931456, 256)] hp hq → ys hq 2088 (0 : Int).toNat = gg0 → ys hq 2088 (2 : Int).toNat = gg1 → ys hq 2088 (3 : Int).toNat = gg2 → 0 ≤ a1 → (-16) ≤ 0 - a1 → 0 ≤ gg0 → (-16) ≤ 0 - gg0 → 0 ≤ gg1 → (-20) ≤ 0 - gg1 → 0 ≤ gg2 → (-6) ≤ 0 - gg2 → 0 ≤ 0 - a1 + gg0 → ((∀ b : Nat, (b : Int) < a1 → ys hq 2100 b = b) ∧ ∀ b : Nat, (b : Int) < a1 → ys hq 2102 b = 0) → 0 - 134326 * a1 + 2283541 < (m : Int) → yG 89 xfts (xcall 89 xfts xpools xms (d + 2)) (xpool xp_RX13) [] xt_X13_topology (yP 0 (fun rv hp' => (fun rv hp' => (rv = none ∧ True) ∧ bAx G [(78052608194857180995375013954269265270931456, 256)] hp hp') rv hp' ∧ bTq G hp')) (30 * m) 2 [(0, yR 2073), (1, yI (a1))] [] hq) ∧ (∀ a1 : Int, ∀ gg0 : Int, ∀ gg1 : Int, ∀ gg2 : Int, ∀ hq, bAx G [(78052608194857180995375013954269265270931456, 256)] hp hq → ys hq 2088 (0 : Int).toNat = gg0 → ys hq 2088 (2 : Int).toNat = gg1 → ys hq 2088 (3 : Int).toNat = gg2 → 0 ≤ a1 → (-24) ≤ 0 - a1 → 0 ≤ gg0 → (-16) ≤ 0 - gg0 → 0 ≤ gg1 → (-20) ≤ 0 - gg1 → 0 ≤ gg2 → (-6) ≤ 0 - gg2 → (gTn hq (ys hp 2088 0) ∧ ∀ b : Nat, (b : Int) < (ys hp 2088 0) → ys hq 2102 b = 0) → 0 - 5373 * a1 + 134324 < (m : Int) → yG 89 xfts (xcall 89 xfts xpools xms (d + 2)) (xpool xp_RX13) [] xt_X13_topology (yP 0 (fun rv hp' => (fun rv hp' => (rv = none ∧ True) ∧ bAx G [(78052608194857180995375013954269265270931456, 256)] hp hp') rv hp' ∧ bTq G hp')) (30 * m) 34 [(0, yR 2073), (1, yI (a1))] [] hq) ∧ (∀ a1 : Int, ∀ gg0 : Int, ∀ gg1 : Int, ∀ gg2 : Int, ∀ hq, bAx G [(78052608194857180995375013954269265270931456, 256)] hp hq → ys hq 2088 (0 : Int).toNat = gg0 → ys hq 2088 (2 : Int).toNat = gg1 → ys hq 2088 (3 : Int).toNat = gg2 → 0 ≤ a1 → (-16) ≤ 0 - a1 → 0 ≤ gg0 → (-16) ≤ 0 - gg0 → 0 ≤ gg1 → (-20) ≤ 0 - gg1 → 0 ≤ gg2 → (-6) ≤ 0 - gg2 → 0 ≤ 0 - a1 + gg0 → (gTn hq (ys hp 2088 0) ∧ (∀ b : Nat, (b : Int) < (ys hp 2088 0) → ys hq 2102 b = 0) ∧ ∀ b : Nat, (b : Int) < a1 → gIl hq b = gNd hq b) → 0 - 316 * a1 + 5371 < (m : Int) → yG 89 xfts (xcall 89 xfts xpools xms (d + 2)) (xpool xp_RX13) [] xt_X13_topology (yP 0 (fun rv hp' => (fun rv hp' => (rv = none ∧ True) ∧ bAx G [(78052608194857180995375013954269265270931456, 256)] hp hp') rv hp' ∧ bTq G hp')) (30 * m) 84 [(0, yR 2073), (1, yI (a1))] [] hq) ∧ (∀ a1 : Int, ∀ gg0 : Int, ∀ gg1 : Int, ∀ gg2 : Int, ∀ hq, bAx G [(78052608194857180995375013954269265270931456, 256)] hp hq → ys hq 2088 (0 : Int).toNat = gg0 → ys hq 2088 (2 : Int).toNat = gg1 → ys hq 2088 (3 : Int).toNat = gg2 → 0 ≤ a1 → (-20) ≤ 0 - a1 → 0 ≤ gg0 → (-16) ≤ 0 - gg0 → 0 ≤ gg1 → (-20) ≤ 0 - gg1 → 0 ≤ gg2 → (-6) ≤ 0 - gg2 → 0 ≤ 0 - a1 + gg1 → (gTn hq (ys hp 2088 0) ∧ gTi hq (ys hp 2088 0) a1 ∧ ∀ b : Nat, (b : Int) < (ys hp 2088 0) → ys hq 2102 b = 0) → 0 - 15 * a1 + 314 < (m : Int) → yG 89 xfts (xcall 89 xfts xpools xms (d + 2)) (xpool xp_RX13) [] xt_X13_topology (yP 0 (fun rv hp' => (fun rv hp' => (rv = none ∧ True) ∧ bAx G [(78052608194857180995375013954269265270931456, 256)] hp hp') rv hp' ∧ bTq G hp')) (30 * m) 114 [(0, yR 2073), (1, yI (a1))] [] hq) ∧ (∀ a1 : Int, ∀ gg0 : Int, ∀ gg1 : Int, ∀ gg2 : Int, ∀ hq, bAx G [(78052608194857180995375013954269265270931456, 256)] hp hq → ys hq 2088 (0 : Int).toNat = gg0 → ys hq 2088 (2 : Int).toNat = gg1 → ys hq 2088 (3 : Int).toNat = gg2 → 0 ≤ a1 → (-6) ≤ 0 - a1 → 0 ≤ gg0 → (-16) ≤ 0 - gg0 → 0 ≤ gg1 → (-20) ≤ 0 - gg1 → 0 ≤ gg2 → (-6) ≤ 0 - gg2 → 0 ≤ 0 - a1 + gg2 → (gTn hq (ys hp 2088 0) ∧ gTi hq (ys hp 2088 0) (ys hp 2088 2) ∧ gTl hq (ys hp 2088 0) a1) → 0 - 2 * a1 + 13 < (m : Int) → yG 89 xfts (xcall 89 xfts xpools xms (d + 2)) (xpool xp_RX13) [] xt_X13_topology (yP 0 (fun rv hp' => (fun rv hp' => (rv = none ∧ True) ∧ bAx G [(78052608194857180995375013954269265270931456, 256)] hp hp') rv hp' ∧ bTq G hp')) (30 * m) 164 [(0, yR 2073), (1, yI (a1))] [] hq) := by
    intro m
    induction m with
    | zero =>
      refine ⟨?_, ?_, ?_, ?_, ?_⟩ <;> (intros; exfalso; omega)
    | succ m ih =>
      obtain ⟨i_2, i_34, i_84, i_114, i_164⟩ := ih
      refine ⟨?_, ?_, ?_, ?_, ?_⟩
      · intro a1 gg0 gg1 gg2 hq A_hq E_0 E_1 E_2 f0 f1 f2 f3 f4 f5 f6 f7 f8 X_2 hm
        refine yG.mono (N := 30 * m + 30) ?_ (by omega)
        obtain ⟨-, -, g_0l, g_0u⟩ := (v_M_count W (s_M_count W)).int A_hq.1 (j := (0 : Int).toNat) (by decide) rfl
        obtain ⟨-, -, g_1l, g_1u⟩ := (v_M_count W (s_M_count W)).int A_hq.1 (j := (2 : Int).toNat) (by decide) rfl
        obtain ⟨-, -, g_2l, g_2u⟩ := (v_M_count W (s_M_count W)).int A_hq.1 (j := (3 : Int).toNat) (by decide) rfl
        have kC0 : ys hq 2088 0 = ys hp 2088 0 := A_hq.ys (s_M_count W) (bNo_ok (by decide) _)
        have kC2 : ys hq 2088 2 = ys hp 2088 2 := A_hq.ys (s_M_count W) (bNo_ok (by decide) _)
        have kC3 : ys hq 2088 3 = ys hp 2088 3 := A_hq.ys (s_M_count W) (bNo_ok (by decide) _)
        have kfd : ∀ j, ys hq 2089 j = ys hp 2089 j := fun j => A_hq.ys (s_M_field W) (bNo_ok (by decide) _)
        have kcz : ys hq 2088 (0 : Int).toNat = ys hq 2088 0 := rfl
        have kcy : ys hq 2088 (2 : Int).toNat = ys hq 2088 2 := rfl
        have kcx : ys hq 2088 (3 : Int).toNat = ys hq 2088 3 := rfl
        have kcm : ys hp 2088 0 ≤ 16 := ((v_M_count W (s_M_count W)).int hT (j := 0) (by decide) rfl).2.2.2
        refine yG.load xik rfl (fun _ _ => rfl) (v := yI (a1)) rfl rfl ?_
        refine yG.load xak rfl (fun _ _ => rfl) (v := yR 2073) rfl rfl ?_
        refine yG.getO A_hq.1 (w_M_count W H_2073) rfl rfl (fun r1 H_r1 O_r1 q_r1 => ?_)
        obtain rfl := u_M_count W H_r1
        refine yG.num (c := 0) rfl (fun _ _ => rfl) (by decide) ?_
        refine yG.ialdF A_hq.1 (v_M_count W H_r1) rfl rfl (by omega) (by omega) (fun z2 e_z2 i_z2 l_z2 u_z2 => ?_)
        rw [show (z2 : Int) = gg0 by omega]
        refine yG.icmp rfl (t := 32) rfl ⟨by omega, by omega⟩ ⟨by omega, by omega⟩ (fun c3 => ?_) (fun c3 => ?_)
        · have c3 : (a1 : Int) ≥ gg0 := c3
          refine yG.num (c := 0) rfl (fun _ _ => rfl) (by decide) ?_
          refine yG.store1 xik (L' := [(1, yI (0)), (0, yR 2073)]) rfl (fun _ _ => rfl) rfl rfl ?_
          exact yG.mono (yG.sub (i_34 (0) (ys hq 2088 (0 : Int).toNat) (ys hq 2088 (2 : Int).toNat) (ys hq 2088 (3 : Int).toNat) hq A_hq  rfl rfl rfl (by omega) (by omega) (by omega) (by omega) (by omega) (by omega) (by omega) (by omega) ⟨gTn.id (fun b hb => X_2.1 b (by omega)), fun b hb => X_2.2 b (by omega)⟩ (by omega)) (ySub.cons rfl (ySub.cons rfl (ySub.nil)))) (by omega)
        · have c3 : (a1 : Int) < gg0 := c3
          refine yG.load xak rfl (fun _ _ => rfl) (v := yR 2073) rfl rfl ?_
          refine yG.getO A_hq.1 (w_M_node W H_2073) rfl rfl (fun r4 H_r4 O_r4 q_r4 => ?_)
          obtain rfl := u_M_node W H_r4
          refine yG.load xik rfl (fun _ _ => rfl) (v := yI (a1)) rfl rfl ?_
          refine yG.load xik rfl (fun _ _ => rfl) (v := yI (a1)) rfl rfl ?_
          refine yG.iastF A_hq.1 (v_M_node W H_r4) rfl (W.2.1 _ _ H_r4 (by decide) (by decide)) rfl (by omega) (by omega) ⟨by omega, by omega⟩ (by omega) (by omega) (fun h5 T_h5 b_h5 f_h5 y_h5 => ?_)
          have A_h5 := A_hq.put T_h5 b_h5 f_h5 H_r4 (bAll_ok (by decide) _)
          have : ys h5 2088 (0 : Int).toNat = ys hq 2088 (0 : Int).toNat := (y_h5 2088 (0 : Int).toNat).trans (if_neg (fun e => (bRo.ne H_r1 H_r4 (by decide)) e.1))
          have : ys h5 2088 (2 : Int).toNat = ys hq 2088 (2 : Int).toNat := (y_h5 2088 (2 : Int).toNat).trans (if_neg (fun e => (bRo.ne H_r1 H_r4 (by decide)) e.1))
          have : ys h5 2088 (3 : Int).toNat = ys hq 2088 (3 : Int).toNat := (y_h5 2088 (3 : Int).toNat).trans (if_neg (fun e => (bRo.ne H_r1 H_r4 (by decide)) e.1))
          refine yG.load xak rfl (fun _ _ => rfl) (v := yR 2073) rfl rfl ?_
          refine yG.getO A_h5.1 (w_M_isLive W H_2073) rfl rfl (fun r6 H_r6 O_r6 q_r6 => ?_)
          obtain rfl := u_M_isLive W H_r6
          refine yG.load xik rfl (fun _ _ => rfl) (v := yI (a1)) rfl rfl ?_
          refine yG.num (c := 0) rfl (fun _ _ => rfl) (by decide) ?_
          refine yG.bast A_h5.1 (v_M_isLive W H_r6) (W.2.1 _ _ H_r6 (by decide) (by decide)) rfl (by omega) (by omega) ⟨by omega, by omega⟩ (by omega) (by omega) (fun h7 T_h7 b_h7 f_h7 y_h7 => ?_)
          have A_h7 := A_h5.put T_h7 b_h7 f_h7 H_r6 (bAll_ok (by decide) _)
          have : ys h7 2088 (0 : Int).toNat = ys h5 2088 (0 : Int).toNat := (y_h7 2088 (0 : Int).toNat).trans (if_neg (fun e => (bRo.ne H_r1 H_r6 (by decide)) e.1))
          have : ys h7 2088 (2 : Int).toNat = ys h5 2088 (2 : Int).toNat := (y_h7 2088 (2 : Int).toNat).trans (if_neg (fun e => (bRo.ne H_r1 H_r6 (by decide)) e.1))
          have : ys h7 2088 (3 : Int).toNat = ys h5 2088 (3 : Int).toNat := (y_h7 2088 (3 : Int).toNat).trans (if_neg (fun e => (bRo.ne H_r1 H_r6 (by decide)) e.1))
          refine yG.iinc rfl (a := a1) rfl (L' := [(1, yI (a1 + 1)), (0, yR 2073)]) rfl ?_
          refine yG.goto rfl (t := 2) rfl ?_
          have qq1 : ∀ b : Nat, (b : Int) < a1 + 1 → ys h7 2100 b = b := fun b hb => by
            rw [y_h7 2100 b, if_neg (fun e => absurd e.1 (by decide)), y_h5 2100 b]
            by_cases e : b = (a1 : Int).toNat
            · rw [if_pos ⟨rfl, e⟩]; omega
            · rw [if_neg (fun x => e x.2)]; exact X_2.1 b (by omega)
          have qq2 : ∀ b : Nat, (b : Int) < a1 + 1 → ys h7 2102 b = 0 := fun b hb => by
            rw [y_h7 2102 b]
            by_cases e : b = (a1 : Int).toNat
            · rw [if_pos ⟨rfl, e⟩]
            · rw [if_neg (fun x => e x.2), y_h5 2102 b, if_neg (fun e => absurd e.1 (by decide))]; exact X_2.2 b (by omega)
          exact yG.mono (yG.sub (i_2 (a1 + 1) (ys h7 2088 (0 : Int).toNat) (ys h7 2088 (2 : Int).toNat) (ys h7 2088 (3 : Int).toNat) h7 A_h7  rfl rfl rfl (by omega) (by omega) (by omega) (by omega) (by omega) (by omega) (by omega) (by omega) (by omega) ⟨qq1, qq2⟩ (by omega)) (ySub.cons rfl (ySub.cons rfl (ySub.nil)))) (by omega)
      · intro a1 gg0 gg1 gg2 hq A_hq E_0 E_1 E_2 f0 f1 f2 f3 f4 f5 f6 f7 X_34 hm
        refine yG.mono (N := 30 * m + 30) ?_ (by omega)
        obtain ⟨-, -, g_0l, g_0u⟩ := (v_M_count W (s_M_count W)).int A_hq.1 (j := (0 : Int).toNat) (by decide) rfl
        obtain ⟨-, -, g_1l, g_1u⟩ := (v_M_count W (s_M_count W)).int A_hq.1 (j := (2 : Int).toNat) (by decide) rfl
        obtain ⟨-, -, g_2l, g_2u⟩ := (v_M_count W (s_M_count W)).int A_hq.1 (j := (3 : Int).toNat) (by decide) rfl
        have kC0 : ys hq 2088 0 = ys hp 2088 0 := A_hq.ys (s_M_count W) (bNo_ok (by decide) _)
        have kC2 : ys hq 2088 2 = ys hp 2088 2 := A_hq.ys (s_M_count W) (bNo_ok (by decide) _)
        have kC3 : ys hq 2088 3 = ys hp 2088 3 := A_hq.ys (s_M_count W) (bNo_ok (by decide) _)
        have kfd : ∀ j, ys hq 2089 j = ys hp 2089 j := fun j => A_hq.ys (s_M_field W) (bNo_ok (by decide) _)
        have kcz : ys hq 2088 (0 : Int).toNat = ys hq 2088 0 := rfl
        have kcy : ys hq 2088 (2 : Int).toNat = ys hq 2088 2 := rfl
        have kcx : ys hq 2088 (3 : Int).toNat = ys hq 2088 3 := rfl
        have kcm : ys hp 2088 0 ≤ 16 := ((v_M_count W (s_M_count W)).int hT (j := 0) (by decide) rfl).2.2.2
        refine yG.load xik rfl (fun _ _ => rfl) (v := yI (a1)) rfl rfl ?_
        refine yG.load xak rfl (fun _ _ => rfl) (v := yR 2073) rfl rfl ?_
        refine yG.getO A_hq.1 (w_M_count W H_2073) rfl rfl (fun r1 H_r1 O_r1 q_r1 => ?_)
        obtain rfl := u_M_count W H_r1
        refine yG.num (c := 1) rfl (fun _ _ => rfl) (by decide) ?_
        refine yG.ialdF A_hq.1 (v_M_count W H_r1) rfl rfl (by omega) (by omega) (fun z2 e_z2 i_z2 l_z2 u_z2 => ?_)
        refine yG.icmp rfl (t := 82) rfl ⟨by omega, by omega⟩ ⟨by omega, by omega⟩ (fun c3 => ?_) (fun c3 => ?_)
        · have c3 : (a1 : Int) ≥ z2 := c3
          refine yG.num (c := 0) rfl (fun _ _ => rfl) (by decide) ?_
          refine yG.store1 xik (L' := [(1, yI (0)), (0, yR 2073)]) rfl (fun _ _ => rfl) rfl rfl ?_
          exact yG.mono (yG.sub (i_84 (0) (ys hq 2088 (0 : Int).toNat) (ys hq 2088 (2 : Int).toNat) (ys hq 2088 (3 : Int).toNat) hq A_hq  rfl rfl rfl (by omega) (by omega) (by omega) (by omega) (by omega) (by omega) (by omega) (by omega) (by omega) ⟨X_34.1, X_34.2, fun b hb => absurd hb (by omega)⟩ (by omega)) (ySub.cons rfl (ySub.cons rfl (ySub.nil)))) (by omega)
        · have c3 : (a1 : Int) < z2 := c3
          refine yG.load xak rfl (fun _ _ => rfl) (v := yR 2073) rfl rfl ?_
          refine yG.getO A_hq.1 (w_M_stateNow W H_2073) rfl rfl (fun r4 H_r4 O_r4 q_r4 => ?_)
          obtain rfl := u_M_stateNow W H_r4
          refine yG.load xik rfl (fun _ _ => rfl) (v := yI (a1)) rfl rfl ?_
          refine yG.iald A_hq.1 (v_M_stateNow W H_r4) rfl (by omega) (by omega) (fun z5 e_z5 i_z5 l_z5 u_z5 => ?_)
          refine yG.num (c := 1) rfl (fun _ _ => rfl) (by decide) ?_
          refine yG.icmp rfl (t := 76) rfl ⟨by omega, by omega⟩ ⟨by omega, by omega⟩ (fun c6 => ?_) (fun c6 => ?_)
          · have c6 : (z5 : Int) ≠ 1 := c6
            refine yG.iinc rfl (a := a1) rfl (L' := [(1, yI (a1 + 1)), (0, yR 2073)]) rfl ?_
            refine yG.goto rfl (t := 34) rfl ?_
            exact yG.mono (yG.sub (i_34 (a1 + 1) (ys hq 2088 (0 : Int).toNat) (ys hq 2088 (2 : Int).toNat) (ys hq 2088 (3 : Int).toNat) hq A_hq  rfl rfl rfl (by omega) (by omega) (by omega) (by omega) (by omega) (by omega) (by omega) (by omega) X_34 (by omega)) (ySub.cons rfl (ySub.cons rfl (ySub.nil)))) (by omega)
          · have c6 : (z5 : Int) = 1 := c6
            refine yG.load xak rfl (fun _ _ => rfl) (v := yR 2073) rfl rfl ?_
            refine yG.load xak rfl (fun _ _ => rfl) (v := yR 2073) rfl rfl ?_
            refine yG.getO A_hq.1 (w_M_node W H_2073) rfl rfl (fun r7 H_r7 O_r7 q_r7 => ?_)
            obtain rfl := u_M_node W H_r7
            refine yG.load xak rfl (fun _ _ => rfl) (v := yR 2073) rfl rfl ?_
            refine yG.num (c := 1) rfl (fun _ _ => rfl) (by decide) ?_
            refine yG.load xik rfl (fun _ _ => rfl) (v := yI (a1)) rfl rfl ?_
            refine yG.num (c := 3) rfl (fun _ _ => rfl) (by decide) ?_
            refine yG.invV (rest := [yR 2100, yR 2073]) A_hq.1 (bOb (d_M W) H_2073) rfl rfl rfl rfl (c_GModel_of_v1_3 W d A_hq.1 H_2073 (a1) (by omega) (by omega)) (fun rv hp9 q9 => ?_)
            obtain ⟨⟨z8, rfl, l_z8, u_z8, R_z8⟩, e9⟩ := q9
            rw [e9]
            show yG _ _ _ _ _ _ _ _ _ _ (yI z8 :: [yR 2100, yR 2073]) _
            have wf_z8 := bWf.bar (s := 1) (k := 3) (i := a1) (M_bWf.fr A_hq (by decide)) (by decide) (by omega) (by omega) (show a1 < ys hq 2088 (1 : Int).toNat by omega) R_z8 (by omega)
            refine yG.load xak rfl (fun _ _ => rfl) (v := yR 2073) rfl rfl ?_
            refine yG.num (c := 1) rfl (fun _ _ => rfl) (by decide) ?_
            refine yG.load xik rfl (fun _ _ => rfl) (v := yI (a1)) rfl rfl ?_
            refine yG.num (c := 4) rfl (fun _ _ => rfl) (by decide) ?_
            refine yG.invV (rest := [yI (z8), yR 2100, yR 2073]) A_hq.1 (bOb (d_M W) H_2073) rfl rfl rfl rfl (c_GModel_of_v1_4 W d A_hq.1 H_2073 (a1) (by omega) (by omega)) (fun rv hp9 q9 => ?_)
            obtain ⟨⟨z9, rfl, l_z9, u_z9, R_z9⟩, e9⟩ := q9
            rw [e9]
            show yG _ _ _ _ _ _ _ _ _ _ (yI z9 :: [yI (z8), yR 2100, yR 2073]) _
            have wf_z9 := bWf.bar (s := 1) (k := 4) (i := a1) (M_bWf.fr A_hq (by decide)) (by decide) (by omega) (by omega) (show a1 < ys hq 2088 (1 : Int).toNat by omega) R_z9 (by omega)
            refine yG.invV (rest := []) A_hq.1 (bOb (d_M W) H_2073) rfl rfl rfl rfl (c_GModel_merge_sn W (d + 1) A_hq.1 H_2073 H_r7 (z8) (z9) (by omega) (by omega) (by omega) (by omega)) (fun rv h10 q9 => ?_)
            obtain ⟨⟨rfl, R_z11⟩, B_h10⟩ := q9
            have A_h10 := A_hq.tr B_h10 (by decide)
            have : ys h10 2088 (0 : Int).toNat = ys hq 2088 (0 : Int).toNat := B_h10.ys H_r1 (bNo_ok (by decide) _)
            have : ys h10 2088 (2 : Int).toNat = ys hq 2088 (2 : Int).toNat := B_h10.ys H_r1 (bNo_ok (by decide) _)
            have : ys h10 2088 (3 : Int).toNat = ys hq 2088 (3 : Int).toNat := B_h10.ys H_r1 (bNo_ok (by decide) _)
            have : ys h10 2088 (1 : Int).toNat = ys hq 2088 (1 : Int).toNat := B_h10.ys H_r1 (bNo_ok (by decide) _)
            show yG _ _ _ _ _ _ _ _ _ _ [] _
            refine yG.iinc rfl (a := a1) rfl (L' := [(1, yI (a1 + 1)), (0, yR 2073)]) rfl ?_
            refine yG.goto rfl (t := 34) rfl ?_
            have mg9 := R_z11
            rw [show ys hq 2088 0 = ys hp 2088 0 from kC0] at mg9
            exact yG.mono (yG.sub (i_34 (a1 + 1) (ys h10 2088 (0 : Int).toNat) (ys h10 2088 (2 : Int).toNat) (ys h10 2088 (3 : Int).toNat) h10 A_h10  rfl rfl rfl (by omega) (by omega) (by omega) (by omega) (by omega) (by omega) (by omega) (by omega) ⟨X_34.1.mg (a := (z8 : Int).toNat) (c := (z9 : Int).toNat) kcm (fun b hb => gNd_bd W A_hq.1 hb) (by omega) (by omega) mg9, fun b hb => by rw [B_h10.ys (s_M_isLive W) (bNo_ok (by decide) _)]; exact X_34.2 b hb⟩ (by omega)) (ySub.cons rfl (ySub.cons rfl (ySub.nil)))) (by omega)
      · intro a1 gg0 gg1 gg2 hq A_hq E_0 E_1 E_2 f0 f1 f2 f3 f4 f5 f6 f7 f8 X_84 hm
        refine yG.mono (N := 30 * m + 30) ?_ (by omega)
        obtain ⟨-, -, g_0l, g_0u⟩ := (v_M_count W (s_M_count W)).int A_hq.1 (j := (0 : Int).toNat) (by decide) rfl
        obtain ⟨-, -, g_1l, g_1u⟩ := (v_M_count W (s_M_count W)).int A_hq.1 (j := (2 : Int).toNat) (by decide) rfl
        obtain ⟨-, -, g_2l, g_2u⟩ := (v_M_count W (s_M_count W)).int A_hq.1 (j := (3 : Int).toNat) (by decide) rfl
        have kC0 : ys hq 2088 0 = ys hp 2088 0 := A_hq.ys (s_M_count W) (bNo_ok (by decide) _)
        have kC2 : ys hq 2088 2 = ys hp 2088 2 := A_hq.ys (s_M_count W) (bNo_ok (by decide) _)
        have kC3 : ys hq 2088 3 = ys hp 2088 3 := A_hq.ys (s_M_count W) (bNo_ok (by decide) _)
        have kfd : ∀ j, ys hq 2089 j = ys hp 2089 j := fun j => A_hq.ys (s_M_field W) (bNo_ok (by decide) _)
        have kcz : ys hq 2088 (0 : Int).toNat = ys hq 2088 0 := rfl
        have kcy : ys hq 2088 (2 : Int).toNat = ys hq 2088 2 := rfl
        have kcx : ys hq 2088 (3 : Int).toNat = ys hq 2088 3 := rfl
        have kcm : ys hp 2088 0 ≤ 16 := ((v_M_count W (s_M_count W)).int hT (j := 0) (by decide) rfl).2.2.2
        refine yG.load xik rfl (fun _ _ => rfl) (v := yI (a1)) rfl rfl ?_
        refine yG.load xak rfl (fun _ _ => rfl) (v := yR 2073) rfl rfl ?_
        refine yG.getO A_hq.1 (w_M_count W H_2073) rfl rfl (fun r1 H_r1 O_r1 q_r1 => ?_)
        obtain rfl := u_M_count W H_r1
        refine yG.num (c := 0) rfl (fun _ _ => rfl) (by decide) ?_
        refine yG.ialdF A_hq.1 (v_M_count W H_r1) rfl rfl (by omega) (by omega) (fun z2 e_z2 i_z2 l_z2 u_z2 => ?_)
        rw [show (z2 : Int) = gg0 by omega]
        refine yG.icmp rfl (t := 112) rfl ⟨by omega, by omega⟩ ⟨by omega, by omega⟩ (fun c3 => ?_) (fun c3 => ?_)
        · have c3 : (a1 : Int) ≥ gg0 := c3
          refine yG.num (c := 0) rfl (fun _ _ => rfl) (by decide) ?_
          refine yG.store1 xik (L' := [(1, yI (0)), (0, yR 2073)]) rfl (fun _ _ => rfl) rfl rfl ?_
          exact yG.mono (yG.sub (i_114 (0) (ys hq 2088 (0 : Int).toNat) (ys hq 2088 (2 : Int).toNat) (ys hq 2088 (3 : Int).toNat) hq A_hq  rfl rfl rfl (by omega) (by omega) (by omega) (by omega) (by omega) (by omega) (by omega) (by omega) (by omega) ⟨X_84.1, gTi.start X_84.1 kcm (fun b hb => gNd_bd W A_hq.1 hb) (fun b hb => X_84.2.2 b (by omega)), X_84.2.1⟩ (by omega)) (ySub.cons rfl (ySub.cons rfl (ySub.nil)))) (by omega)
        · have c3 : (a1 : Int) < gg0 := c3
          refine yG.load xak rfl (fun _ _ => rfl) (v := yR 2073) rfl rfl ?_
          refine yG.getO A_hq.1 (w_M_island W H_2073) rfl rfl (fun r4 H_r4 O_r4 q_r4 => ?_)
          obtain rfl := u_M_island W H_r4
          refine yG.load xik rfl (fun _ _ => rfl) (v := yI (a1)) rfl rfl ?_
          refine yG.load xak rfl (fun _ _ => rfl) (v := yR 2073) rfl rfl ?_
          refine yG.getO A_hq.1 (w_M_node W H_2073) rfl rfl (fun r5 H_r5 O_r5 q_r5 => ?_)
          obtain rfl := u_M_node W H_r5
          refine yG.load xik rfl (fun _ _ => rfl) (v := yI (a1)) rfl rfl ?_
          refine yG.ialdF A_hq.1 (v_M_node W H_r5) rfl rfl (by omega) (by omega) (fun z6 e_z6 i_z6 l_z6 u_z6 => ?_)
          refine yG.iastF A_hq.1 (v_M_island W H_r4) rfl (W.2.1 _ _ H_r4 (by decide) (by decide)) rfl (by omega) (by omega) ⟨by omega, by omega⟩ (by omega) (by omega) (fun h7 T_h7 b_h7 f_h7 y_h7 => ?_)
          have A_h7 := A_hq.put T_h7 b_h7 f_h7 H_r4 (bAll_ok (by decide) _)
          have : ys h7 2088 (0 : Int).toNat = ys hq 2088 (0 : Int).toNat := (y_h7 2088 (0 : Int).toNat).trans (if_neg (fun e => (bRo.ne H_r1 H_r4 (by decide)) e.1))
          have : ys h7 2088 (2 : Int).toNat = ys hq 2088 (2 : Int).toNat := (y_h7 2088 (2 : Int).toNat).trans (if_neg (fun e => (bRo.ne H_r1 H_r4 (by decide)) e.1))
          have : ys h7 2088 (3 : Int).toNat = ys hq 2088 (3 : Int).toNat := (y_h7 2088 (3 : Int).toNat).trans (if_neg (fun e => (bRo.ne H_r1 H_r4 (by decide)) e.1))
          refine yG.iinc rfl (a := a1) rfl (L' := [(1, yI (a1 + 1)), (0, yR 2073)]) rfl ?_
          refine yG.goto rfl (t := 84) rfl ?_
          have qq1 : ∀ b : Nat, (b : Int) < a1 + 1 → gIl h7 b = gNd h7 b := fun b hb => by
            unfold gIl gNd
            have n9 : ys h7 2100 b = ys hq 2100 b := (y_h7 2100 b).trans (if_neg (fun e => absurd e.1 (by decide)))
            rw [n9, y_h7 2101 b]
            by_cases e : b = (a1 : Int).toNat
            · rw [if_pos ⟨rfl, e⟩, e]; exact e_z6
            · rw [if_neg (fun x => e x.2)]; exact X_84.2.2 b (by omega)
          exact yG.mono (yG.sub (i_84 (a1 + 1) (ys h7 2088 (0 : Int).toNat) (ys h7 2088 (2 : Int).toNat) (ys h7 2088 (3 : Int).toNat) h7 A_h7  rfl rfl rfl (by omega) (by omega) (by omega) (by omega) (by omega) (by omega) (by omega) (by omega) (by omega) ⟨X_84.1.cg (fun j => (y_h7 2100 j).trans (if_neg (fun e => absurd e.1 (by decide)))), (fun b hb => ((y_h7 2102 b).trans (if_neg (fun e => absurd e.1 (by decide)))).trans (X_84.2.1 b hb)), qq1⟩ (by omega)) (ySub.cons rfl (ySub.cons rfl (ySub.nil)))) (by omega)
      · intro a1 gg0 gg1 gg2 hq A_hq E_0 E_1 E_2 f0 f1 f2 f3 f4 f5 f6 f7 f8 X_114 hm
        refine yG.mono (N := 30 * m + 30) ?_ (by omega)
        obtain ⟨-, -, g_0l, g_0u⟩ := (v_M_count W (s_M_count W)).int A_hq.1 (j := (0 : Int).toNat) (by decide) rfl
        obtain ⟨-, -, g_1l, g_1u⟩ := (v_M_count W (s_M_count W)).int A_hq.1 (j := (2 : Int).toNat) (by decide) rfl
        obtain ⟨-, -, g_2l, g_2u⟩ := (v_M_count W (s_M_count W)).int A_hq.1 (j := (3 : Int).toNat) (by decide) rfl
        have kC0 : ys hq 2088 0 = ys hp 2088 0 := A_hq.ys (s_M_count W) (bNo_ok (by decide) _)
        have kC2 : ys hq 2088 2 = ys hp 2088 2 := A_hq.ys (s_M_count W) (bNo_ok (by decide) _)
        have kC3 : ys hq 2088 3 = ys hp 2088 3 := A_hq.ys (s_M_count W) (bNo_ok (by decide) _)
        have kfd : ∀ j, ys hq 2089 j = ys hp 2089 j := fun j => A_hq.ys (s_M_field W) (bNo_ok (by decide) _)
        have kcz : ys hq 2088 (0 : Int).toNat = ys hq 2088 0 := rfl
        have kcy : ys hq 2088 (2 : Int).toNat = ys hq 2088 2 := rfl
        have kcx : ys hq 2088 (3 : Int).toNat = ys hq 2088 3 := rfl
        have kcm : ys hp 2088 0 ≤ 16 := ((v_M_count W (s_M_count W)).int hT (j := 0) (by decide) rfl).2.2.2
        refine yG.load xik rfl (fun _ _ => rfl) (v := yI (a1)) rfl rfl ?_
        refine yG.load xak rfl (fun _ _ => rfl) (v := yR 2073) rfl rfl ?_
        refine yG.getO A_hq.1 (w_M_count W H_2073) rfl rfl (fun r1 H_r1 O_r1 q_r1 => ?_)
        obtain rfl := u_M_count W H_r1
        refine yG.num (c := 2) rfl (fun _ _ => rfl) (by decide) ?_
        refine yG.ialdF A_hq.1 (v_M_count W H_r1) rfl rfl (by omega) (by omega) (fun z2 e_z2 i_z2 l_z2 u_z2 => ?_)
        rw [show (z2 : Int) = gg1 by omega]
        refine yG.icmp rfl (t := 162) rfl ⟨by omega, by omega⟩ ⟨by omega, by omega⟩ (fun c3 => ?_) (fun c3 => ?_)
        · have c3 : (a1 : Int) ≥ gg1 := c3
          refine yG.num (c := 0) rfl (fun _ _ => rfl) (by decide) ?_
          refine yG.store1 xik (L' := [(1, yI (0)), (0, yR 2073)]) rfl (fun _ _ => rfl) rfl rfl ?_
          exact yG.mono (yG.sub (i_164 (0) (ys hq 2088 (0 : Int).toNat) (ys hq 2088 (2 : Int).toNat) (ys hq 2088 (3 : Int).toNat) hq A_hq  rfl rfl rfl (by omega) (by omega) (by omega) (by omega) (by omega) (by omega) (by omega) (by omega) (by omega) ⟨X_114.1, (by rw [show ys hp 2088 2 = a1 by omega]; exact X_114.2.1), gTl.start X_114.2.2⟩ (by omega)) (ySub.cons rfl (ySub.cons rfl (ySub.nil)))) (by omega)
        · have c3 : (a1 : Int) < gg1 := c3
          refine yG.load xak rfl (fun _ _ => rfl) (v := yR 2073) rfl rfl ?_
          refine yG.getO A_hq.1 (w_M_inNow W H_2073) rfl rfl (fun r4 H_r4 O_r4 q_r4 => ?_)
          obtain rfl := u_M_inNow W H_r4
          refine yG.load xik rfl (fun _ _ => rfl) (v := yI (a1)) rfl rfl ?_
          refine yG.iald A_hq.1 (v_M_inNow W H_r4) rfl (by omega) (by omega) (fun z5 e_z5 i_z5 l_z5 u_z5 => ?_)
          refine yG.num (c := 1) rfl (fun _ _ => rfl) (by decide) ?_
          refine yG.icmp rfl (t := 156) rfl ⟨by omega, by omega⟩ ⟨by omega, by omega⟩ (fun c6 => ?_) (fun c6 => ?_)
          · have c6 : (z5 : Int) ≠ 1 := c6
            refine yG.iinc rfl (a := a1) rfl (L' := [(1, yI (a1 + 1)), (0, yR 2073)]) rfl ?_
            refine yG.goto rfl (t := 114) rfl ?_
            exact yG.mono (yG.sub (i_114 (a1 + 1) (ys hq 2088 (0 : Int).toNat) (ys hq 2088 (2 : Int).toNat) (ys hq 2088 (3 : Int).toNat) hq A_hq  rfl rfl rfl (by omega) (by omega) (by omega) (by omega) (by omega) (by omega) (by omega) (by omega) (by omega) ⟨X_114.1, X_114.2.1.skip (k := (a1 : Int).toNat) (by omega) (by show ys hq 2099 (a1 : Int).toNat ≠ 1; omega), X_114.2.2⟩ (by omega)) (ySub.cons rfl (ySub.cons rfl (ySub.nil)))) (by omega)
          · have c6 : (z5 : Int) = 1 := c6
            refine yG.load xak rfl (fun _ _ => rfl) (v := yR 2073) rfl rfl ?_
            refine yG.load xak rfl (fun _ _ => rfl) (v := yR 2073) rfl rfl ?_
            refine yG.getO A_hq.1 (w_M_island W H_2073) rfl rfl (fun r7 H_r7 O_r7 q_r7 => ?_)
            obtain rfl := u_M_island W H_r7
            refine yG.load xak rfl (fun _ _ => rfl) (v := yR 2073) rfl rfl ?_
            refine yG.num (c := 2) rfl (fun _ _ => rfl) (by decide) ?_
            refine yG.load xik rfl (fun _ _ => rfl) (v := yI (a1)) rfl rfl ?_
            refine yG.num (c := 4) rfl (fun _ _ => rfl) (by decide) ?_
            refine yG.invV (rest := [yR 2101, yR 2073]) A_hq.1 (bOb (d_M W) H_2073) rfl rfl rfl rfl (c_GModel_of_v2_4 W d A_hq.1 H_2073 (a1) (by omega) (by omega)) (fun rv hp9 q9 => ?_)
            obtain ⟨⟨z8, rfl, l_z8, u_z8, R_z8⟩, e9⟩ := q9
            rw [e9]
            show yG _ _ _ _ _ _ _ _ _ _ (yI z8 :: [yR 2101, yR 2073]) _
            have wf_z8 := bWf.bar (s := 2) (k := 4) (i := a1) (M_bWf.fr A_hq (by decide)) (by decide) (by omega) (by omega) (show a1 < ys hq 2088 (2 : Int).toNat by omega) R_z8 (by omega)
            refine yG.load xak rfl (fun _ _ => rfl) (v := yR 2073) rfl rfl ?_
            refine yG.num (c := 2) rfl (fun _ _ => rfl) (by decide) ?_
            refine yG.load xik rfl (fun _ _ => rfl) (v := yI (a1)) rfl rfl ?_
            refine yG.num (c := 5) rfl (fun _ _ => rfl) (by decide) ?_
            refine yG.invV (rest := [yI (z8), yR 2101, yR 2073]) A_hq.1 (bOb (d_M W) H_2073) rfl rfl rfl rfl (c_GModel_of_v2_5 W d A_hq.1 H_2073 (a1) (by omega) (by omega)) (fun rv hp9 q9 => ?_)
            obtain ⟨⟨z9, rfl, l_z9, u_z9, R_z9⟩, e9⟩ := q9
            rw [e9]
            show yG _ _ _ _ _ _ _ _ _ _ (yI z9 :: [yI (z8), yR 2101, yR 2073]) _
            have wf_z9 := bWf.bar (s := 2) (k := 5) (i := a1) (M_bWf.fr A_hq (by decide)) (by decide) (by omega) (by omega) (show a1 < ys hq 2088 (2 : Int).toNat by omega) R_z9 (by omega)
            refine yG.invV (rest := []) A_hq.1 (bOb (d_M W) H_2073) rfl rfl rfl rfl (c_GModel_merge_si W (d + 1) A_hq.1 H_2073 H_r7 (z8) (z9) (by omega) (by omega) (by omega) (by omega)) (fun rv h10 q9 => ?_)
            obtain ⟨⟨rfl, R_z11⟩, B_h10⟩ := q9
            have A_h10 := A_hq.tr B_h10 (by decide)
            have : ys h10 2088 (0 : Int).toNat = ys hq 2088 (0 : Int).toNat := B_h10.ys H_r1 (bNo_ok (by decide) _)
            have : ys h10 2088 (2 : Int).toNat = ys hq 2088 (2 : Int).toNat := B_h10.ys H_r1 (bNo_ok (by decide) _)
            have : ys h10 2088 (3 : Int).toNat = ys hq 2088 (3 : Int).toNat := B_h10.ys H_r1 (bNo_ok (by decide) _)
            show yG _ _ _ _ _ _ _ _ _ _ [] _
            refine yG.iinc rfl (a := a1) rfl (L' := [(1, yI (a1 + 1)), (0, yR 2073)]) rfl ?_
            refine yG.goto rfl (t := 114) rfl ?_
            have mg9 := R_z11
            rw [show ys hq 2088 0 = ys hp 2088 0 from kC0] at mg9
            have wa : (z8 : Int).toNat = gA hq (a1 : Int).toNat := by unfold gA; rw [R_z8]; congr 2; omega
            have wb : (z9 : Int).toNat = gB hq (a1 : Int).toNat := by unfold gB; rw [R_z9]; congr 2; omega
            rw [wa, wb] at mg9
            have hall : ∀ j : Nat, (j : Int) < a1 → gIn hq j = 1 → ((gA hq j : Nat) : Int) < ys hp 2088 0 ∧ ((gB hq j : Nat) : Int) < ys hp 2088 0 := fun j hj _ => by
              have := (M_bWf.fr A_hq (by decide)).ends (k := j) (by omega) (by omega) (by omega)
              omega
            exact yG.mono (yG.sub (i_114 (a1 + 1) (ys h10 2088 (0 : Int).toNat) (ys h10 2088 (2 : Int).toNat) (ys h10 2088 (3 : Int).toNat) h10 A_h10  rfl rfl rfl (by omega) (by omega) (by omega) (by omega) (by omega) (by omega) (by omega) (by omega) (by omega) ⟨X_114.1.cg (fun j => B_h10.ys (s_M_node W) (bNo_ok (by decide) _)), X_114.2.1.mg (k := (a1 : Int).toNat) (by omega) (by show ys hq 2099 (a1 : Int).toNat = 1; omega) kcm (fun b hb => gIl_bd W A_hq.1 hb) (fun b hb => gNd_bd W A_hq.1 hb) (by omega) (by omega) (fun j => B_h10.ys (s_M_node W) (bNo_ok (by decide) _)) (fun j => B_h10.ys (s_M_inNow W) (bNo_ok (by decide) _)) (fun j => B_h10.ys (s_M_field W) (bNo_ok (by decide) _)) hall mg9, (fun b hb => (B_h10.ys (s_M_isLive W) (bNo_ok (by decide) _)).trans (X_114.2.2 b hb))⟩ (by omega)) (ySub.cons rfl (ySub.cons rfl (ySub.nil)))) (by omega)
      · intro a1 gg0 gg1 gg2 hq A_hq E_0 E_1 E_2 f0 f1 f2 f3 f4 f5 f6 f7 f8 X_164 hm
        refine yG.mono (N := 30 * m + 30) ?_ (by omega)
        obtain ⟨-, -, g_0l, g_0u⟩ := (v_M_count W (s_M_count W)).int A_hq.1 (j := (0 : Int).toNat) (by decide) rfl
        obtain ⟨-, -, g_1l, g_1u⟩ := (v_M_count W (s_M_count W)).int A_hq.1 (j := (2 : Int).toNat) (by decide) rfl
        obtain ⟨-, -, g_2l, g_2u⟩ := (v_M_count W (s_M_count W)).int A_hq.1 (j := (3 : Int).toNat) (by decide) rfl
        have kC0 : ys hq 2088 0 = ys hp 2088 0 := A_hq.ys (s_M_count W) (bNo_ok (by decide) _)
        have kC2 : ys hq 2088 2 = ys hp 2088 2 := A_hq.ys (s_M_count W) (bNo_ok (by decide) _)
        have kC3 : ys hq 2088 3 = ys hp 2088 3 := A_hq.ys (s_M_count W) (bNo_ok (by decide) _)
        have kfd : ∀ j, ys hq 2089 j = ys hp 2089 j := fun j => A_hq.ys (s_M_field W) (bNo_ok (by decide) _)
        have kcz : ys hq 2088 (0 : Int).toNat = ys hq 2088 0 := rfl
        have kcy : ys hq 2088 (2 : Int).toNat = ys hq 2088 2 := rfl
        have kcx : ys hq 2088 (3 : Int).toNat = ys hq 2088 3 := rfl
        have kcm : ys hp 2088 0 ≤ 16 := ((v_M_count W (s_M_count W)).int hT (j := 0) (by decide) rfl).2.2.2
        refine yG.load xik rfl (fun _ _ => rfl) (v := yI (a1)) rfl rfl ?_
        refine yG.load xak rfl (fun _ _ => rfl) (v := yR 2073) rfl rfl ?_
        refine yG.getO A_hq.1 (w_M_count W H_2073) rfl rfl (fun r1 H_r1 O_r1 q_r1 => ?_)
        obtain rfl := u_M_count W H_r1
        refine yG.num (c := 3) rfl (fun _ _ => rfl) (by decide) ?_
        refine yG.ialdF A_hq.1 (v_M_count W H_r1) rfl rfl (by omega) (by omega) (fun z2 e_z2 i_z2 l_z2 u_z2 => ?_)
        rw [show (z2 : Int) = gg2 by omega]
        refine yG.icmp rfl (t := 210) rfl ⟨by omega, by omega⟩ ⟨by omega, by omega⟩ (fun c3 => ?_) (fun c3 => ?_)
        · have c3 : (a1 : Int) ≥ gg2 := c3
          refine yG.ret rfl (fun _ _ => rfl) ?_
          have M_bTq_hq : bTq G hq := by unfold bTq; rw [kC0, kC2, kC3]; rw [show ys hp 2088 3 = a1 by omega]; exact X_164
          exact (yP.void ⟨⟨⟨rfl, trivial⟩, A_hq⟩, M_bTq_hq⟩)
        · have c3 : (a1 : Int) < gg2 := c3
          refine yG.load xak rfl (fun _ _ => rfl) (v := yR 2073) rfl rfl ?_
          refine yG.num (c := 3) rfl (fun _ _ => rfl) (by decide) ?_
          refine yG.load xik rfl (fun _ _ => rfl) (v := yI (a1)) rfl rfl ?_
          refine yG.num (c := 0) rfl (fun _ _ => rfl) (by decide) ?_
          refine yG.invV (rest := []) A_hq.1 (bOb (d_M W) H_2073) rfl rfl rfl rfl (c_GModel_of_v3_0 W d A_hq.1 H_2073 (a1) (by omega) (by omega)) (fun rv hp9 q9 => ?_)
          obtain ⟨⟨z4, rfl, l_z4, u_z4, R_z4⟩, e9⟩ := q9
          rw [e9]
          show yG _ _ _ _ _ _ _ _ _ _ (yI z4 :: []) _
          refine yG.num (c := 1) rfl (fun _ _ => rfl) (by decide) ?_
          refine yG.icmp rfl (t := 204) rfl ⟨by omega, by omega⟩ ⟨by omega, by omega⟩ (fun c5 => ?_) (fun c5 => ?_)
          · have c5 : (z4 : Int) ≠ 1 := c5
            refine yG.iinc rfl (a := a1) rfl (L' := [(1, yI (a1 + 1)), (0, yR 2073)]) rfl ?_
            refine yG.goto rfl (t := 164) rfl ?_
            exact yG.mono (yG.sub (i_164 (a1 + 1) (ys hq 2088 (0 : Int).toNat) (ys hq 2088 (2 : Int).toNat) (ys hq 2088 (3 : Int).toNat) hq A_hq  rfl rfl rfl (by omega) (by omega) (by omega) (by omega) (by omega) (by omega) (by omega) (by omega) (by omega) ⟨X_164.1, X_164.2.1, X_164.2.2.skip⟩ (by omega)) (ySub.cons rfl (ySub.cons rfl (ySub.nil)))) (by omega)
          · have c5 : (z4 : Int) = 1 := c5
            refine yG.load xak rfl (fun _ _ => rfl) (v := yR 2073) rfl rfl ?_
            refine yG.getO A_hq.1 (w_M_isLive W H_2073) rfl rfl (fun r6 H_r6 O_r6 q_r6 => ?_)
            obtain rfl := u_M_isLive W H_r6
            refine yG.load xak rfl (fun _ _ => rfl) (v := yR 2073) rfl rfl ?_
            refine yG.getO A_hq.1 (w_M_island W H_2073) rfl rfl (fun r7 H_r7 O_r7 q_r7 => ?_)
            obtain rfl := u_M_island W H_r7
            refine yG.load xak rfl (fun _ _ => rfl) (v := yR 2073) rfl rfl ?_
            refine yG.num (c := 3) rfl (fun _ _ => rfl) (by decide) ?_
            refine yG.load xik rfl (fun _ _ => rfl) (v := yI (a1)) rfl rfl ?_
            refine yG.num (c := 10) rfl (fun _ _ => rfl) (by decide) ?_
            refine yG.invV (rest := [yR 2101, yR 2102]) A_hq.1 (bOb (d_M W) H_2073) rfl rfl rfl rfl (c_GModel_of_v3_10 W d A_hq.1 H_2073 (a1) (by omega) (by omega)) (fun rv hp9 q9 => ?_)
            obtain ⟨⟨z8, rfl, l_z8, u_z8, R_z8⟩, e9⟩ := q9
            rw [e9]
            show yG _ _ _ _ _ _ _ _ _ _ (yI z8 :: [yR 2101, yR 2102]) _
            have wf_z8 := bWf.bar (s := 3) (k := 10) (i := a1) (M_bWf.fr A_hq (by decide)) (by decide) (by omega) (by omega) (show a1 < ys hq 2088 (3 : Int).toNat by omega) R_z8 (by omega)
            refine yG.ialdF A_hq.1 (v_M_island W H_r7) rfl rfl (by omega) (by omega) (fun z9 e_z9 i_z9 l_z9 u_z9 => ?_)
            refine yG.num (c := 1) rfl (fun _ _ => rfl) (by decide) ?_
            refine yG.bast A_hq.1 (v_M_isLive W H_r6) (W.2.1 _ _ H_r6 (by decide) (by decide)) rfl (by omega) (by omega) ⟨by omega, by omega⟩ (by omega) (by omega) (fun h10 T_h10 b_h10 f_h10 y_h10 => ?_)
            have A_h10 := A_hq.put T_h10 b_h10 f_h10 H_r6 (bAll_ok (by decide) _)
            have : ys h10 2088 (0 : Int).toNat = ys hq 2088 (0 : Int).toNat := (y_h10 2088 (0 : Int).toNat).trans (if_neg (fun e => (bRo.ne H_r1 H_r6 (by decide)) e.1))
            have : ys h10 2088 (2 : Int).toNat = ys hq 2088 (2 : Int).toNat := (y_h10 2088 (2 : Int).toNat).trans (if_neg (fun e => (bRo.ne H_r1 H_r6 (by decide)) e.1))
            have : ys h10 2088 (3 : Int).toNat = ys hq 2088 (3 : Int).toNat := (y_h10 2088 (3 : Int).toNat).trans (if_neg (fun e => (bRo.ne H_r1 H_r6 (by decide)) e.1))
            refine yG.iinc rfl (a := a1) rfl (L' := [(1, yI (a1 + 1)), (0, yR 2073)]) rfl ?_
            refine yG.goto rfl (t := 164) rfl ?_
            have wb : ys hq 2089 (802 + 11 * (a1 : Int).toNat) = z8 := by rw [R_z8]; congr 1; omega
            have wo : ys hq 2089 (792 + 11 * (a1 : Int).toNat) = 1 := by have q9 : ys hq 2089 (792 + 11 * (a1 : Int).toNat) = z4 := (by rw [R_z4]; congr 1; omega); omega
            have wi : gIl hq (ys hq 2089 (802 + 11 * (a1 : Int).toNat)).toNat = z9 := by rw [wb]; exact e_z9.symm
            exact yG.mono (yG.sub (i_164 (a1 + 1) (ys h10 2088 (0 : Int).toNat) (ys h10 2088 (2 : Int).toNat) (ys h10 2088 (3 : Int).toNat) h10 A_h10  rfl rfl rfl (by omega) (by omega) (by omega) (by omega) (by omega) (by omega) (by omega) (by omega) (by omega) ⟨X_164.1.cg (fun j => (y_h10 _ j).trans (if_neg (fun e => absurd e.1 (by decide)))), X_164.2.1.cg (fun j => (y_h10 _ j).trans (if_neg (fun e => absurd e.1 (by decide)))) (fun j => (y_h10 _ j).trans (if_neg (fun e => absurd e.1 (by decide)))) (fun j => (y_h10 _ j).trans (if_neg (fun e => absurd e.1 (by decide)))) (fun j => (y_h10 _ j).trans (if_neg (fun e => absurd e.1 (by decide)))), X_164.2.2.put (k := (a1 : Int).toNat) (by omega) y_h10 (by rw [wi]) (by rw [wi]; omega) wo⟩ (by omega)) (ySub.cons rfl (ySub.cons rfl (ySub.nil)))) (by omega)
  refine yC.of (M := (xt_X13_topology, (2, (0, (14, []))))) rfl rfl (N := 68506320) (yfuel (by decide)) ?_
  show yG 89 xfts (xcall 89 xfts xpools xms (d + 2)) (xpool xp_RX13) [] xt_X13_topology (yP 0 (fun rv hp' => (fun rv hp' => (rv = none ∧ True) ∧ bAx G [(78052608194857180995375013954269265270931456, 256)] hp hp') rv hp' ∧ bTq G hp')) 68506320 0 [(0, yR 2073)] [] hp
  obtain ⟨i_2, i_34, i_84, i_114, i_164⟩ := H 2283543
  obtain ⟨gg0, E_0⟩ : ∃ z : Int, ys hp 2088 (0 : Int).toNat = z := ⟨_, rfl⟩
  obtain ⟨-, -, g_0l, g_0u⟩ := (v_M_count W (s_M_count W)).int hT (j := (0 : Int).toNat) (by decide) rfl
  obtain ⟨gg1, E_1⟩ : ∃ z : Int, ys hp 2088 (2 : Int).toNat = z := ⟨_, rfl⟩
  obtain ⟨-, -, g_1l, g_1u⟩ := (v_M_count W (s_M_count W)).int hT (j := (2 : Int).toNat) (by decide) rfl
  obtain ⟨gg2, E_2⟩ : ∃ z : Int, ys hp 2088 (3 : Int).toNat = z := ⟨_, rfl⟩
  obtain ⟨-, -, g_2l, g_2u⟩ := (v_M_count W (s_M_count W)).int hT (j := (3 : Int).toNat) (by decide) rfl
  refine yG.num (c := 0) rfl (fun _ _ => rfl) (by decide) ?_
  refine yG.store1 xik (L' := [(1, yI (0)), (0, yR 2073)]) rfl (fun _ _ => rfl) rfl rfl ?_
  exact yG.mono (yG.sub (i_2 (0) (ys hp 2088 (0 : Int).toNat) (ys hp 2088 (2 : Int).toNat) (ys hp 2088 (3 : Int).toNat) hp A_hp  rfl rfl rfl (by omega) (by omega) (by omega) (by omega) (by omega) (by omega) (by omega) (by omega) (by omega) ⟨fun b hb => absurd hb (by omega), fun b hb => absurd hb (by omega)⟩ (by omega)) (ySub.cons rfl (ySub.cons rfl (ySub.nil)))) (by omega)
end MNodes
