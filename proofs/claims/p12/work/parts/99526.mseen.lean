/-! ===== the reference: leads, what meters show, which nodes are seen ===== -/
section MSeen
variable {G : zW}
theorem c_GModel_isNew_s {hp : xH} (W : mW G) (d : Nat) (hT : zTy G hp) (H_2073 : bRo G 116 2073) (p1 p2 : Int) (h1l : 0 ≤ p1) (h1u : p1 ≤ 15) (h2l : (-1) ≤ p2) (h2u : p2 ≤ 15) (q0l : 1 ≤ ys hp 2073 11) (q0u : ys hp 2073 11 ≤ 2147483647) (g90 : mPr ((ys hp 2073 11)).toNat) (g91 : mLd hp (ys hp 2073 11) (p2 : Int).toNat (p1 : Int).toNat) (g92 : mRo hp (ys hp 2073 11) (p1 : Int).toNat (((p2 : Int).toNat : Nat) : Int)) : yC (xcall 89 xfts xpools xms (d + 3)) 432 [yR 2073, yI (p1), yI (p2)] hp (fun rv hp' => (bQi G [(85070591730234615865843651857942052864, 256)] hp 0 1 (fun z => (z = 1 → 0 ≤ p2))) rv hp' ∧ ∀ z : Int, rv = some (yI z) → 0 ≤ z → z ≤ 1 → (mLd hp' (ys hp 2073 11) (p2 : Int).toNat (p1 : Int).toNat ∧ (z = 1 → mLd hp' (ys hp 2073 11) (p2 : Int).toNat ((p1 : Int).toNat + 1)))) := by
  have A_hp : bAx G [(85070591730234615865843651857942052864, 256)] hp hp := bAx.rf hT
  have H : ∀ m : Nat, (∀ a3 : Int, ∀ gg0 : Int, ∀ hq, bAx G [(85070591730234615865843651857942052864, 256)] hp hq → ys hq 2073 11 = gg0 → 0 ≤ a3 → (-15) ≤ 0 - a3 → 1 ≤ gg0 → (-2147483647) ≤ 0 - gg0 → 0 ≤ p1 → (-15) ≤ 0 - p1 → (-1) ≤ p2 → (-15) ≤ 0 - p2 → 0 ≤ 0 - a3 + p1 → (-14) ≤ 0 - a3 + p2 → mIs hp hq (ys hp 2073 11) (p2 : Int).toNat (p1 : Int).toNat a3 → 0 - 496 * a3 + 7935 < (m : Int) → yG 89 xfts (xcall 89 xfts xpools xms (d + 2)) (xpool xp_RX13) [] xt_X13_isNew (yP 4 (fun rv hp' => (bQi G [(85070591730234615865843651857942052864, 256)] hp 0 1 (fun z => (z = 1 → 0 ≤ p2))) rv hp' ∧ ∀ z : Int, rv = some (yI z) → 0 ≤ z → z ≤ 1 → (mLd hp' (ys hp 2073 11) (p2 : Int).toNat (p1 : Int).toNat ∧ (z = 1 → mLd hp' (ys hp 2073 11) (p2 : Int).toNat ((p1 : Int).toNat + 1))))) (43 * m) 2 [(0, yR 2073), (1, yI (p1)), (2, yI (p2)), (3, yI (a3))] [] hq) ∧ (∀ a3 : Int, ∀ a4 : Int, ∀ gg0 : Int, ∀ hq, bAx G [(85070591730234615865843651857942052864, 256)] hp hq → ys hq 2073 11 = gg0 → 0 ≤ a3 → (-14) ≤ 0 - a3 → 0 ≤ a4 → (-15) ≤ 0 - a4 → 1 ≤ gg0 → (-2147483647) ≤ 0 - gg0 → 1 ≤ p1 → (-15) ≤ 0 - p1 → (-1) ≤ p2 → (-15) ≤ 0 - p2 → 1 ≤ 0 - a3 + p1 → (-14) ≤ 0 - a3 + p2 → (-1) ≤ 0 - a4 + p2 → (mIs hp hq (ys hp 2073 11) (p2 : Int).toNat (p1 : Int).toNat a3 ∧ a4 ≤ (((p2 : Int).toNat : Nat) : Int) - 1 ∧ ∀ j : Nat, (j : Int) < a4 → mmM hq (a3 : Int).toNat j = 0) → 0 - 496 * a3 - 33 * a4 + 7934 < (m : Int) → yG 89 xfts (xcall 89 xfts xpools xms (d + 2)) (xpool xp_RX13) [] xt_X13_isNew (yP 4 (fun rv hp' => (bQi G [(85070591730234615865843651857942052864, 256)] hp 0 1 (fun z => (z = 1 → 0 ≤ p2))) rv hp' ∧ ∀ z : Int, rv = some (yI z) → 0 ≤ z → z ≤ 1 → (mLd hp' (ys hp 2073 11) (p2 : Int).toNat (p1 : Int).toNat ∧ (z = 1 → mLd hp' (ys hp 2073 11) (p2 : Int).toNat ((p1 : Int).toNat + 1))))) (43 * m) 10 [(0, yR 2073), (1, yI (p1)), (2, yI (p2)), (3, yI (a3)), (4, yI (a4))] [] hq) ∧ (∀ a3 : Int, ∀ a5 : Int, ∀ a7 : Int, ∀ gg0 : Int, ∀ hq, bAx G [(85070591730234615865843651857942052864, 256)] hp hq → ys hq 2073 11 = gg0 → 0 ≤ a3 → (-14) ≤ 0 - a3 → 0 ≤ a5 → (-2147483646) ≤ 0 - a5 → 0 ≤ a7 → (-15) ≤ 0 - a7 → 1 ≤ gg0 → (-2147483647) ≤ 0 - gg0 → 1 ≤ p1 → (-15) ≤ 0 - p1 → 1 ≤ p2 → (-15) ≤ 0 - p2 → (-14) ≤ a5 - a7 → 1 ≤ 0 - a5 + gg0 → 1 ≤ 0 - a3 + p1 → 0 ≤ 0 - a7 + p2 → mIt hp hq (ys hp 2073 11) (p2 : Int).toNat (p1 : Int).toNat a3 a7 a5 → 0 - 496 * a3 - 2 * a7 + 7471 < (m : Int) → yG 89 xfts (xcall 89 xfts xpools xms (d + 2)) (xpool xp_RX13) [] xt_X13_isNew (yP 4 (fun rv hp' => (bQi G [(85070591730234615865843651857942052864, 256)] hp 0 1 (fun z => (z = 1 → 0 ≤ p2))) rv hp' ∧ ∀ z : Int, rv = some (yI z) → 0 ≤ z → z ≤ 1 → (mLd hp' (ys hp 2073 11) (p2 : Int).toNat (p1 : Int).toNat ∧ (z = 1 → mLd hp' (ys hp 2073 11) (p2 : Int).toNat ((p1 : Int).toNat + 1))))) (43 * m) 72 [(0, yR 2073), (1, yI (p1)), (2, yI (p2)), (3, yI (a3)), (5, yJ (a5)), (7, yI (a7))] [] hq) ∧ (∀ a3 : Int, ∀ a4 : Int, ∀ gg0 : Int, ∀ hq, bAx G [(85070591730234615865843651857942052864, 256)] hp hq → ys hq 2073 11 = gg0 → 0 ≤ a3 → (-1) ≤ 0 - a3 → 0 ≤ a4 → (-15) ≤ 0 - a4 → 1 ≤ gg0 → (-2147483647) ≤ 0 - gg0 → 0 ≤ p1 → (-15) ≤ 0 - p1 → (-1) ≤ p2 → (-15) ≤ 0 - p2 → 0 ≤ 0 - a3 + a4 → (-1) ≤ 0 - a4 + p2 → (mIs hp hq (ys hp 2073 11) (p2 : Int).toNat (p1 : Int).toNat (((p1 : Int).toNat : Nat) : Int) ∧ (a3 = 1 → mSm hq (p2 : Int).toNat (p1 : Int).toNat)) → 0 - 2 * a4 + 31 < (m : Int) → yG 89 xfts (xcall 89 xfts xpools xms (d + 2)) (xpool xp_RX13) [] xt_X13_isNew (yP 4 (fun rv hp' => (bQi G [(85070591730234615865843651857942052864, 256)] hp 0 1 (fun z => (z = 1 → 0 ≤ p2))) rv hp' ∧ ∀ z : Int, rv = some (yI z) → 0 ≤ z → z ≤ 1 → (mLd hp' (ys hp 2073 11) (p2 : Int).toNat (p1 : Int).toNat ∧ (z = 1 → mLd hp' (ys hp 2073 11) (p2 : Int).toNat ((p1 : Int).toNat + 1))))) (43 * m) 151 [(0, yR 2073), (1, yI (p1)), (2, yI (p2)), (3, yI (a3)), (4, yI (a4))] [] hq) := by
    intro m
    induction m with
    | zero =>
      refine ⟨?_, ?_, ?_, ?_⟩ <;> (intros; exfalso; omega)
    | succ m ih =>
      obtain ⟨i_2, i_10, i_72, i_151⟩ := ih
      refine ⟨?_, ?_, ?_, ?_⟩
      · intro a3 gg0 hq A_hq E_0 f0 f1 f2 f3 f4 f5 f6 f7 f8 f9 X_2 hm
        refine yG.mono (N := 43 * m + 43) ?_ (by omega)
        obtain ⟨-, -, g_0l, g_0u⟩ := (w_M_p W H_2073).long A_hq.1
        have pq : ys hq 2073 11 = ys hp 2073 11 := A_hq.ys H_2073 (by decide)
        refine yG.load xik rfl (fun _ _ => rfl) (v := yI (a3)) rfl rfl ?_
        refine yG.load xik rfl (fun _ _ => rfl) (v := yI (p1)) rfl rfl ?_
        refine yG.icmp rfl (t := 146) rfl ⟨by omega, by omega⟩ ⟨by omega, by omega⟩ (fun c1 => ?_) (fun c1 => ?_)
        · have c1 : (a3 : Int) ≥ p1 := c1
          refine yG.num (c := 0) rfl (fun _ _ => rfl) (by decide) ?_
          refine yG.store1 xik (L' := [(3, yI (0)), (0, yR 2073), (1, yI (p1)), (2, yI (p2))]) rfl (fun _ _ => rfl) rfl rfl ?_
          refine yG.num (c := 0) rfl (fun _ _ => rfl) (by decide) ?_
          refine yG.store1 xik (L' := [(4, yI (0)), (3, yI (0)), (0, yR 2073), (1, yI (p1)), (2, yI (p2))]) rfl (fun _ _ => rfl) rfl rfl ?_
          exact yG.mono (yG.sub (i_151 (0) (0) (ys hq 2073 11) hq A_hq  rfl (by omega) (by omega) (by omega) (by omega) (by omega) (by omega) (by omega) (by omega) (by omega) (by omega) (by omega) (by omega) ⟨X_2.all (by omega), fun e => absurd e (by omega)⟩ (by omega)) (ySub.cons rfl (ySub.cons rfl (ySub.cons rfl (ySub.cons rfl (ySub.cons rfl (ySub.nil))))))) (by omega)
        · have c1 : (a3 : Int) < p1 := c1
          refine yG.num (c := 0) rfl (fun _ _ => rfl) (by decide) ?_
          refine yG.store1 xik (L' := [(4, yI (0)), (0, yR 2073), (1, yI (p1)), (2, yI (p2)), (3, yI (a3))]) rfl (fun _ _ => rfl) rfl rfl ?_
          exact yG.mono (yG.sub (i_10 (a3) (0) (ys hq 2073 11) hq A_hq  rfl (by omega) (by omega) (by omega) (by omega) (by omega) (by omega) (by omega) (by omega) (by omega) (by omega) (by omega) (by omega) (by omega) ⟨X_2, (X_2.ld g91 (show (p2 : Int).toNat ≤ 48 by omega)).lt (r := (a3 : Int).toNat) (by omega) (fun j hj => absurd hj (by omega)), fun j hj => absurd hj (by omega)⟩ (by omega)) (ySub.cons rfl (ySub.cons rfl (ySub.cons rfl (ySub.cons rfl (ySub.cons rfl (ySub.nil))))))) (by omega)
      · intro a3 a4 gg0 hq A_hq E_0 f0 f1 f2 f3 f4 f5 f6 f7 f8 f9 f10 f11 f12 X_10 hm
        refine yG.mono (N := 43 * m + 43) ?_ (by omega)
        obtain ⟨-, -, g_0l, g_0u⟩ := (w_M_p W H_2073).long A_hq.1
        have pq : ys hq 2073 11 = ys hp 2073 11 := A_hq.ys H_2073 (by decide)
        have b10 := X_10.2.1
        refine yG.load xak rfl (fun _ _ => rfl) (v := yR 2073) rfl rfl ?_
        refine yG.getO A_hq.1 (w_M_matrix W H_2073) rfl rfl (fun r1 H_r1 O_r1 q_r1 => ?_)
        obtain rfl := u_M_matrix W H_r1
        refine yG.num (c := 48) rfl (fun _ _ => rfl) (by decide) ?_
        refine yG.load xik rfl (fun _ _ => rfl) (v := yI (a3)) rfl rfl ?_
        refine yG.imul rfl ?_
        refine yG.load xik rfl (fun _ _ => rfl) (v := yI (a4)) rfl rfl ?_
        refine yG.iadd rfl ?_
        refine yG.lald A_hq.1 (v_M_matrix W H_r1) rfl (by omega) (by omega) (fun z2 e_z2 i_z2 l_z2 u_z2 => ?_)
        refine yG.numl (c := 0) rfl (fun _ _ => rfl) (by decide) ?_
        refine yG.lcmp rfl ⟨by omega, by omega⟩ ⟨by omega, by omega⟩ (fun z3 e_z3 => ?_)
        refine yG.ifz rfl (t := 33) rfl ⟨by omega, by omega⟩ (fun c4 => ?_) (fun c4 => ?_)
        · have c4 : (z3 : Int) ≠ 0 := c4
          refine yG.load xak rfl (fun _ _ => rfl) (v := yR 2073) rfl rfl ?_
          refine yG.getS9 A_hq.1 (w_M_matrix W H_2073) q_r1 rfl rfl ?_
          refine yG.num (c := 48) rfl (fun _ _ => rfl) (by decide) ?_
          refine yG.load xik rfl (fun _ _ => rfl) (v := yI (p1)) rfl rfl ?_
          refine yG.imul rfl ?_
          refine yG.load xik rfl (fun _ _ => rfl) (v := yI (a4)) rfl rfl ?_
          refine yG.iadd rfl ?_
          refine yG.lald A_hq.1 (v_M_matrix W H_r1) rfl (by omega) (by omega) (fun z5 e_z5 i_z5 l_z5 u_z5 => ?_)
          refine yG.load xak rfl (fun _ _ => rfl) (v := yR 2073) rfl rfl ?_
          refine yG.load xak rfl (fun _ _ => rfl) (v := yR 2073) rfl rfl ?_
          refine yG.getS9 A_hq.1 (w_M_matrix W H_2073) q_r1 rfl rfl ?_
          refine yG.num (c := 48) rfl (fun _ _ => rfl) (by decide) ?_
          refine yG.load xik rfl (fun _ _ => rfl) (v := yI (a3)) rfl rfl ?_
          refine yG.imul rfl ?_
          refine yG.load xik rfl (fun _ _ => rfl) (v := yI (a4)) rfl rfl ?_
          refine yG.iadd rfl ?_
          refine yG.lald A_hq.1 (v_M_matrix W H_r1) rfl (by omega) (by omega) (fun z6 e_z6 i_z6 l_z6 u_z6 => ?_)
          rw [show (z6 : Int) = z2 by omega]
          refine yG.invV (rest := [yJ (z5)]) A_hq.1 (bOb (d_M W) H_2073) rfl rfl rfl rfl (c_GModel_inverse__s W d A_hq.1 H_2073 (z2) (by omega) (by omega) (by omega) (by omega)) (fun rv hp9 q9 => ?_)
          obtain ⟨⟨z7, rfl, l_z7, u_z7, R_z7⟩, e9⟩ := q9
          rw [e9]
          show yG _ _ _ _ _ _ _ _ _ _ (yJ z7 :: [yJ (z5)]) _
          refine yG.lmul rfl ?_
          obtain ⟨z8, e_z8⟩ : ∃ z : Int, z = z5 * z7 := ⟨_, rfl⟩
          rw [← e_z8]
          have b_z8 : 0 ≤ z8 ∧ z8 ≤ 4611686011984936962 := e_z8 ▸ ymulb (A := 2147483647) (B := 2147483646) (by omega) (by omega) (by omega) (by omega) (by decide)
          have b2_z8 : z8 ≤ 2147483647 * z7 := e_z8 ▸ bmulx (by omega) (by omega)
          have b3_z8 : z8 ≤ 2147483646 * z5 := e_z8 ▸ bmuly (by omega) (by omega)
          refine yG.load xak rfl (fun _ _ => rfl) (v := yR 2073) rfl rfl ?_
          refine yG.getJ A_hq.1 (w_M_p W H_2073) rfl rfl (fun z9 e_z9 i_z9 l_z9 u_z9 => ?_)
          rw [show (z9 : Int) = gg0 by omega]
          refine yG.lrem rfl ⟨by omega, by omega⟩ ⟨by omega, by omega⟩ (by omega) (by omega) ?_
          obtain ⟨z10, e_z10⟩ : ∃ z : Int, z = (z8) % (gg0) := ⟨_, rfl⟩
          rw [← e_z10]
          have b_z10 : 0 ≤ z10 ∧ z10 < gg0 := e_z10 ▸ ⟨Int.emod_nonneg _ (by omega), Int.emod_lt_of_pos _ (by omega)⟩
          refine yG.store2 xlk2 (L' := [(5, yJ (z10)), (0, yR 2073), (1, yI (p1)), (2, yI (p2)), (3, yI (a3)), (4, yI (a4))]) rfl (fun _ _ => rfl) rfl rfl ?_
          refine yG.num (c := 0) rfl (fun _ _ => rfl) (by decide) ?_
          refine yG.store1 xik (L' := [(7, yI (0)), (5, yJ (z10)), (0, yR 2073), (1, yI (p1)), (2, yI (p2)), (3, yI (a3)), (4, yI (a4))]) rfl (fun _ _ => rfl) rfl rfl ?_
          have L9 := X_10.1.ld g91 (show (p2 : Int).toNat ≤ 48 by omega)
          have em9 : z2 = mmM hq (a3 : Int).toNat (a4 : Int).toNat := mmM_at e_z2 (by omega)
          have r9 := L9.1 (a3 : Int).toNat (by omega) (a4 : Int).toNat (by omega)
          rw [← em9] at r9
          have dv9 := R_z7
          rw [pq] at dv9
          have dv8 := dv9 g90 (mNdvd (by omega) r9.2)
          exact yG.mono (yG.sub (i_72 (a3) (z10) (0) (ys hq 2073 11) hq A_hq  rfl (by omega) (by omega) (by omega) (by omega) (by omega) (by omega) (by omega) (by omega) (by omega) (by omega) (by omega) (by omega) (by omega) (by omega) (by omega) (by omega) (X_10.1.go (r := (a3 : Int).toNat) (c := (a4 : Int).toNat) (b := z7) (by omega) (by omega) (by omega) (show (p2 : Int).toNat ≤ 48 by omega) X_10.2.2 em9 (mmM_at e_z5 (by omega)) (by omega) (by rw [show (ys hp 2073 11) = gg0 by omega]; exact (show gg0 ∣ z10 - z5 * z7 from by rw [show z5 * z7 = z8 by rw [e_z8]]; exact mdv_mod (by omega) e_z10)) dv8) (by omega)) (ySub.cons rfl (ySub.cons rfl (ySub.cons rfl (ySub.cons rfl (ySub.cons rfl (ySub.cons rfl (ySub.nil)))))))) (by omega)
        · have c4 : (z3 : Int) = 0 := c4
          refine yG.iinc rfl (a := a4) rfl (L' := [(4, yI (a4 + 1)), (0, yR 2073), (1, yI (p1)), (2, yI (p2)), (3, yI (a3))]) rfl ?_
          refine yG.goto rfl (t := 10) rfl ?_
          have hz : ∀ j : Nat, (j : Int) < a4 + 1 → mmM hq (a3 : Int).toNat j = 0 := fun j hj => if e9 : (j : Int) = a4 then (by rw [show j = (a4 : Int).toNat by omega, ← mmM_at (r := (a3 : Int).toNat) (k := (a4 : Int).toNat) e_z2 (by omega)]; omega) else X_10.2.2 j (by omega)
          exact yG.mono (yG.sub (i_10 (a3) (a4 + 1) (ys hq 2073 11) hq A_hq  rfl (by omega) (by omega) (by omega) (by omega) (by omega) (by omega) (by omega) (by omega) (by omega) (by omega) (by omega) (by omega) (by omega) ⟨X_10.1, (X_10.1.ld g91 (show (p2 : Int).toNat ≤ 48 by omega)).lt (r := (a3 : Int).toNat) (by omega) hz, hz⟩ (by omega)) (ySub.cons rfl (ySub.cons rfl (ySub.cons rfl (ySub.cons rfl (ySub.cons rfl (ySub.nil))))))) (by omega)
      · intro a3 a5 a7 gg0 hq A_hq E_0 f0 f1 f2 f3 f4 f5 f6 f7 f8 f9 f10 f11 f12 f13 f14 f15 X_72 hm
        refine yG.mono (N := 43 * m + 43) ?_ (by omega)
        obtain ⟨-, -, g_0l, g_0u⟩ := (w_M_p W H_2073).long A_hq.1
        have pq : ys hq 2073 11 = ys hp 2073 11 := A_hq.ys H_2073 (by decide)
        refine yG.load xik rfl (fun _ _ => rfl) (v := yI (a7)) rfl rfl ?_
        refine yG.load xik rfl (fun _ _ => rfl) (v := yI (p2)) rfl rfl ?_
        refine yG.icmp rfl (t := 140) rfl ⟨by omega, by omega⟩ ⟨by omega, by omega⟩ (fun c1 => ?_) (fun c1 => ?_)
        · have c1 : (a7 : Int) ≥ p2 := c1
          refine yG.iinc rfl (a := a3) rfl (L' := [(3, yI (a3 + 1)), (0, yR 2073), (1, yI (p1)), (2, yI (p2)), (5, yJ (a5)), (7, yI (a7))]) rfl ?_
          refine yG.goto rfl (t := 2) rfl ?_
          exact yG.mono (yG.sub (i_2 (a3 + 1) (ys hq 2073 11) hq A_hq  rfl (by omega) (by omega) (by omega) (by omega) (by omega) (by omega) (by omega) (by omega) (by omega) (by omega) (X_72.done (r0 := (a3 : Int).toNat) g91 (by omega) (by omega) (by omega) (by omega)) (by omega)) (ySub.cons rfl (ySub.cons rfl (ySub.cons rfl (ySub.cons rfl (ySub.nil)))))) (by omega)
        · have c1 : (a7 : Int) < p2 := c1
          refine yG.load xlk2 rfl (fun _ _ => rfl) (v := yJ (a5)) rfl rfl ?_
          refine yG.numl (c := 0) rfl (fun _ _ => rfl) (by decide) ?_
          refine yG.lcmp rfl ⟨by omega, by omega⟩ ⟨by omega, by omega⟩ (fun z2 e_z2 => ?_)
          refine yG.ifz rfl (t := 140) rfl ⟨by omega, by omega⟩ (fun c3 => ?_) (fun c3 => ?_)
          · have c3 : (z2 : Int) = 0 := c3
            refine yG.iinc rfl (a := a3) rfl (L' := [(3, yI (a3 + 1)), (0, yR 2073), (1, yI (p1)), (2, yI (p2)), (5, yJ (a5)), (7, yI (a7))]) rfl ?_
            refine yG.goto rfl (t := 2) rfl ?_
            exact yG.mono (yG.sub (i_2 (a3 + 1) (ys hq 2073 11) hq A_hq  rfl (by omega) (by omega) (by omega) (by omega) (by omega) (by omega) (by omega) (by omega) (by omega) (by omega) (X_72.done (r0 := (a3 : Int).toNat) g91 (by omega) (by omega) (by omega) (by omega)) (by omega)) (ySub.cons rfl (ySub.cons rfl (ySub.cons rfl (ySub.cons rfl (ySub.nil)))))) (by omega)
          · have c3 : (z2 : Int) ≠ 0 := c3
            refine yG.load xak rfl (fun _ _ => rfl) (v := yR 2073) rfl rfl ?_
            refine yG.getO A_hq.1 (w_M_matrix W H_2073) rfl rfl (fun r4 H_r4 O_r4 q_r4 => ?_)
            obtain rfl := u_M_matrix W H_r4
            refine yG.num (c := 48) rfl (fun _ _ => rfl) (by decide) ?_
            refine yG.load xik rfl (fun _ _ => rfl) (v := yI (p1)) rfl rfl ?_
            refine yG.imul rfl ?_
            refine yG.load xik rfl (fun _ _ => rfl) (v := yI (a7)) rfl rfl ?_
            refine yG.iadd rfl ?_
            refine yG.load xak rfl (fun _ _ => rfl) (v := yR 2073) rfl rfl ?_
            refine yG.load xak rfl (fun _ _ => rfl) (v := yR 2073) rfl rfl ?_
            refine yG.getS9 A_hq.1 (w_M_matrix W H_2073) q_r4 rfl rfl ?_
            refine yG.num (c := 48) rfl (fun _ _ => rfl) (by decide) ?_
            refine yG.load xik rfl (fun _ _ => rfl) (v := yI (p1)) rfl rfl ?_
            refine yG.imul rfl ?_
            refine yG.load xik rfl (fun _ _ => rfl) (v := yI (a7)) rfl rfl ?_
            refine yG.iadd rfl ?_
            refine yG.lald A_hq.1 (v_M_matrix W H_r4) rfl (by omega) (by omega) (fun z5 e_z5 i_z5 l_z5 u_z5 => ?_)
            refine yG.load xlk2 rfl (fun _ _ => rfl) (v := yJ (a5)) rfl rfl ?_
            refine yG.load xak rfl (fun _ _ => rfl) (v := yR 2073) rfl rfl ?_
            refine yG.getS9 A_hq.1 (w_M_matrix W H_2073) q_r4 rfl rfl ?_
            refine yG.num (c := 48) rfl (fun _ _ => rfl) (by decide) ?_
            refine yG.load xik rfl (fun _ _ => rfl) (v := yI (a3)) rfl rfl ?_
            refine yG.imul rfl ?_
            refine yG.load xik rfl (fun _ _ => rfl) (v := yI (a7)) rfl rfl ?_
            refine yG.iadd rfl ?_
            refine yG.lald A_hq.1 (v_M_matrix W H_r4) rfl (by omega) (by omega) (fun z6 e_z6 i_z6 l_z6 u_z6 => ?_)
            refine yG.lmul rfl ?_
            obtain ⟨z7, e_z7⟩ : ∃ z : Int, z = a5 * z6 := ⟨_, rfl⟩
            rw [← e_z7]
            have b_z7 : 0 ≤ z7 ∧ z7 ≤ 4611686011984936962 := e_z7 ▸ ymulb (A := 2147483646) (B := 2147483647) (by omega) (by omega) (by omega) (by omega) (by decide)
            have b2_z7 : z7 ≤ 2147483646 * z6 := e_z7 ▸ bmulx (by omega) (by omega)
            have b3_z7 : z7 ≤ 2147483647 * a5 := e_z7 ▸ bmuly (by omega) (by omega)
            refine yG.load xak rfl (fun _ _ => rfl) (v := yR 2073) rfl rfl ?_
            refine yG.getJ A_hq.1 (w_M_p W H_2073) rfl rfl (fun z8 e_z8 i_z8 l_z8 u_z8 => ?_)
            rw [show (z8 : Int) = gg0 by omega]
            refine yG.lrem rfl ⟨by omega, by omega⟩ ⟨by omega, by omega⟩ (by omega) (by omega) ?_
            obtain ⟨z9, e_z9⟩ : ∃ z : Int, z = (z7) % (gg0) := ⟨_, rfl⟩
            rw [← e_z9]
            have b_z9 : 0 ≤ z9 ∧ z9 < gg0 := e_z9 ▸ ⟨Int.emod_nonneg _ (by omega), Int.emod_lt_of_pos _ (by omega)⟩
            refine yG.lsub rfl ?_
            refine yG.invV (rest := [yI ((48 * p1) + a7), yR 2083]) A_hq.1 (bOb (d_M W) H_2073) rfl rfl rfl rfl (c_GModel_mod_s W (d + 1) A_hq.1 H_2073 (z5 - z9) (by omega) (by omega) (by omega) (by omega)) (fun rv hp9 q9 => ?_)
            obtain ⟨⟨z10, rfl, l_z10, u_z10, R_z10⟩, e9⟩ := q9
            rw [e9]
            show yG _ _ _ _ _ _ _ _ _ _ (yJ z10 :: [yI ((48 * p1) + a7), yR 2083]) _
            refine yG.last A_hq.1 (v_M_matrix W H_r4) (W.2.1 _ _ H_r4 (by decide) (by decide)) rfl (by omega) (by omega) ⟨by omega, by omega⟩ (by omega) (by omega) (fun h11 T_h11 b_h11 f_h11 y_h11 => ?_)
            have A_h11 := A_hq.put T_h11 b_h11 f_h11 H_r4 (bAll_ok (by decide) _)
            have : ys h11 2073 11 = ys hq 2073 11 := (y_h11 2073 11).trans (if_neg (fun e => (bRo.ne H_2073 H_r4 (by decide)) e.1))
            have qq1 : zsl h11 2073 12 = yR 2083 := ((f_h11 2073 12).trans (if_neg (fun e => (bRo.ne H_2073 H_r4 (by decide)) e.1))).trans q_r4
            refine yG.iinc rfl (a := a7) rfl (L' := [(7, yI (a7 + 1)), (0, yR 2073), (1, yI (p1)), (2, yI (p2)), (3, yI (a3)), (5, yJ (a5))]) rfl ?_
            refine yG.goto rfl (t := 72) rfl ?_
            exact yG.mono (yG.sub (i_72 (a3) (a5) (a7 + 1) (ys h11 2073 11) h11 A_h11  rfl (by omega) (by omega) (by omega) (by omega) (by omega) (by omega) (by omega) (by omega) (by omega) (by omega) (by omega) (by omega) (by omega) (by omega) (by omega) (by omega) (X_72.step (r0 := (a3 : Int).toNat) (k := (a7 : Int).toNat) (by omega) (by omega) (show (p2 : Int).toNat ≤ 48 by omega) (by omega) (by omega) y_h11 (by omega) (mmM_at e_z5 (by omega)) (mmM_at e_z6 (by omega)) (by rw [← pq]; exact mdv_tr (R_z10.2) (mSubD (by rw [show ys hq 2073 11 = gg0 by omega]; exact (show gg0 ∣ z9 - a5 * z6 from by rw [show a5 * z6 = z7 by rw [e_z7]]; exact mdv_mod (by omega) e_z9)))) (by omega) (by omega)) (by omega)) (ySub.cons rfl (ySub.cons rfl (ySub.cons rfl (ySub.cons rfl (ySub.cons rfl (ySub.cons rfl (ySub.nil)))))))) (by omega)
      · intro a3 a4 gg0 hq A_hq E_0 f0 f1 f2 f3 f4 f5 f6 f7 f8 f9 f10 f11 X_151 hm
        refine yG.mono (N := 43 * m + 43) ?_ (by omega)
        obtain ⟨-, -, g_0l, g_0u⟩ := (w_M_p W H_2073).long A_hq.1
        have pq : ys hq 2073 11 = ys hp 2073 11 := A_hq.ys H_2073 (by decide)
        refine yG.load xik rfl (fun _ _ => rfl) (v := yI (a4)) rfl rfl ?_
        refine yG.load xik rfl (fun _ _ => rfl) (v := yI (p2)) rfl rfl ?_
        refine yG.icmp rfl (t := 190) rfl ⟨by omega, by omega⟩ ⟨by omega, by omega⟩ (fun c1 => ?_) (fun c1 => ?_)
        · have c1 : (a4 : Int) ≥ p2 := c1
          refine yG.load xik rfl (fun _ _ => rfl) (v := yI (a3)) rfl rfl ?_
          refine yG.ret rfl (fun _ _ => rfl) ?_
          exact (yP.bool (by omega) ⟨⟨⟨a3, rfl, by omega, by omega, by omega⟩, A_hq⟩, (fun z e9 l9 u9 => by have e8 := yIinj e9 (by omega) (by omega) (by omega) (by omega); subst e8; exact ⟨X_151.1.ld g91 (show (p2 : Int).toNat ≤ 48 by omega), fun e => X_151.1.some g91 (show (p2 : Int).toNat ≤ 48 by omega) (X_151.2 (by omega))⟩)⟩)
        · have c1 : (a4 : Int) < p2 := c1
          refine yG.load xik rfl (fun _ _ => rfl) (v := yI (a3)) rfl rfl ?_
          refine yG.ifz rfl (t := 178) rfl ⟨by omega, by omega⟩ (fun c2 => ?_) (fun c2 => ?_)
          · have c2 : (a3 : Int) ≠ 0 := c2
            refine yG.num (c := 1) rfl (fun _ _ => rfl) (by decide) ?_
            refine yG.goto rfl (t := 183) rfl ?_
            refine yG.store1 xik (L' := [(3, yI (1)), (0, yR 2073), (1, yI (p1)), (2, yI (p2)), (4, yI (a4))]) rfl (fun _ _ => rfl) rfl rfl ?_
            refine yG.iinc rfl (a := a4) rfl (L' := [(4, yI (a4 + 1)), (3, yI (1)), (0, yR 2073), (1, yI (p1)), (2, yI (p2))]) rfl ?_
            refine yG.goto rfl (t := 151) rfl ?_
            exact yG.mono (yG.sub (i_151 (1) (a4 + 1) (ys hq 2073 11) hq A_hq  rfl (by omega) (by omega) (by omega) (by omega) (by omega) (by omega) (by omega) (by omega) (by omega) (by omega) (by omega) (by omega) ⟨X_151.1, fun _ => X_151.2 (by omega)⟩ (by omega)) (ySub.cons rfl (ySub.cons rfl (ySub.cons rfl (ySub.cons rfl (ySub.cons rfl (ySub.nil))))))) (by omega)
          · have c2 : (a3 : Int) = 0 := c2
            refine yG.load xak rfl (fun _ _ => rfl) (v := yR 2073) rfl rfl ?_
            refine yG.getO A_hq.1 (w_M_matrix W H_2073) rfl rfl (fun r3 H_r3 O_r3 q_r3 => ?_)
            obtain rfl := u_M_matrix W H_r3
            refine yG.num (c := 48) rfl (fun _ _ => rfl) (by decide) ?_
            refine yG.load xik rfl (fun _ _ => rfl) (v := yI (p1)) rfl rfl ?_
            refine yG.imul rfl ?_
            refine yG.load xik rfl (fun _ _ => rfl) (v := yI (a4)) rfl rfl ?_
            refine yG.iadd rfl ?_
            refine yG.lald A_hq.1 (v_M_matrix W H_r3) rfl (by omega) (by omega) (fun z4 e_z4 i_z4 l_z4 u_z4 => ?_)
            refine yG.numl (c := 0) rfl (fun _ _ => rfl) (by decide) ?_
            refine yG.lcmp rfl ⟨by omega, by omega⟩ ⟨by omega, by omega⟩ (fun z5 e_z5 => ?_)
            refine yG.ifz rfl (t := 182) rfl ⟨by omega, by omega⟩ (fun c6 => ?_) (fun c6 => ?_)
            · have c6 : (z5 : Int) = 0 := c6
              refine yG.num (c := 0) rfl (fun _ _ => rfl) (by decide) ?_
              refine yG.store1 xik (L' := [(3, yI (0)), (0, yR 2073), (1, yI (p1)), (2, yI (p2)), (4, yI (a4))]) rfl (fun _ _ => rfl) rfl rfl ?_
              refine yG.iinc rfl (a := a4) rfl (L' := [(4, yI (a4 + 1)), (3, yI (0)), (0, yR 2073), (1, yI (p1)), (2, yI (p2))]) rfl ?_
              refine yG.goto rfl (t := 151) rfl ?_
              exact yG.mono (yG.sub (i_151 (0) (a4 + 1) (ys hq 2073 11) hq A_hq  rfl (by omega) (by omega) (by omega) (by omega) (by omega) (by omega) (by omega) (by omega) (by omega) (by omega) (by omega) (by omega) ⟨X_151.1, fun e => if g9 : z4 = 0 then absurd e (by omega) else mSm.of (k := (a4 : Int).toNat) e_z4 (by omega) (by omega) g9⟩ (by omega)) (ySub.cons rfl (ySub.cons rfl (ySub.cons rfl (ySub.cons rfl (ySub.cons rfl (ySub.nil))))))) (by omega)
            · have c6 : (z5 : Int) ≠ 0 := c6
              refine yG.num (c := 1) rfl (fun _ _ => rfl) (by decide) ?_
              refine yG.goto rfl (t := 183) rfl ?_
              refine yG.store1 xik (L' := [(3, yI (1)), (0, yR 2073), (1, yI (p1)), (2, yI (p2)), (4, yI (a4))]) rfl (fun _ _ => rfl) rfl rfl ?_
              refine yG.iinc rfl (a := a4) rfl (L' := [(4, yI (a4 + 1)), (3, yI (1)), (0, yR 2073), (1, yI (p1)), (2, yI (p2))]) rfl ?_
              refine yG.goto rfl (t := 151) rfl ?_
              exact yG.mono (yG.sub (i_151 (1) (a4 + 1) (ys hq 2073 11) hq A_hq  rfl (by omega) (by omega) (by omega) (by omega) (by omega) (by omega) (by omega) (by omega) (by omega) (by omega) (by omega) (by omega) ⟨X_151.1, fun e => if g9 : z4 = 0 then absurd e (by omega) else mSm.of (k := (a4 : Int).toNat) e_z4 (by omega) (by omega) g9⟩ (by omega)) (ySub.cons rfl (ySub.cons rfl (ySub.cons rfl (ySub.cons rfl (ySub.cons rfl (ySub.nil))))))) (by omega)
  refine yC.of (M := (xt_X13_isNew, (8, (4, (14, []))))) rfl rfl (N := 341334) (yfuel (by decide)) ?_
  show yG 89 xfts (xcall 89 xfts xpools xms (d + 2)) (xpool xp_RX13) [] xt_X13_isNew (yP 4 (fun rv hp' => (bQi G [(85070591730234615865843651857942052864, 256)] hp 0 1 (fun z => (z = 1 → 0 ≤ p2))) rv hp' ∧ ∀ z : Int, rv = some (yI z) → 0 ≤ z → z ≤ 1 → (mLd hp' (ys hp 2073 11) (p2 : Int).toNat (p1 : Int).toNat ∧ (z = 1 → mLd hp' (ys hp 2073 11) (p2 : Int).toNat ((p1 : Int).toNat + 1))))) 341334 0 [(0, yR 2073), (1, yI (p1)), (2, yI (p2))] [] hp
  obtain ⟨i_2, i_10, i_72, i_151⟩ := H 7937
  obtain ⟨gg0, E_0⟩ : ∃ z : Int, ys hp 2073 11 = z := ⟨_, rfl⟩
  obtain ⟨-, -, g_0l, g_0u⟩ := (w_M_p W H_2073).long hT
  refine yG.num (c := 0) rfl (fun _ _ => rfl) (by decide) ?_
  refine yG.store1 xik (L' := [(3, yI (0)), (0, yR 2073), (1, yI (p1)), (2, yI (p2))]) rfl (fun _ _ => rfl) rfl rfl ?_
  exact yG.mono (yG.sub (i_2 (0) (ys hp 2073 11) hp A_hp  rfl (by omega) (by omega) (by omega) (by omega) (by omega) (by omega) (by omega) (by omega) (by omega) (by omega) (mIs.start g92) (by omega)) (ySub.cons rfl (ySub.cons rfl (ySub.cons rfl (ySub.cons rfl (ySub.nil)))))) (by omega)
theorem c_GModel_reduced_s {hp : xH} (W : mW G) (d : Nat) (hT : zTy G hp) (H_2073 : bRo G 116 2073) (p1 p2 : Int) (h1l : 0 ≤ p1) (h1u : p1 ≤ 15) (h2l : (-1) ≤ p2) (h2u : p2 ≤ 15) (q0l : 1 ≤ ys hp 2073 11) (q0u : ys hp 2073 11 ≤ 2147483647) (g90 : mPr ((ys hp 2073 11)).toNat) (g91 : mLd hp (ys hp 2073 11) (p2 : Int).toNat (p1 : Int).toNat) (g92 : mRo hp (ys hp 2073 11) (p1 : Int).toNat (((p2 : Int).toNat : Nat) : Int)) : yC (xcall 89 xfts xpools xms (d + 4)) 490 [yR 2073, yI (p1), yI (p2)] hp (fun rv hp' => (bQi G [(85070591730234615865843651857942052864, 256)] hp 0 16 (fun z => 0 ≤ 0 - p1 + z ∧ 0 ≤ p1 - z + 1 ∧ 0 ≤ p2 - z + 16 ∧ 0 ≤ 0 - p1 + z ∧ 0 ≤ p1 - z + 1)) rv hp' ∧ ∀ z : Int, rv = some (yI z) → 0 ≤ z → z ≤ 16 → (mLd hp' (ys hp 2073 11) (p2 : Int).toNat (z : Int).toNat)) := by
  have A_hp : bAx G [(85070591730234615865843651857942052864, 256)] hp hp := bAx.rf hT
  refine yC.of (M := (xt_X13_reduced, (3, (1, (14, []))))) rfl rfl (N := 36) (yfuel (by decide)) ?_
  show yG 89 xfts (xcall 89 xfts xpools xms (d + 3)) (xpool xp_RX13) [] xt_X13_reduced (yP 1 (fun rv hp' => (bQi G [(85070591730234615865843651857942052864, 256)] hp 0 16 (fun z => 0 ≤ 0 - p1 + z ∧ 0 ≤ p1 - z + 1 ∧ 0 ≤ p2 - z + 16 ∧ 0 ≤ 0 - p1 + z ∧ 0 ≤ p1 - z + 1)) rv hp' ∧ ∀ z : Int, rv = some (yI z) → 0 ≤ z → z ≤ 16 → (mLd hp' (ys hp 2073 11) (p2 : Int).toNat (z : Int).toNat))) 36 0 [(0, yR 2073), (1, yI (p1)), (2, yI (p2))] [] hp
  obtain ⟨gg0, E_0⟩ : ∃ z : Int, ys hp 2073 11 = z := ⟨_, rfl⟩
  obtain ⟨-, -, g_0l, g_0u⟩ := (w_M_p W H_2073).long hT
  refine yG.load xak rfl (fun _ _ => rfl) (v := yR 2073) rfl rfl ?_
  refine yG.load xik rfl (fun _ _ => rfl) (v := yI (p1)) rfl rfl ?_
  refine yG.load xik rfl (fun _ _ => rfl) (v := yI (p2)) rfl rfl ?_
  refine yG.invV (rest := []) A_hp.1 (bOb (d_M W) H_2073) rfl rfl rfl rfl (c_GModel_isNew_s W d A_hp.1 H_2073 (p1) (p2) (by omega) (by omega) (by omega) (by omega) (by omega) (by omega) g90 g91 g92) (fun rv h1 q9 => ?_)
  obtain ⟨q9, T2_z2⟩ := q9
  obtain ⟨⟨z2, rfl, l_z2, u_z2, R_z2⟩, B_h1⟩ := q9
  have R2_z2 := T2_z2 z2 rfl l_z2 u_z2
  have A_h1 := A_hp.tr B_h1 (by decide)
  have : ys h1 2073 11 = ys hp 2073 11 := B_h1.ys H_2073 (by decide)
  show yG _ _ _ _ _ _ _ _ _ _ (yI z2 :: []) _
  refine yG.ifz rfl (t := 15) rfl ⟨by omega, by omega⟩ (fun c3 => ?_) (fun c3 => ?_)
  · have c3 : (z2 : Int) = 0 := c3
    clear R_z2
    refine yG.load xik rfl (fun _ _ => rfl) (v := yI (p1)) rfl rfl ?_
    refine yG.ret rfl (fun _ _ => rfl) ?_
    exact (yP.int ⟨by omega, by omega⟩ ⟨⟨⟨p1, rfl, by omega, by omega, by omega⟩, A_h1⟩, (fun z e9 l9 u9 => by have e8 := yIinj e9 (by omega) (by omega) (by omega) (by omega); subst e8; exact R2_z2.1)⟩)
  · have c3 : (z2 : Int) ≠ 0 := c3
    replace R_z2 := R_z2 (by omega)
    refine yG.load xik rfl (fun _ _ => rfl) (v := yI (p1)) rfl rfl ?_
    refine yG.num (c := 1) rfl (fun _ _ => rfl) (by decide) ?_
    refine yG.iadd rfl ?_
    refine yG.goto rfl (t := 16) rfl ?_
    refine yG.ret rfl (fun _ _ => rfl) ?_
    exact (yP.int ⟨by omega, by omega⟩ ⟨⟨⟨p1 + 1, rfl, by omega, by omega, by omega⟩, A_h1⟩, (fun z e9 l9 u9 => by have e8 := yIinj e9 (by omega) (by omega) (by omega) (by omega); subst e8; exact (by rw [show (p1 + 1 : Int).toNat = (p1 : Int).toNat + 1 by omega]; exact R2_z2.2 (by omega)))⟩)
theorem c_GModel_islandOfMeter_s {hp : xH} (W : mW G) (d : Nat) (hT : zTy G hp) (M_bMm : bMm G hp) (H_2073 : bRo G 116 2073) (p1 : Int) (h1l : 0 ≤ p1) (h1u : p1 ≤ 31) : yC (xcall 89 xfts xpools xms (d + 4)) 438 [yR 2073, yI (p1)] hp (bQpi hp 0 15 (fun z => z = gIm hp (p1 : Int).toNat)) := by
  have A_hp : bAx G [] hp hp := bAx.rf hT
  refine yC.of (M := (xt_X13_islandOfMeter, (2, (1, (14, []))))) rfl rfl (N := 45) (yfuel (by decide)) ?_
  show yG 89 xfts (xcall 89 xfts xpools xms (d + 3)) (xpool xp_RX13) [] xt_X13_islandOfMeter (yP 1 (bQpi hp 0 15 (fun z => z = gIm hp (p1 : Int).toNat))) 45 0 [(0, yR 2073), (1, yI (p1))] [] hp
  refine yG.load xak rfl (fun _ _ => rfl) (v := yR 2073) rfl rfl ?_
  refine yG.getO A_hp.1 (w_M_meterKind W H_2073) rfl rfl (fun r1 H_r1 O_r1 q_r1 => ?_)
  obtain rfl := u_M_meterKind W H_r1
  refine yG.load xik rfl (fun _ _ => rfl) (v := yI (p1)) rfl rfl ?_
  refine yG.iald A_hp.1 (v_M_meterKind W H_r1) rfl (by omega) (by omega) (fun z2 e_z2 i_z2 l_z2 u_z2 => ?_)
  refine yG.ifz rfl (t := 22) rfl ⟨by omega, by omega⟩ (fun c3 => ?_) (fun c3 => ?_)
  · have c3 : (z2 : Int) ≠ 0 := c3
    refine yG.load xak rfl (fun _ _ => rfl) (v := yR 2073) rfl rfl ?_
    refine yG.getO A_hp.1 (w_M_island W H_2073) rfl rfl (fun r4 H_r4 O_r4 q_r4 => ?_)
    obtain rfl := u_M_island W H_r4
    refine yG.load xak rfl (fun _ _ => rfl) (v := yR 2073) rfl rfl ?_
    refine yG.getO A_hp.1 (w_M_meterAt W H_2073) rfl rfl (fun r5 H_r5 O_r5 q_r5 => ?_)
    obtain rfl := u_M_meterAt W H_r5
    refine yG.load xik rfl (fun _ _ => rfl) (v := yI (p1)) rfl rfl ?_
    refine yG.iald A_hp.1 (v_M_meterAt W H_r5) rfl (by omega) (by omega) (fun z6 e_z6 i_z6 l_z6 u_z6 => ?_)
    have w_z6 := M_bMm 2115 2116 H_r1 H_r5 (p1 : Int).toNat (by omega)
    refine yG.ialdF A_hp.1 (v_M_island W H_r4) rfl rfl (by omega) (by omega) (fun z7 e_z7 i_z7 l_z7 u_z7 => ?_)
    refine yG.ret rfl (fun _ _ => rfl) ?_
    exact (yP.int ⟨by omega, by omega⟩ ⟨⟨z7, rfl, by omega, by omega, (by unfold gIm gIl; rw [if_neg (show ys hp 2115 (p1 : Int).toNat ≠ 0 by omega), ← e_z6]; exact e_z7)⟩, rfl⟩)
  · have c3 : (z2 : Int) = 0 := c3
    refine yG.load xak rfl (fun _ _ => rfl) (v := yR 2073) rfl rfl ?_
    refine yG.load xak rfl (fun _ _ => rfl) (v := yR 2073) rfl rfl ?_
    refine yG.getO A_hp.1 (w_M_meterAt W H_2073) rfl rfl (fun r8 H_r8 O_r8 q_r8 => ?_)
    obtain rfl := u_M_meterAt W H_r8
    refine yG.load xik rfl (fun _ _ => rfl) (v := yI (p1)) rfl rfl ?_
    refine yG.iald A_hp.1 (v_M_meterAt W H_r8) rfl (by omega) (by omega) (fun z9 e_z9 i_z9 l_z9 u_z9 => ?_)
    have w_z9 := M_bMm 2115 2116 H_r1 H_r8 (p1 : Int).toNat (by omega)
    refine yG.invV (rest := []) A_hp.1 (bOb (d_M W) H_2073) rfl rfl rfl rfl (c_GModel_islandOfLine_s W d A_hp.1 H_2073 (z9) (by omega) (by omega)) (fun rv hp9 q9 => ?_)
    obtain ⟨⟨z10, rfl, l_z10, u_z10, R_z10⟩, e9⟩ := q9
    rw [e9]
    show yG _ _ _ _ _ _ _ _ _ _ (yI z10 :: []) _
    refine yG.goto rfl (t := 33) rfl ?_
    refine yG.ret rfl (fun _ _ => rfl) ?_
    exact (yP.int ⟨by omega, by omega⟩ ⟨⟨z10, rfl, by omega, by omega, (by unfold gIm; rw [if_pos (show ys hp 2115 (p1 : Int).toNat = 0 by omega), ← e_z9]; exact R_z10)⟩, rfl⟩)
theorem c_GModel_counts_s {hp : xH} (W : mW G) (d : Nat) (hT : zTy G hp) (M_bMm : bMm G hp) (H_2073 : bRo G 116 2073) (p1 p2 : Int) (h1l : 0 ≤ p1) (h1u : p1 ≤ 31) (h2l : 0 ≤ p2) (h2u : p2 ≤ 15) : yC (xcall 89 xfts xpools xms (d + 5)) 380 [yR 2073, yI (p1), yI (p2)] hp (bQpi hp 0 1 (fun z => (z = 1 → gIm hp (p1 : Int).toNat = p2))) := by
  have A_hp : bAx G [] hp hp := bAx.rf hT
  refine yC.of (M := (xt_X13_counts, (3, (4, (14, []))))) rfl rfl (N := 45) (yfuel (by decide)) ?_
  show yG 89 xfts (xcall 89 xfts xpools xms (d + 4)) (xpool xp_RX13) [] xt_X13_counts (yP 4 (bQpi hp 0 1 (fun z => (z = 1 → gIm hp (p1 : Int).toNat = p2)))) 45 0 [(0, yR 2073), (1, yI (p1)), (2, yI (p2))] [] hp
  refine yG.load xak rfl (fun _ _ => rfl) (v := yR 2073) rfl rfl ?_
  refine yG.load xik rfl (fun _ _ => rfl) (v := yI (p1)) rfl rfl ?_
  refine yG.invV (rest := []) A_hp.1 (bOb (d_M W) H_2073) rfl rfl rfl rfl (c_GModel_islandOfMeter_s W d A_hp.1 M_bMm H_2073 (p1) (by omega) (by omega)) (fun rv hp9 q9 => ?_)
  obtain ⟨⟨z1, rfl, l_z1, u_z1, R_z1⟩, e9⟩ := q9
  rw [e9]
  show yG _ _ _ _ _ _ _ _ _ _ (yI z1 :: []) _
  refine yG.load xik rfl (fun _ _ => rfl) (v := yI (p2)) rfl rfl ?_
  refine yG.icmp rfl (t := 22) rfl ⟨by omega, by omega⟩ ⟨by omega, by omega⟩ (fun c2 => ?_) (fun c2 => ?_)
  · have c2 : (z1 : Int) ≠ p2 := c2
    refine yG.num (c := 0) rfl (fun _ _ => rfl) (by decide) ?_
    refine yG.ret rfl (fun _ _ => rfl) ?_
    exact (yP.bool (by omega) ⟨⟨0, rfl, by omega, by omega, (fun e => by rw [← R_z1]; omega)⟩, rfl⟩)
  · have c2 : (z1 : Int) = p2 := c2
    refine yG.load xak rfl (fun _ _ => rfl) (v := yR 2073) rfl rfl ?_
    refine yG.getO A_hp.1 (w_M_isStruck W H_2073) rfl rfl (fun r3 H_r3 O_r3 q_r3 => ?_)
    obtain rfl := u_M_isStruck W H_r3
    refine yG.load xik rfl (fun _ _ => rfl) (v := yI (p1)) rfl rfl ?_
    refine yG.bald A_hp.1 (v_M_isStruck W H_r3) rfl (by omega) (by omega) (fun z4 e_z4 i_z4 l_z4 u_z4 => ?_)
    refine yG.ifz rfl (t := 22) rfl ⟨by omega, by omega⟩ (fun c5 => ?_) (fun c5 => ?_)
    · have c5 : (z4 : Int) ≠ 0 := c5
      refine yG.num (c := 0) rfl (fun _ _ => rfl) (by decide) ?_
      refine yG.ret rfl (fun _ _ => rfl) ?_
      exact (yP.bool (by omega) ⟨⟨0, rfl, by omega, by omega, (fun e => by rw [← R_z1]; omega)⟩, rfl⟩)
    · have c5 : (z4 : Int) = 0 := c5
      refine yG.num (c := 1) rfl (fun _ _ => rfl) (by decide) ?_
      refine yG.goto rfl (t := 23) rfl ?_
      refine yG.ret rfl (fun _ _ => rfl) ?_
      exact (yP.bool (by omega) ⟨⟨1, rfl, by omega, by omega, (fun e => by rw [← R_z1]; omega)⟩, rfl⟩)
theorem c_GModel_addShown_s {hp : xH} (W : mW G) (d : Nat) (hT : zTy G hp) (H_2073 : bRo G 116 2073) (p1 p2 p3 : Int) (h1l : 0 ≤ p1) (h1u : p1 ≤ 31) (h2l : 0 ≤ p2) (h2u : p2 ≤ 15) (h3l : (-2147483647) ≤ p3) (h3u : p3 ≤ 2147483647) (q0l : 1 ≤ ys hp 2073 11) (q0u : ys hp 2073 11 ≤ 2147483647) : yC (xcall 89 xfts xpools xms (d + 2)) 346 [yR 2073, yI (p1), yI (p2), yJ (p3)] hp (fun rv hp' => (rv = none ∧ gAs hp hp' (ys hp 2073 11)) ∧ bAx G [(46768052394588893382517914646921056628989841375232, 256)] hp hp') := by
  have A_hp : bAx G [(46768052394588893382517914646921056628989841375232, 256)] hp hp := bAx.rf hT
  refine yC.of (M := (xt_X13_addShown, (6, (0, (14, []))))) rfl rfl (N := 90) (yfuel (by decide)) ?_
  show yG 89 xfts (xcall 89 xfts xpools xms (d + 1)) (xpool xp_RX13) [] xt_X13_addShown (yP 0 (fun rv hp' => (rv = none ∧ gAs hp hp' (ys hp 2073 11)) ∧ bAx G [(46768052394588893382517914646921056628989841375232, 256)] hp hp')) 90 0 [(0, yR 2073), (1, yI (p1)), (2, yI (p2)), (3, yJ (p3))] [] hp
  obtain ⟨gg0, E_0⟩ : ∃ z : Int, ys hp 2073 11 = z := ⟨_, rfl⟩
  obtain ⟨-, -, g_0l, g_0u⟩ := (w_M_p W H_2073).long hT
  refine yG.load xak rfl (fun _ _ => rfl) (v := yR 2073) rfl rfl ?_
  refine yG.getO A_hp.1 (w_M_placeOf W H_2073) rfl rfl (fun r1 H_r1 O_r1 q_r1 => ?_)
  obtain rfl := u_M_placeOf W H_r1
  refine yG.load xik rfl (fun _ _ => rfl) (v := yI (p2)) rfl rfl ?_
  refine yG.iald A_hp.1 (v_M_placeOf W H_r1) rfl (by omega) (by omega) (fun z2 e_z2 i_z2 l_z2 u_z2 => ?_)
  refine yG.store1 xik (L' := [(5, yI (z2)), (0, yR 2073), (1, yI (p1)), (2, yI (p2)), (3, yJ (p3))]) rfl (fun _ _ => rfl) rfl rfl ?_
  refine yG.load xik rfl (fun _ _ => rfl) (v := yI (z2)) rfl rfl ?_
  refine yG.ifz rfl (t := 43) rfl ⟨by omega, by omega⟩ (fun c3 => ?_) (fun c3 => ?_)
  · have c3 : (z2 : Int) < 0 := c3
    refine yG.ret rfl (fun _ _ => rfl) ?_
    exact (yP.void ⟨⟨rfl, gAs.rf⟩, A_hp⟩)
  · have c3 : (z2 : Int) ≥ 0 := c3
    refine yG.load xak rfl (fun _ _ => rfl) (v := yR 2073) rfl rfl ?_
    refine yG.getO A_hp.1 (w_M_shows W H_2073) rfl rfl (fun r4 H_r4 O_r4 q_r4 => ?_)
    obtain rfl := u_M_shows W H_r4
    refine yG.num (c := 16) rfl (fun _ _ => rfl) (by decide) ?_
    refine yG.load xik rfl (fun _ _ => rfl) (v := yI (p1)) rfl rfl ?_
    refine yG.imul rfl ?_
    refine yG.load xik rfl (fun _ _ => rfl) (v := yI (z2)) rfl rfl ?_
    refine yG.iadd rfl ?_
    refine yG.load xak rfl (fun _ _ => rfl) (v := yR 2073) rfl rfl ?_
    refine yG.load xak rfl (fun _ _ => rfl) (v := yR 2073) rfl rfl ?_
    refine yG.getS9 A_hp.1 (w_M_shows W H_2073) q_r4 rfl rfl ?_
    refine yG.num (c := 16) rfl (fun _ _ => rfl) (by decide) ?_
    refine yG.load xik rfl (fun _ _ => rfl) (v := yI (p1)) rfl rfl ?_
    refine yG.imul rfl ?_
    refine yG.load xik rfl (fun _ _ => rfl) (v := yI (z2)) rfl rfl ?_
    refine yG.iadd rfl ?_
    refine yG.lald A_hp.1 (v_M_shows W H_r4) rfl (by omega) (by omega) (fun z5 e_z5 i_z5 l_z5 u_z5 => ?_)
    refine yG.load xlk2 rfl (fun _ _ => rfl) (v := yJ (p3)) rfl rfl ?_
    refine yG.ladd rfl ?_
    refine yG.invV (rest := [yI ((16 * p1) + z2), yR 2122]) A_hp.1 (bOb (d_M W) H_2073) rfl rfl rfl rfl (c_GModel_mod_s W d A_hp.1 H_2073 (z5 + p3) (by omega) (by omega) (by omega) (by omega)) (fun rv hp9 q9 => ?_)
    obtain ⟨⟨z6, rfl, l_z6, u_z6, R_z6⟩, e9⟩ := q9
    rw [e9]
    show yG _ _ _ _ _ _ _ _ _ _ (yJ z6 :: [yI ((16 * p1) + z2), yR 2122]) _
    refine yG.last A_hp.1 (v_M_shows W H_r4) (W.2.1 _ _ H_r4 (by decide) (by decide)) rfl (by omega) (by omega) ⟨by omega, by omega⟩ (by omega) (by omega) (fun h7 T_h7 b_h7 f_h7 y_h7 => ?_)
    have A_h7 := A_hp.put T_h7 b_h7 f_h7 H_r4 (bAll_ok (by decide) _)
    have : ys h7 2073 11 = ys hp 2073 11 := (y_h7 2073 11).trans (if_neg (fun e => (bRo.ne H_2073 H_r4 (by decide)) e.1))
    have qq1 : zsl h7 2073 65 = yR 2122 := ((f_h7 2073 65).trans (if_neg (fun e => (bRo.ne H_2073 H_r4 (by decide)) e.1))).trans q_r4
    refine yG.ret rfl (fun _ _ => rfl) ?_
    exact (yP.void ⟨⟨rfl, (gAs.put y_h7 (by omega) (by omega))⟩, A_h7⟩)
theorem c_GModel_showAll_s {hp : xH} (W : mW G) (d : Nat) (hT : zTy G hp) (M_bMm : bMm G hp) (H_2073 : bRo G 116 2073) (p1 : Int) (h1l : 0 ≤ p1) (h1u : p1 ≤ 15) (q0l : 1 ≤ ys hp 2073 11) (q0u : ys hp 2073 11 ≤ 2147483647) : yC (xcall 89 xfts xpools xms (d + 5)) 514 [yR 2073, yI (p1)] hp (fun rv hp' => (rv = none ∧ gSh hp hp' (ys hp 2073 11) p1 (ys hp 2073 56)) ∧ bAx G [(140304157183766680147553743940763169886969524125696, 256)] hp hp') := by
  have A_hp : bAx G [(140304157183766680147553743940763169886969524125696, 256)] hp hp := bAx.rf hT
  have H : ∀ m : Nat, (∀ a2 : Int, ∀ gg0 : Int, ∀ hq, bAx G [(140304157183766680147553743940763169886969524125696, 256)] hp hq → ys hq 2073 11 = gg0 → 0 ≤ a2 → (-20) ≤ 0 - a2 → 1 ≤ gg0 → (-2147483647) ≤ 0 - gg0 → 0 ≤ p1 → (-15) ≤ 0 - p1 → 0 - 83062 * a2 + 1744301 < (m : Int) → yG 89 xfts (xcall 89 xfts xpools xms (d + 4)) (xpool xp_RX13) [] xt_X13_showAll (yP 0 (fun rv hp' => (rv = none ∧ gSh hp hp' (ys hp 2073 11) p1 (ys hp 2073 56)) ∧ bAx G [(140304157183766680147553743940763169886969524125696, 256)] hp hp')) (58 * m) 2 [(0, yR 2073), (1, yI (p1)), (2, yI (a2))] [] hq) ∧ (∀ a2 : Int, ∀ gg0 : Int, ∀ hq, bAx G [(140304157183766680147553743940763169886969524125696, 256)] hp hq → ys hq 2073 11 = gg0 → 0 ≤ a2 → (-32) ≤ 0 - a2 → 1 ≤ gg0 → (-2147483647) ≤ 0 - gg0 → 0 ≤ p1 → (-15) ≤ 0 - p1 → gSh hp hq (ys hp 2073 11) p1 a2 → 0 - 2517 * a2 + 83060 < (m : Int) → yG 89 xfts (xcall 89 xfts xpools xms (d + 4)) (xpool xp_RX13) [] xt_X13_showAll (yP 0 (fun rv hp' => (rv = none ∧ gSh hp hp' (ys hp 2073 11) p1 (ys hp 2073 56)) ∧ bAx G [(140304157183766680147553743940763169886969524125696, 256)] hp hp')) (58 * m) 38 [(0, yR 2073), (1, yI (p1)), (2, yI (a2))] [] hq) ∧ (∀ a2 : Int, ∀ a3 : Int, ∀ gg0 : Int, ∀ hq, bAx G [(140304157183766680147553743940763169886969524125696, 256)] hp hq → ys hq 2073 11 = gg0 → 0 ≤ a2 → (-31) ≤ 0 - a2 → 0 ≤ a3 → (-16) ≤ 0 - a3 → 1 ≤ gg0 → (-2147483647) ≤ 0 - gg0 → 0 ≤ p1 → (-15) ≤ 0 - p1 → (gSh hp hq (ys hp 2073 11) p1 a2 ∧ gSk hq (ys hp 2073 11) a3 (a2 : Int).toNat) → 0 - 2517 * a2 - 148 * a3 + 83059 < (m : Int) → yG 89 xfts (xcall 89 xfts xpools xms (d + 4)) (xpool xp_RX13) [] xt_X13_showAll (yP 0 (fun rv hp' => (rv = none ∧ gSh hp hp' (ys hp 2073 11) p1 (ys hp 2073 56)) ∧ bAx G [(140304157183766680147553743940763169886969524125696, 256)] hp hp')) (58 * m) 60 [(0, yR 2073), (1, yI (p1)), (2, yI (a2)), (3, yI (a3))] [] hq) ∧ (∀ a2 : Int, ∀ a3 : Int, ∀ gg0 : Int, ∀ hq, bAx G [(140304157183766680147553743940763169886969524125696, 256)] hp hq → ys hq 2073 11 = gg0 → 0 ≤ a2 → (-31) ≤ 0 - a2 → 0 ≤ a3 → (-20) ≤ 0 - a3 → 1 ≤ gg0 → (-2147483647) ≤ 0 - gg0 → 0 ≤ p1 → (-15) ≤ 0 - p1 → (gSh hp hq (ys hp 2073 11) p1 a2 ∧ gSk hq (ys hp 2073 11) 16 (a2 : Int).toNat) → 0 - 2517 * a2 - 7 * a3 + 80690 < (m : Int) → yG 89 xfts (xcall 89 xfts xpools xms (d + 4)) (xpool xp_RX13) [] xt_X13_showAll (yP 0 (fun rv hp' => (rv = none ∧ gSh hp hp' (ys hp 2073 11) p1 (ys hp 2073 56)) ∧ bAx G [(140304157183766680147553743940763169886969524125696, 256)] hp hp')) (58 * m) 113 [(0, yR 2073), (1, yI (p1)), (2, yI (a2)), (3, yI (a3))] [] hq) ∧ (∀ a2 : Int, ∀ a3 : Int, ∀ a4 : Int, ∀ a5 : Int, ∀ gg0 : Int, ∀ hq, bAx G [(140304157183766680147553743940763169886969524125696, 256)] hp hq → ys hq 2073 11 = gg0 → 0 ≤ a2 → (-31) ≤ 0 - a2 → 0 ≤ a3 → (-19) ≤ 0 - a3 → 0 ≤ a4 → (-1) ≤ 0 - a4 → 0 ≤ a5 → (-2) ≤ 0 - a5 → 1 ≤ gg0 → (-2147483647) ≤ 0 - gg0 → 0 ≤ p1 → (-15) ≤ 0 - p1 → (-1) ≤ a4 - a5 → (gSh hp hq (ys hp 2073 11) p1 a2 ∧ gSk hq (ys hp 2073 11) 16 (a2 : Int).toNat) → 0 - 2517 * a2 - 7 * a3 - 2 * a5 + 80689 < (m : Int) → yG 89 xfts (xcall 89 xfts xpools xms (d + 4)) (xpool xp_RX13) [] xt_X13_showAll (yP 0 (fun rv hp' => (rv = none ∧ gSh hp hp' (ys hp 2073 11) p1 (ys hp 2073 56)) ∧ bAx G [(140304157183766680147553743940763169886969524125696, 256)] hp hp')) (58 * m) 160 [(0, yR 2073), (1, yI (p1)), (2, yI (a2)), (3, yI (a3)), (4, yI (a4)), (5, yI (a5))] [] hq) := by
    intro m
    induction m with
    | zero =>
      refine ⟨?_, ?_, ?_, ?_, ?_⟩ <;> (intros; exfalso; omega)
    | succ m ih =>
      obtain ⟨i_2, i_38, i_60, i_113, i_160⟩ := ih
      refine ⟨?_, ?_, ?_, ?_, ?_⟩
      · intro a2 gg0 hq A_hq E_0 f0 f1 f2 f3 f4 f5 hm
        refine yG.mono (N := 58 * m + 58) ?_ (by omega)
        obtain ⟨-, -, g_0l, g_0u⟩ := (w_M_p W H_2073).long A_hq.1
        refine yG.load xik rfl (fun _ _ => rfl) (v := yI (a2)) rfl rfl ?_
        refine yG.load xak rfl (fun _ _ => rfl) (v := yR 2073) rfl rfl ?_
        refine yG.getO A_hq.1 (w_M_count W H_2073) rfl rfl (fun r1 H_r1 O_r1 q_r1 => ?_)
        obtain rfl := u_M_count W H_r1
        refine yG.num (c := 2) rfl (fun _ _ => rfl) (by decide) ?_
        refine yG.ialdF A_hq.1 (v_M_count W H_r1) rfl rfl (by omega) (by omega) (fun z2 e_z2 i_z2 l_z2 u_z2 => ?_)
        refine yG.icmp rfl (t := 36) rfl ⟨by omega, by omega⟩ ⟨by omega, by omega⟩ (fun c3 => ?_) (fun c3 => ?_)
        · have c3 : (a2 : Int) ≥ z2 := c3
          refine yG.num (c := 0) rfl (fun _ _ => rfl) (by decide) ?_
          refine yG.store1 xik (L' := [(2, yI (0)), (0, yR 2073), (1, yI (p1))]) rfl (fun _ _ => rfl) rfl rfl ?_
          exact yG.mono (yG.sub (i_38 (0) (ys hq 2073 11) hq A_hq  rfl (by omega) (by omega) (by omega) (by omega) (by omega) (by omega) gSh.start (by omega)) (ySub.cons rfl (ySub.cons rfl (ySub.cons rfl (ySub.nil))))) (by omega)
        · have c3 : (a2 : Int) < z2 := c3
          refine yG.load xak rfl (fun _ _ => rfl) (v := yR 2073) rfl rfl ?_
          refine yG.getO A_hq.1 (w_M_conductance W H_2073) rfl rfl (fun r4 H_r4 O_r4 q_r4 => ?_)
          obtain rfl := u_M_conductance W H_r4
          refine yG.load xik rfl (fun _ _ => rfl) (v := yI (a2)) rfl rfl ?_
          refine yG.load xak rfl (fun _ _ => rfl) (v := yR 2073) rfl rfl ?_
          refine yG.load xak rfl (fun _ _ => rfl) (v := yR 2073) rfl rfl ?_
          refine yG.num (c := 2) rfl (fun _ _ => rfl) (by decide) ?_
          refine yG.load xik rfl (fun _ _ => rfl) (v := yI (a2)) rfl rfl ?_
          refine yG.num (c := 1) rfl (fun _ _ => rfl) (by decide) ?_
          refine yG.invV (rest := [yR 2073, yI (a2), yR 2123]) A_hq.1 (bOb (d_M W) H_2073) rfl rfl rfl rfl (c_GModel_of_v2_1 W (d + 2) A_hq.1 H_2073 (a2) (by omega) (by omega)) (fun rv hp9 q9 => ?_)
          obtain ⟨⟨z5, rfl, l_z5, u_z5, R_z5⟩, e9⟩ := q9
          rw [e9]
          show yG _ _ _ _ _ _ _ _ _ _ (yI z5 :: [yR 2073, yI (a2), yR 2123]) _
          refine yG.i2l rfl ⟨by omega, by omega⟩ ?_
          refine yG.invV (rest := [yI (a2), yR 2123]) A_hq.1 (bOb (d_M W) H_2073) rfl rfl rfl rfl (c_GModel_inverse__s W (d + 2) A_hq.1 H_2073 (z5) (by omega) (by omega) (by omega) (by omega)) (fun rv hp9 q9 => ?_)
          obtain ⟨⟨z6, rfl, l_z6, u_z6, R_z6⟩, e9⟩ := q9
          rw [e9]
          show yG _ _ _ _ _ _ _ _ _ _ (yJ z6 :: [yI (a2), yR 2123]) _
          refine yG.last A_hq.1 (v_M_conductance W H_r4) (W.2.1 _ _ H_r4 (by decide) (by decide)) rfl (by omega) (by omega) ⟨by omega, by omega⟩ (by omega) (by omega) (fun h7 T_h7 b_h7 f_h7 y_h7 => ?_)
          have A_h7 := A_hq.put T_h7 b_h7 f_h7 H_r4 (bAll_ok (by decide) _)
          have : ys h7 2073 11 = ys hq 2073 11 := (y_h7 2073 11).trans (if_neg (fun e => (bRo.ne H_2073 H_r4 (by decide)) e.1))
          refine yG.iinc rfl (a := a2) rfl (L' := [(2, yI (a2 + 1)), (0, yR 2073), (1, yI (p1))]) rfl ?_
          refine yG.goto rfl (t := 2) rfl ?_
          exact yG.mono (yG.sub (i_2 (a2 + 1) (ys h7 2073 11) h7 A_h7  rfl (by omega) (by omega) (by omega) (by omega) (by omega) (by omega) (by omega)) (ySub.cons rfl (ySub.cons rfl (ySub.cons rfl (ySub.nil))))) (by omega)
      · intro a2 gg0 hq A_hq E_0 f0 f1 f2 f3 f4 f5 X_38 hm
        refine yG.mono (N := 58 * m + 58) ?_ (by omega)
        obtain ⟨-, -, g_0l, g_0u⟩ := (w_M_p W H_2073).long A_hq.1
        have pq : ys hq 2073 11 = ys hp 2073 11 := A_hq.ys H_2073 (by decide)
        have kI : gIl hq = gIl hp := funext fun j => A_hq.ys (s_M_island W) (bNo_ok (by decide) j)
        have kF : ∀ j, ys hq 2089 j = ys hp 2089 j := fun j => A_hq.ys (s_M_field W) (bNo_ok (by decide) j)
        have kA : gA hq = gA hp := funext fun k => by unfold gA; rw [kF]
        have kK : ∀ j, ys hq 2115 j = ys hp 2115 j := fun j => A_hq.ys (s_M_meterKind W) (bNo_ok (by decide) j)
        have kT : ∀ j, ys hq 2116 j = ys hp 2116 j := fun j => A_hq.ys (s_M_meterAt W) (bNo_ok (by decide) j)
        have kM : gIm hq = gIm hp := funext fun m => by unfold gIm; rw [kK, kT, kI, kA]
        have km9 : ys hq 2073 56 = ys hp 2073 56 := A_hq.ys H_2073 (by decide)
        refine yG.load xik rfl (fun _ _ => rfl) (v := yI (a2)) rfl rfl ?_
        refine yG.load xak rfl (fun _ _ => rfl) (v := yR 2073) rfl rfl ?_
        refine yG.getI A_hq.1 (w_M_meters W H_2073) rfl rfl (fun z1 e_z1 i_z1 l_z1 u_z1 => ?_)
        refine yG.icmp rfl (t := 297) rfl ⟨by omega, by omega⟩ ⟨by omega, by omega⟩ (fun c2 => ?_) (fun c2 => ?_)
        · have c2 : (a2 : Int) ≥ z1 := c2
          refine yG.ret rfl (fun _ _ => rfl) ?_
          exact (yP.void ⟨⟨rfl, (fun m hm e k hk => X_38 m (by omega) e k hk)⟩, A_hq⟩)
        · have c2 : (a2 : Int) < z1 := c2
          refine yG.load xak rfl (fun _ _ => rfl) (v := yR 2073) rfl rfl ?_
          refine yG.load xik rfl (fun _ _ => rfl) (v := yI (a2)) rfl rfl ?_
          refine yG.invV (rest := []) A_hq.1 (bOb (d_M W) H_2073) rfl rfl rfl rfl (c_GModel_islandOfMeter_s W d A_hq.1 (M_bMm.fr A_hq (by decide)) H_2073 (a2) (by omega) (by omega)) (fun rv hp9 q9 => ?_)
          obtain ⟨⟨z3, rfl, l_z3, u_z3, R_z3⟩, e9⟩ := q9
          rw [e9]
          show yG _ _ _ _ _ _ _ _ _ _ (yI z3 :: []) _
          refine yG.load xik rfl (fun _ _ => rfl) (v := yI (p1)) rfl rfl ?_
          refine yG.icmp rfl (t := 58) rfl ⟨by omega, by omega⟩ ⟨by omega, by omega⟩ (fun c4 => ?_) (fun c4 => ?_)
          · have c4 : (z3 : Int) = p1 := c4
            refine yG.num (c := 0) rfl (fun _ _ => rfl) (by decide) ?_
            refine yG.store1 xik (L' := [(3, yI (0)), (0, yR 2073), (1, yI (p1)), (2, yI (a2))]) rfl (fun _ _ => rfl) rfl rfl ?_
            exact yG.mono (yG.sub (i_60 (a2) (0) (ys hq 2073 11) hq A_hq  rfl (by omega) (by omega) (by omega) (by omega) (by omega) (by omega) (by omega) (by omega) ⟨X_38, gSk.start⟩ (by omega)) (ySub.cons rfl (ySub.cons rfl (ySub.cons rfl (ySub.cons rfl (ySub.nil)))))) (by omega)
          · have c4 : (z3 : Int) ≠ p1 := c4
            refine yG.goto rfl (t := 291) rfl ?_
            refine yG.iinc rfl (a := a2) rfl (L' := [(2, yI (a2 + 1)), (0, yR 2073), (1, yI (p1))]) rfl ?_
            refine yG.goto rfl (t := 38) rfl ?_
            have ri9 := R_z3
            rw [kM] at ri9
            exact yG.mono (yG.sub (i_38 (a2 + 1) (ys hq 2073 11) hq A_hq  rfl (by omega) (by omega) (by omega) (by omega) (by omega) (by omega) (X_38.next (m := (a2 : Int).toNat) (by omega) (fun e => by exfalso; omega)) (by omega)) (ySub.cons rfl (ySub.cons rfl (ySub.cons rfl (ySub.nil))))) (by omega)
      · intro a2 a3 gg0 hq A_hq E_0 f0 f1 f2 f3 f4 f5 f6 f7 X_60 hm
        refine yG.mono (N := 58 * m + 58) ?_ (by omega)
        obtain ⟨-, -, g_0l, g_0u⟩ := (w_M_p W H_2073).long A_hq.1
        have pq : ys hq 2073 11 = ys hp 2073 11 := A_hq.ys H_2073 (by decide)
        have kI : gIl hq = gIl hp := funext fun j => A_hq.ys (s_M_island W) (bNo_ok (by decide) j)
        have kF : ∀ j, ys hq 2089 j = ys hp 2089 j := fun j => A_hq.ys (s_M_field W) (bNo_ok (by decide) j)
        have kA : gA hq = gA hp := funext fun k => by unfold gA; rw [kF]
        have kK : ∀ j, ys hq 2115 j = ys hp 2115 j := fun j => A_hq.ys (s_M_meterKind W) (bNo_ok (by decide) j)
        have kT : ∀ j, ys hq 2116 j = ys hp 2116 j := fun j => A_hq.ys (s_M_meterAt W) (bNo_ok (by decide) j)
        have kM : gIm hq = gIm hp := funext fun m => by unfold gIm; rw [kK, kT, kI, kA]
        have km9 : ys hq 2073 56 = ys hp 2073 56 := A_hq.ys H_2073 (by decide)
        refine yG.load xik rfl (fun _ _ => rfl) (v := yI (a3)) rfl rfl ?_
        refine yG.num (c := 16) rfl (fun _ _ => rfl) (by decide) ?_
        refine yG.icmp rfl (t := 84) rfl ⟨by omega, by omega⟩ ⟨by omega, by omega⟩ (fun c1 => ?_) (fun c1 => ?_)
        · have c1 : (a3 : Int) ≥ 16 := c1
          refine yG.load xak rfl (fun _ _ => rfl) (v := yR 2073) rfl rfl ?_
          refine yG.getO A_hq.1 (w_M_meterKind W H_2073) rfl rfl (fun r2 H_r2 O_r2 q_r2 => ?_)
          obtain rfl := u_M_meterKind W H_r2
          refine yG.load xik rfl (fun _ _ => rfl) (v := yI (a2)) rfl rfl ?_
          refine yG.iald A_hq.1 (v_M_meterKind W H_r2) rfl (by omega) (by omega) (fun z3 e_z3 i_z3 l_z3 u_z3 => ?_)
          refine yG.num (c := 2) rfl (fun _ _ => rfl) (by decide) ?_
          refine yG.icmp rfl (t := 111) rfl ⟨by omega, by omega⟩ ⟨by omega, by omega⟩ (fun c4 => ?_) (fun c4 => ?_)
          · have c4 : (z3 : Int) ≠ 2 := c4
            refine yG.num (c := 0) rfl (fun _ _ => rfl) (by decide) ?_
            refine yG.store1 xik (L' := [(3, yI (0)), (0, yR 2073), (1, yI (p1)), (2, yI (a2))]) rfl (fun _ _ => rfl) rfl rfl ?_
            exact yG.mono (yG.sub (i_113 (a2) (0) (ys hq 2073 11) hq A_hq  rfl (by omega) (by omega) (by omega) (by omega) (by omega) (by omega) (by omega) (by omega) ⟨X_60.1.mo gAs.rf, (X_60.2.up (by omega)).mo gAs.rf⟩ (by omega)) (ySub.cons rfl (ySub.cons rfl (ySub.cons rfl (ySub.cons rfl (ySub.nil)))))) (by omega)
          · have c4 : (z3 : Int) = 2 := c4
            refine yG.load xak rfl (fun _ _ => rfl) (v := yR 2073) rfl rfl ?_
            refine yG.load xik rfl (fun _ _ => rfl) (v := yI (a2)) rfl rfl ?_
            refine yG.load xak rfl (fun _ _ => rfl) (v := yR 2073) rfl rfl ?_
            refine yG.getO A_hq.1 (w_M_node W H_2073) rfl rfl (fun r5 H_r5 O_r5 q_r5 => ?_)
            obtain rfl := u_M_node W H_r5
            refine yG.load xak rfl (fun _ _ => rfl) (v := yR 2073) rfl rfl ?_
            refine yG.getO A_hq.1 (w_M_meterAt W H_2073) rfl rfl (fun r6 H_r6 O_r6 q_r6 => ?_)
            obtain rfl := u_M_meterAt W H_r6
            refine yG.load xik rfl (fun _ _ => rfl) (v := yI (a2)) rfl rfl ?_
            refine yG.iald A_hq.1 (v_M_meterAt W H_r6) rfl (by omega) (by omega) (fun z7 e_z7 i_z7 l_z7 u_z7 => ?_)
            have w_z7 := (M_bMm.fr A_hq (by decide)) 2115 2116 H_r2 H_r6 (a2 : Int).toNat (by omega)
            refine yG.ialdF A_hq.1 (v_M_node W H_r5) rfl rfl (by omega) (by omega) (fun z8 e_z8 i_z8 l_z8 u_z8 => ?_)
            refine yG.numl (c := 1) rfl (fun _ _ => rfl) (by decide) ?_
            refine yG.invV (rest := []) A_hq.1 (bOb (d_M W) H_2073) rfl rfl rfl rfl (c_GModel_addShown_s W (d + 2) A_hq.1 H_2073 (a2) (z8) (1) (by omega) (by omega) (by omega) (by omega) (by omega) (by omega) (by omega) (by omega)) (fun rv h9 q9 => ?_)
            obtain ⟨⟨rfl, R_z10⟩, B_h9⟩ := q9
            have A_h9 := A_hq.tr B_h9 (by decide)
            have : ys h9 2073 11 = ys hq 2073 11 := B_h9.ys H_2073 (by decide)
            have : ys h9 2115 (a2 : Int).toNat = ys hq 2115 (a2 : Int).toNat := B_h9.ys H_r2 (bNo_ok (by decide) _)
            show yG _ _ _ _ _ _ _ _ _ _ [] _
            refine yG.num (c := 0) rfl (fun _ _ => rfl) (by decide) ?_
            refine yG.store1 xik (L' := [(3, yI (0)), (0, yR 2073), (1, yI (p1)), (2, yI (a2))]) rfl (fun _ _ => rfl) rfl rfl ?_
            have ra_z10 := R_z10
            rw [show ys hq 2073 11 = ys hp 2073 11 from A_hq.ys H_2073 (by decide)] at ra_z10
            exact yG.mono (yG.sub (i_113 (a2) (0) (ys h9 2073 11) h9 A_h9  rfl (by omega) (by omega) (by omega) (by omega) (by omega) (by omega) (by omega) (by omega) ⟨X_60.1.mo ra_z10, (X_60.2.up (by omega)).mo ra_z10⟩ (by omega)) (ySub.cons rfl (ySub.cons rfl (ySub.cons rfl (ySub.cons rfl (ySub.nil)))))) (by omega)
        · have c1 : (a3 : Int) < 16 := c1
          refine yG.load xak rfl (fun _ _ => rfl) (v := yR 2073) rfl rfl ?_
          refine yG.getO A_hq.1 (w_M_shows W H_2073) rfl rfl (fun r11 H_r11 O_r11 q_r11 => ?_)
          obtain rfl := u_M_shows W H_r11
          refine yG.num (c := 16) rfl (fun _ _ => rfl) (by decide) ?_
          refine yG.load xik rfl (fun _ _ => rfl) (v := yI (a2)) rfl rfl ?_
          refine yG.imul rfl ?_
          refine yG.load xik rfl (fun _ _ => rfl) (v := yI (a3)) rfl rfl ?_
          refine yG.iadd rfl ?_
          refine yG.numl (c := 0) rfl (fun _ _ => rfl) (by decide) ?_
          refine yG.last A_hq.1 (v_M_shows W H_r11) (W.2.1 _ _ H_r11 (by decide) (by decide)) rfl (by omega) (by omega) ⟨by omega, by omega⟩ (by omega) (by omega) (fun h12 T_h12 b_h12 f_h12 y_h12 => ?_)
          have A_h12 := A_hq.put T_h12 b_h12 f_h12 H_r11 (bAll_ok (by decide) _)
          have : ys h12 2073 11 = ys hq 2073 11 := (y_h12 2073 11).trans (if_neg (fun e => (bRo.ne H_2073 H_r11 (by decide)) e.1))
          refine yG.iinc rfl (a := a3) rfl (L' := [(3, yI (a3 + 1)), (0, yR 2073), (1, yI (p1)), (2, yI (a2))]) rfl ?_
          refine yG.goto rfl (t := 60) rfl ?_
          exact yG.mono (yG.sub (i_60 (a2) (a3 + 1) (ys h12 2073 11) h12 A_h12  rfl (by omega) (by omega) (by omega) (by omega) (by omega) (by omega) (by omega) (by omega) ⟨X_60.1.mo (gAs.put y_h12 (by omega) (by omega)), X_60.2.put (k := (a3 : Int).toNat) (by omega) y_h12 (by omega) (by omega) (by omega)⟩ (by omega)) (ySub.cons rfl (ySub.cons rfl (ySub.cons rfl (ySub.cons rfl (ySub.nil)))))) (by omega)
      · intro a2 a3 gg0 hq A_hq E_0 f0 f1 f2 f3 f4 f5 f6 f7 X_113 hm
        refine yG.mono (N := 58 * m + 58) ?_ (by omega)
        obtain ⟨-, -, g_0l, g_0u⟩ := (w_M_p W H_2073).long A_hq.1
        have pq : ys hq 2073 11 = ys hp 2073 11 := A_hq.ys H_2073 (by decide)
        have kI : gIl hq = gIl hp := funext fun j => A_hq.ys (s_M_island W) (bNo_ok (by decide) j)
        have kF : ∀ j, ys hq 2089 j = ys hp 2089 j := fun j => A_hq.ys (s_M_field W) (bNo_ok (by decide) j)
        have kA : gA hq = gA hp := funext fun k => by unfold gA; rw [kF]
        have kK : ∀ j, ys hq 2115 j = ys hp 2115 j := fun j => A_hq.ys (s_M_meterKind W) (bNo_ok (by decide) j)
        have kT : ∀ j, ys hq 2116 j = ys hp 2116 j := fun j => A_hq.ys (s_M_meterAt W) (bNo_ok (by decide) j)
        have kM : gIm hq = gIm hp := funext fun m => by unfold gIm; rw [kK, kT, kI, kA]
        have km9 : ys hq 2073 56 = ys hp 2073 56 := A_hq.ys H_2073 (by decide)
        refine yG.load xik rfl (fun _ _ => rfl) (v := yI (a3)) rfl rfl ?_
        refine yG.load xak rfl (fun _ _ => rfl) (v := yR 2073) rfl rfl ?_
        refine yG.getO A_hq.1 (w_M_count W H_2073) rfl rfl (fun r1 H_r1 O_r1 q_r1 => ?_)
        obtain rfl := u_M_count W H_r1
        refine yG.num (c := 2) rfl (fun _ _ => rfl) (by decide) ?_
        refine yG.ialdF A_hq.1 (v_M_count W H_r1) rfl rfl (by omega) (by omega) (fun z2 e_z2 i_z2 l_z2 u_z2 => ?_)
        refine yG.icmp rfl (t := 291) rfl ⟨by omega, by omega⟩ ⟨by omega, by omega⟩ (fun c3 => ?_) (fun c3 => ?_)
        · have c3 : (a3 : Int) ≥ z2 := c3
          refine yG.iinc rfl (a := a2) rfl (L' := [(2, yI (a2 + 1)), (0, yR 2073), (1, yI (p1)), (3, yI (a3))]) rfl ?_
          refine yG.goto rfl (t := 38) rfl ?_
          exact yG.mono (yG.sub (i_38 (a2 + 1) (ys hq 2073 11) hq A_hq  rfl (by omega) (by omega) (by omega) (by omega) (by omega) (by omega) (X_113.1.next (m := (a2 : Int).toNat) (by omega) (fun _ => X_113.2)) (by omega)) (ySub.cons rfl (ySub.cons rfl (ySub.cons rfl (ySub.nil))))) (by omega)
        · have c3 : (a3 : Int) < z2 := c3
          refine yG.load xak rfl (fun _ _ => rfl) (v := yR 2073) rfl rfl ?_
          refine yG.getO A_hq.1 (w_M_meterKind W H_2073) rfl rfl (fun r4 H_r4 O_r4 q_r4 => ?_)
          obtain rfl := u_M_meterKind W H_r4
          refine yG.load xik rfl (fun _ _ => rfl) (v := yI (a2)) rfl rfl ?_
          refine yG.iald A_hq.1 (v_M_meterKind W H_r4) rfl (by omega) (by omega) (fun z5 e_z5 i_z5 l_z5 u_z5 => ?_)
          refine yG.num (c := 2) rfl (fun _ _ => rfl) (by decide) ?_
          refine yG.icmp rfl (t := 291) rfl ⟨by omega, by omega⟩ ⟨by omega, by omega⟩ (fun c6 => ?_) (fun c6 => ?_)
          · have c6 : (z5 : Int) ≥ 2 := c6
            refine yG.iinc rfl (a := a2) rfl (L' := [(2, yI (a2 + 1)), (0, yR 2073), (1, yI (p1)), (3, yI (a3))]) rfl ?_
            refine yG.goto rfl (t := 38) rfl ?_
            exact yG.mono (yG.sub (i_38 (a2 + 1) (ys hq 2073 11) hq A_hq  rfl (by omega) (by omega) (by omega) (by omega) (by omega) (by omega) (X_113.1.next (m := (a2 : Int).toNat) (by omega) (fun _ => X_113.2)) (by omega)) (ySub.cons rfl (ySub.cons rfl (ySub.cons rfl (ySub.nil))))) (by omega)
          · have c6 : (z5 : Int) < 2 := c6
            refine yG.load xak rfl (fun _ _ => rfl) (v := yR 2073) rfl rfl ?_
            refine yG.load xik rfl (fun _ _ => rfl) (v := yI (a3)) rfl rfl ?_
            refine yG.invV (rest := []) A_hq.1 (bOb (d_M W) H_2073) rfl rfl rfl rfl (c_GModel_isBetween_s W d A_hq.1 H_2073 (a3) (by omega) (by omega)) (fun rv hp9 q9 => ?_)
            obtain ⟨⟨z7, rfl, l_z7, u_z7, R_z7⟩, e9⟩ := q9
            rw [e9]
            show yG _ _ _ _ _ _ _ _ _ _ (yI z7 :: []) _
            refine yG.ifz rfl (t := 154) rfl ⟨by omega, by omega⟩ (fun c8 => ?_) (fun c8 => ?_)
            · have c8 : (z7 : Int) = 0 := c8
              refine yG.num (c := 0) rfl (fun _ _ => rfl) (by decide) ?_
              refine yG.store1 xik (L' := [(4, yI (0)), (0, yR 2073), (1, yI (p1)), (2, yI (a2)), (3, yI (a3))]) rfl (fun _ _ => rfl) rfl rfl ?_
              refine yG.num (c := 0) rfl (fun _ _ => rfl) (by decide) ?_
              refine yG.store1 xik (L' := [(5, yI (0)), (4, yI (0)), (0, yR 2073), (1, yI (p1)), (2, yI (a2)), (3, yI (a3))]) rfl (fun _ _ => rfl) rfl rfl ?_
              exact yG.mono (yG.sub (i_160 (a2) (a3) (0) (0) (ys hq 2073 11) hq A_hq  rfl (by omega) (by omega) (by omega) (by omega) (by omega) (by omega) (by omega) (by omega) (by omega) (by omega) (by omega) (by omega) (by omega) X_113 (by omega)) (ySub.cons rfl (ySub.cons rfl (ySub.cons rfl (ySub.cons rfl (ySub.cons rfl (ySub.cons rfl (ySub.nil)))))))) (by omega)
            · have c8 : (z7 : Int) ≠ 0 := c8
              refine yG.load xak rfl (fun _ _ => rfl) (v := yR 2073) rfl rfl ?_
              refine yG.load xik rfl (fun _ _ => rfl) (v := yI (a3)) rfl rfl ?_
              refine yG.invV (rest := []) A_hq.1 (bOb (d_M W) H_2073) rfl rfl rfl rfl (c_GModel_islandOfLine_s W (d + 1) A_hq.1 H_2073 (a3) (by omega) (by omega)) (fun rv hp9 q9 => ?_)
              obtain ⟨⟨z9, rfl, l_z9, u_z9, R_z9⟩, e9⟩ := q9
              rw [e9]
              show yG _ _ _ _ _ _ _ _ _ _ (yI z9 :: []) _
              refine yG.load xik rfl (fun _ _ => rfl) (v := yI (p1)) rfl rfl ?_
              refine yG.icmp rfl (t := 154) rfl ⟨by omega, by omega⟩ ⟨by omega, by omega⟩ (fun c10 => ?_) (fun c10 => ?_)
              · have c10 : (z9 : Int) ≠ p1 := c10
                refine yG.num (c := 0) rfl (fun _ _ => rfl) (by decide) ?_
                refine yG.store1 xik (L' := [(4, yI (0)), (0, yR 2073), (1, yI (p1)), (2, yI (a2)), (3, yI (a3))]) rfl (fun _ _ => rfl) rfl rfl ?_
                refine yG.num (c := 0) rfl (fun _ _ => rfl) (by decide) ?_
                refine yG.store1 xik (L' := [(5, yI (0)), (4, yI (0)), (0, yR 2073), (1, yI (p1)), (2, yI (a2)), (3, yI (a3))]) rfl (fun _ _ => rfl) rfl rfl ?_
                exact yG.mono (yG.sub (i_160 (a2) (a3) (0) (0) (ys hq 2073 11) hq A_hq  rfl (by omega) (by omega) (by omega) (by omega) (by omega) (by omega) (by omega) (by omega) (by omega) (by omega) (by omega) (by omega) (by omega) X_113 (by omega)) (ySub.cons rfl (ySub.cons rfl (ySub.cons rfl (ySub.cons rfl (ySub.cons rfl (ySub.cons rfl (ySub.nil)))))))) (by omega)
              · have c10 : (z9 : Int) = p1 := c10
                refine yG.num (c := 1) rfl (fun _ _ => rfl) (by decide) ?_
                refine yG.goto rfl (t := 155) rfl ?_
                refine yG.store1 xik (L' := [(4, yI (1)), (0, yR 2073), (1, yI (p1)), (2, yI (a2)), (3, yI (a3))]) rfl (fun _ _ => rfl) rfl rfl ?_
                refine yG.num (c := 0) rfl (fun _ _ => rfl) (by decide) ?_
                refine yG.store1 xik (L' := [(5, yI (0)), (4, yI (1)), (0, yR 2073), (1, yI (p1)), (2, yI (a2)), (3, yI (a3))]) rfl (fun _ _ => rfl) rfl rfl ?_
                exact yG.mono (yG.sub (i_160 (a2) (a3) (1) (0) (ys hq 2073 11) hq A_hq  rfl (by omega) (by omega) (by omega) (by omega) (by omega) (by omega) (by omega) (by omega) (by omega) (by omega) (by omega) (by omega) (by omega) X_113 (by omega)) (ySub.cons rfl (ySub.cons rfl (ySub.cons rfl (ySub.cons rfl (ySub.cons rfl (ySub.cons rfl (ySub.nil)))))))) (by omega)
      · intro a2 a3 a4 a5 gg0 hq A_hq E_0 f0 f1 f2 f3 f4 f5 f6 f7 f8 f9 f10 f11 f12 X_160 hm
        refine yG.mono (N := 58 * m + 58) ?_ (by omega)
        obtain ⟨-, -, g_0l, g_0u⟩ := (w_M_p W H_2073).long A_hq.1
        have pq : ys hq 2073 11 = ys hp 2073 11 := A_hq.ys H_2073 (by decide)
        have kI : gIl hq = gIl hp := funext fun j => A_hq.ys (s_M_island W) (bNo_ok (by decide) j)
        have kF : ∀ j, ys hq 2089 j = ys hp 2089 j := fun j => A_hq.ys (s_M_field W) (bNo_ok (by decide) j)
        have kA : gA hq = gA hp := funext fun k => by unfold gA; rw [kF]
        have kK : ∀ j, ys hq 2115 j = ys hp 2115 j := fun j => A_hq.ys (s_M_meterKind W) (bNo_ok (by decide) j)
        have kT : ∀ j, ys hq 2116 j = ys hp 2116 j := fun j => A_hq.ys (s_M_meterAt W) (bNo_ok (by decide) j)
        have kM : gIm hq = gIm hp := funext fun m => by unfold gIm; rw [kK, kT, kI, kA]
        have km9 : ys hq 2073 56 = ys hp 2073 56 := A_hq.ys H_2073 (by decide)
        refine yG.load xik rfl (fun _ _ => rfl) (v := yI (a5)) rfl rfl ?_
        refine yG.num (c := 2) rfl (fun _ _ => rfl) (by decide) ?_
        refine yG.icmp rfl (t := 285) rfl ⟨by omega, by omega⟩ ⟨by omega, by omega⟩ (fun c1 => ?_) (fun c1 => ?_)
        · have c1 : (a5 : Int) ≥ 2 := c1
          refine yG.iinc rfl (a := a3) rfl (L' := [(3, yI (a3 + 1)), (0, yR 2073), (1, yI (p1)), (2, yI (a2)), (4, yI (a4)), (5, yI (a5))]) rfl ?_
          refine yG.goto rfl (t := 113) rfl ?_
          exact yG.mono (yG.sub (i_113 (a2) (a3 + 1) (ys hq 2073 11) hq A_hq  rfl (by omega) (by omega) (by omega) (by omega) (by omega) (by omega) (by omega) (by omega) X_160 (by omega)) (ySub.cons rfl (ySub.cons rfl (ySub.cons rfl (ySub.cons rfl (ySub.nil)))))) (by omega)
        · have c1 : (a5 : Int) < 2 := c1
          refine yG.load xik rfl (fun _ _ => rfl) (v := yI (a4)) rfl rfl ?_
          refine yG.ifz rfl (t := 285) rfl ⟨by omega, by omega⟩ (fun c2 => ?_) (fun c2 => ?_)
          · have c2 : (a4 : Int) = 0 := c2
            refine yG.iinc rfl (a := a3) rfl (L' := [(3, yI (a3 + 1)), (0, yR 2073), (1, yI (p1)), (2, yI (a2)), (4, yI (a4)), (5, yI (a5))]) rfl ?_
            refine yG.goto rfl (t := 113) rfl ?_
            exact yG.mono (yG.sub (i_113 (a2) (a3 + 1) (ys hq 2073 11) hq A_hq  rfl (by omega) (by omega) (by omega) (by omega) (by omega) (by omega) (by omega) (by omega) X_160 (by omega)) (ySub.cons rfl (ySub.cons rfl (ySub.cons rfl (ySub.cons rfl (ySub.nil)))))) (by omega)
          · have c2 : (a4 : Int) ≠ 0 := c2
            refine yG.load xak rfl (fun _ _ => rfl) (v := yR 2073) rfl rfl ?_
            refine yG.getO A_hq.1 (w_M_meterKind W H_2073) rfl rfl (fun r3 H_r3 O_r3 q_r3 => ?_)
            obtain rfl := u_M_meterKind W H_r3
            refine yG.load xik rfl (fun _ _ => rfl) (v := yI (a2)) rfl rfl ?_
            refine yG.iald A_hq.1 (v_M_meterKind W H_r3) rfl (by omega) (by omega) (fun z4 e_z4 i_z4 l_z4 u_z4 => ?_)
            refine yG.ifz rfl (t := 203) rfl ⟨by omega, by omega⟩ (fun c5 => ?_) (fun c5 => ?_)
            · have c5 : (z4 : Int) ≠ 0 := c5
              refine yG.load xak rfl (fun _ _ => rfl) (v := yR 2073) rfl rfl ?_
              refine yG.load xik rfl (fun _ _ => rfl) (v := yI (a3)) rfl rfl ?_
              refine yG.load xik rfl (fun _ _ => rfl) (v := yI (a5)) rfl rfl ?_
              refine yG.invV (rest := []) A_hq.1 (bOb (d_M W) H_2073) rfl rfl rfl rfl (c_GModel_nodeOfLine W (d + 1) A_hq.1 H_2073 (a3) (a5) (by omega) (by omega) (by omega) (by omega)) (fun rv hp9 q9 => ?_)
              obtain ⟨⟨z6, rfl, l_z6, u_z6, R_z6⟩, e9⟩ := q9
              rw [e9]
              show yG _ _ _ _ _ _ _ _ _ _ (yI z6 :: []) _
              refine yG.load xak rfl (fun _ _ => rfl) (v := yR 2073) rfl rfl ?_
              refine yG.getO A_hq.1 (w_M_node W H_2073) rfl rfl (fun r7 H_r7 O_r7 q_r7 => ?_)
              obtain rfl := u_M_node W H_r7
              refine yG.load xak rfl (fun _ _ => rfl) (v := yR 2073) rfl rfl ?_
              refine yG.getO A_hq.1 (w_M_meterAt W H_2073) rfl rfl (fun r8 H_r8 O_r8 q_r8 => ?_)
              obtain rfl := u_M_meterAt W H_r8
              refine yG.load xik rfl (fun _ _ => rfl) (v := yI (a2)) rfl rfl ?_
              refine yG.iald A_hq.1 (v_M_meterAt W H_r8) rfl (by omega) (by omega) (fun z9 e_z9 i_z9 l_z9 u_z9 => ?_)
              have w_z9 := (M_bMm.fr A_hq (by decide)) 2115 2116 H_r3 H_r8 (a2 : Int).toNat (by omega)
              refine yG.ialdF A_hq.1 (v_M_node W H_r7) rfl rfl (by omega) (by omega) (fun z10 e_z10 i_z10 l_z10 u_z10 => ?_)
              refine yG.icmp rfl (t := 228) rfl ⟨by omega, by omega⟩ ⟨by omega, by omega⟩ (fun c11 => ?_) (fun c11 => ?_)
              · have c11 : (z6 : Int) ≠ z10 := c11
                refine yG.num (c := 0) rfl (fun _ _ => rfl) (by decide) ?_
                refine yG.store1 xik (L' := [(6, yI (0)), (0, yR 2073), (1, yI (p1)), (2, yI (a2)), (3, yI (a3)), (4, yI (a4)), (5, yI (a5))]) rfl (fun _ _ => rfl) rfl rfl ?_
                refine yG.load xik rfl (fun _ _ => rfl) (v := yI (0)) rfl rfl ?_
                refine yG.ifz rfl (t := 279) rfl ⟨by omega, by omega⟩ (fun c12 => ?_) (fun c12 => ?_)
                · have c12 : (0 : Int) = 0 := c12
                  refine yG.iinc rfl (a := a5) rfl (L' := [(5, yI (a5 + 1)), (6, yI (0)), (0, yR 2073), (1, yI (p1)), (2, yI (a2)), (3, yI (a3)), (4, yI (a4))]) rfl ?_
                  refine yG.goto rfl (t := 160) rfl ?_
                  exact yG.mono (yG.sub (i_160 (a2) (a3) (a4) (a5 + 1) (ys hq 2073 11) hq A_hq  rfl (by omega) (by omega) (by omega) (by omega) (by omega) (by omega) (by omega) (by omega) (by omega) (by omega) (by omega) (by omega) (by omega) ⟨X_160.1.mo gAs.rf, X_160.2.mo gAs.rf⟩ (by omega)) (ySub.cons rfl (ySub.cons rfl (ySub.cons rfl (ySub.cons rfl (ySub.cons rfl (ySub.cons rfl (ySub.nil)))))))) (by omega)
                · have c12 : (0 : Int) ≠ 0 := c12
                  exfalso; omega
              · have c11 : (z6 : Int) = z10 := c11
                refine yG.num (c := 1) rfl (fun _ _ => rfl) (by decide) ?_
                refine yG.goto rfl (t := 229) rfl ?_
                refine yG.store1 xik (L' := [(6, yI (1)), (0, yR 2073), (1, yI (p1)), (2, yI (a2)), (3, yI (a3)), (4, yI (a4)), (5, yI (a5))]) rfl (fun _ _ => rfl) rfl rfl ?_
                refine yG.load xik rfl (fun _ _ => rfl) (v := yI (1)) rfl rfl ?_
                refine yG.ifz rfl (t := 279) rfl ⟨by omega, by omega⟩ (fun c13 => ?_) (fun c13 => ?_)
                · have c13 : (1 : Int) = 0 := c13
                  exfalso; omega
                · have c13 : (1 : Int) ≠ 0 := c13
                  refine yG.load xak rfl (fun _ _ => rfl) (v := yR 2073) rfl rfl ?_
                  refine yG.load xik rfl (fun _ _ => rfl) (v := yI (a2)) rfl rfl ?_
                  refine yG.load xak rfl (fun _ _ => rfl) (v := yR 2073) rfl rfl ?_
                  refine yG.load xik rfl (fun _ _ => rfl) (v := yI (a3)) rfl rfl ?_
                  refine yG.load xik rfl (fun _ _ => rfl) (v := yI (a5)) rfl rfl ?_
                  refine yG.invV (rest := [yI (a2), yR 2073]) A_hq.1 (bOb (d_M W) H_2073) rfl rfl rfl rfl (c_GModel_nodeOfLine W (d + 1) A_hq.1 H_2073 (a3) (a5) (by omega) (by omega) (by omega) (by omega)) (fun rv hp9 q9 => ?_)
                  obtain ⟨⟨z14, rfl, l_z14, u_z14, R_z14⟩, e9⟩ := q9
                  rw [e9]
                  show yG _ _ _ _ _ _ _ _ _ _ (yI z14 :: [yI (a2), yR 2073]) _
                  refine yG.load xak rfl (fun _ _ => rfl) (v := yR 2073) rfl rfl ?_
                  refine yG.getO A_hq.1 (w_M_conductance W H_2073) rfl rfl (fun r15 H_r15 O_r15 q_r15 => ?_)
                  obtain rfl := u_M_conductance W H_r15
                  refine yG.load xik rfl (fun _ _ => rfl) (v := yI (a3)) rfl rfl ?_
                  refine yG.lald A_hq.1 (v_M_conductance W H_r15) rfl (by omega) (by omega) (fun z16 e_z16 i_z16 l_z16 u_z16 => ?_)
                  refine yG.invV (rest := []) A_hq.1 (bOb (d_M W) H_2073) rfl rfl rfl rfl (c_GModel_addShown_s W (d + 2) A_hq.1 H_2073 (a2) (z14) (z16) (by omega) (by omega) (by omega) (by omega) (by omega) (by omega) (by omega) (by omega)) (fun rv h17 q9 => ?_)
                  obtain ⟨⟨rfl, R_z18⟩, B_h17⟩ := q9
                  have A_h17 := A_hq.tr B_h17 (by decide)
                  have : ys h17 2073 11 = ys hq 2073 11 := B_h17.ys H_2073 (by decide)
                  have : ys h17 2115 (a2 : Int).toNat = ys hq 2115 (a2 : Int).toNat := B_h17.ys H_r3 (bNo_ok (by decide) _)
                  have qq1 : zsl h17 2073 66 = yR 2123 := (B_h17.sl H_2073 (by decide)).trans q_r15
                  have : ys h17 2123 (a3 : Int).toNat = ys hq 2123 (a3 : Int).toNat := B_h17.ys H_r15 (bNo_ok (by decide) _)
                  show yG _ _ _ _ _ _ _ _ _ _ [] _
                  refine yG.load xak rfl (fun _ _ => rfl) (v := yR 2073) rfl rfl ?_
                  refine yG.load xik rfl (fun _ _ => rfl) (v := yI (a2)) rfl rfl ?_
                  refine yG.load xak rfl (fun _ _ => rfl) (v := yR 2073) rfl rfl ?_
                  refine yG.load xik rfl (fun _ _ => rfl) (v := yI (a3)) rfl rfl ?_
                  refine yG.num (c := 1) rfl (fun _ _ => rfl) (by decide) ?_
                  refine yG.load xik rfl (fun _ _ => rfl) (v := yI (a5)) rfl rfl ?_
                  refine yG.isub rfl ?_
                  refine yG.invV (rest := [yI (a2), yR 2073]) A_h17.1 (bOb (d_M W) H_2073) rfl rfl rfl rfl (c_GModel_nodeOfLine W (d + 1) A_h17.1 H_2073 (a3) (1 - a5) (by omega) (by omega) (by omega) (by omega)) (fun rv hp9 q9 => ?_)
                  obtain ⟨⟨z19, rfl, l_z19, u_z19, R_z19⟩, e9⟩ := q9
                  rw [e9]
                  show yG _ _ _ _ _ _ _ _ _ _ (yI z19 :: [yI (a2), yR 2073]) _
                  refine yG.load xak rfl (fun _ _ => rfl) (v := yR 2073) rfl rfl ?_
                  refine yG.getJ A_h17.1 (w_M_p W H_2073) rfl rfl (fun z20 e_z20 i_z20 l_z20 u_z20 => ?_)
                  rw [show (z20 : Int) = gg0 by omega]
                  refine yG.load xak rfl (fun _ _ => rfl) (v := yR 2073) rfl rfl ?_
                  refine yG.getS9 A_h17.1 (w_M_conductance W H_2073) qq1 rfl rfl ?_
                  refine yG.load xik rfl (fun _ _ => rfl) (v := yI (a3)) rfl rfl ?_
                  refine yG.lald A_h17.1 (v_M_conductance W H_r15) rfl (by omega) (by omega) (fun z21 e_z21 i_z21 l_z21 u_z21 => ?_)
                  rw [show (z21 : Int) = z16 by omega]
                  refine yG.lsub rfl ?_
                  refine yG.invV (rest := []) A_h17.1 (bOb (d_M W) H_2073) rfl rfl rfl rfl (c_GModel_addShown_s W (d + 2) A_h17.1 H_2073 (a2) (z19) (gg0 - z16) (by omega) (by omega) (by omega) (by omega) (by omega) (by omega) (by omega) (by omega)) (fun rv h22 q9 => ?_)
                  obtain ⟨⟨rfl, R_z23⟩, B_h22⟩ := q9
                  have A_h22 := A_h17.tr B_h22 (by decide)
                  have : ys h22 2073 11 = ys h17 2073 11 := B_h22.ys H_2073 (by decide)
                  have : ys h22 2115 (a2 : Int).toNat = ys h17 2115 (a2 : Int).toNat := B_h22.ys H_r3 (bNo_ok (by decide) _)
                  have qq2 : zsl h22 2073 66 = yR 2123 := (B_h22.sl H_2073 (by decide)).trans qq1
                  have : ys h22 2123 (a3 : Int).toNat = ys h17 2123 (a3 : Int).toNat := B_h22.ys H_r15 (bNo_ok (by decide) _)
                  show yG _ _ _ _ _ _ _ _ _ _ [] _
                  refine yG.iinc rfl (a := a5) rfl (L' := [(5, yI (a5 + 1)), (6, yI (1)), (0, yR 2073), (1, yI (p1)), (2, yI (a2)), (3, yI (a3)), (4, yI (a4))]) rfl ?_
                  refine yG.goto rfl (t := 160) rfl ?_
                  have ra_z18 := R_z18
                  rw [show ys hq 2073 11 = ys hp 2073 11 from A_hq.ys H_2073 (by decide)] at ra_z18
                  have ra_z23 := R_z23
                  rw [show ys h17 2073 11 = ys hp 2073 11 from A_h17.ys H_2073 (by decide)] at ra_z23
                  exact yG.mono (yG.sub (i_160 (a2) (a3) (a4) (a5 + 1) (ys h22 2073 11) h22 A_h22  rfl (by omega) (by omega) (by omega) (by omega) (by omega) (by omega) (by omega) (by omega) (by omega) (by omega) (by omega) (by omega) (by omega) ⟨X_160.1.mo (ra_z18.tr ra_z23), X_160.2.mo (ra_z18.tr ra_z23)⟩ (by omega)) (ySub.cons rfl (ySub.cons rfl (ySub.cons rfl (ySub.cons rfl (ySub.cons rfl (ySub.cons rfl (ySub.nil)))))))) (by omega)
            · have c5 : (z4 : Int) = 0 := c5
              refine yG.load xik rfl (fun _ _ => rfl) (v := yI (a3)) rfl rfl ?_
              refine yG.load xak rfl (fun _ _ => rfl) (v := yR 2073) rfl rfl ?_
              refine yG.getO A_hq.1 (w_M_meterAt W H_2073) rfl rfl (fun r24 H_r24 O_r24 q_r24 => ?_)
              obtain rfl := u_M_meterAt W H_r24
              refine yG.load xik rfl (fun _ _ => rfl) (v := yI (a2)) rfl rfl ?_
              refine yG.iald A_hq.1 (v_M_meterAt W H_r24) rfl (by omega) (by omega) (fun z25 e_z25 i_z25 l_z25 u_z25 => ?_)
              have w_z25 := (M_bMm.fr A_hq (by decide)) 2115 2116 H_r3 H_r24 (a2 : Int).toNat (by omega)
              refine yG.icmp rfl (t := 199) rfl ⟨by omega, by omega⟩ ⟨by omega, by omega⟩ (fun c26 => ?_) (fun c26 => ?_)
              · have c26 : (a3 : Int) ≠ z25 := c26
                refine yG.num (c := 0) rfl (fun _ _ => rfl) (by decide) ?_
                refine yG.goto rfl (t := 229) rfl ?_
                refine yG.store1 xik (L' := [(6, yI (0)), (0, yR 2073), (1, yI (p1)), (2, yI (a2)), (3, yI (a3)), (4, yI (a4)), (5, yI (a5))]) rfl (fun _ _ => rfl) rfl rfl ?_
                refine yG.load xik rfl (fun _ _ => rfl) (v := yI (0)) rfl rfl ?_
                refine yG.ifz rfl (t := 279) rfl ⟨by omega, by omega⟩ (fun c27 => ?_) (fun c27 => ?_)
                · have c27 : (0 : Int) = 0 := c27
                  refine yG.iinc rfl (a := a5) rfl (L' := [(5, yI (a5 + 1)), (6, yI (0)), (0, yR 2073), (1, yI (p1)), (2, yI (a2)), (3, yI (a3)), (4, yI (a4))]) rfl ?_
                  refine yG.goto rfl (t := 160) rfl ?_
                  exact yG.mono (yG.sub (i_160 (a2) (a3) (a4) (a5 + 1) (ys hq 2073 11) hq A_hq  rfl (by omega) (by omega) (by omega) (by omega) (by omega) (by omega) (by omega) (by omega) (by omega) (by omega) (by omega) (by omega) (by omega) ⟨X_160.1.mo gAs.rf, X_160.2.mo gAs.rf⟩ (by omega)) (ySub.cons rfl (ySub.cons rfl (ySub.cons rfl (ySub.cons rfl (ySub.cons rfl (ySub.cons rfl (ySub.nil)))))))) (by omega)
                · have c27 : (0 : Int) ≠ 0 := c27
                  exfalso; omega
              · have c26 : (a3 : Int) = z25 := c26
                refine yG.load xik rfl (fun _ _ => rfl) (v := yI (a5)) rfl rfl ?_
                refine yG.ifz rfl (t := 199) rfl ⟨by omega, by omega⟩ (fun c28 => ?_) (fun c28 => ?_)
                · have c28 : (a5 : Int) ≠ 0 := c28
                  refine yG.num (c := 0) rfl (fun _ _ => rfl) (by decide) ?_
                  refine yG.goto rfl (t := 229) rfl ?_
                  refine yG.store1 xik (L' := [(6, yI (0)), (0, yR 2073), (1, yI (p1)), (2, yI (a2)), (3, yI (a3)), (4, yI (a4)), (5, yI (a5))]) rfl (fun _ _ => rfl) rfl rfl ?_
                  refine yG.load xik rfl (fun _ _ => rfl) (v := yI (0)) rfl rfl ?_
                  refine yG.ifz rfl (t := 279) rfl ⟨by omega, by omega⟩ (fun c29 => ?_) (fun c29 => ?_)
                  · have c29 : (0 : Int) = 0 := c29
                    refine yG.iinc rfl (a := a5) rfl (L' := [(5, yI (a5 + 1)), (6, yI (0)), (0, yR 2073), (1, yI (p1)), (2, yI (a2)), (3, yI (a3)), (4, yI (a4))]) rfl ?_
                    refine yG.goto rfl (t := 160) rfl ?_
                    exact yG.mono (yG.sub (i_160 (a2) (a3) (a4) (a5 + 1) (ys hq 2073 11) hq A_hq  rfl (by omega) (by omega) (by omega) (by omega) (by omega) (by omega) (by omega) (by omega) (by omega) (by omega) (by omega) (by omega) (by omega) ⟨X_160.1.mo gAs.rf, X_160.2.mo gAs.rf⟩ (by omega)) (ySub.cons rfl (ySub.cons rfl (ySub.cons rfl (ySub.cons rfl (ySub.cons rfl (ySub.cons rfl (ySub.nil)))))))) (by omega)
                  · have c29 : (0 : Int) ≠ 0 := c29
                    exfalso; omega
                · have c28 : (a5 : Int) = 0 := c28
                  refine yG.num (c := 1) rfl (fun _ _ => rfl) (by decide) ?_
                  refine yG.goto rfl (t := 229) rfl ?_
                  refine yG.store1 xik (L' := [(6, yI (1)), (0, yR 2073), (1, yI (p1)), (2, yI (a2)), (3, yI (a3)), (4, yI (a4)), (5, yI (a5))]) rfl (fun _ _ => rfl) rfl rfl ?_
                  refine yG.load xik rfl (fun _ _ => rfl) (v := yI (1)) rfl rfl ?_
                  refine yG.ifz rfl (t := 279) rfl ⟨by omega, by omega⟩ (fun c30 => ?_) (fun c30 => ?_)
                  · have c30 : (1 : Int) = 0 := c30
                    exfalso; omega
                  · have c30 : (1 : Int) ≠ 0 := c30
                    refine yG.load xak rfl (fun _ _ => rfl) (v := yR 2073) rfl rfl ?_
                    refine yG.load xik rfl (fun _ _ => rfl) (v := yI (a2)) rfl rfl ?_
                    refine yG.load xak rfl (fun _ _ => rfl) (v := yR 2073) rfl rfl ?_
                    refine yG.load xik rfl (fun _ _ => rfl) (v := yI (a3)) rfl rfl ?_
                    refine yG.load xik rfl (fun _ _ => rfl) (v := yI (a5)) rfl rfl ?_
                    refine yG.invV (rest := [yI (a2), yR 2073]) A_hq.1 (bOb (d_M W) H_2073) rfl rfl rfl rfl (c_GModel_nodeOfLine W (d + 1) A_hq.1 H_2073 (a3) (a5) (by omega) (by omega) (by omega) (by omega)) (fun rv hp9 q9 => ?_)
                    obtain ⟨⟨z31, rfl, l_z31, u_z31, R_z31⟩, e9⟩ := q9
                    rw [e9]
                    show yG _ _ _ _ _ _ _ _ _ _ (yI z31 :: [yI (a2), yR 2073]) _
                    refine yG.load xak rfl (fun _ _ => rfl) (v := yR 2073) rfl rfl ?_
                    refine yG.getO A_hq.1 (w_M_conductance W H_2073) rfl rfl (fun r32 H_r32 O_r32 q_r32 => ?_)
                    obtain rfl := u_M_conductance W H_r32
                    refine yG.load xik rfl (fun _ _ => rfl) (v := yI (a3)) rfl rfl ?_
                    refine yG.lald A_hq.1 (v_M_conductance W H_r32) rfl (by omega) (by omega) (fun z33 e_z33 i_z33 l_z33 u_z33 => ?_)
                    refine yG.invV (rest := []) A_hq.1 (bOb (d_M W) H_2073) rfl rfl rfl rfl (c_GModel_addShown_s W (d + 2) A_hq.1 H_2073 (a2) (z31) (z33) (by omega) (by omega) (by omega) (by omega) (by omega) (by omega) (by omega) (by omega)) (fun rv h34 q9 => ?_)
                    obtain ⟨⟨rfl, R_z35⟩, B_h34⟩ := q9
                    have A_h34 := A_hq.tr B_h34 (by decide)
                    have : ys h34 2073 11 = ys hq 2073 11 := B_h34.ys H_2073 (by decide)
                    have : ys h34 2115 (a2 : Int).toNat = ys hq 2115 (a2 : Int).toNat := B_h34.ys H_r3 (bNo_ok (by decide) _)
                    have qq3 : zsl h34 2073 66 = yR 2123 := (B_h34.sl H_2073 (by decide)).trans q_r32
                    have : ys h34 2123 (a3 : Int).toNat = ys hq 2123 (a3 : Int).toNat := B_h34.ys H_r32 (bNo_ok (by decide) _)
                    show yG _ _ _ _ _ _ _ _ _ _ [] _
                    refine yG.load xak rfl (fun _ _ => rfl) (v := yR 2073) rfl rfl ?_
                    refine yG.load xik rfl (fun _ _ => rfl) (v := yI (a2)) rfl rfl ?_
                    refine yG.load xak rfl (fun _ _ => rfl) (v := yR 2073) rfl rfl ?_
                    refine yG.load xik rfl (fun _ _ => rfl) (v := yI (a3)) rfl rfl ?_
                    refine yG.num (c := 1) rfl (fun _ _ => rfl) (by decide) ?_
                    refine yG.load xik rfl (fun _ _ => rfl) (v := yI (a5)) rfl rfl ?_
                    refine yG.isub rfl ?_
                    refine yG.invV (rest := [yI (a2), yR 2073]) A_h34.1 (bOb (d_M W) H_2073) rfl rfl rfl rfl (c_GModel_nodeOfLine W (d + 1) A_h34.1 H_2073 (a3) (1 - a5) (by omega) (by omega) (by omega) (by omega)) (fun rv hp9 q9 => ?_)
                    obtain ⟨⟨z36, rfl, l_z36, u_z36, R_z36⟩, e9⟩ := q9
                    rw [e9]
                    show yG _ _ _ _ _ _ _ _ _ _ (yI z36 :: [yI (a2), yR 2073]) _
                    refine yG.load xak rfl (fun _ _ => rfl) (v := yR 2073) rfl rfl ?_
                    refine yG.getJ A_h34.1 (w_M_p W H_2073) rfl rfl (fun z37 e_z37 i_z37 l_z37 u_z37 => ?_)
                    rw [show (z37 : Int) = gg0 by omega]
                    refine yG.load xak rfl (fun _ _ => rfl) (v := yR 2073) rfl rfl ?_
                    refine yG.getS9 A_h34.1 (w_M_conductance W H_2073) qq3 rfl rfl ?_
                    refine yG.load xik rfl (fun _ _ => rfl) (v := yI (a3)) rfl rfl ?_
                    refine yG.lald A_h34.1 (v_M_conductance W H_r32) rfl (by omega) (by omega) (fun z38 e_z38 i_z38 l_z38 u_z38 => ?_)
                    rw [show (z38 : Int) = z33 by omega]
                    refine yG.lsub rfl ?_
                    refine yG.invV (rest := []) A_h34.1 (bOb (d_M W) H_2073) rfl rfl rfl rfl (c_GModel_addShown_s W (d + 2) A_h34.1 H_2073 (a2) (z36) (gg0 - z33) (by omega) (by omega) (by omega) (by omega) (by omega) (by omega) (by omega) (by omega)) (fun rv h39 q9 => ?_)
                    obtain ⟨⟨rfl, R_z40⟩, B_h39⟩ := q9
                    have A_h39 := A_h34.tr B_h39 (by decide)
                    have : ys h39 2073 11 = ys h34 2073 11 := B_h39.ys H_2073 (by decide)
                    have : ys h39 2115 (a2 : Int).toNat = ys h34 2115 (a2 : Int).toNat := B_h39.ys H_r3 (bNo_ok (by decide) _)
                    have qq4 : zsl h39 2073 66 = yR 2123 := (B_h39.sl H_2073 (by decide)).trans qq3
                    have : ys h39 2123 (a3 : Int).toNat = ys h34 2123 (a3 : Int).toNat := B_h39.ys H_r32 (bNo_ok (by decide) _)
                    show yG _ _ _ _ _ _ _ _ _ _ [] _
                    refine yG.iinc rfl (a := a5) rfl (L' := [(5, yI (a5 + 1)), (6, yI (1)), (0, yR 2073), (1, yI (p1)), (2, yI (a2)), (3, yI (a3)), (4, yI (a4))]) rfl ?_
                    refine yG.goto rfl (t := 160) rfl ?_
                    have ra_z35 := R_z35
                    rw [show ys hq 2073 11 = ys hp 2073 11 from A_hq.ys H_2073 (by decide)] at ra_z35
                    have ra_z40 := R_z40
                    rw [show ys h34 2073 11 = ys hp 2073 11 from A_h34.ys H_2073 (by decide)] at ra_z40
                    exact yG.mono (yG.sub (i_160 (a2) (a3) (a4) (a5 + 1) (ys h39 2073 11) h39 A_h39  rfl (by omega) (by omega) (by omega) (by omega) (by omega) (by omega) (by omega) (by omega) (by omega) (by omega) (by omega) (by omega) (by omega) ⟨X_160.1.mo (ra_z35.tr ra_z40), X_160.2.mo (ra_z35.tr ra_z40)⟩ (by omega)) (ySub.cons rfl (ySub.cons rfl (ySub.cons rfl (ySub.cons rfl (ySub.cons rfl (ySub.cons rfl (ySub.nil)))))))) (by omega)
  refine yC.of (M := (xt_X13_showAll, (7, (0, (14, []))))) rfl rfl (N := 101169632) (yfuel (by decide)) ?_
  show yG 89 xfts (xcall 89 xfts xpools xms (d + 4)) (xpool xp_RX13) [] xt_X13_showAll (yP 0 (fun rv hp' => (rv = none ∧ gSh hp hp' (ys hp 2073 11) p1 (ys hp 2073 56)) ∧ bAx G [(140304157183766680147553743940763169886969524125696, 256)] hp hp')) 101169632 0 [(0, yR 2073), (1, yI (p1))] [] hp
  obtain ⟨i_2, i_38, i_60, i_113, i_160⟩ := H 1744303
  obtain ⟨gg0, E_0⟩ : ∃ z : Int, ys hp 2073 11 = z := ⟨_, rfl⟩
  obtain ⟨-, -, g_0l, g_0u⟩ := (w_M_p W H_2073).long hT
  refine yG.num (c := 0) rfl (fun _ _ => rfl) (by decide) ?_
  refine yG.store1 xik (L' := [(2, yI (0)), (0, yR 2073), (1, yI (p1))]) rfl (fun _ _ => rfl) rfl rfl ?_
  exact yG.mono (yG.sub (i_2 (0) (ys hp 2073 11) hp A_hp  rfl (by omega) (by omega) (by omega) (by omega) (by omega) (by omega) (by omega)) (ySub.cons rfl (ySub.cons rfl (ySub.cons rfl (ySub.nil))))) (by omega)
theorem c_GModel_seenOf {hp : xH} (W : mW G) (d : Nat) (hT : zTy G hp) (M_bPr : bPr G hp) (M_bMm : bMm G hp) (H_2073 : bRo G 116 2073) (p1 p2 : Int) (h1l : 0 ≤ p1) (h1u : p1 ≤ 15) (h2l : (-1) ≤ p2) (h2u : p2 ≤ 15) : yC (xcall 89 xfts xpools xms (d + 6)) 504 [yR 2073, yI (p1), yI (p2)] hp (fun rv hp' => (rv = none ∧ True) ∧ bAx G [(83076749736557242056487941267521536, 11), (350760392959501770960614594467773768369281752367104, 256)] hp hp') := by
  have A_hp : bAx G [(83076749736557242056487941267521536, 11), (350760392959501770960614594467773768369281752367104, 256)] hp hp := bAx.rf hT
  have H : ∀ m : Nat, (∀ a3 : Int, ∀ a4 : Int, ∀ gg0 : Int, ∀ gg1 : Int, ∀ hq, bAx G [(83076749736557242056487941267521536, 11), (350760392959501770960614594467773768369281752367104, 256)] hp hq → ys hq 2073 11 = gg0 → ys hq 2073 56 = gg1 → 0 ≤ a3 → 0 ≤ 0 - a3 → 0 ≤ a4 → (-15) ≤ 0 - a4 → 0 ≤ gg0 → (-2147483647) ≤ 0 - gg0 → 0 ≤ gg1 → (-32) ≤ 0 - gg1 → 0 ≤ p1 → (-15) ≤ 0 - p1 → (-1) ≤ p2 → (-15) ≤ 0 - p2 → (-1) ≤ 0 - a4 + p2 → 0 - 157123 * a4 + 2513967 < (m : Int) → yG 89 xfts (xcall 89 xfts xpools xms (d + 5)) (xpool xp_RX13) [] xt_X13_seenOf (yP 0 (fun rv hp' => (rv = none ∧ True) ∧ bAx G [(83076749736557242056487941267521536, 11), (350760392959501770960614594467773768369281752367104, 256)] hp hp')) (31 * m) 5 [(0, yR 2073), (1, yI (p1)), (2, yI (p2)), (3, yI (a3)), (4, yI (a4))] [] hq) ∧ (∀ a3 : Int, ∀ a4 : Int, ∀ gg0 : Int, ∀ gg1 : Int, ∀ hq, bAx G [(83076749736557242056487941267521536, 11), (350760392959501770960614594467773768369281752367104, 256)] hp hq → ys hq 2073 11 = gg0 → ys hq 2073 56 = gg1 → 0 ≤ a3 → (-15) ≤ 0 - a3 → 0 ≤ a4 → (-8) ≤ 0 - a4 → 0 ≤ gg0 → (-2147483647) ≤ 0 - gg0 → 0 ≤ gg1 → (-32) ≤ 0 - gg1 → 0 ≤ p1 → (-15) ≤ 0 - p1 → (-1) ≤ p2 → (-15) ≤ 0 - p2 → (-14) ≤ 0 - a3 + a4 → 0 ≤ 0 - a3 + gg0 → 0 ≤ 0 - a4 + gg0 → 0 ≤ 0 - a3 + gg1 → 0 - 17458 * a4 + 157121 < (m : Int) → yG 89 xfts (xcall 89 xfts xpools xms (d + 5)) (xpool xp_RX13) [] xt_X13_seenOf (yP 0 (fun rv hp' => (rv = none ∧ True) ∧ bAx G [(83076749736557242056487941267521536, 11), (350760392959501770960614594467773768369281752367104, 256)] hp hp')) (31 * m) 28 [(0, yR 2073), (1, yI (p1)), (2, yI (p2)), (3, yI (a3)), (4, yI (a4))] [] hq) ∧ (∀ a3 : Int, ∀ a4 : Int, ∀ a5 : Int, ∀ a6 : Int, ∀ a7 : Int, ∀ gg0 : Int, ∀ gg1 : Int, ∀ hq, bAx G [(83076749736557242056487941267521536, 11), (350760392959501770960614594467773768369281752367104, 256)] hp hq → ys hq 2073 11 = gg0 → ys hq 2073 56 = gg1 → 0 ≤ a3 → (-15) ≤ 0 - a3 → 0 ≤ a4 → (-7) ≤ 0 - a4 → 0 ≤ a5 → (-32) ≤ 0 - a5 → 0 ≤ a6 → (-16) ≤ 0 - a6 → 0 ≤ a7 → (-32) ≤ 0 - a7 → 2147482801 ≤ gg0 → (-2147483647) ≤ 0 - gg0 → 0 ≤ gg1 → (-32) ≤ 0 - gg1 → 0 ≤ p1 → (-15) ≤ 0 - p1 → (-1) ≤ p2 → (-15) ≤ 0 - p2 → (-14) ≤ 0 - a3 + a4 → 0 ≤ a5 - a6 → 0 ≤ 0 - a5 + a7 → 0 ≤ 0 - a3 + gg1 → 0 ≤ 0 - a7 + gg1 → (-16) ≤ 0 - a6 + p2 → (mPr ((ys hq 2073 11)).toNat ∧ mLd hq (ys hq 2073 11) (p2 : Int).toNat (a6 : Int).toNat ∧ a6 ≤ 15 ∧ gSh hq hq (ys hq 2073 11) p1 (ys hq 2073 56)) → 0 - 17458 * a4 - 529 * a7 + 157120 < (m : Int) → yG 89 xfts (xcall 89 xfts xpools xms (d + 5)) (xpool xp_RX13) [] xt_X13_seenOf (yP 0 (fun rv hp' => (rv = none ∧ True) ∧ bAx G [(83076749736557242056487941267521536, 11), (350760392959501770960614594467773768369281752367104, 256)] hp hp')) (31 * m) 60 [(0, yR 2073), (1, yI (p1)), (2, yI (p2)), (3, yI (a3)), (4, yI (a4)), (5, yI (a5)), (6, yI (a6)), (7, yI (a7))] [] hq) ∧ (∀ a3 : Int, ∀ a4 : Int, ∀ a5 : Int, ∀ a6 : Int, ∀ a7 : Int, ∀ a8 : Int, ∀ gg0 : Int, ∀ gg1 : Int, ∀ hq, bAx G [(83076749736557242056487941267521536, 11), (350760392959501770960614594467773768369281752367104, 256)] hp hq → ys hq 2073 11 = gg0 → ys hq 2073 56 = gg1 → 0 ≤ a3 → (-15) ≤ 0 - a3 → 0 ≤ a4 → (-7) ≤ 0 - a4 → 0 ≤ a5 → (-31) ≤ 0 - a5 → 0 ≤ a6 → (-15) ≤ 0 - a6 → 0 ≤ a7 → (-31) ≤ 0 - a7 → 0 ≤ a8 → (-15) ≤ 0 - a8 → 2147482801 ≤ gg0 → (-2147483647) ≤ 0 - gg0 → 1 ≤ gg1 → (-32) ≤ 0 - gg1 → 0 ≤ p1 → (-15) ≤ 0 - p1 → (-1) ≤ p2 → (-15) ≤ 0 - p2 → (-14) ≤ 0 - a3 + a4 → 0 ≤ a5 - a6 → 0 ≤ 0 - a5 + a7 → 0 ≤ 0 - a3 + gg1 → 1 ≤ 0 - a7 + gg1 → (-1) ≤ 0 - a8 + p2 → (mPr ((ys hq 2073 11)).toNat ∧ mLd hq (ys hq 2073 11) (p2 : Int).toNat (a6 : Int).toNat ∧ a6 ≤ 15 ∧ gSh hq hq (ys hq 2073 11) p1 (ys hq 2073 56) ∧ gSk hq (ys hq 2073 11) 16 (a7 : Int).toNat ∧ mRo hq (ys hq 2073 11) (a6 : Int).toNat a8) → 0 - 17458 * a4 - 529 * a7 - 2 * a8 + 156623 < (m : Int) → yG 89 xfts (xcall 89 xfts xpools xms (d + 5)) (xpool xp_RX13) [] xt_X13_seenOf (yP 0 (fun rv hp' => (rv = none ∧ True) ∧ bAx G [(83076749736557242056487941267521536, 11), (350760392959501770960614594467773768369281752367104, 256)] hp hp')) (31 * m) 82 [(0, yR 2073), (1, yI (p1)), (2, yI (p2)), (3, yI (a3)), (4, yI (a4)), (5, yI (a5)), (6, yI (a6)), (7, yI (a7)), (8, yI (a8))] [] hq) ∧ (∀ a3 : Int, ∀ a4 : Int, ∀ a6 : Int, ∀ a7 : Int, ∀ gg0 : Int, ∀ gg1 : Int, ∀ hq, bAx G [(83076749736557242056487941267521536, 11), (350760392959501770960614594467773768369281752367104, 256)] hp hq → ys hq 2073 11 = gg0 → ys hq 2073 56 = gg1 → 0 ≤ a3 → (-15) ≤ 0 - a3 → 0 ≤ a4 → (-7) ≤ 0 - a4 → 0 ≤ a6 → (-15) ≤ 0 - a6 → 0 ≤ a7 → (-15) ≤ 0 - a7 → 2147482801 ≤ gg0 → (-2147483647) ≤ 0 - gg0 → 0 ≤ gg1 → (-32) ≤ 0 - gg1 → 0 ≤ p1 → (-15) ≤ 0 - p1 → (-1) ≤ p2 → (-15) ≤ 0 - p2 → 0 ≤ a3 - a6 → 0 ≤ 0 - a3 + gg1 → (-1) ≤ 0 - a7 + p2 → (mPr ((ys hq 2073 11)).toNat ∧ mLd hq (ys hq 2073 11) (p2 : Int).toNat (a6 : Int).toNat ∧ a6 ≤ 15) → 0 - 17458 * a4 - 33 * a7 + 140191 < (m : Int) → yG 89 xfts (xcall 89 xfts xpools xms (d + 5)) (xpool xp_RX13) [] xt_X13_seenOf (yP 0 (fun rv hp' => (rv = none ∧ True) ∧ bAx G [(83076749736557242056487941267521536, 11), (350760392959501770960614594467773768369281752367104, 256)] hp hp')) (31 * m) 154 [(0, yR 2073), (1, yI (p1)), (2, yI (p2)), (3, yI (a3)), (4, yI (a4)), (6, yI (a6)), (7, yI (a7))] [] hq) ∧ (∀ a3 : Int, ∀ a4 : Int, ∀ a6 : Int, ∀ a7 : Int, ∀ a8 : Int, ∀ gg0 : Int, ∀ gg1 : Int, ∀ hq, bAx G [(83076749736557242056487941267521536, 11), (350760392959501770960614594467773768369281752367104, 256)] hp hq → ys hq 2073 11 = gg0 → ys hq 2073 56 = gg1 → 0 ≤ a3 → (-15) ≤ 0 - a3 → 0 ≤ a4 → (-7) ≤ 0 - a4 → 0 ≤ a6 → (-15) ≤ 0 - a6 → 0 ≤ a7 → (-14) ≤ 0 - a7 → 0 ≤ a8 → (-15) ≤ 0 - a8 → 2147482801 ≤ gg0 → (-2147483647) ≤ 0 - gg0 → 0 ≤ gg1 → (-32) ≤ 0 - gg1 → 0 ≤ p1 → (-15) ≤ 0 - p1 → 1 ≤ p2 → (-15) ≤ 0 - p2 → 0 ≤ a3 - a6 → 0 ≤ 0 - a3 + gg1 → 1 ≤ 0 - a7 + p2 → 0 ≤ 0 - a8 + p2 → (mPr ((ys hq 2073 11)).toNat ∧ mLd hq (ys hq 2073 11) (p2 : Int).toNat (a6 : Int).toNat ∧ a6 ≤ 15 ∧ mRo hq (ys hq 2073 11) (a6 : Int).toNat a8) → 0 - 17458 * a4 - 33 * a7 - 2 * a8 + 140190 < (m : Int) → yG 89 xfts (xcall 89 xfts xpools xms (d + 5)) (xpool xp_RX13) [] xt_X13_seenOf (yP 0 (fun rv hp' => (rv = none ∧ True) ∧ bAx G [(83076749736557242056487941267521536, 11), (350760392959501770960614594467773768369281752367104, 256)] hp hp')) (31 * m) 163 [(0, yR 2073), (1, yI (p1)), (2, yI (p2)), (3, yI (a3)), (4, yI (a4)), (6, yI (a6)), (7, yI (a7)), (8, yI (a8))] [] hq) ∧ (∀ a3 : Int, ∀ a4 : Int, ∀ gg0 : Int, ∀ gg1 : Int, ∀ hq, bAx G [(83076749736557242056487941267521536, 11), (350760392959501770960614594467773768369281752367104, 256)] hp hq → ys hq 2073 11 = gg0 → ys hq 2073 56 = gg1 → 0 ≤ a3 → (-15) ≤ 0 - a3 → 0 ≤ a4 → (-15) ≤ 0 - a4 → 8 ≤ gg0 → (-2147483647) ≤ 0 - gg0 → 0 ≤ gg1 → (-32) ≤ 0 - gg1 → 0 ≤ p1 → (-15) ≤ 0 - p1 → (-1) ≤ p2 → (-15) ≤ 0 - p2 → 0 ≤ 0 - a3 + gg0 → 0 ≤ 0 - a3 + gg1 → (-1) ≤ 0 - a4 + p2 → 0 - 2 * a4 + 31 < (m : Int) → yG 89 xfts (xcall 89 xfts xpools xms (d + 5)) (xpool xp_RX13) [] xt_X13_seenOf (yP 0 (fun rv hp' => (rv = none ∧ True) ∧ bAx G [(83076749736557242056487941267521536, 11), (350760392959501770960614594467773768369281752367104, 256)] hp hp')) (31 * m) 274 [(0, yR 2073), (2, yI (p2)), (3, yI (a3)), (4, yI (a4))] [] hq) := by
    intro m
    induction m with
    | zero =>
      refine ⟨?_, ?_, ?_, ?_, ?_, ?_, ?_⟩ <;> (intros; exfalso; omega)
    | succ m ih =>
      obtain ⟨i_5, i_28, i_60, i_82, i_154, i_163, i_274⟩ := ih
      refine ⟨?_, ?_, ?_, ?_, ?_, ?_, ?_⟩
      · intro a3 a4 gg0 gg1 hq A_hq E_0 E_1 f0 f1 f2 f3 f4 f5 f6 f7 f8 f9 f10 f11 f12 hm
        refine yG.mono (N := 31 * m + 31) ?_ (by omega)
        obtain ⟨-, -, g_0l, g_0u⟩ := (w_M_p W H_2073).long A_hq.1
        obtain ⟨-, -, g_1l, g_1u⟩ := (w_M_meters W H_2073).int A_hq.1
        refine yG.load xik rfl (fun _ _ => rfl) (v := yI (a4)) rfl rfl ?_
        refine yG.load xik rfl (fun _ _ => rfl) (v := yI (p2)) rfl rfl ?_
        refine yG.icmp rfl (t := 25) rfl ⟨by omega, by omega⟩ ⟨by omega, by omega⟩ (fun c1 => ?_) (fun c1 => ?_)
        · have c1 : (a4 : Int) ≥ p2 := c1
          refine yG.num (c := 0) rfl (fun _ _ => rfl) (by decide) ?_
          refine yG.store1 xik (L' := [(4, yI (0)), (0, yR 2073), (1, yI (p1)), (2, yI (p2)), (3, yI (a3))]) rfl (fun _ _ => rfl) rfl rfl ?_
          exact yG.mono (yG.sub (i_28 (a3) (0) (ys hq 2073 11) (ys hq 2073 56) hq A_hq  rfl rfl (by omega) (by omega) (by omega) (by omega) (by omega) (by omega) (by omega) (by omega) (by omega) (by omega) (by omega) (by omega) (by omega) (by omega) (by omega) (by omega) (by omega)) (ySub.cons rfl (ySub.cons rfl (ySub.cons rfl (ySub.cons rfl (ySub.cons rfl (ySub.nil))))))) (by omega)
        · have c1 : (a4 : Int) < p2 := c1
          refine yG.load xak rfl (fun _ _ => rfl) (v := yR 2073) rfl rfl ?_
          refine yG.getO A_hq.1 (w_M_rankWith W H_2073) rfl rfl (fun r2 H_r2 O_r2 q_r2 => ?_)
          obtain rfl := u_M_rankWith W H_r2
          refine yG.load xik rfl (fun _ _ => rfl) (v := yI (a4)) rfl rfl ?_
          refine yG.num (c := 0) rfl (fun _ _ => rfl) (by decide) ?_
          refine yG.iast A_hq.1 (v_M_rankWith W H_r2) (W.2.1 _ _ H_r2 (by decide) (by decide)) rfl (by omega) (by omega) ⟨by omega, by omega⟩ (by omega) (by omega) (fun h3 T_h3 b_h3 f_h3 y_h3 => ?_)
          have A_h3 := A_hq.put T_h3 b_h3 f_h3 H_r2 (bAll_ok (by decide) _)
          have : ys h3 2073 11 = ys hq 2073 11 := (y_h3 2073 11).trans (if_neg (fun e => (bRo.ne H_2073 H_r2 (by decide)) e.1))
          have : ys h3 2073 56 = ys hq 2073 56 := (y_h3 2073 56).trans (if_neg (fun e => (bRo.ne H_2073 H_r2 (by decide)) e.1))
          refine yG.iinc rfl (a := a4) rfl (L' := [(4, yI (a4 + 1)), (0, yR 2073), (1, yI (p1)), (2, yI (p2)), (3, yI (a3))]) rfl ?_
          refine yG.goto rfl (t := 5) rfl ?_
          exact yG.mono (yG.sub (i_5 (a3) (a4 + 1) (ys h3 2073 11) (ys h3 2073 56) h3 A_h3  rfl rfl (by omega) (by omega) (by omega) (by omega) (by omega) (by omega) (by omega) (by omega) (by omega) (by omega) (by omega) (by omega) (by omega) (by omega)) (ySub.cons rfl (ySub.cons rfl (ySub.cons rfl (ySub.cons rfl (ySub.cons rfl (ySub.nil))))))) (by omega)
      · intro a3 a4 gg0 gg1 hq A_hq E_0 E_1 f0 f1 f2 f3 f4 f5 f6 f7 f8 f9 f10 f11 f12 f13 f14 f15 hm
        refine yG.mono (N := 31 * m + 31) ?_ (by omega)
        obtain ⟨-, -, g_0l, g_0u⟩ := (w_M_p W H_2073).long A_hq.1
        obtain ⟨-, -, g_1l, g_1u⟩ := (w_M_meters W H_2073).int A_hq.1
        refine yG.load xik rfl (fun _ _ => rfl) (v := yI (a4)) rfl rfl ?_
        refine yG.num (c := 8) rfl (fun _ _ => rfl) (by decide) ?_
        refine yG.icmp rfl (t := 264) rfl ⟨by omega, by omega⟩ ⟨by omega, by omega⟩ (fun c1 => ?_) (fun c1 => ?_)
        · have c1 : (a4 : Int) ≥ 8 := c1
          refine yG.load xak rfl (fun _ _ => rfl) (v := yR 2073) rfl rfl ?_
          refine yG.getO A_hq.1 (w_M_isSeen W H_2073) rfl rfl (fun r2 H_r2 O_r2 q_r2 => ?_)
          obtain rfl := u_M_isSeen W H_r2
          refine yG.load xik rfl (fun _ _ => rfl) (v := yI (p1)) rfl rfl ?_
          refine yG.num (c := 1) rfl (fun _ _ => rfl) (by decide) ?_
          refine yG.bast A_hq.1 (v_M_isSeen W H_r2) (W.2.1 _ _ H_r2 (by decide) (by decide)) rfl (by omega) (by omega) ⟨by omega, by omega⟩ (by omega) (by omega) (fun h3 T_h3 b_h3 f_h3 y_h3 => ?_)
          have A_h3 := A_hq.put T_h3 b_h3 f_h3 H_r2 (bAll_ok (by decide) _)
          have : ys h3 2073 11 = ys hq 2073 11 := (y_h3 2073 11).trans (if_neg (fun e => (bRo.ne H_2073 H_r2 (by decide)) e.1))
          have : ys h3 2073 56 = ys hq 2073 56 := (y_h3 2073 56).trans (if_neg (fun e => (bRo.ne H_2073 H_r2 (by decide)) e.1))
          refine yG.num (c := 0) rfl (fun _ _ => rfl) (by decide) ?_
          refine yG.store1 xik (L' := [(4, yI (0)), (0, yR 2073), (1, yI (p1)), (2, yI (p2)), (3, yI (a3))]) rfl (fun _ _ => rfl) rfl rfl ?_
          exact yG.mono (yG.sub (i_274 (a3) (0) (ys h3 2073 11) (ys h3 2073 56) h3 A_h3  rfl rfl (by omega) (by omega) (by omega) (by omega) (by omega) (by omega) (by omega) (by omega) (by omega) (by omega) (by omega) (by omega) (by omega) (by omega) (by omega) (by omega)) (ySub.cons rfl (ySub.cons rfl (ySub.cons rfl (ySub.cons rfl (ySub.nil)))))) (by omega)
        · have c1 : (a4 : Int) < 8 := c1
          refine yG.load xak rfl (fun _ _ => rfl) (v := yR 2073) rfl rfl ?_
          refine yG.getS (c := 14) rfl rfl ?_
          refine yG.load xik rfl (fun _ _ => rfl) (v := yI (a4)) rfl rfl ?_
          refine yG.iald A_hq.1 (v_M_PRIME W (s_M_PRIME W)) rfl (by omega) (by omega) (fun z4 e_z4 i_z4 l_z4 u_z4 => ?_)
          refine yG.i2l rfl ⟨by omega, by omega⟩ ?_
          refine yG.putJ A_hq.1 (w_M_p W H_2073) (W.2.1 _ _ H_2073 (by decide) (by decide)) rfl rfl rfl ⟨by omega, by omega⟩ (by omega) (by omega) (fun h5 T_h5 b_h5 f_h5 y_h5 => ?_)
          have A_h5 := A_hq.put T_h5 b_h5 f_h5 H_2073 (by decide)
          have : ys h5 2073 56 = ys hq 2073 56 := (y_h5 2073 56).trans (if_neg (fun e => absurd e.2 (by decide)))
          have : ys h5 2073 11 = z4 := (y_h5 2073 11).trans (if_pos ⟨rfl, rfl⟩)
          obtain ⟨v9, hv9, mv9, pv9, lv9⟩ := mPs_get (j := (a4 : Int).toNat) (by omega)
          have pz9 : ys h5 2073 11 = (v9 : Int) := by have q9 := ((M_bPr.fr A_hq (by decide))) (a4 : Int).toNat (by omega) v9 hv9; omega
          refine yG.load xak rfl (fun _ _ => rfl) (v := yR 2073) rfl rfl ?_
          refine yG.load xik rfl (fun _ _ => rfl) (v := yI (p1)) rfl rfl ?_
          refine yG.invV (rest := []) A_h5.1 (bOb (d_M W) H_2073) rfl rfl rfl rfl (c_GModel_showAll_s W d A_h5.1 (M_bMm.fr A_h5 (by decide)) H_2073 (p1) (by omega) (by omega) (by omega) (by omega)) (fun rv h6 q9 => ?_)
          obtain ⟨⟨rfl, R_z7⟩, B_h6⟩ := q9
          have A_h6 := A_h5.tr B_h6 (by decide)
          have : ys h6 2073 56 = ys h5 2073 56 := B_h6.ys H_2073 (by decide)
          have : ys h6 2073 11 = ys h5 2073 11 := B_h6.ys H_2073 (by decide)
          show yG _ _ _ _ _ _ _ _ _ _ [] _
          refine yG.num (c := 0) rfl (fun _ _ => rfl) (by decide) ?_
          refine yG.store1 xik (L' := [(5, yI (0)), (0, yR 2073), (1, yI (p1)), (2, yI (p2)), (3, yI (a3)), (4, yI (a4))]) rfl (fun _ _ => rfl) rfl rfl ?_
          refine yG.num (c := 0) rfl (fun _ _ => rfl) (by decide) ?_
          refine yG.store1 xik (L' := [(6, yI (0)), (5, yI (0)), (0, yR 2073), (1, yI (p1)), (2, yI (p2)), (3, yI (a3)), (4, yI (a4))]) rfl (fun _ _ => rfl) rfl rfl ?_
          refine yG.num (c := 0) rfl (fun _ _ => rfl) (by decide) ?_
          refine yG.store1 xik (L' := [(7, yI (0)), (6, yI (0)), (5, yI (0)), (0, yR 2073), (1, yI (p1)), (2, yI (p2)), (3, yI (a3)), (4, yI (a4))]) rfl (fun _ _ => rfl) rfl rfl ?_
          have rs9 := R_z7
          have ep9 : ys h6 2073 11 = ys h5 2073 11 := B_h6.ys H_2073 (by decide)
          have em9 : ys h6 2073 56 = ys h5 2073 56 := B_h6.ys H_2073 (by decide)
          exact yG.mono (yG.sub (i_60 (a3) (a4) (0) (0) (0) (ys h6 2073 11) (ys h6 2073 56) h6 A_h6  rfl rfl (by omega) (by omega) (by omega) (by omega) (by omega) (by omega) (by omega) (by omega) (by omega) (by omega) (by omega) (by omega) (by omega) (by omega) (by omega) (by omega) (by omega) (by omega) (by omega) (by omega) (by omega) (by omega) (by omega) (by omega) (by rw [em9, ep9, pz9]; rw [pz9] at rs9; exact ⟨pv9, mLd.zero, by omega, rs9.cg (gIm_cg (fun j => B_h6.ys (s_M_island W) (bNo_ok (by decide) j)) (fun j => B_h6.ys (s_M_field W) (bNo_ok (by decide) j)) (fun j => B_h6.ys (s_M_meterKind W) (bNo_ok (by decide) j)) (fun j => B_h6.ys (s_M_meterAt W) (bNo_ok (by decide) j))) (fun _ => rfl)⟩) (by omega)) (ySub.cons rfl (ySub.cons rfl (ySub.cons rfl (ySub.cons rfl (ySub.cons rfl (ySub.cons rfl (ySub.cons rfl (ySub.cons rfl (ySub.nil)))))))))) (by omega)
      · intro a3 a4 a5 a6 a7 gg0 gg1 hq A_hq E_0 E_1 f0 f1 f2 f3 f4 f5 f6 f7 f8 f9 f10 f11 f12 f13 f14 f15 f16 f17 f18 f19 f20 f21 f22 f23 X_60 hm
        refine yG.mono (N := 31 * m + 31) ?_ (by omega)
        obtain ⟨-, -, g_0l, g_0u⟩ := (w_M_p W H_2073).long A_hq.1
        obtain ⟨-, -, g_1l, g_1u⟩ := (w_M_meters W H_2073).int A_hq.1
        have p29 := X_60.1.1
        have a69 := X_60.2.2.1
        refine yG.load xik rfl (fun _ _ => rfl) (v := yI (a7)) rfl rfl ?_
        refine yG.load xak rfl (fun _ _ => rfl) (v := yR 2073) rfl rfl ?_
        refine yG.getI A_hq.1 (w_M_meters W H_2073) rfl rfl (fun z1 e_z1 i_z1 l_z1 u_z1 => ?_)
        rw [show (z1 : Int) = gg1 by omega]
        refine yG.icmp rfl (t := 138) rfl ⟨by omega, by omega⟩ ⟨by omega, by omega⟩ (fun c2 => ?_) (fun c2 => ?_)
        · have c2 : (a7 : Int) ≥ gg1 := c2
          refine yG.load xik rfl (fun _ _ => rfl) (v := yI (a6)) rfl rfl ?_
          refine yG.load xik rfl (fun _ _ => rfl) (v := yI (a3)) rfl rfl ?_
          refine yG.icmp rfl (t := 149) rfl ⟨by omega, by omega⟩ ⟨by omega, by omega⟩ (fun c3 => ?_) (fun c3 => ?_)
          · have c3 : (a6 : Int) ≤ a3 := c3
            refine yG.load xik rfl (fun _ _ => rfl) (v := yI (a3)) rfl rfl ?_
            refine yG.store1 xik (L' := [(3, yI (a3)), (0, yR 2073), (1, yI (p1)), (2, yI (p2)), (4, yI (a4)), (5, yI (a5)), (6, yI (a6)), (7, yI (a7))]) rfl (fun _ _ => rfl) rfl rfl ?_
            refine yG.num (c := 0) rfl (fun _ _ => rfl) (by decide) ?_
            refine yG.store1 xik (L' := [(7, yI (0)), (3, yI (a3)), (0, yR 2073), (1, yI (p1)), (2, yI (p2)), (4, yI (a4)), (5, yI (a5)), (6, yI (a6))]) rfl (fun _ _ => rfl) rfl rfl ?_
            exact yG.mono (yG.sub (i_154 (a3) (a4) (a6) (0) (ys hq 2073 11) (ys hq 2073 56) hq A_hq  rfl rfl (by omega) (by omega) (by omega) (by omega) (by omega) (by omega) (by omega) (by omega) (by omega) (by omega) (by omega) (by omega) (by omega) (by omega) (by omega) (by omega) (by omega) (by omega) (by omega) ⟨X_60.1, X_60.2.1, X_60.2.2.1⟩ (by omega)) (ySub.cons rfl (ySub.cons rfl (ySub.cons rfl (ySub.cons rfl (ySub.cons rfl (ySub.cons rfl (ySub.cons rfl (ySub.nil))))))))) (by omega)
          · have c3 : (a6 : Int) > a3 := c3
            refine yG.load xik rfl (fun _ _ => rfl) (v := yI (a6)) rfl rfl ?_
            refine yG.goto rfl (t := 150) rfl ?_
            refine yG.store1 xik (L' := [(3, yI (a6)), (0, yR 2073), (1, yI (p1)), (2, yI (p2)), (4, yI (a4)), (5, yI (a5)), (6, yI (a6)), (7, yI (a7))]) rfl (fun _ _ => rfl) rfl rfl ?_
            refine yG.num (c := 0) rfl (fun _ _ => rfl) (by decide) ?_
            refine yG.store1 xik (L' := [(7, yI (0)), (3, yI (a6)), (0, yR 2073), (1, yI (p1)), (2, yI (p2)), (4, yI (a4)), (5, yI (a5)), (6, yI (a6))]) rfl (fun _ _ => rfl) rfl rfl ?_
            exact yG.mono (yG.sub (i_154 (a6) (a4) (a6) (0) (ys hq 2073 11) (ys hq 2073 56) hq A_hq  rfl rfl (by omega) (by omega) (by omega) (by omega) (by omega) (by omega) (by omega) (by omega) (by omega) (by omega) (by omega) (by omega) (by omega) (by omega) (by omega) (by omega) (by omega) (by omega) (by omega) ⟨X_60.1, X_60.2.1, X_60.2.2.1⟩ (by omega)) (ySub.cons rfl (ySub.cons rfl (ySub.cons rfl (ySub.cons rfl (ySub.cons rfl (ySub.cons rfl (ySub.cons rfl (ySub.nil))))))))) (by omega)
        · have c2 : (a7 : Int) < gg1 := c2
          refine yG.load xak rfl (fun _ _ => rfl) (v := yR 2073) rfl rfl ?_
          refine yG.load xik rfl (fun _ _ => rfl) (v := yI (a7)) rfl rfl ?_
          refine yG.load xik rfl (fun _ _ => rfl) (v := yI (p1)) rfl rfl ?_
          refine yG.invV (rest := []) A_hq.1 (bOb (d_M W) H_2073) rfl rfl rfl rfl (c_GModel_counts_s W d A_hq.1 (M_bMm.fr A_hq (by decide)) H_2073 (a7) (p1) (by omega) (by omega) (by omega) (by omega)) (fun rv hp9 q9 => ?_)
          obtain ⟨⟨z4, rfl, l_z4, u_z4, R_z4⟩, e9⟩ := q9
          rw [e9]
          show yG _ _ _ _ _ _ _ _ _ _ (yI z4 :: []) _
          refine yG.ifz rfl (t := 132) rfl ⟨by omega, by omega⟩ (fun c5 => ?_) (fun c5 => ?_)
          · have c5 : (z4 : Int) = 0 := c5
            refine yG.iinc rfl (a := a7) rfl (L' := [(7, yI (a7 + 1)), (0, yR 2073), (1, yI (p1)), (2, yI (p2)), (3, yI (a3)), (4, yI (a4)), (5, yI (a5)), (6, yI (a6))]) rfl ?_
            refine yG.goto rfl (t := 60) rfl ?_
            exact yG.mono (yG.sub (i_60 (a3) (a4) (a5) (a6) (a7 + 1) (ys hq 2073 11) (ys hq 2073 56) hq A_hq  rfl rfl (by omega) (by omega) (by omega) (by omega) (by omega) (by omega) (by omega) (by omega) (by omega) (by omega) (by omega) (by omega) (by omega) (by omega) (by omega) (by omega) (by omega) (by omega) (by omega) (by omega) (by omega) (by omega) (by omega) (by omega) X_60 (by omega)) (ySub.cons rfl (ySub.cons rfl (ySub.cons rfl (ySub.cons rfl (ySub.cons rfl (ySub.cons rfl (ySub.cons rfl (ySub.cons rfl (ySub.nil)))))))))) (by omega)
          · have c5 : (z4 : Int) ≠ 0 := c5
            refine yG.num (c := 0) rfl (fun _ _ => rfl) (by decide) ?_
            refine yG.store1 xik (L' := [(8, yI (0)), (0, yR 2073), (1, yI (p1)), (2, yI (p2)), (3, yI (a3)), (4, yI (a4)), (5, yI (a5)), (6, yI (a6)), (7, yI (a7))]) rfl (fun _ _ => rfl) rfl rfl ?_
            have gi9 : gIm hq (a7 : Int).toNat = p1 := R_z4 (by omega)
            exact yG.mono (yG.sub (i_82 (a3) (a4) (a5) (a6) (a7) (0) (ys hq 2073 11) (ys hq 2073 56) hq A_hq  rfl rfl (by omega) (by omega) (by omega) (by omega) (by omega) (by omega) (by omega) (by omega) (by omega) (by omega) (by omega) (by omega) (by omega) (by omega) (by omega) (by omega) (by omega) (by omega) (by omega) (by omega) (by omega) (by omega) (by omega) (by omega) (by omega) (by omega) ⟨X_60.1, X_60.2.1, X_60.2.2.1, X_60.2.2.2, (fun k hk => X_60.2.2.2 (a7 : Int).toNat (by omega) gi9 k (by omega)), mRo.start⟩ (by omega)) (ySub.cons rfl (ySub.cons rfl (ySub.cons rfl (ySub.cons rfl (ySub.cons rfl (ySub.cons rfl (ySub.cons rfl (ySub.cons rfl (ySub.cons rfl (ySub.nil))))))))))) (by omega)
      · intro a3 a4 a5 a6 a7 a8 gg0 gg1 hq A_hq E_0 E_1 f0 f1 f2 f3 f4 f5 f6 f7 f8 f9 f10 f11 f12 f13 f14 f15 f16 f17 f18 f19 f20 f21 f22 f23 f24 f25 X_82 hm
        refine yG.mono (N := 31 * m + 31) ?_ (by omega)
        obtain ⟨-, -, g_0l, g_0u⟩ := (w_M_p W H_2073).long A_hq.1
        obtain ⟨-, -, g_1l, g_1u⟩ := (w_M_meters W H_2073).int A_hq.1
        have p29 := X_82.1.1
        have a69 := X_82.2.2.1
        refine yG.load xik rfl (fun _ _ => rfl) (v := yI (a8)) rfl rfl ?_
        refine yG.load xik rfl (fun _ _ => rfl) (v := yI (p2)) rfl rfl ?_
        refine yG.icmp rfl (t := 120) rfl ⟨by omega, by omega⟩ ⟨by omega, by omega⟩ (fun c1 => ?_) (fun c1 => ?_)
        · have c1 : (a8 : Int) ≥ p2 := c1
          refine yG.load xak rfl (fun _ _ => rfl) (v := yR 2073) rfl rfl ?_
          refine yG.load xik rfl (fun _ _ => rfl) (v := yI (a6)) rfl rfl ?_
          refine yG.load xik rfl (fun _ _ => rfl) (v := yI (p2)) rfl rfl ?_
          refine yG.invV (rest := []) A_hq.1 (bOb (d_M W) H_2073) rfl rfl rfl rfl (c_GModel_reduced_s W (d + 1) A_hq.1 H_2073 (a6) (p2) (by omega) (by omega) (by omega) (by omega) (by omega) (by omega) X_82.1 X_82.2.1 (X_82.2.2.2.2.2.up (by omega))) (fun rv h2 q9 => ?_)
          obtain ⟨q9, T2_z3⟩ := q9
          obtain ⟨⟨z3, rfl, l_z3, u_z3, R_z3⟩, B_h2⟩ := q9
          have R2_z3 := T2_z3 z3 rfl l_z3 u_z3
          have A_h2 := A_hq.tr B_h2 (by decide)
          have : ys h2 2073 11 = ys hq 2073 11 := B_h2.ys H_2073 (by decide)
          have : ys h2 2073 56 = ys hq 2073 56 := B_h2.ys H_2073 (by decide)
          show yG _ _ _ _ _ _ _ _ _ _ (yI z3 :: []) _
          refine yG.store1 xik (L' := [(6, yI (z3)), (0, yR 2073), (1, yI (p1)), (2, yI (p2)), (3, yI (a3)), (4, yI (a4)), (5, yI (a5)), (7, yI (a7)), (8, yI (a8))]) rfl (fun _ _ => rfl) rfl rfl ?_
          refine yG.iinc rfl (a := a5) rfl (L' := [(5, yI (a5 + 1)), (6, yI (z3)), (0, yR 2073), (1, yI (p1)), (2, yI (p2)), (3, yI (a3)), (4, yI (a4)), (7, yI (a7)), (8, yI (a8))]) rfl ?_
          refine yG.iinc rfl (a := a7) rfl (L' := [(7, yI (a7 + 1)), (5, yI (a5 + 1)), (6, yI (z3)), (0, yR 2073), (1, yI (p1)), (2, yI (p2)), (3, yI (a3)), (4, yI (a4)), (8, yI (a8))]) rfl ?_
          refine yG.goto rfl (t := 60) rfl ?_
          have rk9 := R2_z3.rank
          have ep9 : ys h2 2073 11 = ys hq 2073 11 := B_h2.ys H_2073 (by decide)
          have em9 : ys h2 2073 56 = ys hq 2073 56 := B_h2.ys H_2073 (by decide)
          exact yG.mono (yG.sub (i_60 (a3) (a4) (a5 + 1) (z3) (a7 + 1) (ys h2 2073 11) (ys h2 2073 56) h2 A_h2  rfl rfl (by omega) (by omega) (by omega) (by omega) (by omega) (by omega) (by omega) (by omega) (by omega) (by omega) (by omega) (by omega) (by omega) (by omega) (by omega) (by omega) (by omega) (by omega) (by omega) (by omega) (by omega) (by omega) (by omega) (by omega) (by rw [em9, ep9]; exact ⟨X_82.1, R2_z3, by omega, X_82.2.2.2.1.cg (gIm_cg (fun j => B_h2.ys (s_M_island W) (bNo_ok (by decide) j)) (fun j => B_h2.ys (s_M_field W) (bNo_ok (by decide) j)) (fun j => B_h2.ys (s_M_meterKind W) (bNo_ok (by decide) j)) (fun j => B_h2.ys (s_M_meterAt W) (bNo_ok (by decide) j))) (fun j => B_h2.ys (s_M_shows W) (bNo_ok (by decide) j))⟩) (by omega)) (ySub.cons rfl (ySub.cons rfl (ySub.cons rfl (ySub.cons rfl (ySub.cons rfl (ySub.cons rfl (ySub.cons rfl (ySub.cons rfl (ySub.nil)))))))))) (by omega)
        · have c1 : (a8 : Int) < p2 := c1
          refine yG.load xak rfl (fun _ _ => rfl) (v := yR 2073) rfl rfl ?_
          refine yG.getO A_hq.1 (w_M_matrix W H_2073) rfl rfl (fun r4 H_r4 O_r4 q_r4 => ?_)
          obtain rfl := u_M_matrix W H_r4
          refine yG.num (c := 48) rfl (fun _ _ => rfl) (by decide) ?_
          refine yG.load xik rfl (fun _ _ => rfl) (v := yI (a6)) rfl rfl ?_
          refine yG.imul rfl ?_
          refine yG.load xik rfl (fun _ _ => rfl) (v := yI (a8)) rfl rfl ?_
          refine yG.iadd rfl ?_
          refine yG.load xak rfl (fun _ _ => rfl) (v := yR 2073) rfl rfl ?_
          refine yG.getO A_hq.1 (w_M_shows W H_2073) rfl rfl (fun r5 H_r5 O_r5 q_r5 => ?_)
          obtain rfl := u_M_shows W H_r5
          refine yG.num (c := 16) rfl (fun _ _ => rfl) (by decide) ?_
          refine yG.load xik rfl (fun _ _ => rfl) (v := yI (a7)) rfl rfl ?_
          refine yG.imul rfl ?_
          refine yG.load xik rfl (fun _ _ => rfl) (v := yI (a8)) rfl rfl ?_
          refine yG.iadd rfl ?_
          refine yG.lald A_hq.1 (v_M_shows W H_r5) rfl (by omega) (by omega) (fun z6 e_z6 i_z6 l_z6 u_z6 => ?_)
          refine yG.last A_hq.1 (v_M_matrix W H_r4) (W.2.1 _ _ H_r4 (by decide) (by decide)) rfl (by omega) (by omega) ⟨by omega, by omega⟩ (by omega) (by omega) (fun h7 T_h7 b_h7 f_h7 y_h7 => ?_)
          have A_h7 := A_hq.put T_h7 b_h7 f_h7 H_r4 (bAll_ok (by decide) _)
          have : ys h7 2073 11 = ys hq 2073 11 := (y_h7 2073 11).trans (if_neg (fun e => (bRo.ne H_2073 H_r4 (by decide)) e.1))
          have : ys h7 2073 56 = ys hq 2073 56 := (y_h7 2073 56).trans (if_neg (fun e => (bRo.ne H_2073 H_r4 (by decide)) e.1))
          refine yG.iinc rfl (a := a8) rfl (L' := [(8, yI (a8 + 1)), (0, yR 2073), (1, yI (p1)), (2, yI (p2)), (3, yI (a3)), (4, yI (a4)), (5, yI (a5)), (6, yI (a6)), (7, yI (a7))]) rfl ?_
          refine yG.goto rfl (t := 82) rfl ?_
          have ep9 : ys h7 2073 11 = ys hq 2073 11 := (fun j => (y_h7 2073 j).trans (if_neg (fun e => absurd e.1 (by decide)))) 11
          have em9 : ys h7 2073 56 = ys hq 2073 56 := (fun j => (y_h7 2073 j).trans (if_neg (fun e => absurd e.1 (by decide)))) 56
          have rv9 := X_82.2.2.2.2.1.at (k := (a8 : Int).toNat) (by omega) e_z6 (by omega)
          exact yG.mono (yG.sub (i_82 (a3) (a4) (a5) (a6) (a7) (a8 + 1) (ys h7 2073 11) (ys h7 2073 56) h7 A_h7  rfl rfl (by omega) (by omega) (by omega) (by omega) (by omega) (by omega) (by omega) (by omega) (by omega) (by omega) (by omega) (by omega) (by omega) (by omega) (by omega) (by omega) (by omega) (by omega) (by omega) (by omega) (by omega) (by omega) (by omega) (by omega) (by omega) (by omega) (by rw [em9, ep9]; exact ⟨X_82.1, X_82.2.1.put (show (p2 : Int).toNat ≤ 48 by omega) (r := (a6 : Int).toNat) (k := (a8 : Int).toNat) (by omega) (by omega) y_h7 (by omega), X_82.2.2.1, X_82.2.2.2.1.cg (gIm_cg (fun j => (y_h7 2101 j).trans (if_neg (fun e => absurd e.1 (by decide)))) (fun j => (y_h7 2089 j).trans (if_neg (fun e => absurd e.1 (by decide)))) (fun j => (y_h7 2115 j).trans (if_neg (fun e => absurd e.1 (by decide)))) (fun j => (y_h7 2116 j).trans (if_neg (fun e => absurd e.1 (by decide))))) (fun j => (y_h7 2122 j).trans (if_neg (fun e => absurd e.1 (by decide)))), X_82.2.2.2.2.1.cg (fun j => (y_h7 2122 j).trans (if_neg (fun e => absurd e.1 (by decide)))), X_82.2.2.2.2.2.put (k := (a8 : Int).toNat) (by omega) (by omega) y_h7 (by omega) rv9.1 rv9.2⟩) (by omega)) (ySub.cons rfl (ySub.cons rfl (ySub.cons rfl (ySub.cons rfl (ySub.cons rfl (ySub.cons rfl (ySub.cons rfl (ySub.cons rfl (ySub.cons rfl (ySub.nil))))))))))) (by omega)
      · intro a3 a4 a6 a7 gg0 gg1 hq A_hq E_0 E_1 f0 f1 f2 f3 f4 f5 f6 f7 f8 f9 f10 f11 f12 f13 f14 f15 f16 f17 f18 X_154 hm
        refine yG.mono (N := 31 * m + 31) ?_ (by omega)
        obtain ⟨-, -, g_0l, g_0u⟩ := (w_M_p W H_2073).long A_hq.1
        obtain ⟨-, -, g_1l, g_1u⟩ := (w_M_meters W H_2073).int A_hq.1
        have p29 := X_154.1.1
        have a69 := X_154.2.2
        refine yG.load xik rfl (fun _ _ => rfl) (v := yI (a7)) rfl rfl ?_
        refine yG.load xik rfl (fun _ _ => rfl) (v := yI (p2)) rfl rfl ?_
        refine yG.icmp rfl (t := 258) rfl ⟨by omega, by omega⟩ ⟨by omega, by omega⟩ (fun c1 => ?_) (fun c1 => ?_)
        · have c1 : (a7 : Int) ≥ p2 := c1
          refine yG.iinc rfl (a := a4) rfl (L' := [(4, yI (a4 + 1)), (0, yR 2073), (1, yI (p1)), (2, yI (p2)), (3, yI (a3)), (6, yI (a6)), (7, yI (a7))]) rfl ?_
          refine yG.goto rfl (t := 28) rfl ?_
          exact yG.mono (yG.sub (i_28 (a3) (a4 + 1) (ys hq 2073 11) (ys hq 2073 56) hq A_hq  rfl rfl (by omega) (by omega) (by omega) (by omega) (by omega) (by omega) (by omega) (by omega) (by omega) (by omega) (by omega) (by omega) (by omega) (by omega) (by omega) (by omega) (by omega)) (ySub.cons rfl (ySub.cons rfl (ySub.cons rfl (ySub.cons rfl (ySub.cons rfl (ySub.nil))))))) (by omega)
        · have c1 : (a7 : Int) < p2 := c1
          refine yG.num (c := 0) rfl (fun _ _ => rfl) (by decide) ?_
          refine yG.store1 xik (L' := [(8, yI (0)), (0, yR 2073), (1, yI (p1)), (2, yI (p2)), (3, yI (a3)), (4, yI (a4)), (6, yI (a6)), (7, yI (a7))]) rfl (fun _ _ => rfl) rfl rfl ?_
          exact yG.mono (yG.sub (i_163 (a3) (a4) (a6) (a7) (0) (ys hq 2073 11) (ys hq 2073 56) hq A_hq  rfl rfl (by omega) (by omega) (by omega) (by omega) (by omega) (by omega) (by omega) (by omega) (by omega) (by omega) (by omega) (by omega) (by omega) (by omega) (by omega) (by omega) (by omega) (by omega) (by omega) (by omega) (by omega) (by omega) ⟨X_154.1, X_154.2.1, X_154.2.2, mRo.start⟩ (by omega)) (ySub.cons rfl (ySub.cons rfl (ySub.cons rfl (ySub.cons rfl (ySub.cons rfl (ySub.cons rfl (ySub.cons rfl (ySub.cons rfl (ySub.nil)))))))))) (by omega)
      · intro a3 a4 a6 a7 a8 gg0 gg1 hq A_hq E_0 E_1 f0 f1 f2 f3 f4 f5 f6 f7 f8 f9 f10 f11 f12 f13 f14 f15 f16 f17 f18 f19 f20 f21 X_163 hm
        refine yG.mono (N := 31 * m + 31) ?_ (by omega)
        obtain ⟨-, -, g_0l, g_0u⟩ := (w_M_p W H_2073).long A_hq.1
        obtain ⟨-, -, g_1l, g_1u⟩ := (w_M_meters W H_2073).int A_hq.1
        have p29 := X_163.1.1
        have a69 := X_163.2.2.1
        refine yG.load xik rfl (fun _ _ => rfl) (v := yI (a8)) rfl rfl ?_
        refine yG.load xik rfl (fun _ _ => rfl) (v := yI (p2)) rfl rfl ?_
        refine yG.icmp rfl (t := 200) rfl ⟨by omega, by omega⟩ ⟨by omega, by omega⟩ (fun c1 => ?_) (fun c1 => ?_)
        · have c1 : (a8 : Int) ≥ p2 := c1
          refine yG.load xak rfl (fun _ _ => rfl) (v := yR 2073) rfl rfl ?_
          refine yG.load xik rfl (fun _ _ => rfl) (v := yI (a6)) rfl rfl ?_
          refine yG.load xik rfl (fun _ _ => rfl) (v := yI (p2)) rfl rfl ?_
          refine yG.invV (rest := []) A_hq.1 (bOb (d_M W) H_2073) rfl rfl rfl rfl (c_GModel_isNew_s W (d + 2) A_hq.1 H_2073 (a6) (p2) (by omega) (by omega) (by omega) (by omega) (by omega) (by omega) X_163.1 X_163.2.1 (X_163.2.2.2.up (by omega))) (fun rv h2 q9 => ?_)
          obtain ⟨q9, T2_z3⟩ := q9
          obtain ⟨⟨z3, rfl, l_z3, u_z3, R_z3⟩, B_h2⟩ := q9
          have R2_z3 := T2_z3 z3 rfl l_z3 u_z3
          have A_h2 := A_hq.tr B_h2 (by decide)
          have : ys h2 2073 11 = ys hq 2073 11 := B_h2.ys H_2073 (by decide)
          have : ys h2 2073 56 = ys hq 2073 56 := B_h2.ys H_2073 (by decide)
          show yG _ _ _ _ _ _ _ _ _ _ (yI z3 :: []) _
          refine yG.ifz rfl (t := 217) rfl ⟨by omega, by omega⟩ (fun c4 => ?_) (fun c4 => ?_)
          · have c4 : (z3 : Int) = 0 := c4
            clear R_z3
            refine yG.load xik rfl (fun _ _ => rfl) (v := yI (a6)) rfl rfl ?_
            refine yG.store1 xik (L' := [(8, yI (a6)), (0, yR 2073), (1, yI (p1)), (2, yI (p2)), (3, yI (a3)), (4, yI (a4)), (6, yI (a6)), (7, yI (a7))]) rfl (fun _ _ => rfl) rfl rfl ?_
            refine yG.load xak rfl (fun _ _ => rfl) (v := yR 2073) rfl rfl ?_
            refine yG.getO A_h2.1 (w_M_rankWith W H_2073) rfl rfl (fun r5 H_r5 O_r5 q_r5 => ?_)
            obtain rfl := u_M_rankWith W H_r5
            refine yG.load xik rfl (fun _ _ => rfl) (v := yI (a7)) rfl rfl ?_
            refine yG.load xik rfl (fun _ _ => rfl) (v := yI (a6)) rfl rfl ?_
            refine yG.load xak rfl (fun _ _ => rfl) (v := yR 2073) rfl rfl ?_
            refine yG.getS9 A_h2.1 (w_M_rankWith W H_2073) q_r5 rfl rfl ?_
            refine yG.load xik rfl (fun _ _ => rfl) (v := yI (a7)) rfl rfl ?_
            refine yG.iald A_h2.1 (v_M_rankWith W H_r5) rfl (by omega) (by omega) (fun z6 e_z6 i_z6 l_z6 u_z6 => ?_)
            refine yG.icmp rfl (t := 244) rfl ⟨by omega, by omega⟩ ⟨by omega, by omega⟩ (fun c7 => ?_) (fun c7 => ?_)
            · have c7 : (a6 : Int) ≤ z6 := c7
              refine yG.load xak rfl (fun _ _ => rfl) (v := yR 2073) rfl rfl ?_
              refine yG.getS9 A_h2.1 (w_M_rankWith W H_2073) q_r5 rfl rfl ?_
              refine yG.load xik rfl (fun _ _ => rfl) (v := yI (a7)) rfl rfl ?_
              refine yG.iald A_h2.1 (v_M_rankWith W H_r5) rfl (by omega) (by omega) (fun z8 e_z8 i_z8 l_z8 u_z8 => ?_)
              rw [show (z8 : Int) = z6 by omega]
              refine yG.iast A_h2.1 (v_M_rankWith W H_r5) (W.2.1 _ _ H_r5 (by decide) (by decide)) rfl (by omega) (by omega) ⟨by omega, by omega⟩ (by omega) (by omega) (fun h9 T_h9 b_h9 f_h9 y_h9 => ?_)
              have A_h9 := A_h2.put T_h9 b_h9 f_h9 H_r5 (bAll_ok (by decide) _)
              have : ys h9 2073 11 = ys h2 2073 11 := (y_h9 2073 11).trans (if_neg (fun e => (bRo.ne H_2073 H_r5 (by decide)) e.1))
              have : ys h9 2073 56 = ys h2 2073 56 := (y_h9 2073 56).trans (if_neg (fun e => (bRo.ne H_2073 H_r5 (by decide)) e.1))
              have qq1 : zsl h9 2073 67 = yR 2124 := ((f_h9 2073 67).trans (if_neg (fun e => (bRo.ne H_2073 H_r5 (by decide)) e.1))).trans q_r5
              have : ys h9 2124 (a7 : Int).toNat = z6 := (y_h9 2124 _).trans (if_pos ⟨rfl, rfl⟩)
              refine yG.iinc rfl (a := a7) rfl (L' := [(7, yI (a7 + 1)), (8, yI (a6)), (0, yR 2073), (1, yI (p1)), (2, yI (p2)), (3, yI (a3)), (4, yI (a4)), (6, yI (a6))]) rfl ?_
              refine yG.goto rfl (t := 154) rfl ?_
              have ep8 : ys h2 2073 11 = ys hq 2073 11 := B_h2.ys H_2073 (by decide)
              have ep9 : ys h9 2073 11 = ys hq 2073 11 := ((fun j => (y_h9 2073 j).trans (if_neg (fun e => absurd e.1 (by decide)))) 11).trans ep8
              exact yG.mono (yG.sub (i_154 (a3) (a4) (a6) (a7 + 1) (ys h9 2073 11) (ys h9 2073 56) h9 A_h9  rfl rfl (by omega) (by omega) (by omega) (by omega) (by omega) (by omega) (by omega) (by omega) (by omega) (by omega) (by omega) (by omega) (by omega) (by omega) (by omega) (by omega) (by omega) (by omega) (by omega) (by rw [ep9]; exact ⟨X_163.1, R2_z3.1.cg (show (p2 : Int).toNat ≤ 48 by omega) (fun s _ j _ => (fun j => (y_h9 2083 j).trans (if_neg (fun e => absurd e.1 (by decide)))) _), X_163.2.2.1⟩) (by omega)) (ySub.cons rfl (ySub.cons rfl (ySub.cons rfl (ySub.cons rfl (ySub.cons rfl (ySub.cons rfl (ySub.cons rfl (ySub.nil))))))))) (by omega)
            · have c7 : (a6 : Int) > z6 := c7
              refine yG.load xik rfl (fun _ _ => rfl) (v := yI (a6)) rfl rfl ?_
              refine yG.goto rfl (t := 251) rfl ?_
              refine yG.iast A_h2.1 (v_M_rankWith W H_r5) (W.2.1 _ _ H_r5 (by decide) (by decide)) rfl (by omega) (by omega) ⟨by omega, by omega⟩ (by omega) (by omega) (fun h10 T_h10 b_h10 f_h10 y_h10 => ?_)
              have A_h10 := A_h2.put T_h10 b_h10 f_h10 H_r5 (bAll_ok (by decide) _)
              have : ys h10 2073 11 = ys h2 2073 11 := (y_h10 2073 11).trans (if_neg (fun e => (bRo.ne H_2073 H_r5 (by decide)) e.1))
              have : ys h10 2073 56 = ys h2 2073 56 := (y_h10 2073 56).trans (if_neg (fun e => (bRo.ne H_2073 H_r5 (by decide)) e.1))
              have qq2 : zsl h10 2073 67 = yR 2124 := ((f_h10 2073 67).trans (if_neg (fun e => (bRo.ne H_2073 H_r5 (by decide)) e.1))).trans q_r5
              have : ys h10 2124 (a7 : Int).toNat = a6 := (y_h10 2124 _).trans (if_pos ⟨rfl, rfl⟩)
              refine yG.iinc rfl (a := a7) rfl (L' := [(7, yI (a7 + 1)), (8, yI (a6)), (0, yR 2073), (1, yI (p1)), (2, yI (p2)), (3, yI (a3)), (4, yI (a4)), (6, yI (a6))]) rfl ?_
              refine yG.goto rfl (t := 154) rfl ?_
              have ep8 : ys h2 2073 11 = ys hq 2073 11 := B_h2.ys H_2073 (by decide)
              have ep9 : ys h10 2073 11 = ys hq 2073 11 := ((fun j => (y_h10 2073 j).trans (if_neg (fun e => absurd e.1 (by decide)))) 11).trans ep8
              exact yG.mono (yG.sub (i_154 (a3) (a4) (a6) (a7 + 1) (ys h10 2073 11) (ys h10 2073 56) h10 A_h10  rfl rfl (by omega) (by omega) (by omega) (by omega) (by omega) (by omega) (by omega) (by omega) (by omega) (by omega) (by omega) (by omega) (by omega) (by omega) (by omega) (by omega) (by omega) (by omega) (by omega) (by rw [ep9]; exact ⟨X_163.1, R2_z3.1.cg (show (p2 : Int).toNat ≤ 48 by omega) (fun s _ j _ => (fun j => (y_h10 2083 j).trans (if_neg (fun e => absurd e.1 (by decide)))) _), X_163.2.2.1⟩) (by omega)) (ySub.cons rfl (ySub.cons rfl (ySub.cons rfl (ySub.cons rfl (ySub.cons rfl (ySub.cons rfl (ySub.cons rfl (ySub.nil))))))))) (by omega)
          · have c4 : (z3 : Int) ≠ 0 := c4
            replace R_z3 := R_z3 (by omega)
            refine yG.load xik rfl (fun _ _ => rfl) (v := yI (a6)) rfl rfl ?_
            refine yG.num (c := 1) rfl (fun _ _ => rfl) (by decide) ?_
            refine yG.iadd rfl ?_
            refine yG.goto rfl (t := 219) rfl ?_
            obtain ⟨z11, e_z11⟩ : ∃ z : Int, z = a6 + 1 := ⟨_, rfl⟩
            rw [← e_z11]
            refine yG.store1 xik (L' := [(8, yI (z11)), (0, yR 2073), (1, yI (p1)), (2, yI (p2)), (3, yI (a3)), (4, yI (a4)), (6, yI (a6)), (7, yI (a7))]) rfl (fun _ _ => rfl) rfl rfl ?_
            refine yG.load xak rfl (fun _ _ => rfl) (v := yR 2073) rfl rfl ?_
            refine yG.getO A_h2.1 (w_M_rankWith W H_2073) rfl rfl (fun r12 H_r12 O_r12 q_r12 => ?_)
            obtain rfl := u_M_rankWith W H_r12
            refine yG.load xik rfl (fun _ _ => rfl) (v := yI (a7)) rfl rfl ?_
            refine yG.load xik rfl (fun _ _ => rfl) (v := yI (z11)) rfl rfl ?_
            refine yG.load xak rfl (fun _ _ => rfl) (v := yR 2073) rfl rfl ?_
            refine yG.getS9 A_h2.1 (w_M_rankWith W H_2073) q_r12 rfl rfl ?_
            refine yG.load xik rfl (fun _ _ => rfl) (v := yI (a7)) rfl rfl ?_
            refine yG.iald A_h2.1 (v_M_rankWith W H_r12) rfl (by omega) (by omega) (fun z13 e_z13 i_z13 l_z13 u_z13 => ?_)
            refine yG.icmp rfl (t := 244) rfl ⟨by omega, by omega⟩ ⟨by omega, by omega⟩ (fun c14 => ?_) (fun c14 => ?_)
            · have c14 : (z11 : Int) ≤ z13 := c14
              refine yG.load xak rfl (fun _ _ => rfl) (v := yR 2073) rfl rfl ?_
              refine yG.getS9 A_h2.1 (w_M_rankWith W H_2073) q_r12 rfl rfl ?_
              refine yG.load xik rfl (fun _ _ => rfl) (v := yI (a7)) rfl rfl ?_
              refine yG.iald A_h2.1 (v_M_rankWith W H_r12) rfl (by omega) (by omega) (fun z15 e_z15 i_z15 l_z15 u_z15 => ?_)
              rw [show (z15 : Int) = z13 by omega]
              refine yG.iast A_h2.1 (v_M_rankWith W H_r12) (W.2.1 _ _ H_r12 (by decide) (by decide)) rfl (by omega) (by omega) ⟨by omega, by omega⟩ (by omega) (by omega) (fun h16 T_h16 b_h16 f_h16 y_h16 => ?_)
              have A_h16 := A_h2.put T_h16 b_h16 f_h16 H_r12 (bAll_ok (by decide) _)
              have : ys h16 2073 11 = ys h2 2073 11 := (y_h16 2073 11).trans (if_neg (fun e => (bRo.ne H_2073 H_r12 (by decide)) e.1))
              have : ys h16 2073 56 = ys h2 2073 56 := (y_h16 2073 56).trans (if_neg (fun e => (bRo.ne H_2073 H_r12 (by decide)) e.1))
              have qq3 : zsl h16 2073 67 = yR 2124 := ((f_h16 2073 67).trans (if_neg (fun e => (bRo.ne H_2073 H_r12 (by decide)) e.1))).trans q_r12
              have : ys h16 2124 (a7 : Int).toNat = z13 := (y_h16 2124 _).trans (if_pos ⟨rfl, rfl⟩)
              refine yG.iinc rfl (a := a7) rfl (L' := [(7, yI (a7 + 1)), (8, yI (z11)), (0, yR 2073), (1, yI (p1)), (2, yI (p2)), (3, yI (a3)), (4, yI (a4)), (6, yI (a6))]) rfl ?_
              refine yG.goto rfl (t := 154) rfl ?_
              have ep8 : ys h2 2073 11 = ys hq 2073 11 := B_h2.ys H_2073 (by decide)
              have ep9 : ys h16 2073 11 = ys hq 2073 11 := ((fun j => (y_h16 2073 j).trans (if_neg (fun e => absurd e.1 (by decide)))) 11).trans ep8
              exact yG.mono (yG.sub (i_154 (a3) (a4) (a6) (a7 + 1) (ys h16 2073 11) (ys h16 2073 56) h16 A_h16  rfl rfl (by omega) (by omega) (by omega) (by omega) (by omega) (by omega) (by omega) (by omega) (by omega) (by omega) (by omega) (by omega) (by omega) (by omega) (by omega) (by omega) (by omega) (by omega) (by omega) (by rw [ep9]; exact ⟨X_163.1, R2_z3.1.cg (show (p2 : Int).toNat ≤ 48 by omega) (fun s _ j _ => (fun j => (y_h16 2083 j).trans (if_neg (fun e => absurd e.1 (by decide)))) _), X_163.2.2.1⟩) (by omega)) (ySub.cons rfl (ySub.cons rfl (ySub.cons rfl (ySub.cons rfl (ySub.cons rfl (ySub.cons rfl (ySub.cons rfl (ySub.nil))))))))) (by omega)
            · have c14 : (z11 : Int) > z13 := c14
              refine yG.load xik rfl (fun _ _ => rfl) (v := yI (z11)) rfl rfl ?_
              refine yG.goto rfl (t := 251) rfl ?_
              refine yG.iast A_h2.1 (v_M_rankWith W H_r12) (W.2.1 _ _ H_r12 (by decide) (by decide)) rfl (by omega) (by omega) ⟨by omega, by omega⟩ (by omega) (by omega) (fun h17 T_h17 b_h17 f_h17 y_h17 => ?_)
              have A_h17 := A_h2.put T_h17 b_h17 f_h17 H_r12 (bAll_ok (by decide) _)
              have : ys h17 2073 11 = ys h2 2073 11 := (y_h17 2073 11).trans (if_neg (fun e => (bRo.ne H_2073 H_r12 (by decide)) e.1))
              have : ys h17 2073 56 = ys h2 2073 56 := (y_h17 2073 56).trans (if_neg (fun e => (bRo.ne H_2073 H_r12 (by decide)) e.1))
              have qq4 : zsl h17 2073 67 = yR 2124 := ((f_h17 2073 67).trans (if_neg (fun e => (bRo.ne H_2073 H_r12 (by decide)) e.1))).trans q_r12
              have : ys h17 2124 (a7 : Int).toNat = z11 := (y_h17 2124 _).trans (if_pos ⟨rfl, rfl⟩)
              refine yG.iinc rfl (a := a7) rfl (L' := [(7, yI (a7 + 1)), (8, yI (z11)), (0, yR 2073), (1, yI (p1)), (2, yI (p2)), (3, yI (a3)), (4, yI (a4)), (6, yI (a6))]) rfl ?_
              refine yG.goto rfl (t := 154) rfl ?_
              have ep8 : ys h2 2073 11 = ys hq 2073 11 := B_h2.ys H_2073 (by decide)
              have ep9 : ys h17 2073 11 = ys hq 2073 11 := ((fun j => (y_h17 2073 j).trans (if_neg (fun e => absurd e.1 (by decide)))) 11).trans ep8
              exact yG.mono (yG.sub (i_154 (a3) (a4) (a6) (a7 + 1) (ys h17 2073 11) (ys h17 2073 56) h17 A_h17  rfl rfl (by omega) (by omega) (by omega) (by omega) (by omega) (by omega) (by omega) (by omega) (by omega) (by omega) (by omega) (by omega) (by omega) (by omega) (by omega) (by omega) (by omega) (by omega) (by omega) (by rw [ep9]; exact ⟨X_163.1, R2_z3.1.cg (show (p2 : Int).toNat ≤ 48 by omega) (fun s _ j _ => (fun j => (y_h17 2083 j).trans (if_neg (fun e => absurd e.1 (by decide)))) _), X_163.2.2.1⟩) (by omega)) (ySub.cons rfl (ySub.cons rfl (ySub.cons rfl (ySub.cons rfl (ySub.cons rfl (ySub.cons rfl (ySub.cons rfl (ySub.nil))))))))) (by omega)
        · have c1 : (a8 : Int) < p2 := c1
          refine yG.load xak rfl (fun _ _ => rfl) (v := yR 2073) rfl rfl ?_
          refine yG.getO A_hq.1 (w_M_matrix W H_2073) rfl rfl (fun r18 H_r18 O_r18 q_r18 => ?_)
          obtain rfl := u_M_matrix W H_r18
          refine yG.num (c := 48) rfl (fun _ _ => rfl) (by decide) ?_
          refine yG.load xik rfl (fun _ _ => rfl) (v := yI (a6)) rfl rfl ?_
          refine yG.imul rfl ?_
          refine yG.load xik rfl (fun _ _ => rfl) (v := yI (a8)) rfl rfl ?_
          refine yG.iadd rfl ?_
          refine yG.load xik rfl (fun _ _ => rfl) (v := yI (a8)) rfl rfl ?_
          refine yG.load xik rfl (fun _ _ => rfl) (v := yI (a7)) rfl rfl ?_
          refine yG.icmp rfl (t := 192) rfl ⟨by omega, by omega⟩ ⟨by omega, by omega⟩ (fun c19 => ?_) (fun c19 => ?_)
          · have c19 : (a8 : Int) ≠ a7 := c19
            refine yG.numl (c := 0) rfl (fun _ _ => rfl) (by decide) ?_
            refine yG.last A_hq.1 (v_M_matrix W H_r18) (W.2.1 _ _ H_r18 (by decide) (by decide)) rfl (by omega) (by omega) ⟨by omega, by omega⟩ (by omega) (by omega) (fun h20 T_h20 b_h20 f_h20 y_h20 => ?_)
            have A_h20 := A_hq.put T_h20 b_h20 f_h20 H_r18 (bAll_ok (by decide) _)
            have : ys h20 2073 11 = ys hq 2073 11 := (y_h20 2073 11).trans (if_neg (fun e => (bRo.ne H_2073 H_r18 (by decide)) e.1))
            have : ys h20 2073 56 = ys hq 2073 56 := (y_h20 2073 56).trans (if_neg (fun e => (bRo.ne H_2073 H_r18 (by decide)) e.1))
            refine yG.iinc rfl (a := a8) rfl (L' := [(8, yI (a8 + 1)), (0, yR 2073), (1, yI (p1)), (2, yI (p2)), (3, yI (a3)), (4, yI (a4)), (6, yI (a6)), (7, yI (a7))]) rfl ?_
            refine yG.goto rfl (t := 163) rfl ?_
            have ep9 : ys h20 2073 11 = ys hq 2073 11 := (fun j => (y_h20 2073 j).trans (if_neg (fun e => absurd e.1 (by decide)))) 11
            exact yG.mono (yG.sub (i_163 (a3) (a4) (a6) (a7) (a8 + 1) (ys h20 2073 11) (ys h20 2073 56) h20 A_h20  rfl rfl (by omega) (by omega) (by omega) (by omega) (by omega) (by omega) (by omega) (by omega) (by omega) (by omega) (by omega) (by omega) (by omega) (by omega) (by omega) (by omega) (by omega) (by omega) (by omega) (by omega) (by omega) (by omega) (by rw [ep9]; exact ⟨X_163.1, X_163.2.1.put (show (p2 : Int).toNat ≤ 48 by omega) (r := (a6 : Int).toNat) (k := (a8 : Int).toNat) (by omega) (by omega) y_h20 (by omega), X_163.2.2.1, X_163.2.2.2.put (k := (a8 : Int).toNat) (by omega) (by omega) y_h20 (by omega) (by omega) (by omega)⟩) (by omega)) (ySub.cons rfl (ySub.cons rfl (ySub.cons rfl (ySub.cons rfl (ySub.cons rfl (ySub.cons rfl (ySub.cons rfl (ySub.cons rfl (ySub.nil)))))))))) (by omega)
          · have c19 : (a8 : Int) = a7 := c19
            refine yG.numl (c := 1) rfl (fun _ _ => rfl) (by decide) ?_
            refine yG.goto rfl (t := 193) rfl ?_
            refine yG.last A_hq.1 (v_M_matrix W H_r18) (W.2.1 _ _ H_r18 (by decide) (by decide)) rfl (by omega) (by omega) ⟨by omega, by omega⟩ (by omega) (by omega) (fun h21 T_h21 b_h21 f_h21 y_h21 => ?_)
            have A_h21 := A_hq.put T_h21 b_h21 f_h21 H_r18 (bAll_ok (by decide) _)
            have : ys h21 2073 11 = ys hq 2073 11 := (y_h21 2073 11).trans (if_neg (fun e => (bRo.ne H_2073 H_r18 (by decide)) e.1))
            have : ys h21 2073 56 = ys hq 2073 56 := (y_h21 2073 56).trans (if_neg (fun e => (bRo.ne H_2073 H_r18 (by decide)) e.1))
            refine yG.iinc rfl (a := a8) rfl (L' := [(8, yI (a8 + 1)), (0, yR 2073), (1, yI (p1)), (2, yI (p2)), (3, yI (a3)), (4, yI (a4)), (6, yI (a6)), (7, yI (a7))]) rfl ?_
            refine yG.goto rfl (t := 163) rfl ?_
            have ep9 : ys h21 2073 11 = ys hq 2073 11 := (fun j => (y_h21 2073 j).trans (if_neg (fun e => absurd e.1 (by decide)))) 11
            exact yG.mono (yG.sub (i_163 (a3) (a4) (a6) (a7) (a8 + 1) (ys h21 2073 11) (ys h21 2073 56) h21 A_h21  rfl rfl (by omega) (by omega) (by omega) (by omega) (by omega) (by omega) (by omega) (by omega) (by omega) (by omega) (by omega) (by omega) (by omega) (by omega) (by omega) (by omega) (by omega) (by omega) (by omega) (by omega) (by omega) (by omega) (by rw [ep9]; exact ⟨X_163.1, X_163.2.1.put (show (p2 : Int).toNat ≤ 48 by omega) (r := (a6 : Int).toNat) (k := (a8 : Int).toNat) (by omega) (by omega) y_h21 (by omega), X_163.2.2.1, X_163.2.2.2.put (k := (a8 : Int).toNat) (by omega) (by omega) y_h21 (by omega) (by omega) (by omega)⟩) (by omega)) (ySub.cons rfl (ySub.cons rfl (ySub.cons rfl (ySub.cons rfl (ySub.cons rfl (ySub.cons rfl (ySub.cons rfl (ySub.cons rfl (ySub.nil)))))))))) (by omega)
      · intro a3 a4 gg0 gg1 hq A_hq E_0 E_1 f0 f1 f2 f3 f4 f5 f6 f7 f8 f9 f10 f11 f12 f13 f14 hm
        refine yG.mono (N := 31 * m + 31) ?_ (by omega)
        obtain ⟨-, -, g_0l, g_0u⟩ := (w_M_p W H_2073).long A_hq.1
        obtain ⟨-, -, g_1l, g_1u⟩ := (w_M_meters W H_2073).int A_hq.1
        refine yG.load xik rfl (fun _ _ => rfl) (v := yI (a4)) rfl rfl ?_
        refine yG.load xik rfl (fun _ _ => rfl) (v := yI (p2)) rfl rfl ?_
        refine yG.icmp rfl (t := 316) rfl ⟨by omega, by omega⟩ ⟨by omega, by omega⟩ (fun c1 => ?_) (fun c1 => ?_)
        · have c1 : (a4 : Int) ≥ p2 := c1
          refine yG.ret rfl (fun _ _ => rfl) ?_
          exact (yP.void ⟨⟨rfl, trivial⟩, A_hq⟩)
        · have c1 : (a4 : Int) < p2 := c1
          refine yG.load xak rfl (fun _ _ => rfl) (v := yR 2073) rfl rfl ?_
          refine yG.getO A_hq.1 (w_M_isSeen W H_2073) rfl rfl (fun r2 H_r2 O_r2 q_r2 => ?_)
          obtain rfl := u_M_isSeen W H_r2
          refine yG.load xak rfl (fun _ _ => rfl) (v := yR 2073) rfl rfl ?_
          refine yG.getO A_hq.1 (w_M_nodeAt W H_2073) rfl rfl (fun r3 H_r3 O_r3 q_r3 => ?_)
          obtain rfl := u_M_nodeAt W H_r3
          refine yG.load xik rfl (fun _ _ => rfl) (v := yI (a4)) rfl rfl ?_
          refine yG.num (c := 1) rfl (fun _ _ => rfl) (by decide) ?_
          refine yG.iadd rfl ?_
          refine yG.iald A_hq.1 (v_M_nodeAt W H_r3) rfl (by omega) (by omega) (fun z4 e_z4 i_z4 l_z4 u_z4 => ?_)
          refine yG.load xak rfl (fun _ _ => rfl) (v := yR 2073) rfl rfl ?_
          refine yG.getO A_hq.1 (w_M_rankWith W H_2073) rfl rfl (fun r5 H_r5 O_r5 q_r5 => ?_)
          obtain rfl := u_M_rankWith W H_r5
          refine yG.load xik rfl (fun _ _ => rfl) (v := yI (a4)) rfl rfl ?_
          refine yG.iald A_hq.1 (v_M_rankWith W H_r5) rfl (by omega) (by omega) (fun z6 e_z6 i_z6 l_z6 u_z6 => ?_)
          refine yG.load xik rfl (fun _ _ => rfl) (v := yI (a3)) rfl rfl ?_
          refine yG.icmp rfl (t := 308) rfl ⟨by omega, by omega⟩ ⟨by omega, by omega⟩ (fun c7 => ?_) (fun c7 => ?_)
          · have c7 : (z6 : Int) ≠ a3 := c7
            refine yG.num (c := 0) rfl (fun _ _ => rfl) (by decide) ?_
            refine yG.bast A_hq.1 (v_M_isSeen W H_r2) (W.2.1 _ _ H_r2 (by decide) (by decide)) rfl (by omega) (by omega) ⟨by omega, by omega⟩ (by omega) (by omega) (fun h8 T_h8 b_h8 f_h8 y_h8 => ?_)
            have A_h8 := A_hq.put T_h8 b_h8 f_h8 H_r2 (bAll_ok (by decide) _)
            have : ys h8 2073 11 = ys hq 2073 11 := (y_h8 2073 11).trans (if_neg (fun e => (bRo.ne H_2073 H_r2 (by decide)) e.1))
            have : ys h8 2073 56 = ys hq 2073 56 := (y_h8 2073 56).trans (if_neg (fun e => (bRo.ne H_2073 H_r2 (by decide)) e.1))
            refine yG.iinc rfl (a := a4) rfl (L' := [(4, yI (a4 + 1)), (0, yR 2073), (2, yI (p2)), (3, yI (a3))]) rfl ?_
            refine yG.goto rfl (t := 274) rfl ?_
            exact yG.mono (yG.sub (i_274 (a3) (a4 + 1) (ys h8 2073 11) (ys h8 2073 56) h8 A_h8  rfl rfl (by omega) (by omega) (by omega) (by omega) (by omega) (by omega) (by omega) (by omega) (by omega) (by omega) (by omega) (by omega) (by omega) (by omega) (by omega) (by omega)) (ySub.cons rfl (ySub.cons rfl (ySub.cons rfl (ySub.cons rfl (ySub.nil)))))) (by omega)
          · have c7 : (z6 : Int) = a3 := c7
            refine yG.num (c := 1) rfl (fun _ _ => rfl) (by decide) ?_
            refine yG.goto rfl (t := 309) rfl ?_
            refine yG.bast A_hq.1 (v_M_isSeen W H_r2) (W.2.1 _ _ H_r2 (by decide) (by decide)) rfl (by omega) (by omega) ⟨by omega, by omega⟩ (by omega) (by omega) (fun h9 T_h9 b_h9 f_h9 y_h9 => ?_)
            have A_h9 := A_hq.put T_h9 b_h9 f_h9 H_r2 (bAll_ok (by decide) _)
            have : ys h9 2073 11 = ys hq 2073 11 := (y_h9 2073 11).trans (if_neg (fun e => (bRo.ne H_2073 H_r2 (by decide)) e.1))
            have : ys h9 2073 56 = ys hq 2073 56 := (y_h9 2073 56).trans (if_neg (fun e => (bRo.ne H_2073 H_r2 (by decide)) e.1))
            refine yG.iinc rfl (a := a4) rfl (L' := [(4, yI (a4 + 1)), (0, yR 2073), (2, yI (p2)), (3, yI (a3))]) rfl ?_
            refine yG.goto rfl (t := 274) rfl ?_
            exact yG.mono (yG.sub (i_274 (a3) (a4 + 1) (ys h9 2073 11) (ys h9 2073 56) h9 A_h9  rfl rfl (by omega) (by omega) (by omega) (by omega) (by omega) (by omega) (by omega) (by omega) (by omega) (by omega) (by omega) (by omega) (by omega) (by omega) (by omega) (by omega)) (ySub.cons rfl (ySub.cons rfl (ySub.cons rfl (ySub.cons rfl (ySub.nil)))))) (by omega)
  refine yC.of (M := (xt_X13_seenOf, (9, (0, (14, []))))) rfl rfl (N := 77933070) (yfuel (by decide)) ?_
  show yG 89 xfts (xcall 89 xfts xpools xms (d + 5)) (xpool xp_RX13) [] xt_X13_seenOf (yP 0 (fun rv hp' => (rv = none ∧ True) ∧ bAx G [(83076749736557242056487941267521536, 11), (350760392959501770960614594467773768369281752367104, 256)] hp hp')) 77933070 0 [(0, yR 2073), (1, yI (p1)), (2, yI (p2))] [] hp
  obtain ⟨i_5, i_28, i_60, i_82, i_154, i_163, i_274⟩ := H 2513969
  obtain ⟨gg0, E_0⟩ : ∃ z : Int, ys hp 2073 11 = z := ⟨_, rfl⟩
  obtain ⟨-, -, g_0l, g_0u⟩ := (w_M_p W H_2073).long hT
  obtain ⟨gg1, E_1⟩ : ∃ z : Int, ys hp 2073 56 = z := ⟨_, rfl⟩
  obtain ⟨-, -, g_1l, g_1u⟩ := (w_M_meters W H_2073).int hT
  refine yG.num (c := 0) rfl (fun _ _ => rfl) (by decide) ?_
  refine yG.store1 xik (L' := [(3, yI (0)), (0, yR 2073), (1, yI (p1)), (2, yI (p2))]) rfl (fun _ _ => rfl) rfl rfl ?_
  refine yG.num (c := 0) rfl (fun _ _ => rfl) (by decide) ?_
  refine yG.store1 xik (L' := [(4, yI (0)), (3, yI (0)), (0, yR 2073), (1, yI (p1)), (2, yI (p2))]) rfl (fun _ _ => rfl) rfl rfl ?_
  exact yG.mono (yG.sub (i_5 (0) (0) (ys hp 2073 11) (ys hp 2073 56) hp A_hp  rfl rfl (by omega) (by omega) (by omega) (by omega) (by omega) (by omega) (by omega) (by omega) (by omega) (by omega) (by omega) (by omega) (by omega) (by omega)) (ySub.cons rfl (ySub.cons rfl (ySub.cons rfl (ySub.cons rfl (ySub.cons rfl (ySub.nil))))))) (by omega)
end MSeen
