/-! ===== the reference: equations by a prime ===== -/
section MSolve
variable {G : zW}
theorem c_GModel_mod_s {hp : xH} (W : mW G) (d : Nat) (hT : zTy G hp) (H_2073 : bRo G 116 2073) (p1 : Int) (h1l : (-9223372036854775808) ≤ p1) (h1u : p1 ≤ 9223372036854775807) (q0l : 1 ≤ ys hp 2073 11) (q0u : ys hp 2073 11 ≤ 2147483647) : yC (xcall 89 xfts xpools xms (d + 1)) 457 [yR 2073, yJ (p1)] hp (bQpj hp 0 2147483646 (fun z => 0 ≤ ys hp 2073 11 - z - 1 ∧ (ys hp 2073 11) ∣ z - p1)) := by
  have A_hp : bAx G [] hp hp := bAx.rf hT
  refine yC.of (M := (xt_X13_mod, (5, (2, (14, []))))) rfl rfl (N := 51) (yfuel (by decide)) ?_
  show yG 89 xfts (xcall 89 xfts xpools xms d) (xpool xp_RX13) [] xt_X13_mod (yP 2 (bQpj hp 0 2147483646 (fun z => 0 ≤ ys hp 2073 11 - z - 1 ∧ (ys hp 2073 11) ∣ z - p1))) 51 0 [(0, yR 2073), (1, yJ (p1))] [] hp
  obtain ⟨gg0, E_0⟩ : ∃ z : Int, ys hp 2073 11 = z := ⟨_, rfl⟩
  obtain ⟨-, -, g_0l, g_0u⟩ := (w_M_p W H_2073).long hT
  refine yG.load xlk2 rfl (fun _ _ => rfl) (v := yJ (p1)) rfl rfl ?_
  refine yG.load xak rfl (fun _ _ => rfl) (v := yR 2073) rfl rfl ?_
  refine yG.getJ A_hp.1 (w_M_p W H_2073) rfl rfl (fun z1 e_z1 i_z1 l_z1 u_z1 => ?_)
  rw [show (z1 : Int) = gg0 by omega]
  refine yG.lremX rfl ⟨by omega, by omega⟩ ⟨by omega, by omega⟩ (by omega) (fun z2 l_z2 u_z2 d_z2 => ?_)
  refine yG.store2 xlk2 (L' := [(3, yJ (z2)), (0, yR 2073), (1, yJ (p1))]) rfl (fun _ _ => rfl) rfl rfl ?_
  refine yG.load xlk2 rfl (fun _ _ => rfl) (v := yJ (z2)) rfl rfl ?_
  refine yG.numl (c := 0) rfl (fun _ _ => rfl) (by decide) ?_
  refine yG.lcmp rfl ⟨by omega, by omega⟩ ⟨by omega, by omega⟩ (fun z3 e_z3 => ?_)
  refine yG.ifz rfl (t := 22) rfl ⟨by omega, by omega⟩ (fun c4 => ?_) (fun c4 => ?_)
  · have c4 : (z3 : Int) ≥ 0 := c4
    refine yG.load xlk2 rfl (fun _ _ => rfl) (v := yJ (z2)) rfl rfl ?_
    refine yG.ret rfl (fun _ _ => rfl) ?_
    exact (yP.long ⟨by omega, by omega⟩ ⟨⟨z2, rfl, by omega, by omega, ⟨by omega, (by rw [show (ys hp 2073 11) = gg0 by omega]; first | exact mMod3 d_z2 | exact mMod2 d_z2)⟩⟩, rfl⟩)
  · have c4 : (z3 : Int) < 0 := c4
    refine yG.load xlk2 rfl (fun _ _ => rfl) (v := yJ (z2)) rfl rfl ?_
    refine yG.load xak rfl (fun _ _ => rfl) (v := yR 2073) rfl rfl ?_
    refine yG.getJ A_hp.1 (w_M_p W H_2073) rfl rfl (fun z5 e_z5 i_z5 l_z5 u_z5 => ?_)
    rw [show (z5 : Int) = gg0 by omega]
    refine yG.ladd rfl ?_
    refine yG.goto rfl (t := 23) rfl ?_
    refine yG.ret rfl (fun _ _ => rfl) ?_
    exact (yP.long ⟨by omega, by omega⟩ ⟨⟨z2 + gg0, rfl, by omega, by omega, ⟨by omega, (by rw [show (ys hp 2073 11) = gg0 by omega]; first | exact mMod3 d_z2 | exact mMod2 d_z2)⟩⟩, rfl⟩)
theorem c_GModel_inverse_s {hp : xH} (W : mW G) (d : Nat) (hT : zTy G hp) (H_2073 : bRo G 116 2073) (p1 p3 : Int) (h1l : 0 ≤ p1) (h1u : p1 ≤ 2147483647) (h3l : 1 ≤ p3) (h3u : p3 ≤ 2147483647) : yC (xcall 89 xfts xpools xms (d + 1)) 419 [yR 2073, yJ (p1), yJ (p3)] hp (bQpj hp 0 2147483646 (fun z => 0 ≤ p3 - z ∧ (mPr (p3 : Int).toNat → ¬ p3 ∣ p1 → p3 ∣ p1 * z - 1))) := by
  have A_hp : bAx G [] hp hp := bAx.rf hT
  have H : ∀ m : Nat, (∀ a5 : Int, ∀ a7 : Int, ∀ a9 : Int, 0 ≤ a5 → (-2147483646) ≤ 0 - a5 → 0 ≤ a7 → (-2147483646) ≤ 0 - a7 → (-1) ≤ a9 → (-2147483645) ≤ 0 - a9 → 0 ≤ p1 → (-2147483647) ≤ 0 - p1 → 1 ≤ p3 → (-2147483647) ≤ 0 - p3 → (-2147483644) ≤ a5 - a9 → (-2147483646) ≤ 0 - a5 + a9 → 0 ≤ 0 - a5 + p3 → 1 ≤ 0 - a7 + p3 → (-2147483647) ≤ a9 - p3 → 2 ≤ 0 - a9 + p3 → p3 ∣ a5 * a7 ^ (a9 : Int).toNat - p1 ^ (p3 - 2 : Int).toNat → 2 * a9 + 3 < (m : Int) → yG 89 xfts (xcall 89 xfts xpools xms d) (xpool xp_RX13) [] xt_X13_inverse (yP 2 (bQpj hp 0 2147483646 (fun z => 0 ≤ p3 - z ∧ (mPr (p3 : Int).toNat → ¬ p3 ∣ p1 → p3 ∣ p1 * z - 1)))) (29 * m) 15 [(3, yJ (p3)), (5, yJ (a5)), (7, yJ (a7)), (9, yJ (a9))] [] hp) := by
    intro m
    induction m with
    | zero =>
      intros; exfalso; omega
    | succ m ih =>
      have i_15 := ih
      clear ih
      intro a5 a7 a9 f0 f1 f2 f3 f4 f5 f6 f7 f8 f9 f10 f11 f12 f13 f14 f15 X_15 hm
      refine yG.mono (N := 29 * m + 29) ?_ (by omega)
      refine yG.load xlk2 rfl (fun _ _ => rfl) (v := yJ (a9)) rfl rfl ?_
      refine yG.numl (c := 0) rfl (fun _ _ => rfl) (by decide) ?_
      refine yG.lcmp rfl ⟨by omega, by omega⟩ ⟨by omega, by omega⟩ (fun z1 e_z1 => ?_)
      refine yG.ifz rfl (t := 58) rfl ⟨by omega, by omega⟩ (fun c2 => ?_) (fun c2 => ?_)
      · have c2 : (z1 : Int) ≤ 0 := c2
        refine yG.load xlk2 rfl (fun _ _ => rfl) (v := yJ (a5)) rfl rfl ?_
        refine yG.ret rfl (fun _ _ => rfl) ?_
        exact (yP.long ⟨by omega, by omega⟩ ⟨⟨a5, rfl, by omega, by omega, ⟨by omega, (fun g1 g2 => mInvOf g1 (by omega) g2 (by have := X_15; rw [show (a9 : Int).toNat = 0 by omega, Int.pow_zero, Int.mul_one] at this; exact this))⟩⟩, rfl⟩)
      · have c2 : (z1 : Int) > 0 := c2
        refine yG.load xlk2 rfl (fun _ _ => rfl) (v := yJ (a9)) rfl rfl ?_
        refine yG.numl (c := 1) rfl (fun _ _ => rfl) (by decide) ?_
        refine yG.bit64 rfl (fun _ _ => rfl) (fun z3 e_z3 l_z3 u_z3 => ?_)
        have m_z3 : z3 = (a9) % 2 := by rw [e_z3]; exact yland1 (by omega) (by omega)
        have b_z3 : 0 ≤ z3 ∧ z3 ≤ 1 := by rw [e_z3]; exact yland ⟨by decide, by decide⟩ (by decide)
        refine yG.numl (c := 1) rfl (fun _ _ => rfl) (by decide) ?_
        refine yG.lcmp rfl ⟨by omega, by omega⟩ ⟨by omega, by omega⟩ (fun z4 e_z4 => ?_)
        refine yG.ifz rfl (t := 40) rfl ⟨by omega, by omega⟩ (fun c5 => ?_) (fun c5 => ?_)
        · have c5 : (z4 : Int) ≠ 0 := c5
          refine yG.load xlk2 rfl (fun _ _ => rfl) (v := yJ (a7)) rfl rfl ?_
          refine yG.load xlk2 rfl (fun _ _ => rfl) (v := yJ (a7)) rfl rfl ?_
          refine yG.lmul rfl ?_
          obtain ⟨z6, e_z6⟩ : ∃ z : Int, z = a7 * a7 := ⟨_, rfl⟩
          rw [← e_z6]
          have b_z6 : 0 ≤ z6 ∧ z6 ≤ 4611686009837453316 := e_z6 ▸ ymulb (A := 2147483646) (B := 2147483646) (by omega) (by omega) (by omega) (by omega) (by decide)
          have b2_z6 : z6 ≤ 2147483646 * a7 := e_z6 ▸ bmulx (by omega) (by omega)
          have b3_z6 : z6 ≤ 2147483646 * a7 := e_z6 ▸ bmuly (by omega) (by omega)
          refine yG.load xlk2 rfl (fun _ _ => rfl) (v := yJ (p3)) rfl rfl ?_
          refine yG.lrem rfl ⟨by omega, by omega⟩ ⟨by omega, by omega⟩ (by omega) (by omega) ?_
          obtain ⟨z7, e_z7⟩ : ∃ z : Int, z = (z6) % (p3) := ⟨_, rfl⟩
          rw [← e_z7]
          have b_z7 : 0 ≤ z7 ∧ z7 < p3 := e_z7 ▸ ⟨Int.emod_nonneg _ (by omega), Int.emod_lt_of_pos _ (by omega)⟩
          refine yG.store2 xlk2 (L' := [(7, yJ (z7)), (3, yJ (p3)), (5, yJ (a5)), (9, yJ (a9))]) rfl (fun _ _ => rfl) rfl rfl ?_
          refine yG.load xlk2 rfl (fun _ _ => rfl) (v := yJ (a9)) rfl rfl ?_
          refine yG.num (c := 1) rfl (fun _ _ => rfl) (by decide) ?_
          refine yG.bit64 rfl (fun _ _ => rfl) (fun z8 e_z8 l_z8 u_z8 => ?_)
          have b_z8 : z8 = (a9) / 2 := by rw [e_z8]; exact ylshr (n := 1) ⟨by omega, by omega⟩ (by decide)
          refine yG.store2 xlk2 (L' := [(9, yJ (z8)), (7, yJ (z7)), (3, yJ (p3)), (5, yJ (a5))]) rfl (fun _ _ => rfl) rfl rfl ?_
          refine yG.goto rfl (t := 15) rfl ?_
          exact yG.mono (yG.sub (i_15 (a5) (z7) (z8)     (by omega) (by omega) (by omega) (by omega) (by omega) (by omega) (by omega) (by omega) (by omega) (by omega) (by omega) (by omega) (by omega) (by omega) (by omega) (by omega) (mPow0 (f := (z8 : Int).toNat) X_15 (by omega) (show p3 ∣ z7 - a7 * a7 from by rw [show a7 * a7 = z6 by rw [e_z6]]; exact mdv_mod (by omega) e_z7)) (by omega)) (ySub.cons rfl (ySub.cons rfl (ySub.cons rfl (ySub.cons rfl (ySub.nil)))))) (by omega)
        · have c5 : (z4 : Int) = 0 := c5
          refine yG.load xlk2 rfl (fun _ _ => rfl) (v := yJ (a5)) rfl rfl ?_
          refine yG.load xlk2 rfl (fun _ _ => rfl) (v := yJ (a7)) rfl rfl ?_
          refine yG.lmul rfl ?_
          obtain ⟨z9, e_z9⟩ : ∃ z : Int, z = a5 * a7 := ⟨_, rfl⟩
          rw [← e_z9]
          have b_z9 : 0 ≤ z9 ∧ z9 ≤ 4611686009837453316 := e_z9 ▸ ymulb (A := 2147483646) (B := 2147483646) (by omega) (by omega) (by omega) (by omega) (by decide)
          have b2_z9 : z9 ≤ 2147483646 * a7 := e_z9 ▸ bmulx (by omega) (by omega)
          have b3_z9 : z9 ≤ 2147483646 * a5 := e_z9 ▸ bmuly (by omega) (by omega)
          refine yG.load xlk2 rfl (fun _ _ => rfl) (v := yJ (p3)) rfl rfl ?_
          refine yG.lrem rfl ⟨by omega, by omega⟩ ⟨by omega, by omega⟩ (by omega) (by omega) ?_
          obtain ⟨z10, e_z10⟩ : ∃ z : Int, z = (z9) % (p3) := ⟨_, rfl⟩
          rw [← e_z10]
          have b_z10 : 0 ≤ z10 ∧ z10 < p3 := e_z10 ▸ ⟨Int.emod_nonneg _ (by omega), Int.emod_lt_of_pos _ (by omega)⟩
          refine yG.store2 xlk2 (L' := [(5, yJ (z10)), (3, yJ (p3)), (7, yJ (a7)), (9, yJ (a9))]) rfl (fun _ _ => rfl) rfl rfl ?_
          refine yG.load xlk2 rfl (fun _ _ => rfl) (v := yJ (a7)) rfl rfl ?_
          refine yG.load xlk2 rfl (fun _ _ => rfl) (v := yJ (a7)) rfl rfl ?_
          refine yG.lmul rfl ?_
          obtain ⟨z11, e_z11⟩ : ∃ z : Int, z = a7 * a7 := ⟨_, rfl⟩
          rw [← e_z11]
          have b_z11 : 0 ≤ z11 ∧ z11 ≤ 4611686009837453316 := e_z11 ▸ ymulb (A := 2147483646) (B := 2147483646) (by omega) (by omega) (by omega) (by omega) (by decide)
          have b2_z11 : z11 ≤ 2147483646 * a7 := e_z11 ▸ bmulx (by omega) (by omega)
          have b3_z11 : z11 ≤ 2147483646 * a7 := e_z11 ▸ bmuly (by omega) (by omega)
          refine yG.load xlk2 rfl (fun _ _ => rfl) (v := yJ (p3)) rfl rfl ?_
          refine yG.lrem rfl ⟨by omega, by omega⟩ ⟨by omega, by omega⟩ (by omega) (by omega) ?_
          obtain ⟨z12, e_z12⟩ : ∃ z : Int, z = (z11) % (p3) := ⟨_, rfl⟩
          rw [← e_z12]
          have b_z12 : 0 ≤ z12 ∧ z12 < p3 := e_z12 ▸ ⟨Int.emod_nonneg _ (by omega), Int.emod_lt_of_pos _ (by omega)⟩
          refine yG.store2 xlk2 (L' := [(7, yJ (z12)), (5, yJ (z10)), (3, yJ (p3)), (9, yJ (a9))]) rfl (fun _ _ => rfl) rfl rfl ?_
          refine yG.load xlk2 rfl (fun _ _ => rfl) (v := yJ (a9)) rfl rfl ?_
          refine yG.num (c := 1) rfl (fun _ _ => rfl) (by decide) ?_
          refine yG.bit64 rfl (fun _ _ => rfl) (fun z13 e_z13 l_z13 u_z13 => ?_)
          have b_z13 : z13 = (a9) / 2 := by rw [e_z13]; exact ylshr (n := 1) ⟨by omega, by omega⟩ (by decide)
          refine yG.store2 xlk2 (L' := [(9, yJ (z13)), (7, yJ (z12)), (5, yJ (z10)), (3, yJ (p3))]) rfl (fun _ _ => rfl) rfl rfl ?_
          refine yG.goto rfl (t := 15) rfl ?_
          exact yG.mono (yG.sub (i_15 (z10) (z12) (z13)     (by omega) (by omega) (by omega) (by omega) (by omega) (by omega) (by omega) (by omega) (by omega) (by omega) (by omega) (by omega) (by omega) (by omega) (by omega) (by omega) (mPow1 (f := (z13 : Int).toNat) X_15 (by omega) (show p3 ∣ z10 - a5 * a7 from by rw [show a5 * a7 = z9 by rw [e_z9]]; exact mdv_mod (by omega) e_z10) (show p3 ∣ z12 - a7 * a7 from by rw [show a7 * a7 = z11 by rw [e_z11]]; exact mdv_mod (by omega) e_z12)) (by omega)) (ySub.cons rfl (ySub.cons rfl (ySub.cons rfl (ySub.cons rfl (ySub.nil)))))) (by omega)
  refine yC.of (M := (xt_X13_inverse, (11, (2, (14, []))))) rfl rfl (N := 124554051584) (yfuel (by decide)) ?_
  show yG 89 xfts (xcall 89 xfts xpools xms d) (xpool xp_RX13) [] xt_X13_inverse (yP 2 (bQpj hp 0 2147483646 (fun z => 0 ≤ p3 - z ∧ (mPr (p3 : Int).toNat → ¬ p3 ∣ p1 → p3 ∣ p1 * z - 1)))) 124554051584 0 [(0, yR 2073), (1, yJ (p1)), (3, yJ (p3))] [] hp
  have i_15 := H 4294967295
  refine yG.numl (c := 1) rfl (fun _ _ => rfl) (by decide) ?_
  refine yG.store2 xlk2 (L' := [(5, yJ (1)), (0, yR 2073), (1, yJ (p1)), (3, yJ (p3))]) rfl (fun _ _ => rfl) rfl rfl ?_
  refine yG.load xlk2 rfl (fun _ _ => rfl) (v := yJ (p1)) rfl rfl ?_
  refine yG.load xlk2 rfl (fun _ _ => rfl) (v := yJ (p3)) rfl rfl ?_
  refine yG.lrem rfl ⟨by omega, by omega⟩ ⟨by omega, by omega⟩ (by omega) (by omega) ?_
  obtain ⟨z1, e_z1⟩ : ∃ z : Int, z = (p1) % (p3) := ⟨_, rfl⟩
  rw [← e_z1]
  have b_z1 : 0 ≤ z1 ∧ z1 < p3 := e_z1 ▸ ⟨Int.emod_nonneg _ (by omega), Int.emod_lt_of_pos _ (by omega)⟩
  refine yG.store2 xlk2 (L' := [(7, yJ (z1)), (5, yJ (1)), (0, yR 2073), (1, yJ (p1)), (3, yJ (p3))]) rfl (fun _ _ => rfl) rfl rfl ?_
  refine yG.load xlk2 rfl (fun _ _ => rfl) (v := yJ (p3)) rfl rfl ?_
  refine yG.numl (c := 2) rfl (fun _ _ => rfl) (by decide) ?_
  refine yG.lsub rfl ?_
  obtain ⟨z2, e_z2⟩ : ∃ z : Int, z = p3 - 2 := ⟨_, rfl⟩
  rw [← e_z2]
  refine yG.store2 xlk2 (L' := [(9, yJ (z2)), (7, yJ (z1)), (5, yJ (1)), (0, yR 2073), (1, yJ (p1)), (3, yJ (p3))]) rfl (fun _ _ => rfl) rfl rfl ?_
  exact yG.mono (yG.sub (i_15 (1) (z1) (z2)     (by omega) (by omega) (by omega) (by omega) (by omega) (by omega) (by omega) (by omega) (by omega) (by omega) (by omega) (by omega) (by omega) (by omega) (by omega) (by omega) (by rw [show ((z2 : Int)).toNat = (p3 - 2).toNat by omega, Int.one_mul]; exact mdv_pow (mdv_mod (by omega) e_z1) _) (by omega)) (ySub.cons rfl (ySub.cons rfl (ySub.cons rfl (ySub.cons rfl (ySub.nil)))))) (by omega)
theorem c_GModel_inverse__s {hp : xH} (W : mW G) (d : Nat) (hT : zTy G hp) (H_2073 : bRo G 116 2073) (p1 : Int) (h1l : (-9223372036854775808) ≤ p1) (h1u : p1 ≤ 9223372036854775807) (q0l : 1 ≤ ys hp 2073 11) (q0u : ys hp 2073 11 ≤ 2147483647) : yC (xcall 89 xfts xpools xms (d + 2)) 420 [yR 2073, yJ (p1)] hp (bQpj hp 0 2147483646 (fun z => (mPr ((ys hp 2073 11)).toNat → ¬ (ys hp 2073 11) ∣ p1 → (ys hp 2073 11) ∣ p1 * z - 1))) := by
  have A_hp : bAx G [] hp hp := bAx.rf hT
  refine yC.of (M := (xt_X13_inverse_, (3, (2, (14, []))))) rfl rfl (N := 30) (yfuel (by decide)) ?_
  show yG 89 xfts (xcall 89 xfts xpools xms (d + 1)) (xpool xp_RX13) [] xt_X13_inverse_ (yP 2 (bQpj hp 0 2147483646 (fun z => (mPr ((ys hp 2073 11)).toNat → ¬ (ys hp 2073 11) ∣ p1 → (ys hp 2073 11) ∣ p1 * z - 1)))) 30 0 [(0, yR 2073), (1, yJ (p1))] [] hp
  obtain ⟨gg0, E_0⟩ : ∃ z : Int, ys hp 2073 11 = z := ⟨_, rfl⟩
  obtain ⟨-, -, g_0l, g_0u⟩ := (w_M_p W H_2073).long hT
  refine yG.load xak rfl (fun _ _ => rfl) (v := yR 2073) rfl rfl ?_
  refine yG.load xak rfl (fun _ _ => rfl) (v := yR 2073) rfl rfl ?_
  refine yG.load xlk2 rfl (fun _ _ => rfl) (v := yJ (p1)) rfl rfl ?_
  refine yG.invV (rest := [yR 2073]) A_hp.1 (bOb (d_M W) H_2073) rfl rfl rfl rfl (c_GModel_mod_s W d A_hp.1 H_2073 (p1) (by omega) (by omega) (by omega) (by omega)) (fun rv hp9 q9 => ?_)
  obtain ⟨⟨z1, rfl, l_z1, u_z1, R_z1⟩, e9⟩ := q9
  rw [e9]
  show yG _ _ _ _ _ _ _ _ _ _ (yJ z1 :: [yR 2073]) _
  refine yG.load xak rfl (fun _ _ => rfl) (v := yR 2073) rfl rfl ?_
  refine yG.getJ A_hp.1 (w_M_p W H_2073) rfl rfl (fun z2 e_z2 i_z2 l_z2 u_z2 => ?_)
  rw [show (z2 : Int) = gg0 by omega]
  refine yG.invV (rest := []) A_hp.1 (bOb (d_M W) H_2073) rfl rfl rfl rfl (c_GModel_inverse_s W d A_hp.1 H_2073 (z1) (gg0) (by omega) (by omega) (by omega) (by omega)) (fun rv hp9 q9 => ?_)
  obtain ⟨⟨z3, rfl, l_z3, u_z3, R_z3⟩, e9⟩ := q9
  rw [e9]
  show yG _ _ _ _ _ _ _ _ _ _ (yJ z3 :: []) _
  refine yG.ret rfl (fun _ _ => rfl) ?_
  exact (yP.long ⟨by omega, by omega⟩ ⟨⟨z3, rfl, by omega, by omega, (fun g1 g2 => mInv2 (R_z1.2) (fun g3 => (by have eP : (ys hp 2073 11) = gg0 := (by omega); rw [eP] at g1 g3 ⊢; exact R_z3.2 g1 g3)) g2)⟩, rfl⟩)
theorem c_GModel_swap_s {hp : xH} (W : mW G) (d : Nat) (hT : zTy G hp) (H_2073 : bRo G 116 2073) (p1 p2 p3 : Int) (h1l : 0 ≤ p1) (h1u : p1 ≤ 19) (h2l : 0 ≤ p2) (h2u : p2 ≤ 19) (h3l : (-1) ≤ p3) (h3u : p3 ≤ 48) (g90 : p1 ≠ p2) : yC (xcall 89 xfts xpools xms (d + 1)) 524 [yR 2073, yI (p1), yI (p2), yI (p3)] hp (fun rv hp' => (rv = none ∧ mSwD hp hp' (p1 : Int).toNat (p2 : Int).toNat (p3 : Int).toNat) ∧ bAx G [(85070591730234615865843651857942052864, 256)] hp hp') := by
  have A_hp : bAx G [(85070591730234615865843651857942052864, 256)] hp hp := bAx.rf hT
  have H : ∀ m : Nat, (∀ a4 : Int, ∀ hq, bAx G [(85070591730234615865843651857942052864, 256)] hp hq → 0 ≤ a4 → (-48) ≤ 0 - a4 → 0 ≤ p1 → (-19) ≤ 0 - p1 → 0 ≤ p2 → (-19) ≤ 0 - p2 → (-1) ≤ p3 → (-48) ≤ 0 - p3 → (-1) ≤ 0 - a4 + p3 → mSw hp hq (p1 : Int).toNat (p2 : Int).toNat a4 → 0 - 2 * a4 + 97 < (m : Int) → yG 89 xfts (xcall 89 xfts xpools xms d) (xpool xp_RX13) [] xt_X13_swap (yP 0 (fun rv hp' => (rv = none ∧ mSwD hp hp' (p1 : Int).toNat (p2 : Int).toNat (p3 : Int).toNat) ∧ bAx G [(85070591730234615865843651857942052864, 256)] hp hp')) (41 * m) 3 [(0, yR 2073), (1, yI (p1)), (2, yI (p2)), (3, yI (p3)), (4, yI (a4))] [] hq) := by
    intro m
    induction m with
    | zero =>
      intros; exfalso; omega
    | succ m ih =>
      have i_3 := ih
      clear ih
      intro a4 hq A_hq f0 f1 f2 f3 f4 f5 f6 f7 f8 X_3 hm
      refine yG.mono (N := 41 * m + 41) ?_ (by omega)
      refine yG.load xik rfl (fun _ _ => rfl) (v := yI (a4)) rfl rfl ?_
      refine yG.load xik rfl (fun _ _ => rfl) (v := yI (p3)) rfl rfl ?_
      refine yG.icmp rfl (t := 67) rfl ⟨by omega, by omega⟩ ⟨by omega, by omega⟩ (fun c1 => ?_) (fun c1 => ?_)
      · have c1 : (a4 : Int) ≥ p3 := c1
        refine yG.ret rfl (fun _ _ => rfl) ?_
        exact (yP.void ⟨⟨rfl, (X_3.dn (by omega))⟩, A_hq⟩)
      · have c1 : (a4 : Int) < p3 := c1
        refine yG.load xak rfl (fun _ _ => rfl) (v := yR 2073) rfl rfl ?_
        refine yG.getO A_hq.1 (w_M_matrix W H_2073) rfl rfl (fun r2 H_r2 O_r2 q_r2 => ?_)
        obtain rfl := u_M_matrix W H_r2
        refine yG.num (c := 48) rfl (fun _ _ => rfl) (by decide) ?_
        refine yG.load xik rfl (fun _ _ => rfl) (v := yI (p1)) rfl rfl ?_
        refine yG.imul rfl ?_
        refine yG.load xik rfl (fun _ _ => rfl) (v := yI (a4)) rfl rfl ?_
        refine yG.iadd rfl ?_
        refine yG.lald A_hq.1 (v_M_matrix W H_r2) rfl (by omega) (by omega) (fun z3 e_z3 i_z3 l_z3 u_z3 => ?_)
        refine yG.store2 xlk2 (L' := [(5, yJ (z3)), (0, yR 2073), (1, yI (p1)), (2, yI (p2)), (3, yI (p3)), (4, yI (a4))]) rfl (fun _ _ => rfl) rfl rfl ?_
        refine yG.load xak rfl (fun _ _ => rfl) (v := yR 2073) rfl rfl ?_
        refine yG.getS9 A_hq.1 (w_M_matrix W H_2073) q_r2 rfl rfl ?_
        refine yG.num (c := 48) rfl (fun _ _ => rfl) (by decide) ?_
        refine yG.load xik rfl (fun _ _ => rfl) (v := yI (p1)) rfl rfl ?_
        refine yG.imul rfl ?_
        refine yG.load xik rfl (fun _ _ => rfl) (v := yI (a4)) rfl rfl ?_
        refine yG.iadd rfl ?_
        refine yG.load xak rfl (fun _ _ => rfl) (v := yR 2073) rfl rfl ?_
        refine yG.getS9 A_hq.1 (w_M_matrix W H_2073) q_r2 rfl rfl ?_
        refine yG.num (c := 48) rfl (fun _ _ => rfl) (by decide) ?_
        refine yG.load xik rfl (fun _ _ => rfl) (v := yI (p2)) rfl rfl ?_
        refine yG.imul rfl ?_
        refine yG.load xik rfl (fun _ _ => rfl) (v := yI (a4)) rfl rfl ?_
        refine yG.iadd rfl ?_
        refine yG.lald A_hq.1 (v_M_matrix W H_r2) rfl (by omega) (by omega) (fun z4 e_z4 i_z4 l_z4 u_z4 => ?_)
        refine yG.last A_hq.1 (v_M_matrix W H_r2) (W.2.1 _ _ H_r2 (by decide) (by decide)) rfl (by omega) (by omega) ⟨by omega, by omega⟩ (by omega) (by omega) (fun h5 T_h5 b_h5 f_h5 y_h5 => ?_)
        have A_h5 := A_hq.put T_h5 b_h5 f_h5 H_r2 (bAll_ok (by decide) _)
        have qq1 : zsl h5 2073 12 = yR 2083 := ((f_h5 2073 12).trans (if_neg (fun e => (bRo.ne H_2073 H_r2 (by decide)) e.1))).trans q_r2
        refine yG.load xak rfl (fun _ _ => rfl) (v := yR 2073) rfl rfl ?_
        refine yG.getS9 A_h5.1 (w_M_matrix W H_2073) qq1 rfl rfl ?_
        refine yG.num (c := 48) rfl (fun _ _ => rfl) (by decide) ?_
        refine yG.load xik rfl (fun _ _ => rfl) (v := yI (p2)) rfl rfl ?_
        refine yG.imul rfl ?_
        refine yG.load xik rfl (fun _ _ => rfl) (v := yI (a4)) rfl rfl ?_
        refine yG.iadd rfl ?_
        refine yG.load xlk2 rfl (fun _ _ => rfl) (v := yJ (z3)) rfl rfl ?_
        refine yG.last A_h5.1 (v_M_matrix W H_r2) (W.2.1 _ _ H_r2 (by decide) (by decide)) rfl (by omega) (by omega) ⟨by omega, by omega⟩ (by omega) (by omega) (fun h6 T_h6 b_h6 f_h6 y_h6 => ?_)
        have A_h6 := A_h5.put T_h6 b_h6 f_h6 H_r2 (bAll_ok (by decide) _)
        have qq2 : zsl h6 2073 12 = yR 2083 := ((f_h6 2073 12).trans (if_neg (fun e => (bRo.ne H_2073 H_r2 (by decide)) e.1))).trans qq1
        refine yG.iinc rfl (a := a4) rfl (L' := [(4, yI (a4 + 1)), (5, yJ (z3)), (0, yR 2073), (1, yI (p1)), (2, yI (p2)), (3, yI (p3))]) rfl ?_
        refine yG.goto rfl (t := 3) rfl ?_
        exact yG.mono (yG.sub (i_3 (a4 + 1)  h6 A_h6   (by omega) (by omega) (by omega) (by omega) (by omega) (by omega) (by omega) (by omega) (by omega) (mSw.step (k := (a4 : Int).toNat) X_3 (by omega) (by omega) (by omega) (mmM_at e_z3 (by omega)) (mmM_at e_z4 (by omega)) y_h5 (by omega) y_h6 (by omega)) (by omega)) (ySub.cons rfl (ySub.cons rfl (ySub.cons rfl (ySub.cons rfl (ySub.cons rfl (ySub.nil))))))) (by omega)
  refine yC.of (M := (xt_X13_swap, (7, (0, (14, []))))) rfl rfl (N := 4100) (yfuel (by decide)) ?_
  show yG 89 xfts (xcall 89 xfts xpools xms d) (xpool xp_RX13) [] xt_X13_swap (yP 0 (fun rv hp' => (rv = none ∧ mSwD hp hp' (p1 : Int).toNat (p2 : Int).toNat (p3 : Int).toNat) ∧ bAx G [(85070591730234615865843651857942052864, 256)] hp hp')) 4100 0 [(0, yR 2073), (1, yI (p1)), (2, yI (p2)), (3, yI (p3))] [] hp
  have i_3 := H 99
  refine yG.num (c := 0) rfl (fun _ _ => rfl) (by decide) ?_
  refine yG.store1 xik (L' := [(4, yI (0)), (0, yR 2073), (1, yI (p1)), (2, yI (p2)), (3, yI (p3))]) rfl (fun _ _ => rfl) rfl rfl ?_
  exact yG.mono (yG.sub (i_3 (0)  hp A_hp   (by omega) (by omega) (by omega) (by omega) (by omega) (by omega) (by omega) (by omega) (by omega) mSw.start (by omega)) (ySub.cons rfl (ySub.cons rfl (ySub.cons rfl (ySub.cons rfl (ySub.cons rfl (ySub.nil))))))) (by omega)
theorem c_GModel_clear_s {hp : xH} (W : mW G) (d : Nat) (hT : zTy G hp) (H_2073 : bRo G 116 2073) (p1 p2 p3 p4 : Int) (h1l : 0 ≤ p1) (h1u : p1 ≤ 19) (h2l : 0 ≤ p2) (h2u : p2 ≤ 19) (h3l : 0 ≤ p3) (h3u : p3 ≤ 20) (h4l : (-1) ≤ p4) (h4u : p4 ≤ 48) (q0l : 1 ≤ ys hp 2073 11) (q0u : ys hp 2073 11 ≤ 2147483647) (g90 : mPr ((ys hp 2073 11)).toNat) (g91 : ¬ (ys hp 2073 11) ∣ mmM hp (p1 : Int).toNat (p2 : Int).toNat) : yC (xcall 89 xfts xpools xms (d + 3)) 368 [yR 2073, yI (p1), yI (p2), yI (p3), yI (p4)] hp (fun rv hp' => (rv = none ∧ (mClr hp hp' (ys hp 2073 11) (p1 : Int).toNat (p2 : Int).toNat (p3 : Int).toNat (p4 : Int).toNat ∧ (mRng hp (ys hp 2073 11) (p3 : Int).toNat (p4 : Int).toNat → mRng hp' (ys hp 2073 11) (p3 : Int).toNat (p4 : Int).toNat))) ∧ bAx G [(85070591730234615865843651857942052864, 256)] hp hp') := by
  have A_hp : bAx G [(85070591730234615865843651857942052864, 256)] hp hp := bAx.rf hT
  have H : ∀ m : Nat, (∀ a5 : Int, ∀ a7 : Int, ∀ gg0 : Int, ∀ hq, bAx G [(85070591730234615865843651857942052864, 256)] hp hq → ys hq 2073 11 = gg0 → 0 ≤ a5 → (-2147483646) ≤ 0 - a5 → 0 ≤ a7 → (-48) ≤ 0 - a7 → 1 ≤ gg0 → (-2147483647) ≤ 0 - gg0 → 0 ≤ p1 → (-19) ≤ 0 - p1 → 0 ≤ p2 → (-19) ≤ 0 - p2 → 0 ≤ p3 → (-20) ≤ 0 - p3 → (-1) ≤ p4 → (-48) ≤ 0 - p4 → (-1) ≤ 0 - a7 + p4 → mAq hp hq (ys hp 2073 11) (p1 : Int).toNat (p2 : Int).toNat (p3 : Int).toNat (p4 : Int).toNat a5 a7 → 0 - 2080 * a7 + 101919 < (m : Int) → yG 89 xfts (xcall 89 xfts xpools xms (d + 2)) (xpool xp_RX13) [] xt_X13_clear (yP 0 (fun rv hp' => (rv = none ∧ (mClr hp hp' (ys hp 2073 11) (p1 : Int).toNat (p2 : Int).toNat (p3 : Int).toNat (p4 : Int).toNat ∧ (mRng hp (ys hp 2073 11) (p3 : Int).toNat (p4 : Int).toNat → mRng hp' (ys hp 2073 11) (p3 : Int).toNat (p4 : Int).toNat))) ∧ bAx G [(85070591730234615865843651857942052864, 256)] hp hp')) (46 * m) 20 [(0, yR 2073), (1, yI (p1)), (2, yI (p2)), (3, yI (p3)), (4, yI (p4)), (5, yJ (a5)), (7, yI (a7))] [] hq) ∧ (∀ a7 : Int, ∀ gg0 : Int, ∀ hq, bAx G [(85070591730234615865843651857942052864, 256)] hp hq → ys hq 2073 11 = gg0 → 0 ≤ a7 → (-20) ≤ 0 - a7 → 1 ≤ gg0 → (-2147483647) ≤ 0 - gg0 → 0 ≤ p1 → (-19) ≤ 0 - p1 → 0 ≤ p2 → (-19) ≤ 0 - p2 → 0 ≤ p3 → (-20) ≤ 0 - p3 → (-1) ≤ p4 → (-48) ≤ 0 - p4 → 0 ≤ 0 - a7 + p3 → mBq hp hq (ys hp 2073 11) (p1 : Int).toNat (p2 : Int).toNat (p3 : Int).toNat (p4 : Int).toNat a7 → 0 - 99 * a7 + 2078 < (m : Int) → yG 89 xfts (xcall 89 xfts xpools xms (d + 2)) (xpool xp_RX13) [] xt_X13_clear (yP 0 (fun rv hp' => (rv = none ∧ (mClr hp hp' (ys hp 2073 11) (p1 : Int).toNat (p2 : Int).toNat (p3 : Int).toNat (p4 : Int).toNat ∧ (mRng hp (ys hp 2073 11) (p3 : Int).toNat (p4 : Int).toNat → mRng hp' (ys hp 2073 11) (p3 : Int).toNat (p4 : Int).toNat))) ∧ bAx G [(85070591730234615865843651857942052864, 256)] hp hp')) (46 * m) 68 [(0, yR 2073), (1, yI (p1)), (2, yI (p2)), (3, yI (p3)), (4, yI (p4)), (7, yI (a7))] [] hq) ∧ (∀ a7 : Int, ∀ a8 : Int, ∀ a10 : Int, ∀ gg0 : Int, ∀ hq, bAx G [(85070591730234615865843651857942052864, 256)] hp hq → ys hq 2073 11 = gg0 → 0 ≤ a7 → (-19) ≤ 0 - a7 → 0 ≤ a8 → (-2147483647) ≤ 0 - a8 → 0 ≤ a10 → (-48) ≤ 0 - a10 → 1 ≤ gg0 → (-2147483647) ≤ 0 - gg0 → 0 ≤ p1 → (-19) ≤ 0 - p1 → 0 ≤ p2 → (-19) ≤ 0 - p2 → 1 ≤ p3 → (-20) ≤ 0 - p3 → (-1) ≤ p4 → (-48) ≤ 0 - p4 → (-47) ≤ 0 - a10 + a8 → 1 ≤ 0 - a7 + p3 → (-1) ≤ 0 - a10 + p4 → mCq hp hq (ys hp 2073 11) (p1 : Int).toNat (p2 : Int).toNat (p3 : Int).toNat (p4 : Int).toNat a7 a10 a8 → 0 - 2 * a10 - 99 * a7 + 2077 < (m : Int) → yG 89 xfts (xcall 89 xfts xpools xms (d + 2)) (xpool xp_RX13) [] xt_X13_clear (yP 0 (fun rv hp' => (rv = none ∧ (mClr hp hp' (ys hp 2073 11) (p1 : Int).toNat (p2 : Int).toNat (p3 : Int).toNat (p4 : Int).toNat ∧ (mRng hp (ys hp 2073 11) (p3 : Int).toNat (p4 : Int).toNat → mRng hp' (ys hp 2073 11) (p3 : Int).toNat (p4 : Int).toNat))) ∧ bAx G [(85070591730234615865843651857942052864, 256)] hp hp')) (46 * m) 91 [(0, yR 2073), (1, yI (p1)), (2, yI (p2)), (3, yI (p3)), (4, yI (p4)), (7, yI (a7)), (8, yJ (a8)), (10, yI (a10))] [] hq) := by
    intro m
    induction m with
    | zero =>
      refine ⟨?_, ?_, ?_⟩ <;> (intros; exfalso; omega)
    | succ m ih =>
      obtain ⟨i_20, i_68, i_91⟩ := ih
      refine ⟨?_, ?_, ?_⟩
      · intro a5 a7 gg0 hq A_hq E_0 f0 f1 f2 f3 f4 f5 f6 f7 f8 f9 f10 f11 f12 f13 f14 X_20 hm
        refine yG.mono (N := 46 * m + 46) ?_ (by omega)
        obtain ⟨-, -, g_0l, g_0u⟩ := (w_M_p W H_2073).long A_hq.1
        have pq : ys hq 2073 11 = ys hp 2073 11 := A_hq.ys H_2073 (by decide)
        refine yG.load xik rfl (fun _ _ => rfl) (v := yI (a7)) rfl rfl ?_
        refine yG.load xik rfl (fun _ _ => rfl) (v := yI (p4)) rfl rfl ?_
        refine yG.icmp rfl (t := 65) rfl ⟨by omega, by omega⟩ ⟨by omega, by omega⟩ (fun c1 => ?_) (fun c1 => ?_)
        · have c1 : (a7 : Int) ≥ p4 := c1
          refine yG.num (c := 0) rfl (fun _ _ => rfl) (by decide) ?_
          refine yG.store1 xik (L' := [(7, yI (0)), (0, yR 2073), (1, yI (p1)), (2, yI (p2)), (3, yI (p3)), (4, yI (p4)), (5, yJ (a5))]) rfl (fun _ _ => rfl) rfl rfl ?_
          exact yG.mono (yG.sub (i_68 (0) (ys hq 2073 11) hq A_hq  rfl (by omega) (by omega) (by omega) (by omega) (by omega) (by omega) (by omega) (by omega) (by omega) (by omega) (by omega) (by omega) (by omega) (X_20.done (by omega)) (by omega)) (ySub.cons rfl (ySub.cons rfl (ySub.cons rfl (ySub.cons rfl (ySub.cons rfl (ySub.cons rfl (ySub.nil)))))))) (by omega)
        · have c1 : (a7 : Int) < p4 := c1
          refine yG.load xak rfl (fun _ _ => rfl) (v := yR 2073) rfl rfl ?_
          refine yG.getO A_hq.1 (w_M_matrix W H_2073) rfl rfl (fun r2 H_r2 O_r2 q_r2 => ?_)
          obtain rfl := u_M_matrix W H_r2
          refine yG.num (c := 48) rfl (fun _ _ => rfl) (by decide) ?_
          refine yG.load xik rfl (fun _ _ => rfl) (v := yI (p1)) rfl rfl ?_
          refine yG.imul rfl ?_
          refine yG.load xik rfl (fun _ _ => rfl) (v := yI (a7)) rfl rfl ?_
          refine yG.iadd rfl ?_
          refine yG.load xak rfl (fun _ _ => rfl) (v := yR 2073) rfl rfl ?_
          refine yG.getS9 A_hq.1 (w_M_matrix W H_2073) q_r2 rfl rfl ?_
          refine yG.num (c := 48) rfl (fun _ _ => rfl) (by decide) ?_
          refine yG.load xik rfl (fun _ _ => rfl) (v := yI (p1)) rfl rfl ?_
          refine yG.imul rfl ?_
          refine yG.load xik rfl (fun _ _ => rfl) (v := yI (a7)) rfl rfl ?_
          refine yG.iadd rfl ?_
          refine yG.lald A_hq.1 (v_M_matrix W H_r2) rfl (by omega) (by omega) (fun z3 e_z3 i_z3 l_z3 u_z3 => ?_)
          refine yG.load xlk2 rfl (fun _ _ => rfl) (v := yJ (a5)) rfl rfl ?_
          refine yG.lmul rfl ?_
          obtain ⟨z4, e_z4⟩ : ∃ z : Int, z = z3 * a5 := ⟨_, rfl⟩
          rw [← e_z4]
          have b_z4 : 0 ≤ z4 ∧ z4 ≤ 4611686011984936962 := e_z4 ▸ ymulb (A := 2147483647) (B := 2147483646) (by omega) (by omega) (by omega) (by omega) (by decide)
          have b2_z4 : z4 ≤ 2147483647 * a5 := e_z4 ▸ bmulx (by omega) (by omega)
          have b3_z4 : z4 ≤ 2147483646 * z3 := e_z4 ▸ bmuly (by omega) (by omega)
          refine yG.load xak rfl (fun _ _ => rfl) (v := yR 2073) rfl rfl ?_
          refine yG.getJ A_hq.1 (w_M_p W H_2073) rfl rfl (fun z5 e_z5 i_z5 l_z5 u_z5 => ?_)
          rw [show (z5 : Int) = gg0 by omega]
          refine yG.lrem rfl ⟨by omega, by omega⟩ ⟨by omega, by omega⟩ (by omega) (by omega) ?_
          obtain ⟨z6, e_z6⟩ : ∃ z : Int, z = (z4) % (gg0) := ⟨_, rfl⟩
          rw [← e_z6]
          have b_z6 : 0 ≤ z6 ∧ z6 < gg0 := e_z6 ▸ ⟨Int.emod_nonneg _ (by omega), Int.emod_lt_of_pos _ (by omega)⟩
          refine yG.last A_hq.1 (v_M_matrix W H_r2) (W.2.1 _ _ H_r2 (by decide) (by decide)) rfl (by omega) (by omega) ⟨by omega, by omega⟩ (by omega) (by omega) (fun h7 T_h7 b_h7 f_h7 y_h7 => ?_)
          have A_h7 := A_hq.put T_h7 b_h7 f_h7 H_r2 (bAll_ok (by decide) _)
          have : ys h7 2073 11 = ys hq 2073 11 := (y_h7 2073 11).trans (if_neg (fun e => (bRo.ne H_2073 H_r2 (by decide)) e.1))
          have qq1 : zsl h7 2073 12 = yR 2083 := ((f_h7 2073 12).trans (if_neg (fun e => (bRo.ne H_2073 H_r2 (by decide)) e.1))).trans q_r2
          refine yG.iinc rfl (a := a7) rfl (L' := [(7, yI (a7 + 1)), (0, yR 2073), (1, yI (p1)), (2, yI (p2)), (3, yI (p3)), (4, yI (p4)), (5, yJ (a5))]) rfl ?_
          refine yG.goto rfl (t := 20) rfl ?_
          exact yG.mono (yG.sub (i_20 (a5) (a7 + 1) (ys h7 2073 11) h7 A_h7  rfl (by omega) (by omega) (by omega) (by omega) (by omega) (by omega) (by omega) (by omega) (by omega) (by omega) (by omega) (by omega) (by omega) (by omega) (by omega) (mAq.step (k := (a7 : Int).toNat) X_20 (by omega) (by omega) y_h7 (by omega) (mmM_at e_z3 (by omega)) (by rw [show (ys hp 2073 11) = gg0 by omega]; exact (show gg0 ∣ z6 - z3 * a5 from by rw [show z3 * a5 = z4 by rw [e_z4]]; exact mdv_mod (by omega) e_z6)) (by omega) (by omega)) (by omega)) (ySub.cons rfl (ySub.cons rfl (ySub.cons rfl (ySub.cons rfl (ySub.cons rfl (ySub.cons rfl (ySub.cons rfl (ySub.nil))))))))) (by omega)
      · intro a7 gg0 hq A_hq E_0 f0 f1 f2 f3 f4 f5 f6 f7 f8 f9 f10 f11 f12 X_68 hm
        refine yG.mono (N := 46 * m + 46) ?_ (by omega)
        obtain ⟨-, -, g_0l, g_0u⟩ := (w_M_p W H_2073).long A_hq.1
        have pq : ys hq 2073 11 = ys hp 2073 11 := A_hq.ys H_2073 (by decide)
        refine yG.load xik rfl (fun _ _ => rfl) (v := yI (a7)) rfl rfl ?_
        refine yG.load xik rfl (fun _ _ => rfl) (v := yI (p3)) rfl rfl ?_
        refine yG.icmp rfl (t := 174) rfl ⟨by omega, by omega⟩ ⟨by omega, by omega⟩ (fun c1 => ?_) (fun c1 => ?_)
        · have c1 : (a7 : Int) ≥ p3 := c1
          refine yG.ret rfl (fun _ _ => rfl) ?_
          exact (yP.void ⟨⟨rfl, (X_68.clr (by omega) (by omega))⟩, A_hq⟩)
        · have c1 : (a7 : Int) < p3 := c1
          refine yG.load xak rfl (fun _ _ => rfl) (v := yR 2073) rfl rfl ?_
          refine yG.getO A_hq.1 (w_M_matrix W H_2073) rfl rfl (fun r2 H_r2 O_r2 q_r2 => ?_)
          obtain rfl := u_M_matrix W H_r2
          refine yG.num (c := 48) rfl (fun _ _ => rfl) (by decide) ?_
          refine yG.load xik rfl (fun _ _ => rfl) (v := yI (a7)) rfl rfl ?_
          refine yG.imul rfl ?_
          refine yG.load xik rfl (fun _ _ => rfl) (v := yI (p2)) rfl rfl ?_
          refine yG.iadd rfl ?_
          refine yG.lald A_hq.1 (v_M_matrix W H_r2) rfl (by omega) (by omega) (fun z3 e_z3 i_z3 l_z3 u_z3 => ?_)
          refine yG.store2 xlk2 (L' := [(8, yJ (z3)), (0, yR 2073), (1, yI (p1)), (2, yI (p2)), (3, yI (p3)), (4, yI (p4)), (7, yI (a7))]) rfl (fun _ _ => rfl) rfl rfl ?_
          refine yG.num (c := 0) rfl (fun _ _ => rfl) (by decide) ?_
          refine yG.store1 xik (L' := [(10, yI (0)), (8, yJ (z3)), (0, yR 2073), (1, yI (p1)), (2, yI (p2)), (3, yI (p3)), (4, yI (p4)), (7, yI (a7))]) rfl (fun _ _ => rfl) rfl rfl ?_
          exact yG.mono (yG.sub (i_91 (a7) (z3) (0) (ys hq 2073 11) hq A_hq  rfl (by omega) (by omega) (by omega) (by omega) (by omega) (by omega) (by omega) (by omega) (by omega) (by omega) (by omega) (by omega) (by omega) (by omega) (by omega) (by omega) (by omega) (by omega) (by omega) (X_68.start (by omega) (fun r hr => mmM_at e_z3 (by omega))) (by omega)) (ySub.cons rfl (ySub.cons rfl (ySub.cons rfl (ySub.cons rfl (ySub.cons rfl (ySub.cons rfl (ySub.cons rfl (ySub.cons rfl (ySub.nil)))))))))) (by omega)
      · intro a7 a8 a10 gg0 hq A_hq E_0 f0 f1 f2 f3 f4 f5 f6 f7 f8 f9 f10 f11 f12 f13 f14 f15 f16 f17 f18 X_91 hm
        refine yG.mono (N := 46 * m + 46) ?_ (by omega)
        obtain ⟨-, -, g_0l, g_0u⟩ := (w_M_p W H_2073).long A_hq.1
        have pq : ys hq 2073 11 = ys hp 2073 11 := A_hq.ys H_2073 (by decide)
        refine yG.load xik rfl (fun _ _ => rfl) (v := yI (a10)) rfl rfl ?_
        refine yG.load xik rfl (fun _ _ => rfl) (v := yI (p4)) rfl rfl ?_
        refine yG.icmp rfl (t := 168) rfl ⟨by omega, by omega⟩ ⟨by omega, by omega⟩ (fun c1 => ?_) (fun c1 => ?_)
        · have c1 : (a10 : Int) ≥ p4 := c1
          refine yG.iinc rfl (a := a7) rfl (L' := [(7, yI (a7 + 1)), (0, yR 2073), (1, yI (p1)), (2, yI (p2)), (3, yI (p3)), (4, yI (p4)), (8, yJ (a8)), (10, yI (a10))]) rfl ?_
          refine yG.goto rfl (t := 68) rfl ?_
          exact yG.mono (yG.sub (i_68 (a7 + 1) (ys hq 2073 11) hq A_hq  rfl (by omega) (by omega) (by omega) (by omega) (by omega) (by omega) (by omega) (by omega) (by omega) (by omega) (by omega) (by omega) (by omega) (X_91.done (by omega) (by omega)) (by omega)) (ySub.cons rfl (ySub.cons rfl (ySub.cons rfl (ySub.cons rfl (ySub.cons rfl (ySub.cons rfl (ySub.nil)))))))) (by omega)
        · have c1 : (a10 : Int) < p4 := c1
          refine yG.load xik rfl (fun _ _ => rfl) (v := yI (a7)) rfl rfl ?_
          refine yG.load xik rfl (fun _ _ => rfl) (v := yI (p1)) rfl rfl ?_
          refine yG.icmp rfl (t := 168) rfl ⟨by omega, by omega⟩ ⟨by omega, by omega⟩ (fun c2 => ?_) (fun c2 => ?_)
          · have c2 : (a7 : Int) = p1 := c2
            refine yG.iinc rfl (a := a7) rfl (L' := [(7, yI (a7 + 1)), (0, yR 2073), (1, yI (p1)), (2, yI (p2)), (3, yI (p3)), (4, yI (p4)), (8, yJ (a8)), (10, yI (a10))]) rfl ?_
            refine yG.goto rfl (t := 68) rfl ?_
            exact yG.mono (yG.sub (i_68 (a7 + 1) (ys hq 2073 11) hq A_hq  rfl (by omega) (by omega) (by omega) (by omega) (by omega) (by omega) (by omega) (by omega) (by omega) (by omega) (by omega) (by omega) (by omega) (X_91.done (by omega) (by omega)) (by omega)) (ySub.cons rfl (ySub.cons rfl (ySub.cons rfl (ySub.cons rfl (ySub.cons rfl (ySub.cons rfl (ySub.nil)))))))) (by omega)
          · have c2 : (a7 : Int) ≠ p1 := c2
            refine yG.load xlk2 rfl (fun _ _ => rfl) (v := yJ (a8)) rfl rfl ?_
            refine yG.numl (c := 0) rfl (fun _ _ => rfl) (by decide) ?_
            refine yG.lcmp rfl ⟨by omega, by omega⟩ ⟨by omega, by omega⟩ (fun z3 e_z3 => ?_)
            refine yG.ifz rfl (t := 168) rfl ⟨by omega, by omega⟩ (fun c4 => ?_) (fun c4 => ?_)
            · have c4 : (z3 : Int) = 0 := c4
              refine yG.iinc rfl (a := a7) rfl (L' := [(7, yI (a7 + 1)), (0, yR 2073), (1, yI (p1)), (2, yI (p2)), (3, yI (p3)), (4, yI (p4)), (8, yJ (a8)), (10, yI (a10))]) rfl ?_
              refine yG.goto rfl (t := 68) rfl ?_
              exact yG.mono (yG.sub (i_68 (a7 + 1) (ys hq 2073 11) hq A_hq  rfl (by omega) (by omega) (by omega) (by omega) (by omega) (by omega) (by omega) (by omega) (by omega) (by omega) (by omega) (by omega) (by omega) (X_91.done (by omega) (by omega)) (by omega)) (ySub.cons rfl (ySub.cons rfl (ySub.cons rfl (ySub.cons rfl (ySub.cons rfl (ySub.cons rfl (ySub.nil)))))))) (by omega)
            · have c4 : (z3 : Int) ≠ 0 := c4
              refine yG.load xak rfl (fun _ _ => rfl) (v := yR 2073) rfl rfl ?_
              refine yG.getO A_hq.1 (w_M_matrix W H_2073) rfl rfl (fun r5 H_r5 O_r5 q_r5 => ?_)
              obtain rfl := u_M_matrix W H_r5
              refine yG.num (c := 48) rfl (fun _ _ => rfl) (by decide) ?_
              refine yG.load xik rfl (fun _ _ => rfl) (v := yI (a7)) rfl rfl ?_
              refine yG.imul rfl ?_
              refine yG.load xik rfl (fun _ _ => rfl) (v := yI (a10)) rfl rfl ?_
              refine yG.iadd rfl ?_
              refine yG.load xak rfl (fun _ _ => rfl) (v := yR 2073) rfl rfl ?_
              refine yG.load xak rfl (fun _ _ => rfl) (v := yR 2073) rfl rfl ?_
              refine yG.getS9 A_hq.1 (w_M_matrix W H_2073) q_r5 rfl rfl ?_
              refine yG.num (c := 48) rfl (fun _ _ => rfl) (by decide) ?_
              refine yG.load xik rfl (fun _ _ => rfl) (v := yI (a7)) rfl rfl ?_
              refine yG.imul rfl ?_
              refine yG.load xik rfl (fun _ _ => rfl) (v := yI (a10)) rfl rfl ?_
              refine yG.iadd rfl ?_
              refine yG.lald A_hq.1 (v_M_matrix W H_r5) rfl (by omega) (by omega) (fun z6 e_z6 i_z6 l_z6 u_z6 => ?_)
              refine yG.load xlk2 rfl (fun _ _ => rfl) (v := yJ (a8)) rfl rfl ?_
              refine yG.load xak rfl (fun _ _ => rfl) (v := yR 2073) rfl rfl ?_
              refine yG.getS9 A_hq.1 (w_M_matrix W H_2073) q_r5 rfl rfl ?_
              refine yG.num (c := 48) rfl (fun _ _ => rfl) (by decide) ?_
              refine yG.load xik rfl (fun _ _ => rfl) (v := yI (p1)) rfl rfl ?_
              refine yG.imul rfl ?_
              refine yG.load xik rfl (fun _ _ => rfl) (v := yI (a10)) rfl rfl ?_
              refine yG.iadd rfl ?_
              refine yG.lald A_hq.1 (v_M_matrix W H_r5) rfl (by omega) (by omega) (fun z7 e_z7 i_z7 l_z7 u_z7 => ?_)
              refine yG.lmul rfl ?_
              obtain ⟨z8, e_z8⟩ : ∃ z : Int, z = a8 * z7 := ⟨_, rfl⟩
              rw [← e_z8]
              have b_z8 : 0 ≤ z8 ∧ z8 ≤ 4611686014132420609 := e_z8 ▸ ymulb (A := 2147483647) (B := 2147483647) (by omega) (by omega) (by omega) (by omega) (by decide)
              have b2_z8 : z8 ≤ 2147483647 * z7 := e_z8 ▸ bmulx (by omega) (by omega)
              have b3_z8 : z8 ≤ 2147483647 * a8 := e_z8 ▸ bmuly (by omega) (by omega)
              refine yG.load xak rfl (fun _ _ => rfl) (v := yR 2073) rfl rfl ?_
              refine yG.getJ A_hq.1 (w_M_p W H_2073) rfl rfl (fun z9 e_z9 i_z9 l_z9 u_z9 => ?_)
              rw [show (z9 : Int) = gg0 by omega]
              refine yG.lrem rfl ⟨by omega, by omega⟩ ⟨by omega, by omega⟩ (by omega) (by omega) ?_
              obtain ⟨z10, e_z10⟩ : ∃ z : Int, z = (z8) % (gg0) := ⟨_, rfl⟩
              rw [← e_z10]
              have b_z10 : 0 ≤ z10 ∧ z10 < gg0 := e_z10 ▸ ⟨Int.emod_nonneg _ (by omega), Int.emod_lt_of_pos _ (by omega)⟩
              refine yG.lsub rfl ?_
              refine yG.invV (rest := [yI ((48 * a7) + a10), yR 2083]) A_hq.1 (bOb (d_M W) H_2073) rfl rfl rfl rfl (c_GModel_mod_s W (d + 1) A_hq.1 H_2073 (z6 - z10) (by omega) (by omega) (by omega) (by omega)) (fun rv hp9 q9 => ?_)
              obtain ⟨⟨z11, rfl, l_z11, u_z11, R_z11⟩, e9⟩ := q9
              rw [e9]
              show yG _ _ _ _ _ _ _ _ _ _ (yJ z11 :: [yI ((48 * a7) + a10), yR 2083]) _
              refine yG.last A_hq.1 (v_M_matrix W H_r5) (W.2.1 _ _ H_r5 (by decide) (by decide)) rfl (by omega) (by omega) ⟨by omega, by omega⟩ (by omega) (by omega) (fun h12 T_h12 b_h12 f_h12 y_h12 => ?_)
              have A_h12 := A_hq.put T_h12 b_h12 f_h12 H_r5 (bAll_ok (by decide) _)
              have : ys h12 2073 11 = ys hq 2073 11 := (y_h12 2073 11).trans (if_neg (fun e => (bRo.ne H_2073 H_r5 (by decide)) e.1))
              have qq1 : zsl h12 2073 12 = yR 2083 := ((f_h12 2073 12).trans (if_neg (fun e => (bRo.ne H_2073 H_r5 (by decide)) e.1))).trans q_r5
              refine yG.iinc rfl (a := a10) rfl (L' := [(10, yI (a10 + 1)), (0, yR 2073), (1, yI (p1)), (2, yI (p2)), (3, yI (p3)), (4, yI (p4)), (7, yI (a7)), (8, yJ (a8))]) rfl ?_
              refine yG.goto rfl (t := 91) rfl ?_
              exact yG.mono (yG.sub (i_91 (a7) (a8) (a10 + 1) (ys h12 2073 11) h12 A_h12  rfl (by omega) (by omega) (by omega) (by omega) (by omega) (by omega) (by omega) (by omega) (by omega) (by omega) (by omega) (by omega) (by omega) (by omega) (by omega) (by omega) (by omega) (by omega) (by omega) (mCq.step (r := (a7 : Int).toNat) (k := (a10 : Int).toNat) X_91 (by omega) (by omega) (by omega) (by omega) y_h12 (by omega) (mmM_at e_z6 (by omega)) (mmM_at e_z7 (by omega)) (by rw [← pq]; exact mdv_tr (R_z11.2) (mSubD (by rw [show ys hq 2073 11 = gg0 by omega]; exact (show gg0 ∣ z10 - a8 * z7 from by rw [show a8 * z7 = z8 by rw [e_z8]]; exact mdv_mod (by omega) e_z10)))) (by omega) (by omega)) (by omega)) (ySub.cons rfl (ySub.cons rfl (ySub.cons rfl (ySub.cons rfl (ySub.cons rfl (ySub.cons rfl (ySub.cons rfl (ySub.cons rfl (ySub.nil)))))))))) (by omega)
  refine yC.of (M := (xt_X13_clear, (11, (0, (14, []))))) rfl rfl (N := 4688412) (yfuel (by decide)) ?_
  show yG 89 xfts (xcall 89 xfts xpools xms (d + 2)) (xpool xp_RX13) [] xt_X13_clear (yP 0 (fun rv hp' => (rv = none ∧ (mClr hp hp' (ys hp 2073 11) (p1 : Int).toNat (p2 : Int).toNat (p3 : Int).toNat (p4 : Int).toNat ∧ (mRng hp (ys hp 2073 11) (p3 : Int).toNat (p4 : Int).toNat → mRng hp' (ys hp 2073 11) (p3 : Int).toNat (p4 : Int).toNat))) ∧ bAx G [(85070591730234615865843651857942052864, 256)] hp hp')) 4688412 0 [(0, yR 2073), (1, yI (p1)), (2, yI (p2)), (3, yI (p3)), (4, yI (p4))] [] hp
  obtain ⟨i_20, i_68, i_91⟩ := H 101921
  obtain ⟨gg0, E_0⟩ : ∃ z : Int, ys hp 2073 11 = z := ⟨_, rfl⟩
  obtain ⟨-, -, g_0l, g_0u⟩ := (w_M_p W H_2073).long hT
  refine yG.load xak rfl (fun _ _ => rfl) (v := yR 2073) rfl rfl ?_
  refine yG.load xak rfl (fun _ _ => rfl) (v := yR 2073) rfl rfl ?_
  refine yG.getO A_hp.1 (w_M_matrix W H_2073) rfl rfl (fun r1 H_r1 O_r1 q_r1 => ?_)
  obtain rfl := u_M_matrix W H_r1
  refine yG.num (c := 48) rfl (fun _ _ => rfl) (by decide) ?_
  refine yG.load xik rfl (fun _ _ => rfl) (v := yI (p1)) rfl rfl ?_
  refine yG.imul rfl ?_
  refine yG.load xik rfl (fun _ _ => rfl) (v := yI (p2)) rfl rfl ?_
  refine yG.iadd rfl ?_
  refine yG.lald A_hp.1 (v_M_matrix W H_r1) rfl (by omega) (by omega) (fun z2 e_z2 i_z2 l_z2 u_z2 => ?_)
  refine yG.invV (rest := []) A_hp.1 (bOb (d_M W) H_2073) rfl rfl rfl rfl (c_GModel_inverse__s W d A_hp.1 H_2073 (z2) (by omega) (by omega) (by omega) (by omega)) (fun rv hp9 q9 => ?_)
  obtain ⟨⟨z3, rfl, l_z3, u_z3, R_z3⟩, e9⟩ := q9
  rw [e9]
  show yG _ _ _ _ _ _ _ _ _ _ (yJ z3 :: []) _
  refine yG.store2 xlk2 (L' := [(5, yJ (z3)), (0, yR 2073), (1, yI (p1)), (2, yI (p2)), (3, yI (p3)), (4, yI (p4))]) rfl (fun _ _ => rfl) rfl rfl ?_
  refine yG.num (c := 0) rfl (fun _ _ => rfl) (by decide) ?_
  refine yG.store1 xik (L' := [(7, yI (0)), (5, yJ (z3)), (0, yR 2073), (1, yI (p1)), (2, yI (p2)), (3, yI (p3)), (4, yI (p4))]) rfl (fun _ _ => rfl) rfl rfl ?_
  exact yG.mono (yG.sub (i_20 (z3) (0) (ys hp 2073 11) hp A_hp  rfl (by omega) (by omega) (by omega) (by omega) (by omega) (by omega) (by omega) (by omega) (by omega) (by omega) (by omega) (by omega) (by omega) (by omega) (by omega) (mAq.start (by rw [Int.mul_comm, ← mmM_at e_z2 (by omega)]; exact R_z3 g90 (by rw [mmM_at (r := (p1 : Int).toNat) (k := (p2 : Int).toNat) e_z2 (by omega)]; exact g91))) (by omega)) (ySub.cons rfl (ySub.cons rfl (ySub.cons rfl (ySub.cons rfl (ySub.cons rfl (ySub.cons rfl (ySub.cons rfl (ySub.nil))))))))) (by omega)
theorem c_GModel_solve_s {hp : xH} (W : mW G) (d : Nat) (hT : zTy G hp) (H_2073 : bRo G 116 2073) (p1 p2 : Int) (h1l : (-1) ≤ p1) (h1u : p1 ≤ 20) (h2l : (-1) ≤ p2) (h2u : p2 ≤ 48) (q0l : 1 ≤ ys hp 2073 11) (q0u : ys hp 2073 11 ≤ 2147483647) (g90 : mPr ((ys hp 2073 11)).toNat) (g91 : mRng hp (ys hp 2073 11) (p1 : Int).toNat (p2 : Int).toNat) (g92 : p1 ≤ p2) : yC (xcall 89 xfts xpools xms (d + 4)) 516 [yR 2073, yI (p1), yI (p2)] hp (bQj G [(85070591730234615865843651857942052864, 256)] hp 0 2147483646 (fun z => 0 ≤ p1 - z + 2147483645 ∧ ((z = 0 → mSgv hp (ys hp 2073 11) (p1 : Int).toNat (p2 : Int).toNat) ∧ z < (ys hp 2073 11)))) := by
  have A_hp : bAx G [(85070591730234615865843651857942052864, 256)] hp hp := bAx.rf hT
  have H : ∀ m : Nat, (∀ a3 : Int, ∀ a5 : Int, ∀ gg0 : Int, ∀ hq, bAx G [(85070591730234615865843651857942052864, 256)] hp hq → ys hq 2073 11 = gg0 → 0 ≤ a3 → (-2147483646) ≤ 0 - a3 → 0 ≤ a5 → (-20) ≤ 0 - a5 → 1 ≤ gg0 → (-2147483647) ≤ 0 - gg0 → (-1) ≤ p1 → (-20) ≤ 0 - p1 → (-1) ≤ p2 → (-48) ≤ 0 - p2 → (-2147483645) ≤ 0 - a3 + a5 → 0 ≤ 0 - a3 + gg0 → (-2147483645) ≤ 0 - a3 + p1 → (-1) ≤ 0 - a5 + p1 → mSv hp hq (ys hp 2073 11) (p1 : Int).toNat (p2 : Int).toNat (a5 : Int).toNat a3 → 0 - 43 * a5 + 902 < (m : Int) → yG 89 xfts (xcall 89 xfts xpools xms (d + 3)) (xpool xp_RX13) [] xt_X13_solve (yP 2 (bQj G [(85070591730234615865843651857942052864, 256)] hp 0 2147483646 (fun z => 0 ≤ p1 - z + 2147483645 ∧ ((z = 0 → mSgv hp (ys hp 2073 11) (p1 : Int).toNat (p2 : Int).toNat) ∧ z < (ys hp 2073 11))))) (54 * m) 5 [(0, yR 2073), (1, yI (p1)), (2, yI (p2)), (3, yJ (a3)), (5, yI (a5))] [] hq) ∧ (∀ a3 : Int, ∀ a5 : Int, ∀ a6 : Int, ∀ gg0 : Int, ∀ hq, bAx G [(85070591730234615865843651857942052864, 256)] hp hq → ys hq 2073 11 = gg0 → 0 ≤ a3 → (-2147483646) ≤ 0 - a3 → 0 ≤ a5 → (-19) ≤ 0 - a5 → 0 ≤ a6 → (-20) ≤ 0 - a6 → 1 ≤ gg0 → (-2147483647) ≤ 0 - gg0 → 1 ≤ p1 → (-20) ≤ 0 - p1 → (-1) ≤ p2 → (-48) ≤ 0 - p2 → (-2147483645) ≤ 0 - a3 + a5 → 0 ≤ 0 - a5 + a6 → 0 ≤ 0 - a3 + gg0 → 1 ≤ 0 - a5 + p1 → 0 ≤ 0 - a6 + p1 → (mSv hp hq (ys hp 2073 11) (p1 : Int).toNat (p2 : Int).toNat (a5 : Int).toNat a3 ∧ ∀ t : Nat, a5 ≤ (t : Int) → (t : Int) < a6 → mmM hq t (a5 : Int).toNat = 0) → 0 - 43 * a5 - 2 * a6 + 901 < (m : Int) → yG 89 xfts (xcall 89 xfts xpools xms (d + 3)) (xpool xp_RX13) [] xt_X13_solve (yP 2 (bQj G [(85070591730234615865843651857942052864, 256)] hp 0 2147483646 (fun z => 0 ≤ p1 - z + 2147483645 ∧ ((z = 0 → mSgv hp (ys hp 2073 11) (p1 : Int).toNat (p2 : Int).toNat) ∧ z < (ys hp 2073 11))))) (54 * m) 15 [(0, yR 2073), (1, yI (p1)), (2, yI (p2)), (3, yJ (a3)), (5, yI (a5)), (6, yI (a6))] [] hq) := by
    intro m
    induction m with
    | zero =>
      refine ⟨?_, ?_⟩ <;> (intros; exfalso; omega)
    | succ m ih =>
      obtain ⟨i_5, i_15⟩ := ih
      refine ⟨?_, ?_⟩
      · intro a3 a5 gg0 hq A_hq E_0 f0 f1 f2 f3 f4 f5 f6 f7 f8 f9 f10 f11 f12 f13 X_5 hm
        refine yG.mono (N := 54 * m + 54) ?_ (by omega)
        obtain ⟨-, -, g_0l, g_0u⟩ := (w_M_p W H_2073).long A_hq.1
        have pq : ys hq 2073 11 = ys hp 2073 11 := A_hq.ys H_2073 (by decide)
        refine yG.load xik rfl (fun _ _ => rfl) (v := yI (a5)) rfl rfl ?_
        refine yG.load xik rfl (fun _ _ => rfl) (v := yI (p1)) rfl rfl ?_
        refine yG.icmp rfl (t := 113) rfl ⟨by omega, by omega⟩ ⟨by omega, by omega⟩ (fun c1 => ?_) (fun c1 => ?_)
        · have c1 : (a5 : Int) ≥ p1 := c1
          refine yG.load xlk2 rfl (fun _ _ => rfl) (v := yJ (a3)) rfl rfl ?_
          refine yG.ret rfl (fun _ _ => rfl) ?_
          exact (yP.long ⟨by omega, by omega⟩ ⟨⟨a3, rfl, by omega, by omega, ⟨by omega, ⟨(fun e => absurd (by rw [e]; exact Int.dvd_zero _) X_5.2.2.2), (by have nd : a3 ≠ (ys hp 2073 11) := (fun e => X_5.2.2.2 (by rw [e]; exact Int.dvd_refl _)); omega)⟩⟩⟩, A_hq⟩)
        · have c1 : (a5 : Int) < p1 := c1
          refine yG.load xik rfl (fun _ _ => rfl) (v := yI (a5)) rfl rfl ?_
          refine yG.store1 xik (L' := [(6, yI (a5)), (0, yR 2073), (1, yI (p1)), (2, yI (p2)), (3, yJ (a3)), (5, yI (a5))]) rfl (fun _ _ => rfl) rfl rfl ?_
          exact yG.mono (yG.sub (i_15 (a3) (a5) (a5) (ys hq 2073 11) hq A_hq  rfl (by omega) (by omega) (by omega) (by omega) (by omega) (by omega) (by omega) (by omega) (by omega) (by omega) (by omega) (by omega) (by omega) (by omega) (by omega) (by omega) (by omega) ⟨X_5, fun t h1 h2 => by omega⟩ (by omega)) (ySub.cons rfl (ySub.cons rfl (ySub.cons rfl (ySub.cons rfl (ySub.cons rfl (ySub.cons rfl (ySub.nil)))))))) (by omega)
      · intro a3 a5 a6 gg0 hq A_hq E_0 f0 f1 f2 f3 f4 f5 f6 f7 f8 f9 f10 f11 f12 f13 f14 f15 f16 X_15 hm
        refine yG.mono (N := 54 * m + 54) ?_ (by omega)
        obtain ⟨-, -, g_0l, g_0u⟩ := (w_M_p W H_2073).long A_hq.1
        have pq : ys hq 2073 11 = ys hp 2073 11 := A_hq.ys H_2073 (by decide)
        refine yG.load xik rfl (fun _ _ => rfl) (v := yI (a6)) rfl rfl ?_
        refine yG.load xik rfl (fun _ _ => rfl) (v := yI (p1)) rfl rfl ?_
        refine yG.icmp rfl (t := 45) rfl ⟨by omega, by omega⟩ ⟨by omega, by omega⟩ (fun c1 => ?_) (fun c1 => ?_)
        · have c1 : (a6 : Int) ≥ p1 := c1
          refine yG.load xik rfl (fun _ _ => rfl) (v := yI (a6)) rfl rfl ?_
          refine yG.load xik rfl (fun _ _ => rfl) (v := yI (p1)) rfl rfl ?_
          refine yG.icmp rfl (t := 53) rfl ⟨by omega, by omega⟩ ⟨by omega, by omega⟩ (fun c2 => ?_) (fun c2 => ?_)
          · have c2 : (a6 : Int) ≠ p1 := c2
            exfalso; omega
          · have c2 : (a6 : Int) = p1 := c2
            refine yG.numl (c := 0) rfl (fun _ _ => rfl) (by decide) ?_
            refine yG.ret rfl (fun _ _ => rfl) ?_
            exact (yP.long ⟨by omega, by omega⟩ ⟨⟨0, rfl, by omega, by omega, ⟨by omega, ⟨(fun _ => by obtain ⟨w, w1, w2, w3⟩ := mStuck (P := (ys hp 2073 11)) (C := (p2 : Int).toNat) X_15.1.2.1 (by omega) (by omega) (fun r h1 h2 => X_15.2 r (by omega) (by omega)); exact ⟨(a5 : Int).toNat, w, by omega, w1, w2, X_15.1.1 w w3⟩), (by omega)⟩⟩⟩, A_hq⟩)
        · have c1 : (a6 : Int) < p1 := c1
          refine yG.load xak rfl (fun _ _ => rfl) (v := yR 2073) rfl rfl ?_
          refine yG.getO A_hq.1 (w_M_matrix W H_2073) rfl rfl (fun r3 H_r3 O_r3 q_r3 => ?_)
          obtain rfl := u_M_matrix W H_r3
          refine yG.num (c := 48) rfl (fun _ _ => rfl) (by decide) ?_
          refine yG.load xik rfl (fun _ _ => rfl) (v := yI (a6)) rfl rfl ?_
          refine yG.imul rfl ?_
          refine yG.load xik rfl (fun _ _ => rfl) (v := yI (a5)) rfl rfl ?_
          refine yG.iadd rfl ?_
          refine yG.lald A_hq.1 (v_M_matrix W H_r3) rfl (by omega) (by omega) (fun z4 e_z4 i_z4 l_z4 u_z4 => ?_)
          refine yG.numl (c := 0) rfl (fun _ _ => rfl) (by decide) ?_
          refine yG.lcmp rfl ⟨by omega, by omega⟩ ⟨by omega, by omega⟩ (fun z5 e_z5 => ?_)
          refine yG.ifz rfl (t := 45) rfl ⟨by omega, by omega⟩ (fun c6 => ?_) (fun c6 => ?_)
          · have c6 : (z5 : Int) ≠ 0 := c6
            refine yG.load xik rfl (fun _ _ => rfl) (v := yI (a6)) rfl rfl ?_
            refine yG.load xik rfl (fun _ _ => rfl) (v := yI (p1)) rfl rfl ?_
            refine yG.icmp rfl (t := 53) rfl ⟨by omega, by omega⟩ ⟨by omega, by omega⟩ (fun c7 => ?_) (fun c7 => ?_)
            · have c7 : (a6 : Int) ≠ p1 := c7
              refine yG.load xik rfl (fun _ _ => rfl) (v := yI (a6)) rfl rfl ?_
              refine yG.load xik rfl (fun _ _ => rfl) (v := yI (a5)) rfl rfl ?_
              refine yG.icmp rfl (t := 76) rfl ⟨by omega, by omega⟩ ⟨by omega, by omega⟩ (fun c8 => ?_) (fun c8 => ?_)
              · have c8 : (a6 : Int) = a5 := c8
                have pq_hq : ys hq 2073 11 = ys hp 2073 11 := A_hq.ys H_2073 (by decide)
                have nz9 : ¬ (ys hp 2073 11) ∣ mmM hq (a6 : Int).toNat (a5 : Int).toNat := by
                  have r9 := X_15.1.2.2.1 (a6 : Int).toNat (by omega) (a5 : Int).toNat (by omega)
                  have r8 := mmM_at (r := (a6 : Int).toNat) (k := (a5 : Int).toNat) e_z4 (by omega)
                  exact mNdvd (by omega) r9.2
                have svhq : mSv hp hq (ys hp 2073 11) (p1 : Int).toNat (p2 : Int).toNat (a5 : Int).toNat a3 := X_15.1
                have gphq : ¬ (ys hp 2073 11) ∣ mmM hq (a5 : Int).toNat (a5 : Int).toNat := by have e9 : (a6 : Int).toNat = (a5 : Int).toNat := (by omega); rw [e9] at nz9; exact nz9
                refine yG.load xlk2 rfl (fun _ _ => rfl) (v := yJ (a3)) rfl rfl ?_
                refine yG.load xak rfl (fun _ _ => rfl) (v := yR 2073) rfl rfl ?_
                refine yG.getS9 A_hq.1 (w_M_matrix W H_2073) q_r3 rfl rfl ?_
                refine yG.num (c := 48) rfl (fun _ _ => rfl) (by decide) ?_
                refine yG.load xik rfl (fun _ _ => rfl) (v := yI (a5)) rfl rfl ?_
                refine yG.imul rfl ?_
                refine yG.load xik rfl (fun _ _ => rfl) (v := yI (a5)) rfl rfl ?_
                refine yG.iadd rfl ?_
                refine yG.lald A_hq.1 (v_M_matrix W H_r3) rfl (by omega) (by omega) (fun z9 e_z9 i_z9 l_z9 u_z9 => ?_)
                refine yG.lmul rfl ?_
                obtain ⟨z10, e_z10⟩ : ∃ z : Int, z = a3 * z9 := ⟨_, rfl⟩
                rw [← e_z10]
                have b_z10 : 0 ≤ z10 ∧ z10 ≤ 4611686011984936962 := e_z10 ▸ ymulb (A := 2147483646) (B := 2147483647) (by omega) (by omega) (by omega) (by omega) (by decide)
                have b2_z10 : z10 ≤ 2147483646 * z9 := e_z10 ▸ bmulx (by omega) (by omega)
                have b3_z10 : z10 ≤ 2147483647 * a3 := e_z10 ▸ bmuly (by omega) (by omega)
                refine yG.load xak rfl (fun _ _ => rfl) (v := yR 2073) rfl rfl ?_
                refine yG.getJ A_hq.1 (w_M_p W H_2073) rfl rfl (fun z11 e_z11 i_z11 l_z11 u_z11 => ?_)
                rw [show (z11 : Int) = gg0 by omega]
                refine yG.lrem rfl ⟨by omega, by omega⟩ ⟨by omega, by omega⟩ (by omega) (by omega) ?_
                obtain ⟨z12, e_z12⟩ : ∃ z : Int, z = (z10) % (gg0) := ⟨_, rfl⟩
                rw [← e_z12]
                have b_z12 : 0 ≤ z12 ∧ z12 < gg0 := e_z12 ▸ ⟨Int.emod_nonneg _ (by omega), Int.emod_lt_of_pos _ (by omega)⟩
                refine yG.store2 xlk2 (L' := [(3, yJ (z12)), (0, yR 2073), (1, yI (p1)), (2, yI (p2)), (5, yI (a5)), (6, yI (a6))]) rfl (fun _ _ => rfl) rfl rfl ?_
                refine yG.load xak rfl (fun _ _ => rfl) (v := yR 2073) rfl rfl ?_
                refine yG.load xik rfl (fun _ _ => rfl) (v := yI (a5)) rfl rfl ?_
                refine yG.load xik rfl (fun _ _ => rfl) (v := yI (a5)) rfl rfl ?_
                refine yG.load xik rfl (fun _ _ => rfl) (v := yI (p1)) rfl rfl ?_
                refine yG.load xik rfl (fun _ _ => rfl) (v := yI (p2)) rfl rfl ?_
                refine yG.invV (rest := []) A_hq.1 (bOb (d_M W) H_2073) rfl rfl rfl rfl (c_GModel_clear_s W d A_hq.1 H_2073 (a5) (a5) (p1) (p2) (by omega) (by omega) (by omega) (by omega) (by omega) (by omega) (by omega) (by omega) (by omega) (by omega) (by rw [show ys hq 2073 11 = (ys hp 2073 11) by omega]; exact g90) (by rw [show ys hq 2073 11 = (ys hp 2073 11) by omega]; exact gphq)) (fun rv h13 q9 => ?_)
                obtain ⟨⟨rfl, R_z14⟩, B_h13⟩ := q9
                have A_h13 := A_hq.tr B_h13 (by decide)
                have : ys h13 2073 11 = ys hq 2073 11 := B_h13.ys H_2073 (by decide)
                have qq1 : zsl h13 2073 12 = yR 2083 := (B_h13.sl H_2073 (by decide)).trans q_r3
                show yG _ _ _ _ _ _ _ _ _ _ [] _
                refine yG.iinc rfl (a := a5) rfl (L' := [(5, yI (a5 + 1)), (3, yJ (z12)), (0, yR 2073), (1, yI (p1)), (2, yI (p2)), (6, yI (a6))]) rfl ?_
                refine yG.goto rfl (t := 5) rfl ?_
                exact yG.mono (yG.sub (i_5 (z12) (a5 + 1) (ys h13 2073 11) h13 A_h13  rfl (by omega) (by omega) (by omega) (by omega) (by omega) (by omega) (by omega) (by omega) (by omega) (by omega) (by omega) (by omega) (by omega) (by omega) (by have q9 := R_z14; rw [show ys hq 2073 11 = ys hp 2073 11 by omega] at q9; rw [show (a5 + 1 : Int).toNat = (a5 : Int).toNat + 1 by omega]; exact svhq.clr q9 g90 gphq (by rw [← mmM_at (r := (a5 : Int).toNat) (k := (a5 : Int).toNat) e_z9 (by omega), show (ys hp 2073 11) = gg0 by omega]; exact (show gg0 ∣ z12 - a3 * z9 from by rw [show a3 * z9 = z10 by rw [e_z10]]; exact mdv_mod (by omega) e_z12)) (by omega) (by omega)) (by omega)) (ySub.cons rfl (ySub.cons rfl (ySub.cons rfl (ySub.cons rfl (ySub.cons rfl (ySub.nil))))))) (by omega)
              · have c8 : (a6 : Int) ≠ a5 := c8
                refine yG.load xak rfl (fun _ _ => rfl) (v := yR 2073) rfl rfl ?_
                refine yG.load xik rfl (fun _ _ => rfl) (v := yI (a6)) rfl rfl ?_
                refine yG.load xik rfl (fun _ _ => rfl) (v := yI (a5)) rfl rfl ?_
                refine yG.load xik rfl (fun _ _ => rfl) (v := yI (p2)) rfl rfl ?_
                refine yG.invV (rest := []) A_hq.1 (bOb (d_M W) H_2073) rfl rfl rfl rfl (c_GModel_swap_s W (d + 2) A_hq.1 H_2073 (a6) (a5) (p2) (by omega) (by omega) (by omega) (by omega) (by omega) (by omega) (by omega)) (fun rv h15 q9 => ?_)
                obtain ⟨⟨rfl, R_z16⟩, B_h15⟩ := q9
                have A_h15 := A_hq.tr B_h15 (by decide)
                have : ys h15 2073 11 = ys hq 2073 11 := B_h15.ys H_2073 (by decide)
                have qq2 : zsl h15 2073 12 = yR 2083 := (B_h15.sl H_2073 (by decide)).trans q_r3
                show yG _ _ _ _ _ _ _ _ _ _ [] _
                refine yG.load xak rfl (fun _ _ => rfl) (v := yR 2073) rfl rfl ?_
                refine yG.getJ A_h15.1 (w_M_p W H_2073) rfl rfl (fun z17 e_z17 i_z17 l_z17 u_z17 => ?_)
                rw [show (z17 : Int) = gg0 by omega]
                refine yG.load xlk2 rfl (fun _ _ => rfl) (v := yJ (a3)) rfl rfl ?_
                refine yG.lsub rfl ?_
                obtain ⟨z18, e_z18⟩ : ∃ z : Int, z = gg0 - a3 := ⟨_, rfl⟩
                rw [← e_z18]
                refine yG.store2 xlk2 (L' := [(3, yJ (z18)), (0, yR 2073), (1, yI (p1)), (2, yI (p2)), (5, yI (a5)), (6, yI (a6))]) rfl (fun _ _ => rfl) rfl rfl ?_
                have pq_h15 : ys h15 2073 11 = ys hp 2073 11 := A_h15.ys H_2073 (by decide)
                have nz9 : ¬ (ys hp 2073 11) ∣ mmM hq (a6 : Int).toNat (a5 : Int).toNat := by
                  have r9 := X_15.1.2.2.1 (a6 : Int).toNat (by omega) (a5 : Int).toNat (by omega)
                  have r8 := mmM_at (r := (a6 : Int).toNat) (k := (a5 : Int).toNat) e_z4 (by omega)
                  exact mNdvd (by omega) r9.2
                have sw9 := R_z16
                have svh15 : mSv hp h15 (ys hp 2073 11) (p1 : Int).toNat (p2 : Int).toNat (a5 : Int).toNat z18 := by
                  rw [show z18 = (ys hp 2073 11) - a3 by omega]
                  exact X_15.1.swap sw9 (by omega) (by omega) (by omega) (by omega)
                have gph15 : ¬ (ys hp 2073 11) ∣ mmM h15 (a5 : Int).toNat (a5 : Int).toNat := by
                  rw [(sw9.1 (a5 : Int).toNat (by omega) (by omega)).2]
                  exact nz9
                refine yG.load xlk2 rfl (fun _ _ => rfl) (v := yJ (z18)) rfl rfl ?_
                refine yG.load xak rfl (fun _ _ => rfl) (v := yR 2073) rfl rfl ?_
                refine yG.getS9 A_h15.1 (w_M_matrix W H_2073) qq2 rfl rfl ?_
                refine yG.num (c := 48) rfl (fun _ _ => rfl) (by decide) ?_
                refine yG.load xik rfl (fun _ _ => rfl) (v := yI (a5)) rfl rfl ?_
                refine yG.imul rfl ?_
                refine yG.load xik rfl (fun _ _ => rfl) (v := yI (a5)) rfl rfl ?_
                refine yG.iadd rfl ?_
                refine yG.lald A_h15.1 (v_M_matrix W H_r3) rfl (by omega) (by omega) (fun z19 e_z19 i_z19 l_z19 u_z19 => ?_)
                refine yG.lmul rfl ?_
                obtain ⟨z20, e_z20⟩ : ∃ z : Int, z = z18 * z19 := ⟨_, rfl⟩
                rw [← e_z20]
                have b_z20 : 0 ≤ z20 ∧ z20 ≤ 4611686014132420609 := e_z20 ▸ ymulb (A := 2147483647) (B := 2147483647) (by omega) (by omega) (by omega) (by omega) (by decide)
                have b2_z20 : z20 ≤ 2147483647 * z19 := e_z20 ▸ bmulx (by omega) (by omega)
                have b3_z20 : z20 ≤ 2147483647 * z18 := e_z20 ▸ bmuly (by omega) (by omega)
                refine yG.load xak rfl (fun _ _ => rfl) (v := yR 2073) rfl rfl ?_
                refine yG.getJ A_h15.1 (w_M_p W H_2073) rfl rfl (fun z21 e_z21 i_z21 l_z21 u_z21 => ?_)
                rw [show (z21 : Int) = gg0 by omega]
                refine yG.lrem rfl ⟨by omega, by omega⟩ ⟨by omega, by omega⟩ (by omega) (by omega) ?_
                obtain ⟨z22, e_z22⟩ : ∃ z : Int, z = (z20) % (gg0) := ⟨_, rfl⟩
                rw [← e_z22]
                have b_z22 : 0 ≤ z22 ∧ z22 < gg0 := e_z22 ▸ ⟨Int.emod_nonneg _ (by omega), Int.emod_lt_of_pos _ (by omega)⟩
                refine yG.store2 xlk2 (L' := [(3, yJ (z22)), (0, yR 2073), (1, yI (p1)), (2, yI (p2)), (5, yI (a5)), (6, yI (a6))]) rfl (fun _ _ => rfl) rfl rfl ?_
                refine yG.load xak rfl (fun _ _ => rfl) (v := yR 2073) rfl rfl ?_
                refine yG.load xik rfl (fun _ _ => rfl) (v := yI (a5)) rfl rfl ?_
                refine yG.load xik rfl (fun _ _ => rfl) (v := yI (a5)) rfl rfl ?_
                refine yG.load xik rfl (fun _ _ => rfl) (v := yI (p1)) rfl rfl ?_
                refine yG.load xik rfl (fun _ _ => rfl) (v := yI (p2)) rfl rfl ?_
                refine yG.invV (rest := []) A_h15.1 (bOb (d_M W) H_2073) rfl rfl rfl rfl (c_GModel_clear_s W d A_h15.1 H_2073 (a5) (a5) (p1) (p2) (by omega) (by omega) (by omega) (by omega) (by omega) (by omega) (by omega) (by omega) (by omega) (by omega) (by rw [show ys h15 2073 11 = (ys hp 2073 11) by omega]; exact g90) (by rw [show ys h15 2073 11 = (ys hp 2073 11) by omega]; exact gph15)) (fun rv h23 q9 => ?_)
                obtain ⟨⟨rfl, R_z24⟩, B_h23⟩ := q9
                have A_h23 := A_h15.tr B_h23 (by decide)
                have : ys h23 2073 11 = ys h15 2073 11 := B_h23.ys H_2073 (by decide)
                have qq3 : zsl h23 2073 12 = yR 2083 := (B_h23.sl H_2073 (by decide)).trans qq2
                show yG _ _ _ _ _ _ _ _ _ _ [] _
                refine yG.iinc rfl (a := a5) rfl (L' := [(5, yI (a5 + 1)), (3, yJ (z22)), (0, yR 2073), (1, yI (p1)), (2, yI (p2)), (6, yI (a6))]) rfl ?_
                refine yG.goto rfl (t := 5) rfl ?_
                exact yG.mono (yG.sub (i_5 (z22) (a5 + 1) (ys h23 2073 11) h23 A_h23  rfl (by omega) (by omega) (by omega) (by omega) (by omega) (by omega) (by omega) (by omega) (by omega) (by omega) (by omega) (by omega) (by omega) (by omega) (by have q9 := R_z24; rw [show ys h15 2073 11 = ys hp 2073 11 by omega] at q9; rw [show (a5 + 1 : Int).toNat = (a5 : Int).toNat + 1 by omega]; exact svh15.clr q9 g90 gph15 (by rw [← mmM_at (r := (a5 : Int).toNat) (k := (a5 : Int).toNat) e_z19 (by omega), show (ys hp 2073 11) = gg0 by omega]; exact (show gg0 ∣ z22 - z18 * z19 from by rw [show z18 * z19 = z20 by rw [e_z20]]; exact mdv_mod (by omega) e_z22)) (by omega) (by omega)) (by omega)) (ySub.cons rfl (ySub.cons rfl (ySub.cons rfl (ySub.cons rfl (ySub.cons rfl (ySub.nil))))))) (by omega)
            · have c7 : (a6 : Int) = p1 := c7
              exfalso; omega
          · have c6 : (z5 : Int) = 0 := c6
            refine yG.iinc rfl (a := a6) rfl (L' := [(6, yI (a6 + 1)), (0, yR 2073), (1, yI (p1)), (2, yI (p2)), (3, yJ (a3)), (5, yI (a5))]) rfl ?_
            refine yG.goto rfl (t := 15) rfl ?_
            exact yG.mono (yG.sub (i_15 (a3) (a5) (a6 + 1) (ys hq 2073 11) hq A_hq  rfl (by omega) (by omega) (by omega) (by omega) (by omega) (by omega) (by omega) (by omega) (by omega) (by omega) (by omega) (by omega) (by omega) (by omega) (by omega) (by omega) (by omega) ⟨X_15.1, fun t h1 h2 => if e9 : (t : Int) = a6 then (by rw [show t = (a6 : Int).toNat by omega, ← mmM_at (r := (a6 : Int).toNat) (k := (a5 : Int).toNat) e_z4 (by omega)]; omega) else X_15.2 t h1 (by omega)⟩ (by omega)) (ySub.cons rfl (ySub.cons rfl (ySub.cons rfl (ySub.cons rfl (ySub.cons rfl (ySub.cons rfl (ySub.nil)))))))) (by omega)
  refine yC.of (M := (xt_X13_solve, (7, (2, (14, []))))) rfl rfl (N := 48870) (yfuel (by decide)) ?_
  show yG 89 xfts (xcall 89 xfts xpools xms (d + 3)) (xpool xp_RX13) [] xt_X13_solve (yP 2 (bQj G [(85070591730234615865843651857942052864, 256)] hp 0 2147483646 (fun z => 0 ≤ p1 - z + 2147483645 ∧ ((z = 0 → mSgv hp (ys hp 2073 11) (p1 : Int).toNat (p2 : Int).toNat) ∧ z < (ys hp 2073 11))))) 48870 0 [(0, yR 2073), (1, yI (p1)), (2, yI (p2))] [] hp
  obtain ⟨i_5, i_15⟩ := H 904
  obtain ⟨gg0, E_0⟩ : ∃ z : Int, ys hp 2073 11 = z := ⟨_, rfl⟩
  obtain ⟨-, -, g_0l, g_0u⟩ := (w_M_p W H_2073).long hT
  refine yG.numl (c := 1) rfl (fun _ _ => rfl) (by decide) ?_
  refine yG.store2 xlk2 (L' := [(3, yJ (1)), (0, yR 2073), (1, yI (p1)), (2, yI (p2))]) rfl (fun _ _ => rfl) rfl rfl ?_
  refine yG.num (c := 0) rfl (fun _ _ => rfl) (by decide) ?_
  refine yG.store1 xik (L' := [(5, yI (0)), (3, yJ (1)), (0, yR 2073), (1, yI (p1)), (2, yI (p2))]) rfl (fun _ _ => rfl) rfl rfl ?_
  exact yG.mono (yG.sub (i_5 (1) (0) (ys hp 2073 11) hp A_hp  rfl (by omega) (by omega) (by omega) (by omega) (by omega) (by omega) (by omega) (by omega) (by omega) (by omega) (by omega) (by omega) (by omega) (by omega) ⟨fun _ h => h, fun k hk => absurd hk (by omega), g91, mNdvd (by omega) (by have := g90.1; omega)⟩ (by omega)) (ySub.cons rfl (ySub.cons rfl (ySub.cons rfl (ySub.cons rfl (ySub.cons rfl (ySub.nil))))))) (by omega)
end MSolve
