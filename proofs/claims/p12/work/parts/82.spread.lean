/-! ===== the reference: a size spread, taken away ===== -/
noncomputable def yUp (hp : xH) (j : Nat) : Int := ys hp 2078 j
noncomputable def yLo (hp : xH) (j : Nat) : Int := ys hp 2079 j
section YTake
variable {G : zW} {hp : xH} {a : Nat} {f : Int}
theorem yUp_bd (W : yMW G) (hT : zTy G hp) {j : Nat} (hj : j < 258) : 0 ≤ yUp hp j ∧ yUp hp j ≤ 999999999 := by
  obtain ⟨-, -, x, y⟩ := (yA_upper W).int hT hj
  exact ⟨x, y⟩
theorem yLo_bd (W : yMW G) (hT : zTy G hp) {j : Nat} (hj : j < 258) : 0 ≤ yLo hp j ∧ yLo hp j ≤ 999999999 := by
  obtain ⟨-, -, x, y⟩ := (yA_lower W).int hT hj
  exact ⟨x, y⟩
theorem yalg3 (s w v c p M : Int) (h : w = v - c * 1000000000) (h2 : s + M = 0) : s + w * p + c * (1000000000 * p) = v * p - M := by rw [h]; grind
/-- a shifted sum -/
theorem ysum_shift (g : Nat → Int) (j n : Nat) : ysum (fun i => g (j + i)) (n + 1) = g j + 1000000000 * ysum (fun i => g (j + 1 + i)) n := by
  induction n with
  | zero => show 0 + g (j + 0) * 1 = g j + 1000000000 * 0; rw [Nat.add_zero]; omega
  | succ n ih =>
    rw [ysum_succ, ih, ysum_succ, yB_succ, show j + (n + 1) = j + 1 + n by omega, Int.mul_add, Int.mul_left_comm (g (j + 1 + n))]
    omega
def yQ_spr_upper (G : zW) (hp : xH) (a : Nat) (f : Int) (rv : Option xA) (hp' : xH) : Prop := rv = none ∧ yNx G [2078] hp hp' ∧ ysum (yUp hp') ((yL hp a).toNat + 1) = ymag hp a * f
theorem y_spread_upper (W : yMW G) (d : Nat) (hT : zTy G hp) (ha : a < 3412) (hf1 : 1 ≤ f) (hf2 : f ≤ 999999999) : yC (xcall 89 xfts xpools xms (d + 1)) 518 [yR 2073, yR 2078, yI (a : Int), yJ f] hp (yQ_spr_upper G hp a f) := by
  have T_hp := hT
  obtain ⟨bl1, bl2⟩ := yL_bd W hT ha
  have ga := yFig_of W hT ha
  obtain ⟨n, hn⟩ : ∃ n : Nat, yL hp a = (n : Int) := ⟨(yL hp a).toNat, by omega⟩
  have mga : ymag hp a = ysum (yD hp a) n := by show ysum _ (yL hp a).toNat = _; rw [hn]; rfl
  have H : ∀ m k : Nat, ∀ cy : Int, ∀ hq, m + k = n → yNx G [2078] hp hq → (∀ s, yL hq s = yL hp s) → (∀ s j, yD hq s j = yD hp s j) → 0 ≤ cy → cy ≤ f - 1 → ysum (yUp hq) k + cy * yB k = ysum (yD hp a) k * f → yG 89 xfts (xcall 89 xfts xpools xms d) (xpool xp_RX13) [] xt_X13_spread (yP 0 (yQ_spr_upper G hp a f)) (60 * m + 100) 6 [(7, yI ((k : Int))), (5, yJ (cy)), (0, yR 2073), (1, yR 2078), (2, yI ((a : Int))), (3, yJ (f))] [] hq := by
    intro m
    induction m with
    | zero =>
      intro k cy hq hk N_hq I1 I3 I4 I5 I6
      have T_hq := N_hq.1
      have ek : k = n := by omega
      subst ek
      have L9 := I1 a
      refine yG.load xik rfl (fun _ _ => rfl) (v := yI ((k : Int))) rfl rfl ?_
      refine yG.load xak rfl (fun _ _ => rfl) (v := yR 2073) rfl rfl ?_
      refine yG.getR T_hq (yF_length W) rfl rfl ?_
      refine yG.load xik rfl (fun _ _ => rfl) (v := yI ((a : Int))) rfl rfl ?_
      refine yG.iald T_hq (yA_length W) rfl (by omega) (by omega) (fun z1 e_z1 i_z1 l_z1 u_z1 => ?_)
      have q_z1 : z1 = yL hq a := e_z1
      refine yG.icmp rfl (t := 66) rfl ⟨by omega, by omega⟩ ⟨by omega, by omega⟩ (fun c2 => ?_) (fun c2 => ?_)
      · have c2 : (k : Int) ≥ z1 := c2
        refine yG.load xak rfl (fun _ _ => rfl) (v := yR 2078) rfl rfl ?_
        refine yG.load xak rfl (fun _ _ => rfl) (v := yR 2073) rfl rfl ?_
        refine yG.getR T_hq (yF_length W) rfl rfl ?_
        refine yG.load xik rfl (fun _ _ => rfl) (v := yI ((a : Int))) rfl rfl ?_
        refine yG.iald T_hq (yA_length W) rfl (by omega) (by omega) (fun z3 e_z3 i_z3 l_z3 u_z3 => ?_)
        have q_z3 : z3 = yL hq a := e_z3
        refine yG.load xlk2 rfl (fun _ _ => rfl) (v := yJ (cy)) rfl rfl ?_
        refine yG.l2i rfl ?_
        refine yG.iast T_hq (yA_upper W) (by decide) rfl (by omega) (by omega) ⟨by omega, by omega⟩ (by omega) (by omega) (fun h4 T_h4 b_h4 f_h4 y_h4 => ?_)
        have N_h4 := N_hq.put T_h4 b_h4 (by decide) f_h4
        have D_h4 : ∀ s j, yD h4 s j = yD hq s j := fun s j => yput_ne y_h4 (by decide) _
        have L_h4 : ∀ s, yL h4 s = yL hq s := fun s => yput_ne y_h4 (by decide) _
        have S_h4 : ∀ s, yS h4 s = yS hq s := fun s => yput_ne y_h4 (by decide) _
        have yUp_h4 : ∀ t, yUp h4 t = if t = k then cy else yUp hq t := yput_A (n := k) y_h4 (by omega)
        refine yG.ret rfl (fun _ _ => rfl) ?_
        exact yP.void ⟨rfl, N_h4, by
          rw [hn, show (k : Int).toNat = k from rfl, ysum_succ, yUp_h4 k, if_pos rfl, mga, ← I6]
          exact congrArg (fun x : Int => x + cy * yB k) (ysum_congr fun j hj => by rw [yUp_h4 j, if_neg (by omega)])⟩
      · have c2 : (k : Int) < z1 := c2
        exfalso; omega
    | succ m ih =>
      intro k cy hq hk N_hq I1 I3 I4 I5 I6
      have T_hq := N_hq.1
      have L9 := I1 a
      have ax := ga k (by omega)
      have v1 : 0 ≤ yD hp a k * f := Int.mul_nonneg ax.1 (by omega)
      have v2 : yD hp a k * f ≤ 999999999 * f := Int.mul_le_mul_of_nonneg_right ax.2 (by omega)
      refine yG.load xik rfl (fun _ _ => rfl) (v := yI ((k : Int))) rfl rfl ?_
      refine yG.load xak rfl (fun _ _ => rfl) (v := yR 2073) rfl rfl ?_
      refine yG.getR T_hq (yF_length W) rfl rfl ?_
      refine yG.load xik rfl (fun _ _ => rfl) (v := yI ((a : Int))) rfl rfl ?_
      refine yG.iald T_hq (yA_length W) rfl (by omega) (by omega) (fun z31 e_z31 i_z31 l_z31 u_z31 => ?_)
      have q_z31 : z31 = yL hq a := e_z31
      refine yG.icmp rfl (t := 66) rfl ⟨by omega, by omega⟩ ⟨by omega, by omega⟩ (fun c32 => ?_) (fun c32 => ?_)
      · have c32 : (k : Int) ≥ z31 := c32
        exfalso; omega
      · have c32 : (k : Int) < z31 := c32
        refine yG.load xak rfl (fun _ _ => rfl) (v := yR 2073) rfl rfl ?_
        refine yG.getR T_hq (yF_big W) rfl rfl ?_
        refine yG.num (c := 256) rfl (fun _ _ => rfl) (by decide) ?_
        refine yG.load xik rfl (fun _ _ => rfl) (v := yI ((a : Int))) rfl rfl ?_
        refine yG.imul rfl ?_
        refine yG.load xik rfl (fun _ _ => rfl) (v := yI ((k : Int))) rfl rfl ?_
        refine yG.iadd rfl ?_
        refine yG.iald T_hq (yA_big W) rfl (by omega) (by omega) (fun z33 e_z33 i_z33 l_z33 u_z33 => ?_)
        have q_z33 : z33 = yD hq a (k) := e_z33.trans (yBig (by omega))
        have r_z33 : z33 = yD hp a k := by rw [q_z33]; exact I3 a k
        rw [r_z33]
        refine yG.i2l rfl ⟨by omega, by omega⟩ ?_
        refine yG.load xlk2 rfl (fun _ _ => rfl) (v := yJ (f)) rfl rfl ?_
        refine yG.lmul rfl ?_
        refine yG.load xlk2 rfl (fun _ _ => rfl) (v := yJ (cy)) rfl rfl ?_
        refine yG.ladd rfl ?_
        obtain ⟨z34, e_z34⟩ : ∃ z : Int, z = ((yD hp a k) * f) + cy := ⟨_, rfl⟩
        rw [← e_z34]
        refine yG.store2 xlk2 (L' := [(8, yJ (z34)), (7, yI ((k : Int))), (5, yJ (cy)), (0, yR 2073), (1, yR 2078), (2, yI ((a : Int))), (3, yJ (f))]) rfl (fun _ _ => rfl) rfl rfl ?_
        refine yG.load xlk2 rfl (fun _ _ => rfl) (v := yJ (z34)) rfl rfl ?_
        refine yG.numl (c := 1000000000) rfl (fun _ _ => rfl) (by decide) ?_
        refine yG.ldiv rfl ⟨by omega, by omega⟩ ⟨by omega, by omega⟩ (by omega) (by omega) ?_
        obtain ⟨z35, e_z35⟩ : ∃ z : Int, z = (z34) / (1000000000) := ⟨_, rfl⟩
        rw [← e_z35]
        refine yG.store2 xlk2 (L' := [(5, yJ (z35)), (8, yJ (z34)), (7, yI ((k : Int))), (0, yR 2073), (1, yR 2078), (2, yI ((a : Int))), (3, yJ (f))]) rfl (fun _ _ => rfl) rfl rfl ?_
        refine yG.load xak rfl (fun _ _ => rfl) (v := yR 2078) rfl rfl ?_
        refine yG.load xik rfl (fun _ _ => rfl) (v := yI ((k : Int))) rfl rfl ?_
        refine yG.load xlk2 rfl (fun _ _ => rfl) (v := yJ (z34)) rfl rfl ?_
        refine yG.load xlk2 rfl (fun _ _ => rfl) (v := yJ (z35)) rfl rfl ?_
        refine yG.numl (c := 1000000000) rfl (fun _ _ => rfl) (by decide) ?_
        refine yG.lmul rfl ?_
        refine yG.lsub rfl ?_
        refine yG.l2i rfl ?_
        refine yG.iast T_hq (yA_upper W) (by decide) rfl (by omega) (by omega) ⟨by omega, by omega⟩ (by omega) (by omega) (fun h36 T_h36 b_h36 f_h36 y_h36 => ?_)
        have N_h36 := N_hq.put T_h36 b_h36 (by decide) f_h36
        have D_h36 : ∀ s j, yD h36 s j = yD hq s j := fun s j => yput_ne y_h36 (by decide) _
        have L_h36 : ∀ s, yL h36 s = yL hq s := fun s => yput_ne y_h36 (by decide) _
        have S_h36 : ∀ s, yS h36 s = yS hq s := fun s => yput_ne y_h36 (by decide) _
        have yUp_h36 : ∀ t, yUp h36 t = if t = k then z34 - (z35 * 1000000000) else yUp hq t := yput_A (n := k) y_h36 (by omega)
        refine yG.iinc rfl (a := (k : Int)) rfl (L' := [(7, yI ((k : Int) + 1)), (5, yJ (z35)), (8, yJ (z34)), (0, yR 2073), (1, yR 2078), (2, yI ((a : Int))), (3, yJ (f))]) rfl ?_
        refine yG.goto rfl (t := 6) rfl ?_
        refine yG.mono ((ih (k + 1) z35 h36 (by omega) N_h36 (fun s => (L_h36 s).trans (I1 s)) (fun s j => (D_h36 s j).trans (I3 s j)) (by omega) (by omega) ?_).sub (ySub.cons rfl (ySub.cons rfl (ySub.cons rfl (ySub.cons rfl (ySub.cons rfl (ySub.cons rfl (ySub.nil)))))))) (by omega)
        rw [ysum_succ, ysum_succ, yUp_h36 k, if_pos rfl, yB_succ, show ysum (yUp h36) k = ysum (yUp hq) k from ysum_congr fun j hj => by rw [yUp_h36 j, if_neg (by omega)], Int.add_mul, ← I6]
        have e8 : z34 = yD hp a k * f + cy := by omega
        rw [e8]
        generalize z35 = c2
        generalize ysum (yUp hq) k = s1
        generalize yD hp a k = x9; generalize yB k = y9
        grind
  refine yC.of (M := (xt_X13_spread, (10, (0, (14, []))))) rfl rfl (N := 60 * n + 300) (yfuel (by omega)) ?_
  show yG 89 xfts (xcall 89 xfts xpools xms d) (xpool xp_RX13) [] xt_X13_spread (yP 0 (yQ_spr_upper G hp a f)) (60 * n + 300) 0 [(0, yR 2073), (1, yR 2078), (2, yI ((a : Int))), (3, yJ (f))] [] hp
  refine yG.numl (c := 0) rfl (fun _ _ => rfl) (by decide) ?_
  refine yG.store2 xlk2 (L' := [(5, yJ (0)), (0, yR 2073), (1, yR 2078), (2, yI ((a : Int))), (3, yJ (f))]) rfl (fun _ _ => rfl) rfl rfl ?_
  refine yG.num (c := 0) rfl (fun _ _ => rfl) (by decide) ?_
  refine yG.store1 xik (L' := [(7, yI (0)), (5, yJ (0)), (0, yR 2073), (1, yR 2078), (2, yI ((a : Int))), (3, yJ (f))]) rfl (fun _ _ => rfl) rfl rfl ?_
  exact yG.mono (H n 0 0 hp rfl (yNx.rf hT) (fun _ => rfl) (fun _ _ => rfl) (by omega) (by omega) (by show (0 : Int) + 0 * _ = 0 * _; rw [Int.zero_mul, Int.zero_mul]; rfl)) (by omega)
def yQ_spr_lower (G : zW) (hp : xH) (a : Nat) (f : Int) (rv : Option xA) (hp' : xH) : Prop := rv = none ∧ yNx G [2079] hp hp' ∧ ysum (yLo hp') ((yL hp a).toNat + 1) = ymag hp a * f
theorem y_spread_lower (W : yMW G) (d : Nat) (hT : zTy G hp) (ha : a < 3412) (hf1 : 1 ≤ f) (hf2 : f ≤ 999999999) : yC (xcall 89 xfts xpools xms (d + 1)) 518 [yR 2073, yR 2079, yI (a : Int), yJ f] hp (yQ_spr_lower G hp a f) := by
  have T_hp := hT
  obtain ⟨bl1, bl2⟩ := yL_bd W hT ha
  have ga := yFig_of W hT ha
  obtain ⟨n, hn⟩ : ∃ n : Nat, yL hp a = (n : Int) := ⟨(yL hp a).toNat, by omega⟩
  have mga : ymag hp a = ysum (yD hp a) n := by show ysum _ (yL hp a).toNat = _; rw [hn]; rfl
  have H : ∀ m k : Nat, ∀ cy : Int, ∀ hq, m + k = n → yNx G [2079] hp hq → (∀ s, yL hq s = yL hp s) → (∀ s j, yD hq s j = yD hp s j) → 0 ≤ cy → cy ≤ f - 1 → ysum (yLo hq) k + cy * yB k = ysum (yD hp a) k * f → yG 89 xfts (xcall 89 xfts xpools xms d) (xpool xp_RX13) [] xt_X13_spread (yP 0 (yQ_spr_lower G hp a f)) (60 * m + 100) 6 [(7, yI ((k : Int))), (5, yJ (cy)), (0, yR 2073), (1, yR 2079), (2, yI ((a : Int))), (3, yJ (f))] [] hq := by
    intro m
    induction m with
    | zero =>
      intro k cy hq hk N_hq I1 I3 I4 I5 I6
      have T_hq := N_hq.1
      have ek : k = n := by omega
      subst ek
      have L9 := I1 a
      refine yG.load xik rfl (fun _ _ => rfl) (v := yI ((k : Int))) rfl rfl ?_
      refine yG.load xak rfl (fun _ _ => rfl) (v := yR 2073) rfl rfl ?_
      refine yG.getR T_hq (yF_length W) rfl rfl ?_
      refine yG.load xik rfl (fun _ _ => rfl) (v := yI ((a : Int))) rfl rfl ?_
      refine yG.iald T_hq (yA_length W) rfl (by omega) (by omega) (fun z1 e_z1 i_z1 l_z1 u_z1 => ?_)
      have q_z1 : z1 = yL hq a := e_z1
      refine yG.icmp rfl (t := 66) rfl ⟨by omega, by omega⟩ ⟨by omega, by omega⟩ (fun c2 => ?_) (fun c2 => ?_)
      · have c2 : (k : Int) ≥ z1 := c2
        refine yG.load xak rfl (fun _ _ => rfl) (v := yR 2079) rfl rfl ?_
        refine yG.load xak rfl (fun _ _ => rfl) (v := yR 2073) rfl rfl ?_
        refine yG.getR T_hq (yF_length W) rfl rfl ?_
        refine yG.load xik rfl (fun _ _ => rfl) (v := yI ((a : Int))) rfl rfl ?_
        refine yG.iald T_hq (yA_length W) rfl (by omega) (by omega) (fun z3 e_z3 i_z3 l_z3 u_z3 => ?_)
        have q_z3 : z3 = yL hq a := e_z3
        refine yG.load xlk2 rfl (fun _ _ => rfl) (v := yJ (cy)) rfl rfl ?_
        refine yG.l2i rfl ?_
        refine yG.iast T_hq (yA_lower W) (by decide) rfl (by omega) (by omega) ⟨by omega, by omega⟩ (by omega) (by omega) (fun h4 T_h4 b_h4 f_h4 y_h4 => ?_)
        have N_h4 := N_hq.put T_h4 b_h4 (by decide) f_h4
        have D_h4 : ∀ s j, yD h4 s j = yD hq s j := fun s j => yput_ne y_h4 (by decide) _
        have L_h4 : ∀ s, yL h4 s = yL hq s := fun s => yput_ne y_h4 (by decide) _
        have S_h4 : ∀ s, yS h4 s = yS hq s := fun s => yput_ne y_h4 (by decide) _
        have yLo_h4 : ∀ t, yLo h4 t = if t = k then cy else yLo hq t := yput_A (n := k) y_h4 (by omega)
        refine yG.ret rfl (fun _ _ => rfl) ?_
        exact yP.void ⟨rfl, N_h4, by
          rw [hn, show (k : Int).toNat = k from rfl, ysum_succ, yLo_h4 k, if_pos rfl, mga, ← I6]
          exact congrArg (fun x : Int => x + cy * yB k) (ysum_congr fun j hj => by rw [yLo_h4 j, if_neg (by omega)])⟩
      · have c2 : (k : Int) < z1 := c2
        exfalso; omega
    | succ m ih =>
      intro k cy hq hk N_hq I1 I3 I4 I5 I6
      have T_hq := N_hq.1
      have L9 := I1 a
      have ax := ga k (by omega)
      have v1 : 0 ≤ yD hp a k * f := Int.mul_nonneg ax.1 (by omega)
      have v2 : yD hp a k * f ≤ 999999999 * f := Int.mul_le_mul_of_nonneg_right ax.2 (by omega)
      refine yG.load xik rfl (fun _ _ => rfl) (v := yI ((k : Int))) rfl rfl ?_
      refine yG.load xak rfl (fun _ _ => rfl) (v := yR 2073) rfl rfl ?_
      refine yG.getR T_hq (yF_length W) rfl rfl ?_
      refine yG.load xik rfl (fun _ _ => rfl) (v := yI ((a : Int))) rfl rfl ?_
      refine yG.iald T_hq (yA_length W) rfl (by omega) (by omega) (fun z31 e_z31 i_z31 l_z31 u_z31 => ?_)
      have q_z31 : z31 = yL hq a := e_z31
      refine yG.icmp rfl (t := 66) rfl ⟨by omega, by omega⟩ ⟨by omega, by omega⟩ (fun c32 => ?_) (fun c32 => ?_)
      · have c32 : (k : Int) ≥ z31 := c32
        exfalso; omega
      · have c32 : (k : Int) < z31 := c32
        refine yG.load xak rfl (fun _ _ => rfl) (v := yR 2073) rfl rfl ?_
        refine yG.getR T_hq (yF_big W) rfl rfl ?_
        refine yG.num (c := 256) rfl (fun _ _ => rfl) (by decide) ?_
        refine yG.load xik rfl (fun _ _ => rfl) (v := yI ((a : Int))) rfl rfl ?_
        refine yG.imul rfl ?_
        refine yG.load xik rfl (fun _ _ => rfl) (v := yI ((k : Int))) rfl rfl ?_
        refine yG.iadd rfl ?_
        refine yG.iald T_hq (yA_big W) rfl (by omega) (by omega) (fun z33 e_z33 i_z33 l_z33 u_z33 => ?_)
        have q_z33 : z33 = yD hq a (k) := e_z33.trans (yBig (by omega))
        have r_z33 : z33 = yD hp a k := by rw [q_z33]; exact I3 a k
        rw [r_z33]
        refine yG.i2l rfl ⟨by omega, by omega⟩ ?_
        refine yG.load xlk2 rfl (fun _ _ => rfl) (v := yJ (f)) rfl rfl ?_
        refine yG.lmul rfl ?_
        refine yG.load xlk2 rfl (fun _ _ => rfl) (v := yJ (cy)) rfl rfl ?_
        refine yG.ladd rfl ?_
        obtain ⟨z34, e_z34⟩ : ∃ z : Int, z = ((yD hp a k) * f) + cy := ⟨_, rfl⟩
        rw [← e_z34]
        refine yG.store2 xlk2 (L' := [(8, yJ (z34)), (7, yI ((k : Int))), (5, yJ (cy)), (0, yR 2073), (1, yR 2079), (2, yI ((a : Int))), (3, yJ (f))]) rfl (fun _ _ => rfl) rfl rfl ?_
        refine yG.load xlk2 rfl (fun _ _ => rfl) (v := yJ (z34)) rfl rfl ?_
        refine yG.numl (c := 1000000000) rfl (fun _ _ => rfl) (by decide) ?_
        refine yG.ldiv rfl ⟨by omega, by omega⟩ ⟨by omega, by omega⟩ (by omega) (by omega) ?_
        obtain ⟨z35, e_z35⟩ : ∃ z : Int, z = (z34) / (1000000000) := ⟨_, rfl⟩
        rw [← e_z35]
        refine yG.store2 xlk2 (L' := [(5, yJ (z35)), (8, yJ (z34)), (7, yI ((k : Int))), (0, yR 2073), (1, yR 2079), (2, yI ((a : Int))), (3, yJ (f))]) rfl (fun _ _ => rfl) rfl rfl ?_
        refine yG.load xak rfl (fun _ _ => rfl) (v := yR 2079) rfl rfl ?_
        refine yG.load xik rfl (fun _ _ => rfl) (v := yI ((k : Int))) rfl rfl ?_
        refine yG.load xlk2 rfl (fun _ _ => rfl) (v := yJ (z34)) rfl rfl ?_
        refine yG.load xlk2 rfl (fun _ _ => rfl) (v := yJ (z35)) rfl rfl ?_
        refine yG.numl (c := 1000000000) rfl (fun _ _ => rfl) (by decide) ?_
        refine yG.lmul rfl ?_
        refine yG.lsub rfl ?_
        refine yG.l2i rfl ?_
        refine yG.iast T_hq (yA_lower W) (by decide) rfl (by omega) (by omega) ⟨by omega, by omega⟩ (by omega) (by omega) (fun h36 T_h36 b_h36 f_h36 y_h36 => ?_)
        have N_h36 := N_hq.put T_h36 b_h36 (by decide) f_h36
        have D_h36 : ∀ s j, yD h36 s j = yD hq s j := fun s j => yput_ne y_h36 (by decide) _
        have L_h36 : ∀ s, yL h36 s = yL hq s := fun s => yput_ne y_h36 (by decide) _
        have S_h36 : ∀ s, yS h36 s = yS hq s := fun s => yput_ne y_h36 (by decide) _
        have yLo_h36 : ∀ t, yLo h36 t = if t = k then z34 - (z35 * 1000000000) else yLo hq t := yput_A (n := k) y_h36 (by omega)
        refine yG.iinc rfl (a := (k : Int)) rfl (L' := [(7, yI ((k : Int) + 1)), (5, yJ (z35)), (8, yJ (z34)), (0, yR 2073), (1, yR 2079), (2, yI ((a : Int))), (3, yJ (f))]) rfl ?_
        refine yG.goto rfl (t := 6) rfl ?_
        refine yG.mono ((ih (k + 1) z35 h36 (by omega) N_h36 (fun s => (L_h36 s).trans (I1 s)) (fun s j => (D_h36 s j).trans (I3 s j)) (by omega) (by omega) ?_).sub (ySub.cons rfl (ySub.cons rfl (ySub.cons rfl (ySub.cons rfl (ySub.cons rfl (ySub.cons rfl (ySub.nil)))))))) (by omega)
        rw [ysum_succ, ysum_succ, yLo_h36 k, if_pos rfl, yB_succ, show ysum (yLo h36) k = ysum (yLo hq) k from ysum_congr fun j hj => by rw [yLo_h36 j, if_neg (by omega)], Int.add_mul, ← I6]
        have e8 : z34 = yD hp a k * f + cy := by omega
        rw [e8]
        generalize z35 = c2
        generalize ysum (yLo hq) k = s1
        generalize yD hp a k = x9; generalize yB k = y9
        grind
  refine yC.of (M := (xt_X13_spread, (10, (0, (14, []))))) rfl rfl (N := 60 * n + 300) (yfuel (by omega)) ?_
  show yG 89 xfts (xcall 89 xfts xpools xms d) (xpool xp_RX13) [] xt_X13_spread (yP 0 (yQ_spr_lower G hp a f)) (60 * n + 300) 0 [(0, yR 2073), (1, yR 2079), (2, yI ((a : Int))), (3, yJ (f))] [] hp
  refine yG.numl (c := 0) rfl (fun _ _ => rfl) (by decide) ?_
  refine yG.store2 xlk2 (L' := [(5, yJ (0)), (0, yR 2073), (1, yR 2079), (2, yI ((a : Int))), (3, yJ (f))]) rfl (fun _ _ => rfl) rfl rfl ?_
  refine yG.num (c := 0) rfl (fun _ _ => rfl) (by decide) ?_
  refine yG.store1 xik (L' := [(7, yI (0)), (5, yJ (0)), (0, yR 2073), (1, yR 2079), (2, yI ((a : Int))), (3, yJ (f))]) rfl (fun _ _ => rfl) rfl rfl ?_
  exact yG.mono (H n 0 0 hp rfl (yNx.rf hT) (fun _ => rfl) (fun _ _ => rfl) (by omega) (by omega) (by show (0 : Int) + 0 * _ = 0 * _; rw [Int.zero_mul, Int.zero_mul]; rfl)) (by omega)
end YTake
