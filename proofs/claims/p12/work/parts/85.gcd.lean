/-! ===== the reference: what two have in common ===== -/
def yBM : Nat := 10 ^ 2304
theorem yfuelB {N : Nat} (h : N ≤ 1000 * yBM + 1000000) : N ≤ xfuel := Nat.le_trans h (by decide +kernel)
theorem yB256 : yB 256 = (yBM : Int) := by decide +kernel
section YGcd
variable {G : zW} {hp : xH} {r a b : Nat}
theorem ymag_top (W : yMW G) (hT : zTy G hp) (hr : r < 3412) : ymag hp r < (yBM : Int) := by
  have h1 := (ymag_bd W hT hr).2
  have h2 := yL_bd W hT hr
  have h3 := yB_mono (show (yL hp r).toNat ≤ 256 by omega)
  rw [yB256] at h3
  omega
/-- a register holds a number that isn't below 0 -/
def yNat (hp : xH) (r n : Nat) : Prop := yval hp r = (n : Int) ∧ yNorm hp r
theorem yNat.mag (W : yMW G) (hT : zTy G hp) (hr : r < 3412) {n : Nat} (h : yNat hp r n) : ymag hp r = (n : Int) := (yval_abs W hT hr h.1 h.2).1 (by omega)
theorem yNat.sg (W : yMW G) (hT : zTy G hp) (hr : r < 3412) {n : Nat} (h : yNat hp r n) : (yS hp r = 0 ∧ n = 0) ∨ (yS hp r = 1 ∧ 0 < n) := by
  have h1 := h.mag W hT hr
  have h2 := h.2.sg W hT hr
  have h3 := yS_bd W hT hr
  have h4 : yS hp r * ymag hp r = (n : Int) := h.1
  rw [h1] at h4 h2
  have hs : yS hp r = -1 ∨ yS hp r = 0 ∨ yS hp r = 1 := by omega
  rcases hs with e | e | e
  · rw [e] at h4 h2; omega
  · rw [e] at h4 h2; omega
  · rw [e] at h4 h2; omega
theorem yNat.same {hq : xH} {n : Nat} (h : yNat hp r n) (hs : ySm hp hq r) (hb : yL hp r ≤ 256) : yNat hq r n := ⟨by rw [hs.val hb]; exact h.1, hs.norm hb h.2⟩
def yG3 (s : Nat) : Prop := s ≠ 256 ∧ s ≠ 257 ∧ s ≠ 258
def yQ_gcd (G : zW) (hp : xH) (r : Nat) (g : Nat) (rv : Option xA) (hp' : xH) : Prop := rv = none ∧ yNx G [2074, 2075, 2076, 2078, 2079] hp hp' ∧ (∀ s, s ≠ r → yG3 s → ySm hp hp' s) ∧ yNat hp' r g ∧ yNorm hp' 256 ∧ yNorm hp' 257 ∧ yNorm hp' 258
theorem y_common (W : yMW G) (d : Nat) (hT : zTy G hp) (hr : r < 3412) (ha : a < 3412) (hb : b < 3412) (a3 : yG3 a) (b3 : yG3 b) (na : yNorm hp a) (nb : yNorm hp b) (n8 : yNorm hp 258) : yC (xcall 89 xfts xpools xms (d + 4)) 372 [yR 2073, yI (r : Int), yI (a : Int), yI (b : Int)] hp (yQ_gcd G hp r (Nat.gcd (ymag hp a).toNat (ymag hp b).toNat)) := by
  have T_hp := hT
  have N_hp : yNx G [2074, 2075, 2076, 2078, 2079] hp hp := yNx.rf hT
  have la := (yL_bd W hT ha).2
  have lb := (yL_bd W hT hb).2
  have ma0 := (ymag_bd W hT ha).1
  have mb0 := (ymag_bd W hT hb).1
  have mt := ymag_top W hT hb
  have H : ∀ m x y z X : Nat, ∀ hq, 256 ≤ x ∧ x ≤ 258 → 256 ≤ y ∧ y ≤ 258 → 256 ≤ z ∧ z ≤ 258 → x ≠ y → y ≠ z → x ≠ z → yNx G [2074, 2075, 2076, 2078, 2079] hp hq → (∀ s, yG3 s → ySm hp hq s) → yNat hq x X → yNat hq y m → yNorm hq z → Nat.gcd X m = Nat.gcd (ymag hp a).toNat (ymag hp b).toNat → yG 89 xfts (xcall 89 xfts xpools xms (d + 3)) (xpool xp_RX13) [] xt_X13_common (yP 0 (yQ_gcd G hp r (Nat.gcd (ymag hp a).toNat (ymag hp b).toNat))) (60 * m + 200) 75 [(6, yI ((z : Int))), (5, yI ((y : Int))), (4, yI ((x : Int))), (0, yR 2073), (1, yI ((r : Int))), (2, yI ((a : Int))), (3, yI ((b : Int)))] [] hq := by
    intro m
    induction m using Nat.strongRecOn with
    | _ m ih =>
      intro x y z X hq hx hy hz xy yz xz N_hq O9 nx ny nz hg
      have T_hq := N_hq.1
      have sy := ny.sg W T_hq (by omega)
      have mx := nx.mag W T_hq (by omega)
      have my := ny.mag W T_hq (by omega)
      have lx := (yL_bd W T_hq (show x < 3412 by omega)).2
      have ly := (yL_bd W T_hq (show y < 3412 by omega)).2
      refine yG.load xak rfl (fun _ _ => rfl) (v := yR 2073) rfl rfl ?_
      refine yG.getR T_hq (yF_sign W) rfl rfl ?_
      refine yG.load xik rfl (fun _ _ => rfl) (v := yI ((y : Int))) rfl rfl ?_
      refine yG.iald T_hq (yA_sign W) rfl (by omega) (by omega) (fun z11 e_z11 i_z11 l_z11 u_z11 => ?_)
      have q_z11 : z11 = yS hq y := e_z11
      refine yG.ifz rfl (t := 115) rfl ⟨by omega, by omega⟩ (fun c12 => ?_) (fun c12 => ?_)
      · have c12 : z11 = 0 := c12
        refine yG.load xak rfl (fun _ _ => rfl) (v := yR 2073) rfl rfl ?_
        refine yG.load xik rfl (fun _ _ => rfl) (v := yI ((r : Int))) rfl rfl ?_
        refine yG.load xik rfl (fun _ _ => rfl) (v := yI ((x : Int))) rfl rfl ?_
        refine yG.invV (rest := []) T_hq W.1 rfl rfl rfl rfl (y_copy (r := r) (a := x) W (d + 2) T_hq hr (by omega)) ?_
        intro rv h1 q1
        obtain ⟨m1, t1, v1⟩ := ycopy_mag lx q1
        obtain ⟨e1, M1, O1, X1, Y1, -⟩ := q1
        subst e1
        have T_h1 := M1.1
        have N_h1 := N_hq.tr (show yNx G [2074, 2075, 2076, 2078, 2079] hq h1 from ⟨M1.1, M1.2.1, M1.2.2.sub (by decide)⟩)
        show yG _ _ _ _ _ _ _ _ _ _ [] _
        refine yG.ret rfl (fun _ _ => rfl) ?_
        have m0 : m = 0 := by omega
        rw [m0, Nat.gcd_zero_right] at hg
        have nr : yNorm h1 r := yNorm.mk W T_h1 hr (t1 nx.2.1) (by rw [Y1, m1]; exact nx.2.sg W T_hq (by omega))
        have key : ∀ s, (s = x ∨ s = y ∨ s = z) → yNorm h1 s := fun s hs => by
          by_cases e : s = r
          · rw [e]; exact nr
          · refine (O1 s e).norm (yL_bd W T_hq (by omega)).2 ?_
            rcases hs with rfl | rfl | rfl
            · exact nx.2
            · exact ny.2
            · exact nz
        exact yP.void ⟨rfl, N_h1, fun s h1 h2 => (O9 s h2).tr (O1 s h1), ⟨by rw [v1, nx.1, hg], nr⟩, key 256 (by omega), key 257 (by omega), key 258 (by omega)⟩
      · have c12 : z11 ≠ 0 := c12
        refine yG.load xak rfl (fun _ _ => rfl) (v := yR 2073) rfl rfl ?_
        refine yG.num (c := -1) rfl (fun _ _ => rfl) (by decide) ?_
        refine yG.load xik rfl (fun _ _ => rfl) (v := yI ((z : Int))) rfl rfl ?_
        refine yG.load xik rfl (fun _ _ => rfl) (v := yI ((x : Int))) rfl rfl ?_
        refine yG.load xik rfl (fun _ _ => rfl) (v := yI ((y : Int))) rfl rfl ?_
        have m0 : 0 < m := by omega
        refine yG.invV (rest := []) T_hq W.1 rfl rfl rfl rfl (y_divide (qi := -1) (r := z) (a := x) (b := y) W d T_hq (by omega) (by omega) (by omega) (by omega) (by omega) (by omega) nx.2 ny.2.1 (by have := ymag_eq0 W T_hq (show y < 3412 by omega) ny.2.1; have := yL_bd W T_hq (show y < 3412 by omega); omega)) ?_
        intro rv h1 q1
        obtain ⟨e1, M1, O1, -, V1, n1⟩ := q1
        subst e1
        have T_h1 := M1.1
        have N_h1 := N_hq.tr M1
        rw [mx, my, ← Int.natCast_emod] at V1
        show yG _ _ _ _ _ _ _ _ _ _ [] _
        refine yG.load xik rfl (fun _ _ => rfl) (v := yI ((x : Int))) rfl rfl ?_
        refine yG.store1 xik (L' := [(7, yI ((x : Int))), (6, yI ((z : Int))), (5, yI ((y : Int))), (4, yI ((x : Int))), (0, yR 2073), (1, yI ((r : Int))), (2, yI ((a : Int))), (3, yI ((b : Int)))]) rfl (fun _ _ => rfl) rfl rfl ?_
        refine yG.load xik rfl (fun _ _ => rfl) (v := yI ((y : Int))) rfl rfl ?_
        refine yG.store1 xik (L' := [(4, yI ((y : Int))), (7, yI ((x : Int))), (6, yI ((z : Int))), (5, yI ((y : Int))), (0, yR 2073), (1, yI ((r : Int))), (2, yI ((a : Int))), (3, yI ((b : Int)))]) rfl (fun _ _ => rfl) rfl rfl ?_
        refine yG.load xik rfl (fun _ _ => rfl) (v := yI ((z : Int))) rfl rfl ?_
        refine yG.store1 xik (L' := [(5, yI ((z : Int))), (4, yI ((y : Int))), (7, yI ((x : Int))), (6, yI ((z : Int))), (0, yR 2073), (1, yI ((r : Int))), (2, yI ((a : Int))), (3, yI ((b : Int)))]) rfl (fun _ _ => rfl) rfl rfl ?_
        refine yG.load xik rfl (fun _ _ => rfl) (v := yI ((x : Int))) rfl rfl ?_
        refine yG.store1 xik (L' := [(6, yI ((x : Int))), (5, yI ((z : Int))), (4, yI ((y : Int))), (7, yI ((x : Int))), (0, yR 2073), (1, yI ((r : Int))), (2, yI ((a : Int))), (3, yI ((b : Int)))]) rfl (fun _ _ => rfl) rfl rfl ?_
        refine yG.goto rfl (t := 75) rfl ?_
        exact yG.mono ((ih (X % m) (Nat.mod_lt _ m0) y z x m h1 hy hz hx yz (by omega) (by omega) N_h1 (fun s h => (O9 s h).tr (O1 s (by have := h; unfold yG3 at this; omega) (by omega))) (ny.same (O1 y (by omega) (by omega)) ly) ⟨V1, n1⟩ ((O1 x (by omega) (by omega)).norm lx nx.2) (by rw [← hg, Nat.gcd_comm X m, Nat.gcd_rec m X, Nat.gcd_comm])).sub (ySub.cons rfl (ySub.cons rfl (ySub.cons rfl (ySub.cons rfl (ySub.cons rfl (ySub.cons rfl (ySub.cons rfl (ySub.nil))))))))) (by have := Nat.mod_lt X m0; omega)
  refine yC.of (M := (xt_X13_common, (8, (0, (14, []))))) rfl rfl (N := 60 * (ymag hp b).toNat + 400) (yfuelB (by omega)) ?_
  show yG 89 xfts (xcall 89 xfts xpools xms (d + 3)) (xpool xp_RX13) [] xt_X13_common (yP 0 (yQ_gcd G hp r (Nat.gcd (ymag hp a).toNat (ymag hp b).toNat))) (60 * (ymag hp b).toNat + 400) 0 [(0, yR 2073), (1, yI ((r : Int))), (2, yI ((a : Int))), (3, yI ((b : Int)))] [] hp
  refine yG.load xak rfl (fun _ _ => rfl) (v := yR 2073) rfl rfl ?_
  refine yG.num (c := 256) rfl (fun _ _ => rfl) (by decide) ?_
  refine yG.load xik rfl (fun _ _ => rfl) (v := yI ((a : Int))) rfl rfl ?_
  refine yG.invV (rest := []) T_hp W.1 rfl rfl rfl rfl (y_copy (r := 256) (a := a) W (d + 2) T_hp (by omega) ha) ?_
  intro rv h1 q1
  obtain ⟨m1, t1, v1⟩ := ycopy_mag la q1
  obtain ⟨e1, M1, O1, X1, Y1, -⟩ := q1
  subst e1
  have T_h1 := M1.1
  have N_h1 := N_hp.tr (show yNx G [2074, 2075, 2076, 2078, 2079] hp h1 from ⟨M1.1, M1.2.1, M1.2.2.sub (by decide)⟩)
  show yG _ _ _ _ _ _ _ _ _ _ [] _
  refine yG.load xak rfl (fun _ _ => rfl) (v := yR 2073) rfl rfl ?_
  refine yG.num (c := 257) rfl (fun _ _ => rfl) (by decide) ?_
  refine yG.load xik rfl (fun _ _ => rfl) (v := yI ((b : Int))) rfl rfl ?_
  have lb1 : yL h1 b ≤ 256 := by rw [(O1 b (by unfold yG3 at b3; omega)).1]; exact lb
  refine yG.invV (rest := []) T_h1 W.1 rfl rfl rfl rfl (y_copy (r := 257) (a := b) W (d + 2) T_h1 (by omega) hb) ?_
  intro rv h2 q1
  obtain ⟨m2, t2, v2⟩ := ycopy_mag lb1 q1
  obtain ⟨e1, M2, O2, X2, Y2, -⟩ := q1
  subst e1
  have T_h2 := M2.1
  have N_h2 := N_h1.tr (show yNx G [2074, 2075, 2076, 2078, 2079] h1 h2 from ⟨M2.1, M2.2.1, M2.2.2.sub (by decide)⟩)
  show yG _ _ _ _ _ _ _ _ _ _ [] _
  refine yG.load xak rfl (fun _ _ => rfl) (v := yR 2073) rfl rfl ?_
  refine yG.getR T_h2 (yF_sign W) rfl rfl ?_
  refine yG.num (c := 256) rfl (fun _ _ => rfl) (by decide) ?_
  refine yG.load xak rfl (fun _ _ => rfl) (v := yR 2073) rfl rfl ?_
  refine yG.getR T_h2 (yF_sign W) rfl rfl ?_
  refine yG.load xik rfl (fun _ _ => rfl) (v := yI ((a : Int))) rfl rfl ?_
  refine yG.iald T_h2 (yA_sign W) rfl (by omega) (by omega) (fun z101 e_z101 i_z101 l_z101 u_z101 => ?_)
  have q_z101 : z101 = yS h2 a := e_z101
  refine yG.ifz rfl (t := 36) rfl ⟨by omega, by omega⟩ (fun c102 => ?_) (fun c102 => ?_)
  · have c102 : z101 ≠ 0 := c102
    refine yG.num (c := 1) rfl (fun _ _ => rfl) (by decide) ?_
    refine yG.iast T_h2 (yA_sign W) (by decide) rfl (by omega) (by omega) ⟨by omega, by omega⟩ (by omega) (by omega) (fun h103 T_h103 b_h103 f_h103 y_h103 => ?_)
    have N_h103 := N_h2.put T_h103 b_h103 (by decide) f_h103
    have D_h103 : ∀ s j, yD h103 s j = yD h2 s j := fun s j => yput_ne y_h103 (by decide) _
    have L_h103 : ∀ s, yL h103 s = yL h2 s := fun s => yput_ne y_h103 (by decide) _
    have S_h103 : ∀ s, yS h103 s = if s = 256 then 1 else yS h2 s := yput_S (r := 256) y_h103
    refine yG.load xak rfl (fun _ _ => rfl) (v := yR 2073) rfl rfl ?_
    refine yG.getR T_h103 (yF_sign W) rfl rfl ?_
    refine yG.num (c := 257) rfl (fun _ _ => rfl) (by decide) ?_
    refine yG.load xak rfl (fun _ _ => rfl) (v := yR 2073) rfl rfl ?_
    refine yG.getR T_h103 (yF_sign W) rfl rfl ?_
    refine yG.load xik rfl (fun _ _ => rfl) (v := yI ((b : Int))) rfl rfl ?_
    refine yG.iald T_h103 (yA_sign W) rfl (by omega) (by omega) (fun z104 e_z104 i_z104 l_z104 u_z104 => ?_)
    have q_z104 : z104 = yS h103 b := e_z104
    refine yG.ifz rfl (t := 58) rfl ⟨by omega, by omega⟩ (fun c105 => ?_) (fun c105 => ?_)
    · have c105 : z104 ≠ 0 := c105
      refine yG.num (c := 1) rfl (fun _ _ => rfl) (by decide) ?_
      refine yG.iast T_h103 (yA_sign W) (by decide) rfl (by omega) (by omega) ⟨by omega, by omega⟩ (by omega) (by omega) (fun h106 T_h106 b_h106 f_h106 y_h106 => ?_)
      have N_h106 := N_h103.put T_h106 b_h106 (by decide) f_h106
      have D_h106 : ∀ s j, yD h106 s j = yD h103 s j := fun s j => yput_ne y_h106 (by decide) _
      have L_h106 : ∀ s, yL h106 s = yL h103 s := fun s => yput_ne y_h106 (by decide) _
      have S_h106 : ∀ s, yS h106 s = if s = 257 then 1 else yS h103 s := yput_S (r := 257) y_h106
      refine yG.num (c := 256) rfl (fun _ _ => rfl) (by decide) ?_
      refine yG.store1 xik (L' := [(4, yI (256)), (0, yR 2073), (1, yI ((r : Int))), (2, yI ((a : Int))), (3, yI ((b : Int)))]) rfl (fun _ _ => rfl) rfl rfl ?_
      refine yG.num (c := 257) rfl (fun _ _ => rfl) (by decide) ?_
      refine yG.store1 xik (L' := [(5, yI (257)), (4, yI (256)), (0, yR 2073), (1, yI ((r : Int))), (2, yI ((a : Int))), (3, yI ((b : Int)))]) rfl (fun _ _ => rfl) rfl rfl ?_
      refine yG.num (c := 258) rfl (fun _ _ => rfl) (by decide) ?_
      refine yG.store1 xik (L' := [(6, yI (258)), (5, yI (257)), (4, yI (256)), (0, yR 2073), (1, yI ((r : Int))), (2, yI ((a : Int))), (3, yI ((b : Int)))]) rfl (fun _ _ => rfl) rfl rfl ?_
      have A1 := (O1 a (by unfold yG3 at a3; omega)).2.1
      have A2 := (O2 a (by unfold yG3 at a3; omega)).2.1
      have B1 := (O1 b (by unfold yG3 at b3; omega)).2.1
      have B2 := (O2 b (by unfold yG3 at b3; omega)).2.1
      have m256 : ymag h2 256 = ymag hp a := by rw [(O2 256 (by omega)).mag (yL_bd W T_h1 (by omega)).2, m1]
      have t256 : yTop h2 256 := (O2 256 (by omega)).top (yL_bd W T_h1 (by omega)).2 (t1 na.1)
      have m257 : ymag h2 257 = ymag hp b := by rw [m2, (O1 b (by unfold yG3 at b3; omega)).mag lb]
      have t257 : yTop h2 257 := t2 ((O1 b (by unfold yG3 at b3; omega)).top lb nb.1)
      have za := na.sg W hT ha
      have zb := nb.sg W hT hb
      have S3 := S_h103 b
      rw [if_neg (by unfold yG3 at b3; omega)] at S3
      obtain ⟨f1, f2, f3⟩ := ysign_set W T_h103 (by omega) (yL_bd W T_h2 (by omega)).2 D_h103 L_h103 S_h103 t256 (by rw [m256]; omega)
      have s257 := f1 257 (by omega)
      have b257 := (yL_bd W T_h2 (show 257 < 3412 by omega)).2
      obtain ⟨f4, f5, f6⟩ := ysign_set W T_h106 (by omega) (yL_bd W T_h103 (by omega)).2 D_h106 L_h106 S_h106 (s257.top b257 t257) (by rw [s257.mag b257, m257]; omega)
      have s256 := f4 256 (by omega)
      have b256 := (yL_bd W T_h103 (show 256 < 3412 by omega)).2
      refine yG.mono ((H (ymag hp b).toNat 256 257 258 (ymag hp a).toNat h106 (by omega) (by omega) (by omega) (by omega) (by omega) (by omega) N_h106 (fun s h => (((O1 s h.1).tr (O2 s h.2.1)).tr (f1 s h.1)).tr (f4 s h.2.1)) ⟨?_, s256.norm b256 f3⟩ ⟨?_, f6⟩ (((((O1 258 (by omega)).tr (O2 258 (by omega))).tr (f1 258 (by omega))).tr (f4 258 (by omega))).norm (yL_bd W hT (by omega)).2 n8) rfl)) (by omega)
      · rw [s256.val b256, f2, m256]
        have : (1 : Int) = 1 ∨ ymag hp a = 0 := by omega
        rcases this with e | e
        · rw [e]; omega
        · rw [e]; rfl
      · rw [f5, s257.mag b257, m257]
        have : (1 : Int) = 1 ∨ ymag hp b = 0 := by omega
        rcases this with e | e
        · rw [e]; omega
        · rw [e]; rfl
    · have c105 : z104 = 0 := c105
      refine yG.num (c := 0) rfl (fun _ _ => rfl) (by decide) ?_
      refine yG.goto rfl (t := 59) rfl ?_
      refine yG.iast T_h103 (yA_sign W) (by decide) rfl (by omega) (by omega) ⟨by omega, by omega⟩ (by omega) (by omega) (fun h107 T_h107 b_h107 f_h107 y_h107 => ?_)
      have N_h107 := N_h103.put T_h107 b_h107 (by decide) f_h107
      have D_h107 : ∀ s j, yD h107 s j = yD h103 s j := fun s j => yput_ne y_h107 (by decide) _
      have L_h107 : ∀ s, yL h107 s = yL h103 s := fun s => yput_ne y_h107 (by decide) _
      have S_h107 : ∀ s, yS h107 s = if s = 257 then 0 else yS h103 s := yput_S (r := 257) y_h107
      refine yG.num (c := 256) rfl (fun _ _ => rfl) (by decide) ?_
      refine yG.store1 xik (L' := [(4, yI (256)), (0, yR 2073), (1, yI ((r : Int))), (2, yI ((a : Int))), (3, yI ((b : Int)))]) rfl (fun _ _ => rfl) rfl rfl ?_
      refine yG.num (c := 257) rfl (fun _ _ => rfl) (by decide) ?_
      refine yG.store1 xik (L' := [(5, yI (257)), (4, yI (256)), (0, yR 2073), (1, yI ((r : Int))), (2, yI ((a : Int))), (3, yI ((b : Int)))]) rfl (fun _ _ => rfl) rfl rfl ?_
      refine yG.num (c := 258) rfl (fun _ _ => rfl) (by decide) ?_
      refine yG.store1 xik (L' := [(6, yI (258)), (5, yI (257)), (4, yI (256)), (0, yR 2073), (1, yI ((r : Int))), (2, yI ((a : Int))), (3, yI ((b : Int)))]) rfl (fun _ _ => rfl) rfl rfl ?_
      have A1 := (O1 a (by unfold yG3 at a3; omega)).2.1
      have A2 := (O2 a (by unfold yG3 at a3; omega)).2.1
      have B1 := (O1 b (by unfold yG3 at b3; omega)).2.1
      have B2 := (O2 b (by unfold yG3 at b3; omega)).2.1
      have m256 : ymag h2 256 = ymag hp a := by rw [(O2 256 (by omega)).mag (yL_bd W T_h1 (by omega)).2, m1]
      have t256 : yTop h2 256 := (O2 256 (by omega)).top (yL_bd W T_h1 (by omega)).2 (t1 na.1)
      have m257 : ymag h2 257 = ymag hp b := by rw [m2, (O1 b (by unfold yG3 at b3; omega)).mag lb]
      have t257 : yTop h2 257 := t2 ((O1 b (by unfold yG3 at b3; omega)).top lb nb.1)
      have za := na.sg W hT ha
      have zb := nb.sg W hT hb
      have S3 := S_h103 b
      rw [if_neg (by unfold yG3 at b3; omega)] at S3
      obtain ⟨f1, f2, f3⟩ := ysign_set W T_h103 (by omega) (yL_bd W T_h2 (by omega)).2 D_h103 L_h103 S_h103 t256 (by rw [m256]; omega)
      have s257 := f1 257 (by omega)
      have b257 := (yL_bd W T_h2 (show 257 < 3412 by omega)).2
      obtain ⟨f4, f5, f6⟩ := ysign_set W T_h107 (by omega) (yL_bd W T_h103 (by omega)).2 D_h107 L_h107 S_h107 (s257.top b257 t257) (by rw [s257.mag b257, m257]; omega)
      have s256 := f4 256 (by omega)
      have b256 := (yL_bd W T_h103 (show 256 < 3412 by omega)).2
      refine yG.mono ((H (ymag hp b).toNat 256 257 258 (ymag hp a).toNat h107 (by omega) (by omega) (by omega) (by omega) (by omega) (by omega) N_h107 (fun s h => (((O1 s h.1).tr (O2 s h.2.1)).tr (f1 s h.1)).tr (f4 s h.2.1)) ⟨?_, s256.norm b256 f3⟩ ⟨?_, f6⟩ (((((O1 258 (by omega)).tr (O2 258 (by omega))).tr (f1 258 (by omega))).tr (f4 258 (by omega))).norm (yL_bd W hT (by omega)).2 n8) rfl)) (by omega)
      · rw [s256.val b256, f2, m256]
        have : (1 : Int) = 1 ∨ ymag hp a = 0 := by omega
        rcases this with e | e
        · rw [e]; omega
        · rw [e]; rfl
      · rw [f5, s257.mag b257, m257]
        have : (0 : Int) = 1 ∨ ymag hp b = 0 := by omega
        rcases this with e | e
        · rw [e]; omega
        · rw [e]; rfl
  · have c102 : z101 = 0 := c102
    refine yG.num (c := 0) rfl (fun _ _ => rfl) (by decide) ?_
    refine yG.goto rfl (t := 37) rfl ?_
    refine yG.iast T_h2 (yA_sign W) (by decide) rfl (by omega) (by omega) ⟨by omega, by omega⟩ (by omega) (by omega) (fun h108 T_h108 b_h108 f_h108 y_h108 => ?_)
    have N_h108 := N_h2.put T_h108 b_h108 (by decide) f_h108
    have D_h108 : ∀ s j, yD h108 s j = yD h2 s j := fun s j => yput_ne y_h108 (by decide) _
    have L_h108 : ∀ s, yL h108 s = yL h2 s := fun s => yput_ne y_h108 (by decide) _
    have S_h108 : ∀ s, yS h108 s = if s = 256 then 0 else yS h2 s := yput_S (r := 256) y_h108
    refine yG.load xak rfl (fun _ _ => rfl) (v := yR 2073) rfl rfl ?_
    refine yG.getR T_h108 (yF_sign W) rfl rfl ?_
    refine yG.num (c := 257) rfl (fun _ _ => rfl) (by decide) ?_
    refine yG.load xak rfl (fun _ _ => rfl) (v := yR 2073) rfl rfl ?_
    refine yG.getR T_h108 (yF_sign W) rfl rfl ?_
    refine yG.load xik rfl (fun _ _ => rfl) (v := yI ((b : Int))) rfl rfl ?_
    refine yG.iald T_h108 (yA_sign W) rfl (by omega) (by omega) (fun z109 e_z109 i_z109 l_z109 u_z109 => ?_)
    have q_z109 : z109 = yS h108 b := e_z109
    refine yG.ifz rfl (t := 58) rfl ⟨by omega, by omega⟩ (fun c110 => ?_) (fun c110 => ?_)
    · have c110 : z109 ≠ 0 := c110
      refine yG.num (c := 1) rfl (fun _ _ => rfl) (by decide) ?_
      refine yG.iast T_h108 (yA_sign W) (by decide) rfl (by omega) (by omega) ⟨by omega, by omega⟩ (by omega) (by omega) (fun h111 T_h111 b_h111 f_h111 y_h111 => ?_)
      have N_h111 := N_h108.put T_h111 b_h111 (by decide) f_h111
      have D_h111 : ∀ s j, yD h111 s j = yD h108 s j := fun s j => yput_ne y_h111 (by decide) _
      have L_h111 : ∀ s, yL h111 s = yL h108 s := fun s => yput_ne y_h111 (by decide) _
      have S_h111 : ∀ s, yS h111 s = if s = 257 then 1 else yS h108 s := yput_S (r := 257) y_h111
      refine yG.num (c := 256) rfl (fun _ _ => rfl) (by decide) ?_
      refine yG.store1 xik (L' := [(4, yI (256)), (0, yR 2073), (1, yI ((r : Int))), (2, yI ((a : Int))), (3, yI ((b : Int)))]) rfl (fun _ _ => rfl) rfl rfl ?_
      refine yG.num (c := 257) rfl (fun _ _ => rfl) (by decide) ?_
      refine yG.store1 xik (L' := [(5, yI (257)), (4, yI (256)), (0, yR 2073), (1, yI ((r : Int))), (2, yI ((a : Int))), (3, yI ((b : Int)))]) rfl (fun _ _ => rfl) rfl rfl ?_
      refine yG.num (c := 258) rfl (fun _ _ => rfl) (by decide) ?_
      refine yG.store1 xik (L' := [(6, yI (258)), (5, yI (257)), (4, yI (256)), (0, yR 2073), (1, yI ((r : Int))), (2, yI ((a : Int))), (3, yI ((b : Int)))]) rfl (fun _ _ => rfl) rfl rfl ?_
      have A1 := (O1 a (by unfold yG3 at a3; omega)).2.1
      have A2 := (O2 a (by unfold yG3 at a3; omega)).2.1
      have B1 := (O1 b (by unfold yG3 at b3; omega)).2.1
      have B2 := (O2 b (by unfold yG3 at b3; omega)).2.1
      have m256 : ymag h2 256 = ymag hp a := by rw [(O2 256 (by omega)).mag (yL_bd W T_h1 (by omega)).2, m1]
      have t256 : yTop h2 256 := (O2 256 (by omega)).top (yL_bd W T_h1 (by omega)).2 (t1 na.1)
      have m257 : ymag h2 257 = ymag hp b := by rw [m2, (O1 b (by unfold yG3 at b3; omega)).mag lb]
      have t257 : yTop h2 257 := t2 ((O1 b (by unfold yG3 at b3; omega)).top lb nb.1)
      have za := na.sg W hT ha
      have zb := nb.sg W hT hb
      have S3 := S_h108 b
      rw [if_neg (by unfold yG3 at b3; omega)] at S3
      obtain ⟨f1, f2, f3⟩ := ysign_set W T_h108 (by omega) (yL_bd W T_h2 (by omega)).2 D_h108 L_h108 S_h108 t256 (by rw [m256]; omega)
      have s257 := f1 257 (by omega)
      have b257 := (yL_bd W T_h2 (show 257 < 3412 by omega)).2
      obtain ⟨f4, f5, f6⟩ := ysign_set W T_h111 (by omega) (yL_bd W T_h108 (by omega)).2 D_h111 L_h111 S_h111 (s257.top b257 t257) (by rw [s257.mag b257, m257]; omega)
      have s256 := f4 256 (by omega)
      have b256 := (yL_bd W T_h108 (show 256 < 3412 by omega)).2
      refine yG.mono ((H (ymag hp b).toNat 256 257 258 (ymag hp a).toNat h111 (by omega) (by omega) (by omega) (by omega) (by omega) (by omega) N_h111 (fun s h => (((O1 s h.1).tr (O2 s h.2.1)).tr (f1 s h.1)).tr (f4 s h.2.1)) ⟨?_, s256.norm b256 f3⟩ ⟨?_, f6⟩ (((((O1 258 (by omega)).tr (O2 258 (by omega))).tr (f1 258 (by omega))).tr (f4 258 (by omega))).norm (yL_bd W hT (by omega)).2 n8) rfl)) (by omega)
      · rw [s256.val b256, f2, m256]
        have : (0 : Int) = 1 ∨ ymag hp a = 0 := by omega
        rcases this with e | e
        · rw [e]; omega
        · rw [e]; rfl
      · rw [f5, s257.mag b257, m257]
        have : (1 : Int) = 1 ∨ ymag hp b = 0 := by omega
        rcases this with e | e
        · rw [e]; omega
        · rw [e]; rfl
    · have c110 : z109 = 0 := c110
      refine yG.num (c := 0) rfl (fun _ _ => rfl) (by decide) ?_
      refine yG.goto rfl (t := 59) rfl ?_
      refine yG.iast T_h108 (yA_sign W) (by decide) rfl (by omega) (by omega) ⟨by omega, by omega⟩ (by omega) (by omega) (fun h112 T_h112 b_h112 f_h112 y_h112 => ?_)
      have N_h112 := N_h108.put T_h112 b_h112 (by decide) f_h112
      have D_h112 : ∀ s j, yD h112 s j = yD h108 s j := fun s j => yput_ne y_h112 (by decide) _
      have L_h112 : ∀ s, yL h112 s = yL h108 s := fun s => yput_ne y_h112 (by decide) _
      have S_h112 : ∀ s, yS h112 s = if s = 257 then 0 else yS h108 s := yput_S (r := 257) y_h112
      refine yG.num (c := 256) rfl (fun _ _ => rfl) (by decide) ?_
      refine yG.store1 xik (L' := [(4, yI (256)), (0, yR 2073), (1, yI ((r : Int))), (2, yI ((a : Int))), (3, yI ((b : Int)))]) rfl (fun _ _ => rfl) rfl rfl ?_
      refine yG.num (c := 257) rfl (fun _ _ => rfl) (by decide) ?_
      refine yG.store1 xik (L' := [(5, yI (257)), (4, yI (256)), (0, yR 2073), (1, yI ((r : Int))), (2, yI ((a : Int))), (3, yI ((b : Int)))]) rfl (fun _ _ => rfl) rfl rfl ?_
      refine yG.num (c := 258) rfl (fun _ _ => rfl) (by decide) ?_
      refine yG.store1 xik (L' := [(6, yI (258)), (5, yI (257)), (4, yI (256)), (0, yR 2073), (1, yI ((r : Int))), (2, yI ((a : Int))), (3, yI ((b : Int)))]) rfl (fun _ _ => rfl) rfl rfl ?_
      have A1 := (O1 a (by unfold yG3 at a3; omega)).2.1
      have A2 := (O2 a (by unfold yG3 at a3; omega)).2.1
      have B1 := (O1 b (by unfold yG3 at b3; omega)).2.1
      have B2 := (O2 b (by unfold yG3 at b3; omega)).2.1
      have m256 : ymag h2 256 = ymag hp a := by rw [(O2 256 (by omega)).mag (yL_bd W T_h1 (by omega)).2, m1]
      have t256 : yTop h2 256 := (O2 256 (by omega)).top (yL_bd W T_h1 (by omega)).2 (t1 na.1)
      have m257 : ymag h2 257 = ymag hp b := by rw [m2, (O1 b (by unfold yG3 at b3; omega)).mag lb]
      have t257 : yTop h2 257 := t2 ((O1 b (by unfold yG3 at b3; omega)).top lb nb.1)
      have za := na.sg W hT ha
      have zb := nb.sg W hT hb
      have S3 := S_h108 b
      rw [if_neg (by unfold yG3 at b3; omega)] at S3
      obtain ⟨f1, f2, f3⟩ := ysign_set W T_h108 (by omega) (yL_bd W T_h2 (by omega)).2 D_h108 L_h108 S_h108 t256 (by rw [m256]; omega)
      have s257 := f1 257 (by omega)
      have b257 := (yL_bd W T_h2 (show 257 < 3412 by omega)).2
      obtain ⟨f4, f5, f6⟩ := ysign_set W T_h112 (by omega) (yL_bd W T_h108 (by omega)).2 D_h112 L_h112 S_h112 (s257.top b257 t257) (by rw [s257.mag b257, m257]; omega)
      have s256 := f4 256 (by omega)
      have b256 := (yL_bd W T_h108 (show 256 < 3412 by omega)).2
      refine yG.mono ((H (ymag hp b).toNat 256 257 258 (ymag hp a).toNat h112 (by omega) (by omega) (by omega) (by omega) (by omega) (by omega) N_h112 (fun s h => (((O1 s h.1).tr (O2 s h.2.1)).tr (f1 s h.1)).tr (f4 s h.2.1)) ⟨?_, s256.norm b256 f3⟩ ⟨?_, f6⟩ (((((O1 258 (by omega)).tr (O2 258 (by omega))).tr (f1 258 (by omega))).tr (f4 258 (by omega))).norm (yL_bd W hT (by omega)).2 n8) rfl)) (by omega)
      · rw [s256.val b256, f2, m256]
        have : (0 : Int) = 1 ∨ ymag hp a = 0 := by omega
        rcases this with e | e
        · rw [e]; omega
        · rw [e]; rfl
      · rw [f5, s257.mag b257, m257]
        have : (0 : Int) = 1 ∨ ymag hp b = 0 := by omega
        rcases this with e | e
        · rw [e]; omega
        · rw [e]; rfl
end YGcd
