/-! ===== the reference: quotient and rest ===== -/
/-- an estimate that is too great -/
theorem yest_hi {x fi se lf v u2 P Lw U : Int} (hx : 0 ≤ x) (hl : lf = v - x * fi) (h : lf * 1000000000 + u2 < x * se) (hP : 1 ≤ P) (h1 : (fi * 1000000000 + se) * P ≤ Lw) (h2 : U < (v * 1000000000 + u2 + 1) * P) : U < x * Lw := by
  have e1 : v * 1000000000 + u2 + 1 ≤ x * (fi * 1000000000 + se) := by
    have : x * (fi * 1000000000 + se) = (x * fi) * 1000000000 + x * se := by grind
    rw [this]
    omega
  have e2 : (v * 1000000000 + u2 + 1) * P ≤ x * (fi * 1000000000 + se) * P := Int.mul_le_mul_of_nonneg_right e1 (by omega)
  have e3 : x * ((fi * 1000000000 + se) * P) ≤ x * Lw := Int.mul_le_mul_of_nonneg_left h1 hx
  rw [← Int.mul_assoc] at e3
  omega
/-- one that is not too small, nor too great by two -/
theorem yest_lo {x fi se v u2 P Lw U : Int} (hx : 0 ≤ x) (hx2 : x < 1000000000) (hf : 1 ≤ fi) (hs : 0 ≤ se) (h : x * (fi * 1000000000 + se) ≤ v * 1000000000 + u2) (hP : 1 ≤ P) (h1 : (fi * 1000000000 + se) * P ≤ Lw) (h2 : Lw < (fi * 1000000000 + se + 1) * P) (h3 : (v * 1000000000 + u2) * P ≤ U) : x * Lw ≤ U + Lw := by
  have e1 : x * Lw ≤ x * ((fi * 1000000000 + se + 1) * P) := Int.mul_le_mul_of_nonneg_left (by omega) hx
  have e2 : x * ((fi * 1000000000 + se + 1) * P) = x * (fi * 1000000000 + se) * P + x * P := by grind
  have e3 : x * (fi * 1000000000 + se) * P ≤ (v * 1000000000 + u2) * P := Int.mul_le_mul_of_nonneg_right h (by omega)
  have e4 : x * P ≤ (fi * 1000000000 + se) * P := Int.mul_le_mul_of_nonneg_right (by omega) (by omega)
  omega
/-- the first two figures of a sum -/
theorem ysum_two {g : Nat → Int} {n : Nat} (h : yFig g (n + 2)) : (g (n + 1) * 1000000000 + g n) * yB n ≤ ysum g (n + 2) ∧ ysum g (n + 2) < (g (n + 1) * 1000000000 + g n + 1) * yB n := by
  have b := ysum_bd (h.sub (show n ≤ n + 2 by omega))
  have e : ysum g (n + 2) = ysum g n + (g (n + 1) * 1000000000 + g n) * yB n := by
    rw [ysum_succ, ysum_succ, yB_succ]
    grind
  rw [e, Int.add_mul _ 1, Int.one_mul]
  omega
theorem ysum_three {g : Nat → Int} {n : Nat} (h : yFig g (n + 3)) : ((g (n + 2) * 1000000000 + g (n + 1)) * 1000000000 + g n) * yB n ≤ ysum g (n + 3) ∧ ysum g (n + 3) < ((g (n + 2) * 1000000000 + g (n + 1)) * 1000000000 + g n + 1) * yB n := by
  have b := ysum_bd (h.sub (show n ≤ n + 3 by omega))
  have e : ysum g (n + 3) = ysum g n + ((g (n + 2) * 1000000000 + g (n + 1)) * 1000000000 + g n) * yB n := by
    have e1 : yB (n + 2) = 1000000000 * (1000000000 * yB n) := rfl
    have e2 : yB (n + 1) = 1000000000 * yB n := rfl
    show ysum g n + g n * yB n + g (n + 1) * yB (n + 1) + g (n + 2) * yB (n + 2) = _
    rw [e1, e2]
    grind
  rw [e, Int.add_mul _ 1, Int.one_mul]
  omega
theorem yalg7 {rs u vm vd f p s : Int} (h : rs * 1000000000 + u = vm + vd * f) : rs * (1000000000 * p) + (s + u * p) = vm * p + s + f * (vd * p) := by grind
theorem yalg8 {s u p t z L : Int} : s + u * p + 1000000000 * p * t = s + p * (u + 1000000000 * t - z * L) + L * (z * p) := by grind
theorem yalg9 {S L z w p : Int} : S + L * (z * p) + L * (w * (1000000000 * p)) = S + L * ((z + w * 1000000000) * p) := by grind
theorem yalg10 {S L z x p s1 s2 : Int} : S + L * (z * p) + L * (s1 - (s2 + x * p)) = S + L * (s1 + (z - x) * p - s2) := by grind
theorem yalg11 {s p u t : Int} : s + p * (u + 1000000000 * t) = s + u * p + 1000000000 * p * t := by grind
theorem ydiv_uniq {x y q r : Int} (h : x = r + y * q) (h0 : 0 ≤ r) (h1 : r < y) : x / y = q ∧ x % y = r := by
  rw [h]
  exact ⟨by rw [Int.mul_comm, Int.add_mul_ediv_right _ _ (by omega), Int.ediv_eq_zero_of_lt h0 h1, Int.zero_add], by rw [Int.add_mul_emod_self_left]; exact Int.emod_eq_of_lt h0 h1⟩
section YDivide
variable {G : zW} {hp : xH} {r a b : Nat} {qi : Int}
theorem y_divide (W : yMW G) (d : Nat) (hT : zTy G hp) (hr : r < 3412) (ha : a < 3412) (hb : b < 3412) (hq1 : -1 ≤ qi) (hq2 : qi < 3412) (hqr : qi ≠ r) (na : yNorm hp a) (tb : yTop hp b) (hbz : 0 < yL hp b) : yC (xcall 89 xfts xpools xms (d + 3)) 388 [yR 2073, yI qi, yI (r : Int), yI (a : Int), yI (b : Int)] hp (yQ_div G [2074, 2075, 2076, 2078, 2079] hp qi r (ymag hp a) (ymag hp b)) := by
  have T_hp := hT
  obtain ⟨bl1, bl2⟩ := yL_bd W hT ha
  obtain ⟨bl3, bl4⟩ := yL_bd W hT hb
  have ga := yFig_of W hT ha
  have gb := yFig_of W hT hb
  obtain ⟨m, hm⟩ : ∃ m : Nat, yL hp a = (m : Int) := ⟨(yL hp a).toNat, by omega⟩
  obtain ⟨n, hn⟩ : ∃ n : Nat, yL hp b = (n : Int) := ⟨(yL hp b).toNat, by omega⟩
  have mga : ymag hp a = ysum (yD hp a) m := by show ysum _ (yL hp a).toNat = _; rw [hm]; rfl
  have mgb : ymag hp b = ysum (yD hp b) n := by show ysum _ (yL hp b).toNat = _; rw [hn]; rfl
  have ma0 := (ymag_bd W hT ha).1
  have mb0 := (ymag_pos W hT hb hbz tb).2
  have za := na.sg W hT ha
  have HR : ∀ f : Int, 1 ≤ f → f ≤ 999999999 → ∀ hz, yNx G [2074, 2075, 2076, 2078, 2079] hp hz → (∀ s : Nat, s ≠ r → (s : Int) ≠ qi → ySm hp hz s) → (∀ q : Nat, qi = (q : Int) → yval hz q = ymag hp a / ymag hp b ∧ yNorm hz q) → ysum (yUp hz) n = f * (ymag hp a % ymag hp b) → ∀ k : Nat, ∀ i rs : Int, ∀ hq, i = (k : Int) - 1 → k ≤ n → yNx G [2074, 2075, 2076, 2078, 2079] hz hq → (∀ t, yUp hq t = yUp hz t) → (∀ s j, j < 256 → s ≠ r → yD hq s j = yD hz s j) → (∀ s, yL hq s = yL hz s) → (∀ s, yS hq s = yS hz s) → 0 ≤ rs → rs < f → rs * yB k + ysum (yUp hz) k + f * (ysum (yD hq r) n - ysum (yD hq r) k) = ysum (yUp hz) n → yG 89 xfts (xcall 89 xfts xpools xms (d + 2)) (xpool xp_RX13) [] xt_X13_divide (yP 0 (yQ_div G [2074, 2075, 2076, 2078, 2079] hp qi r (ymag hp a) (ymag hp b))) (80 * k + 800) 348 [(15, yI (i)), (13, yJ (rs)), (7, yJ (f)), (5, yI ((n : Int))), (0, yR 2073), (2, yI ((r : Int)))] [] hq := by
    intro f f1 f2 hz Nz Oz Qz Rz k
    induction k with
    | zero =>
      intro i rs hq hi hk Nq Uq Dq Lq Sq r0 r1 E
      have N_hq := Nz.tr Nq
      have T_hq := N_hq.1
      rw [show yB 0 = 1 from rfl, show ysum (yUp hz) 0 = 0 from rfl, show ysum (yD hq r) 0 = 0 from rfl, Int.mul_one, Int.add_zero, Int.sub_zero, Rz] at E
      have e9 : ysum (yD hq r) n = ymag hp a % ymag hp b := by
        have := ydiv_uniq (x := f * (ymag hp a % ymag hp b)) (y := f) (q := ysum (yD hq r) n) (r := rs) (by omega) r0 r1
        rw [← this.1, Int.mul_ediv_cancel_left _ (by omega)]
      refine yG.load xik rfl (fun _ _ => rfl) (v := yI (i)) rfl rfl ?_
      refine yG.ifz rfl (t := 402) rfl ⟨by omega, by omega⟩ (fun c11 => ?_) (fun c11 => ?_)
      · have c11 : i < 0 := c11
        refine yG.load xak rfl (fun _ _ => rfl) (v := yR 2073) rfl rfl ?_
        refine yG.load xik rfl (fun _ _ => rfl) (v := yI ((r : Int))) rfl rfl ?_
        refine yG.load xik rfl (fun _ _ => rfl) (v := yI ((n : Int))) rfl rfl ?_
        refine yG.invV (rest := []) T_hq W.1 rfl rfl rfl rfl (y_finish (r := r) (n := n) W (d + 1) T_hq hr (by omega)) ?_
        intro rv h1 q1
        obtain ⟨e1, M1, O1, V1, n1⟩ := q1
        subst e1
        have T_h1 := M1.1
        have N_h1 := N_hq.tr (show yNx G [2074, 2075, 2076, 2078, 2079] hq h1 from ⟨M1.1, M1.2.1, M1.2.2.sub (by decide)⟩)
        show yG _ _ _ _ _ _ _ _ _ _ [] _
        refine yG.ret rfl (fun _ _ => rfl) ?_
        have same : ∀ s, s ≠ r → ySm hz hq s := fun s hs => ⟨Lq s, Sq s, fun j hj => Dq s j hj hs⟩
        exact yP.void ⟨rfl, N_h1, fun s h1 h2 => ((Oz s h1 h2).tr (same s h1)).tr (O1 s h1), fun q h => by
          have hqn : q ≠ r := by omega
          have sm := (same q hqn).tr (O1 q hqn)
          have bq := (yL_bd W Nz.1 (show q < 3412 by omega)).2
          obtain ⟨v1, v2⟩ := Qz q h
          exact ⟨by rw [sm.val bq, v1], sm.norm bq v2⟩, by rw [V1, e9], n1⟩
      · have c11 : i ≥ 0 := c11
        exfalso; omega
    | succ k ih =>
      intro i rs hq hi hk Nq Uq Dq Lq Sq r0 r1 E
      have N_hq := Nq
      have T_hq := N_hq.1
      have ub := yUp_bd W T_hq (j := k) (by omega)
      have uu := Uq k
      obtain ⟨v, hv⟩ : ∃ v : Int, v = rs * 1000000000 + yUp hz k := ⟨_, rfl⟩
      have v0 : 0 ≤ v := by omega
      have vb : v < f * 1000000000 := by omega
      have d1 : 0 ≤ v / f := Int.ediv_nonneg v0 (by omega)
      have d2 : v / f < 1000000000 := Int.ediv_lt_of_lt_mul (by omega) (by rw [Int.mul_comm]; exact vb)
      have d3 : 0 ≤ v % f := Int.emod_nonneg _ (by omega)
      have d4 : v % f < f := Int.emod_lt_of_pos _ (by omega)
      have key : rs * yB (k + 1) + ysum (yUp hz) (k + 1) = v % f * yB k + ysum (yUp hz) k + f * (v / f * yB k) := by
        have e : v = v % f + v / f * f := by rw [Int.mul_comm]; exact (Int.emod_add_mul_ediv v f).symm
        rw [ysum_succ, yB_succ]
        exact yalg7 (hv.symm.trans e)
      refine yG.load xik rfl (fun _ _ => rfl) (v := yI (i)) rfl rfl ?_
      refine yG.ifz rfl (t := 402) rfl ⟨by omega, by omega⟩ (fun c31 => ?_) (fun c31 => ?_)
      · have c31 : i < 0 := c31
        exfalso; omega
      · have c31 : i ≥ 0 := c31
        refine yG.load xlk2 rfl (fun _ _ => rfl) (v := yJ (rs)) rfl rfl ?_
        refine yG.numl (c := 1000000000) rfl (fun _ _ => rfl) (by decide) ?_
        refine yG.lmul rfl ?_
        refine yG.load xak rfl (fun _ _ => rfl) (v := yR 2073) rfl rfl ?_
        refine yG.getR T_hq (yF_upper W) rfl rfl ?_
        refine yG.load xik rfl (fun _ _ => rfl) (v := yI (i)) rfl rfl ?_
        refine yG.iald T_hq (yA_upper W) rfl (by omega) (by omega) (fun z32 e_z32 i_z32 l_z32 u_z32 => ?_)
        have q_z32 : z32 = yUp hq (k) := e_z32.trans (by show ys _ 2078 _ = ys _ 2078 _; rw [show (i).toNat = k by omega])
        refine yG.i2l rfl ⟨by omega, by omega⟩ ?_
        refine yG.ladd rfl ?_
        rw [show (rs * 1000000000) + z32 = v by omega]
        refine yG.store2 xlk2 (L' := [(16, yJ (v)), (15, yI (i)), (13, yJ (rs)), (7, yJ (f)), (5, yI ((n : Int))), (0, yR 2073), (2, yI ((r : Int)))]) rfl (fun _ _ => rfl) rfl rfl ?_
        refine yG.load xak rfl (fun _ _ => rfl) (v := yR 2073) rfl rfl ?_
        refine yG.getR T_hq (yF_big W) rfl rfl ?_
        refine yG.num (c := 256) rfl (fun _ _ => rfl) (by decide) ?_
        refine yG.load xik rfl (fun _ _ => rfl) (v := yI ((r : Int))) rfl rfl ?_
        refine yG.imul rfl ?_
        refine yG.load xik rfl (fun _ _ => rfl) (v := yI (i)) rfl rfl ?_
        refine yG.iadd rfl ?_
        refine yG.load xlk2 rfl (fun _ _ => rfl) (v := yJ (v)) rfl rfl ?_
        refine yG.load xlk2 rfl (fun _ _ => rfl) (v := yJ (f)) rfl rfl ?_
        refine yG.ldiv rfl ⟨by omega, by omega⟩ ⟨by omega, by omega⟩ (by omega) (by omega) ?_
        refine yG.l2i rfl ?_
        refine yG.iast T_hq (yA_big W) (by decide) rfl (by omega) (by omega) ⟨by omega, by omega⟩ (by omega) (by omega) (fun h33 T_h33 b_h33 f_h33 y_h33 => ?_)
        have N_h33 := N_hq.put T_h33 b_h33 (by decide) f_h33
        have D_h33 : ∀ s j, j < 256 → yD h33 s j = if s = r ∧ j = k then (v) / (f) else yD hq s j := yput_D (r := r) (k := k) y_h33 (by omega) (by omega)
        have L_h33 : ∀ s, yL h33 s = yL hq s := fun s => yput_ne y_h33 (by decide) _
        have S_h33 : ∀ s, yS h33 s = yS hq s := fun s => yput_ne y_h33 (by decide) _
        have yUp_h33 : ∀ t, yUp h33 t = yUp hq t := fun t => yput_ne y_h33 (by decide) _
        have yLo_h33 : ∀ t, yLo h33 t = yLo hq t := fun t => yput_ne y_h33 (by decide) _
        refine yG.load xlk2 rfl (fun _ _ => rfl) (v := yJ (v)) rfl rfl ?_
        refine yG.load xlk2 rfl (fun _ _ => rfl) (v := yJ (f)) rfl rfl ?_
        refine yG.lrem rfl ⟨by omega, by omega⟩ ⟨by omega, by omega⟩ (by omega) (by omega) ?_
        rw [show (v) % (f) = (v % f) by rfl]
        refine yG.store2 xlk2 (L' := [(13, yJ ((v % f))), (16, yJ (v)), (15, yI (i)), (7, yJ (f)), (5, yI ((n : Int))), (0, yR 2073), (2, yI ((r : Int)))]) rfl (fun _ _ => rfl) rfl rfl ?_
        refine yG.iinc rfl (a := i) rfl (L' := [(15, yI (i + (-1))), (13, yJ ((v % f))), (16, yJ (v)), (7, yJ (f)), (5, yI ((n : Int))), (0, yR 2073), (2, yI ((r : Int)))]) rfl ?_
        refine yG.goto rfl (t := 348) rfl ?_
        refine yG.mono ((ih (i + (-1)) (v % f) h33 (by omega) (by omega) N_h33 (fun t => (yUp_h33 t).trans (Uq t)) (fun s j hj hs => by rw [D_h33 s j hj, if_neg (fun e => hs e.1)]; exact Dq s j hj hs) (fun s => (L_h33 s).trans (Lq s)) (fun s => (S_h33 s).trans (Sq s)) d3 d4 ?_).sub (ySub.cons rfl (ySub.cons rfl (ySub.cons rfl (ySub.cons rfl (ySub.cons rfl (ySub.cons rfl (ySub.nil)))))))) (by omega)
        rw [← E, key, ysum_succ (yD hq r) k]
        rw [show ysum (yD h33 r) k = ysum (yD hq r) k from ysum_congr fun j hj => by rw [D_h33 r j (by omega), if_neg (by omega)], ysum_upd (f := yD hq r) (g := yD h33 r) (n := n) (t := k) (by omega) fun j h1 h2 => by rw [D_h33 r j (by omega), if_neg (fun h => h2 h.2)], D_h33 r k (by omega), if_pos ⟨rfl, rfl⟩]
        exact (yalg1 _ _ _ _ _ _ _ _).symm
  have HJ : 2 ≤ n → n ≤ m → ∀ f : Int, 1 ≤ f → f ≤ 999999999 → ∀ h0, yNx G [2074, 2075, 2076, 2078, 2079] hp h0 → (∀ s, yL h0 s = yL hp s) → (∀ s, yS h0 s = yS hp s) → (∀ s j, yD h0 s j = yD hp s j) → ∀ f1 s2 : Int, f1 = yLo h0 (n - 1) → s2 = yLo h0 (n - 2) → 1 ≤ f1 → ysum (yLo h0) n = ymag hp b * f → ∀ k : Nat, ∀ i : Int, ∀ hq, i = (k : Int) - 1 → k + n ≤ m + 1 → yNx G [2074, 2075, 2076, 2078, 2079] h0 hq → (∀ s, yL hq s = yL hp s) → (∀ s, yS hq s = yS hp s) → (∀ s j : Nat, j < 256 → (s : Int) ≠ qi → yD hq s j = yD hp s j) → (∀ t, yLo hq t = yLo h0 t) → ysum (fun t => yUp hq (k + t)) n < ymag hp b * f → (∀ q : Nat, qi = (q : Int) → ymag hp a * f = ysum (yUp hq) k + yB k * ysum (fun t => yUp hq (k + t)) n + ymag hp b * f * (ysum (yD hq q) (m - n + 1) - ysum (yD hq q) k)) → (qi < 0 → ∃ z, ymag hp a * f = ysum (yUp hq) k + yB k * ysum (fun t => yUp hq (k + t)) n + ymag hp b * f * (z * yB k)) → yG 89 xfts (xcall 89 xfts xpools xms (d + 2)) (xpool xp_RX13) [] xt_X13_divide (yP 0 (yQ_div G [2074, 2075, 2076, 2078, 2079] hp qi r (ymag hp a) (ymag hp b))) (90000000000 * k + 100000) 169 [(13, yI (i)), (11, yJ (s2)), (9, yJ (f1)), (7, yJ (f)), (6, yI ((m : Int))), (5, yI ((n : Int))), (0, yR 2073), (1, yI (qi)), (2, yI ((r : Int))), (3, yI ((a : Int))), (4, yI ((b : Int)))] [] hq := by
    intro n2 nm f ff1 ff2 h0 N0 L0 S0 D0 f1 s2 e_f1 e_s2 f11 eLw
    have T0 := N0.1
    have bf1 := yLo_bd W T0 (j := n - 1) (by omega)
    have bs2 := yLo_bd W T0 (j := n - 2) (by omega)
    have gl : yFig (yLo h0) n := fun t ht => yLo_bd W T0 (by omega)
    obtain ⟨n9, hn9⟩ : ∃ n9, n = n9 + 2 := ⟨n - 2, by omega⟩
    obtain ⟨Lw, hLw⟩ : ∃ x : Int, x = ymag hp b * f := ⟨_, rfl⟩
    have Pp := yB_pos n9
    have lw2 : (f1 * 1000000000 + s2) * yB n9 ≤ Lw ∧ Lw < (f1 * 1000000000 + s2 + 1) * yB n9 := by
      have h := ysum_two (g := yLo h0) (n := n9) (by rw [← hn9]; exact gl)
      rw [← hn9, eLw, ← hLw] at h
      rw [e_f1, e_s2, show n - 1 = n9 + 1 by omega, show n - 2 = n9 by omega]
      exact h
    rw [← hLw]
    rw [← hLw] at eLw
    have Lw0 : 0 < Lw := by rw [hLw]; exact Int.mul_pos mb0 (by omega)
    intro k
    induction k with
    | zero =>
      intro i hq hi hk Nq I1 I2 I3 I4 I5 I6 I7
      have N_hq := N0.tr Nq
      have T_hq := N_hq.1
      have gu : yFig (yUp hq) n := fun t ht => yUp_bd W T_hq (by omega)
      have e0 : ysum (fun t => yUp hq (0 + t)) n = ysum (yUp hq) n := ysum_congr fun t _ => by rw [Nat.zero_add]
      rw [e0] at I5 I6 I7
      have fin : ∀ Qt : Int, ymag hp a * f = ysum (yUp hq) n + Lw * Qt → ymag hp a / ymag hp b = Qt ∧ ysum (yUp hq) n = f * (ymag hp a % ymag hp b) := by
        intro Qt e
        have e1 := ydiv_uniq e (ysum_bd gu).1 I5
        rw [hLw, Int.mul_comm (ymag hp a), Int.mul_comm (ymag hp b), Int.mul_ediv_mul_of_pos _ _ (by omega), Int.mul_emod_mul_of_pos _ _ (by omega)] at e1
        exact ⟨e1.1, e1.2.symm⟩
      refine yG.load xik rfl (fun _ _ => rfl) (v := yI (i)) rfl rfl ?_
      refine yG.ifz rfl (t := 323) rfl ⟨by omega, by omega⟩ (fun c61 => ?_) (fun c61 => ?_)
      · have c61 : i < 0 := c61
        refine yG.load xik rfl (fun _ _ => rfl) (v := yI (qi)) rfl rfl ?_
        refine yG.ifz rfl (t := 339) rfl ⟨by omega, by omega⟩ (fun c62 => ?_) (fun c62 => ?_)
        · have c62 : qi < 0 := c62
          refine yG.numl (c := 0) rfl (fun _ _ => rfl) (by decide) ?_
          refine yG.store2 xlk2 (L' := [(13, yJ (0)), (11, yJ (s2)), (9, yJ (f1)), (7, yJ (f)), (6, yI ((m : Int))), (5, yI ((n : Int))), (0, yR 2073), (1, yI (qi)), (2, yI ((r : Int))), (3, yI ((a : Int))), (4, yI ((b : Int)))]) rfl (fun _ _ => rfl) rfl rfl ?_
          refine yG.load xik rfl (fun _ _ => rfl) (v := yI ((n : Int))) rfl rfl ?_
          refine yG.num (c := 1) rfl (fun _ _ => rfl) (by decide) ?_
          refine yG.isub rfl ?_
          obtain ⟨z63, e_z63⟩ : ∃ z : Int, z = (n : Int) - 1 := ⟨_, rfl⟩
          rw [← e_z63]
          refine yG.store1 xik (L' := [(15, yI (z63)), (13, yJ (0)), (11, yJ (s2)), (9, yJ (f1)), (7, yJ (f)), (6, yI ((m : Int))), (5, yI ((n : Int))), (0, yR 2073), (1, yI (qi)), (2, yI ((r : Int))), (3, yI ((a : Int))), (4, yI ((b : Int)))]) rfl (fun _ _ => rfl) rfl rfl ?_
          have v2 : ysum (yUp hq) n = f * (ymag hp a % ymag hp b) := by
            obtain ⟨z, e⟩ := I7 (by omega)
            exact (fin z (by rw [show ysum (yUp hq) 0 = 0 from rfl, show yB 0 = 1 from rfl, Int.zero_add, Int.one_mul, Int.mul_one] at e; exact e)).2
          exact yG.mono ((HR f ff1 ff2 hq N_hq (fun s h1 h2 => ⟨I1 s, I2 s, fun j hj => I3 s j hj h2⟩) (fun q9 h9 => by omega) v2 n _ 0 hq (by omega) (Nat.le_refl _) (yNx.rf T_hq) (fun _ => rfl) (fun _ _ _ _ => rfl) (fun _ => rfl) (fun _ => rfl) (by omega) (by omega) (by rw [Int.sub_self, Int.mul_zero, Int.zero_mul, Int.zero_add, Int.add_zero])).sub (ySub.cons rfl (ySub.cons rfl (ySub.cons rfl (ySub.cons rfl (ySub.cons rfl (ySub.cons rfl (ySub.nil)))))))) (by omega)
        · have c62 : qi ≥ 0 := c62
          refine yG.load xak rfl (fun _ _ => rfl) (v := yR 2073) rfl rfl ?_
          refine yG.load xik rfl (fun _ _ => rfl) (v := yI (qi)) rfl rfl ?_
          refine yG.load xik rfl (fun _ _ => rfl) (v := yI ((m : Int))) rfl rfl ?_
          refine yG.load xik rfl (fun _ _ => rfl) (v := yI ((n : Int))) rfl rfl ?_
          refine yG.isub rfl ?_
          refine yG.num (c := 1) rfl (fun _ _ => rfl) (by decide) ?_
          refine yG.iadd rfl ?_
          obtain ⟨q, hq9⟩ : ∃ q : Nat, qi = (q : Int) := ⟨qi.toNat, by omega⟩
          obtain ⟨v1, v2⟩ := fin _ (by have := I6 q hq9; rw [show ysum (yUp hq) 0 = 0 from rfl, show ysum (yD hq q) 0 = 0 from rfl, show yB 0 = 1 from rfl, Int.zero_add, Int.one_mul, Int.sub_zero] at this; exact this)
          refine yG.invV (rest := []) T_hq W.1 rfl rfl rfl rfl (show yC _ _ [yR 2073, yI qi, yI (((m : Int) - (n : Int)) + 1)] hq (yQ_val G [2074, 2075, 2076] hq q (ysum (yD hq q) (m - n + 1))) from by rw [hq9, show ((m : Int) - (n : Int)) + 1 = ((m - n + 1 : Nat) : Int) by omega]; exact y_finish (r := q) (n := m - n + 1) W (d + 1) T_hq (by omega) (by omega)) ?_
          intro rv h1 q1
          obtain ⟨e1, M1, O1, V1, n1⟩ := q1
          subst e1
          have T_h1 := M1.1
          have N_h1 := N_hq.tr (show yNx G [2074, 2075, 2076, 2078, 2079] hq h1 from ⟨M1.1, M1.2.1, M1.2.2.sub (by decide)⟩)
          show yG _ _ _ _ _ _ _ _ _ _ [] _
          refine yG.numl (c := 0) rfl (fun _ _ => rfl) (by decide) ?_
          refine yG.store2 xlk2 (L' := [(13, yJ (0)), (11, yJ (s2)), (9, yJ (f1)), (7, yJ (f)), (6, yI ((m : Int))), (5, yI ((n : Int))), (0, yR 2073), (1, yI (qi)), (2, yI ((r : Int))), (3, yI ((a : Int))), (4, yI ((b : Int)))]) rfl (fun _ _ => rfl) rfl rfl ?_
          refine yG.load xik rfl (fun _ _ => rfl) (v := yI ((n : Int))) rfl rfl ?_
          refine yG.num (c := 1) rfl (fun _ _ => rfl) (by decide) ?_
          refine yG.isub rfl ?_
          obtain ⟨z64, e_z64⟩ : ∃ z : Int, z = (n : Int) - 1 := ⟨_, rfl⟩
          rw [← e_z64]
          refine yG.store1 xik (L' := [(15, yI (z64)), (13, yJ (0)), (11, yJ (s2)), (9, yJ (f1)), (7, yJ (f)), (6, yI ((m : Int))), (5, yI ((n : Int))), (0, yR 2073), (1, yI (qi)), (2, yI ((r : Int))), (3, yI ((a : Int))), (4, yI ((b : Int)))]) rfl (fun _ _ => rfl) rfl rfl ?_
          have U1 : ∀ t, yUp h1 t = yUp hq t := fun t => M1.2.2.same (by decide) t
          exact yG.mono ((HR f ff1 ff2 h1 N_h1 (fun s h1 h2 => (show ySm hp hq s from ⟨I1 s, I2 s, fun j hj => I3 s j hj h2⟩).tr (O1 s (by omega))) (fun q9 h9 => by
            obtain rfl : q = q9 := by omega
            exact ⟨by rw [V1, v1], n1⟩) (by rw [ysum_congr fun t _ => U1 t]; exact v2) n _ 0 h1 (by omega) (Nat.le_refl _) (yNx.rf T_h1) (fun _ => rfl) (fun _ _ _ _ => rfl) (fun _ => rfl) (fun _ => rfl) (by omega) (by omega) (by rw [Int.sub_self, Int.mul_zero, Int.zero_mul, Int.zero_add, Int.add_zero])).sub (ySub.cons rfl (ySub.cons rfl (ySub.cons rfl (ySub.cons rfl (ySub.cons rfl (ySub.cons rfl (ySub.nil)))))))) (by omega)
      · have c61 : i ≥ 0 := c61
        exfalso; omega
    | succ k ih =>
      intro i hq hi hk Nq I1 I2 I3 I4 I5 I6 I7
      have N_hq := N0.tr Nq
      have T_hq := N_hq.1
      have e_ls : ysum (yLo hq) n = Lw := by rw [ysum_congr fun t _ => I4 t]; exact eLw
      have gu : yFig (fun t => yUp hq (k + t)) (n + 1) := fun t ht => yUp_bd W T_hq (by omega)
      obtain ⟨U, hU⟩ : ∃ x : Int, x = ysum (fun t => yUp hq (k + t)) (n + 1) := ⟨_, rfl⟩
      obtain ⟨u0, hu0⟩ : ∃ x : Int, x = yUp hq (k + n) := ⟨_, rfl⟩
      obtain ⟨u1, hu1⟩ : ∃ x : Int, x = yUp hq (k + n - 1) := ⟨_, rfl⟩
      obtain ⟨u2, hu2⟩ : ∃ x : Int, x = yUp hq (k + n - 2) := ⟨_, rfl⟩
      have bu0 := yUp_bd W T_hq (j := k + n) (by omega)
      have bu1 := yUp_bd W T_hq (j := k + n - 1) (by omega)
      have bu2 := yUp_bd W T_hq (j := k + n - 2) (by omega)
      have U0 : 0 ≤ U := by rw [hU]; exact (ysum_bd gu).1
      have Us : U = yUp hq k + 1000000000 * ysum (fun t => yUp hq (k + 1 + t)) n := by rw [hU]; exact ysum_shift (yUp hq) k n
      have bk := yUp_bd W T_hq (j := k) (by omega)
      have UB : U < 1000000000 * Lw := by omega
      obtain ⟨v, hv⟩ : ∃ v : Int, v = u0 * 1000000000 + u1 := ⟨_, rfl⟩
      have u3 : (v * 1000000000 + u2) * yB n9 ≤ U ∧ U < (v * 1000000000 + u2 + 1) * yB n9 := by
        have h := ysum_three (g := fun t => yUp hq (k + t)) (n := n9) (by rw [show n9 + 3 = n + 1 by omega]; exact gu)
        rw [show n9 + 3 = n + 1 by omega, ← hU] at h
        rw [hv, hu0, hu1, hu2, show k + n = k + (n9 + 2) by omega, show k + (n9 + 2) - 1 = k + (n9 + 1) by omega, show k + (n9 + 2) - 2 = k + n9 by omega]
        exact h
      have u0f : u0 ≤ f1 := by
        by_cases h9 : u0 ≤ f1
        · exact h9
        · have h8 : (f1 * 1000000000 + s2 + 1) * yB n9 ≤ (u0 * 1000000000) * yB n9 := Int.mul_le_mul_of_nonneg_right (by omega) (by omega)
          have h7 : 1000000000 * ((u0 * 1000000000) * yB n9) ≤ (v * 1000000000 + u2) * yB n9 := by
            have : 1000000000 * ((u0 * 1000000000) * yB n9) = (u0 * 1000000000 * 1000000000) * yB n9 := by grind
            rw [this]
            exact Int.mul_le_mul_of_nonneg_right (by omega) (by omega)
          omega
      have STEP : ∀ x : Int, 0 ≤ x → x ≤ 999999999 → x * Lw ≤ U + Lw → U < x * Lw + Lw → yG 89 xfts (xcall 89 xfts xpools xms (d + 2)) (xpool xp_RX13) [] xt_X13_divide (yP 0 (yQ_div G [2074, 2075, 2076, 2078, 2079] hp qi r (ymag hp a) (ymag hp b))) (90000000000 * k + 110000) 285 [(16, yJ (x)), (13, yI (i)), (11, yJ (s2)), (9, yJ (f1)), (7, yJ (f)), (6, yI ((m : Int))), (5, yI ((n : Int))), (0, yR 2073), (1, yI (qi)), (2, yI ((r : Int))), (3, yI ((a : Int))), (4, yI ((b : Int)))] [] hq := by
        intro x x0 x1 xA xB
        refine yG.load xak rfl (fun _ _ => rfl) (v := yR 2073) rfl rfl ?_
        refine yG.load xik rfl (fun _ _ => rfl) (v := yI (i)) rfl rfl ?_
        refine yG.load xik rfl (fun _ _ => rfl) (v := yI ((n : Int))) rfl rfl ?_
        refine yG.load xlk2 rfl (fun _ _ => rfl) (v := yJ (x)) rfl rfl ?_
        refine yG.invV (rest := []) T_hq W.1 rfl rfl rfl rfl (show yC _ _ [yR 2073, yI i, yI (n : Int), yJ x] hq (yQ_take G hq k n x) from by rw [show i = (k : Int) by omega]; exact y_takeAway (j := k) (n := n) (of9 := x) W (d + 1) T_hq (by omega) (by omega) x0 x1 (by rw [e_ls, ← hU]; exact xA) (by rw [e_ls, ← hU]; exact xB)) ?_
        intro rv h1 q1
        obtain ⟨z, rfl, M1, U1, V1, R0, R1, zx⟩ := q1
        rw [e_ls, ← hU] at V1
        rw [e_ls] at R1
        have T_h1 := M1.1
        have N_h1 := Nq.tr (show yNx G [2074, 2075, 2076, 2078, 2079] hq h1 from ⟨M1.1, M1.2.1, M1.2.2.sub (by decide)⟩)
        have L_h1 : ∀ s, yL h1 s = yL hp s := fun s => (M1.2.2.same (by decide) s).trans (I1 s)
        have S_h1 : ∀ s, yS h1 s = yS hp s := fun s => (M1.2.2.same (by decide) s).trans (I2 s)
        have D_h1 : ∀ s j, yD h1 s j = yD hq s j := fun s j => M1.2.2.same (by decide) _
        have yLo_h1 : ∀ t, yLo h1 t = yLo h0 t := fun t => (M1.2.2.same (by decide) t).trans (I4 t)
        have g1 : yFig (fun t => yUp h1 (k + t)) (n + 1) := fun t ht => yUp_bd W T_h1 (by omega)
        have gn : ysum (fun t => yUp h1 (k + t)) (n + 1) = ysum (fun t => yUp h1 (k + t)) n := by
          rw [ysum_succ]
          have b1 := ysum_bd (g1.sub (Nat.le_succ n))
          have hLB : Lw < yB n := by rw [← eLw]; have := ysum_bd gl; omega
          by_cases h9 : yUp h1 (k + n) = 0
          · rw [h9, Int.zero_mul, Int.add_zero]
          · have b2 := g1 n (by omega)
            have h8 : 1 * yB n ≤ yUp h1 (k + n) * yB n := Int.mul_le_mul_of_nonneg_right (show (1 : Int) ≤ yUp h1 (k + n) by have b2 : 0 ≤ yUp h1 (k + n) := b2.1; omega) (by have := yB_pos n; omega)
            rw [ysum_succ] at R1
            have R1 : ysum (fun t => yUp h1 (k + t)) n + yUp h1 (k + n) * yB n < Lw := R1
            omega
        have z0 : 0 ≤ z := by
          by_cases h9 : 0 ≤ z
          · exact h9
          · have h8 : z * Lw ≤ (-1) * Lw := Int.mul_le_mul_of_nonneg_right (by omega) (by omega)
            omega
        have tot : ysum (yUp hq) (k + 1) + yB (k + 1) * ysum (fun t => yUp hq (k + 1 + t)) n = ysum (yUp h1) k + yB k * ysum (fun t => yUp h1 (k + t)) n + Lw * (z * yB k) := by
          rw [show ysum (yUp h1) k = ysum (yUp hq) k from ysum_congr fun t ht => U1 t (by omega), ← gn, V1, Us, ysum_succ, yB_succ]
          exact yalg8
        rw [gn] at R1
        show yG _ _ _ _ _ _ _ _ _ _ [yJ z] _
        refine yG.store2 xlk2 (L' := [(16, yJ (z)), (13, yI (i)), (11, yJ (s2)), (9, yJ (f1)), (7, yJ (f)), (6, yI ((m : Int))), (5, yI ((n : Int))), (0, yR 2073), (1, yI (qi)), (2, yI ((r : Int))), (3, yI ((a : Int))), (4, yI ((b : Int)))]) rfl (fun _ _ => rfl) rfl rfl ?_
        refine yG.load xik rfl (fun _ _ => rfl) (v := yI (qi)) rfl rfl ?_
        refine yG.ifz rfl (t := 317) rfl ⟨by omega, by omega⟩ (fun c91 => ?_) (fun c91 => ?_)
        · have c91 : qi < 0 := c91
          refine yG.iinc rfl (a := i) rfl (L' := [(13, yI (i + (-1))), (16, yJ (z)), (11, yJ (s2)), (9, yJ (f1)), (7, yJ (f)), (6, yI ((m : Int))), (5, yI ((n : Int))), (0, yR 2073), (1, yI (qi)), (2, yI ((r : Int))), (3, yI ((a : Int))), (4, yI ((b : Int)))]) rfl ?_
          refine yG.goto rfl (t := 169) rfl ?_
          exact yG.mono ((ih (i + (-1)) h1 (by omega) (by omega) N_h1 L_h1 S_h1 (fun s j hj h => (D_h1 s j).trans (I3 s j hj h)) yLo_h1 R1 (fun q h => by omega) (fun h => by
            obtain ⟨w, e⟩ := I7 h
            refine ⟨z + w * 1000000000, ?_⟩
            rw [e, tot, yB_succ]
            exact yalg9)).sub (ySub.cons rfl (ySub.cons rfl (ySub.cons rfl (ySub.cons rfl (ySub.cons rfl (ySub.cons rfl (ySub.cons rfl (ySub.cons rfl (ySub.cons rfl (ySub.cons rfl (ySub.cons rfl (ySub.nil))))))))))))) (by omega)
        · have c91 : qi ≥ 0 := c91
          refine yG.load xak rfl (fun _ _ => rfl) (v := yR 2073) rfl rfl ?_
          refine yG.getR T_h1 (yF_big W) rfl rfl ?_
          refine yG.num (c := 256) rfl (fun _ _ => rfl) (by decide) ?_
          refine yG.load xik rfl (fun _ _ => rfl) (v := yI (qi)) rfl rfl ?_
          refine yG.imul rfl ?_
          refine yG.load xik rfl (fun _ _ => rfl) (v := yI (i)) rfl rfl ?_
          refine yG.iadd rfl ?_
          refine yG.load xlk2 rfl (fun _ _ => rfl) (v := yJ (z)) rfl rfl ?_
          refine yG.l2i rfl ?_
          refine yG.iast T_h1 (yA_big W) (by decide) rfl (by omega) (by omega) ⟨by omega, by omega⟩ (by omega) (by omega) (fun h92 T_h92 b_h92 f_h92 y_h92 => ?_)
          have N_h92 := N_h1.put T_h92 b_h92 (by decide) f_h92
          have L_h92 : ∀ s, yL h92 s = yL h1 s := fun s => yput_ne y_h92 (by decide) _
          have S_h92 : ∀ s, yS h92 s = yS h1 s := fun s => yput_ne y_h92 (by decide) _
          have yUp_h92 : ∀ t, yUp h92 t = yUp h1 t := fun t => yput_ne y_h92 (by decide) _
          have yLo_h92 : ∀ t, yLo h92 t = yLo h1 t := fun t => yput_ne y_h92 (by decide) _
          refine yG.iinc rfl (a := i) rfl (L' := [(13, yI (i + (-1))), (16, yJ (z)), (11, yJ (s2)), (9, yJ (f1)), (7, yJ (f)), (6, yI ((m : Int))), (5, yI ((n : Int))), (0, yR 2073), (1, yI (qi)), (2, yI ((r : Int))), (3, yI ((a : Int))), (4, yI ((b : Int)))]) rfl ?_
          refine yG.goto rfl (t := 169) rfl ?_
          obtain ⟨q, hq9⟩ : ∃ q : Nat, qi = (q : Int) := ⟨qi.toNat, by omega⟩
          have Dq : ∀ s j, j < 256 → yD h92 s j = if s = q ∧ j = k then z else yD h1 s j := yput_D (r := q) (k := k) y_h92 (by omega) (by omega)
          exact yG.mono ((ih (i + (-1)) h92 (by omega) (by omega) N_h92 (fun s => (L_h92 s).trans (L_h1 s)) (fun s => (S_h92 s).trans (S_h1 s)) (fun s j hj h => by rw [Dq s j hj, if_neg (by omega), D_h1]; exact I3 s j hj h) (fun t => (yLo_h92 t).trans (yLo_h1 t)) (by rw [ysum_congr fun t _ => yUp_h92 (k + t)]; exact R1) (fun q9 h => by
            obtain rfl : q = q9 := by omega
            rw [I6 q hq9, tot, ysum_congr (f := fun t => yUp h92 (k + t)) fun t _ => yUp_h92 (k + t), ysum_congr (f := yUp h92) fun t _ => yUp_h92 t, ysum_succ (yD hq q) k]
            rw [show ysum (yD h92 q) k = ysum (yD hq q) k from ysum_congr fun j hj => by rw [Dq q j (by omega), if_neg (by omega), D_h1], ysum_upd (f := yD hq q) (g := yD h92 q) (n := m - n + 1) (t := k) (by omega) fun j h1 h2 => by rw [Dq q j (by omega), if_neg (fun h => h2 h.2), D_h1], Dq q k (by omega), if_pos ⟨rfl, rfl⟩]
            exact yalg10) (fun h => by omega)).sub (ySub.cons rfl (ySub.cons rfl (ySub.cons rfl (ySub.cons rfl (ySub.cons rfl (ySub.cons rfl (ySub.cons rfl (ySub.cons rfl (ySub.cons rfl (ySub.cons rfl (ySub.cons rfl (ySub.nil))))))))))))) (by omega)
      have HW : ∀ m9 : Nat, ∀ x lf : Int, (m9 : Int) + lf = 2000000000 ∨ (m9 : Int) + lf = 2000000000 → 0 ≤ lf → lf < 2000000000 → 0 ≤ x → x ≤ 2000000000 → lf = v - x * f1 → U < x * Lw + Lw → yG 89 xfts (xcall 89 xfts xpools xms (d + 2)) (xpool xp_RX13) [] xt_X13_divide (yP 0 (yQ_div G [2074, 2075, 2076, 2078, 2079] hp qi r (ymag hp a) (ymag hp b))) (90000000000 * k + 110000 + 40 * m9 + 100) 222 [(18, yJ (lf)), (16, yJ (x)), (13, yI (i)), (11, yJ (s2)), (9, yJ (f1)), (7, yJ (f)), (6, yI ((m : Int))), (5, yI ((n : Int))), (0, yR 2073), (1, yI (qi)), (2, yI ((r : Int))), (3, yI ((a : Int))), (4, yI ((b : Int)))] [] hq := by
        intro m9
        induction m9 using Nat.strongRecOn with
        | _ m9 ihw =>
          intro x lf hm9 l0 l1 x0 x1 el xU
          have xf0 : 0 ≤ x * f1 := Int.mul_nonneg x0 (by omega)
          have xs0 : 0 ≤ x * s2 := Int.mul_nonneg x0 (by omega)
          have xs1 : x * s2 ≤ 2000000000 * 999999999 := Int.mul_le_mul x1 (by omega) (by omega) (by omega)
          have alg : x * (f1 * 1000000000 + s2) = (x * f1) * 1000000000 + x * s2 := by grind
          have OUT : (lf < 1000000000 → x < 1000000000 ∧ x * s2 ≤ lf * 1000000000 + u2) → yG 89 xfts (xcall 89 xfts xpools xms (d + 2)) (xpool xp_RX13) [] xt_X13_divide (yP 0 (yQ_div G [2074, 2075, 2076, 2078, 2079] hp qi r (ymag hp a) (ymag hp b))) (90000000000 * k + 110000) 285 [(16, yJ (x)), (13, yI (i)), (11, yJ (s2)), (9, yJ (f1)), (7, yJ (f)), (6, yI ((m : Int))), (5, yI ((n : Int))), (0, yR 2073), (1, yI (qi)), (2, yI ((r : Int))), (3, yI ((a : Int))), (4, yI ((b : Int)))] [] hq := by
            intro hx
            have x9 : x < 1000000000 := by
              by_cases h9 : lf < 1000000000
              · exact (hx h9).1
              · by_cases h8 : x < 1000000000
                · exact h8
                · have h7 : 1000000000 * f1 ≤ x * f1 := Int.mul_le_mul_of_nonneg_right (by omega) (by omega)
                  omega
            have xs2 : x * s2 ≤ 999999999 * 999999999 := Int.mul_le_mul (by omega) (by omega) (by omega) (by omega)
            refine STEP x x0 (by omega) (yest_lo x0 x9 f11 (by omega) ?_ Pp lw2.1 lw2.2 u3.1) xU
            rw [alg]
            by_cases h9 : lf < 1000000000
            · have := (hx h9).2
              omega
            · omega
          refine yG.load xlk2 rfl (fun _ _ => rfl) (v := yJ (lf)) rfl rfl ?_
          refine yG.numl (c := 1000000000) rfl (fun _ _ => rfl) (by decide) ?_
          refine yG.lcmp rfl ⟨by omega, by omega⟩ ⟨by omega, by omega⟩ (fun z131 e_z131 => ?_)
          refine yG.ifz rfl (t := 285) rfl ⟨by omega, by omega⟩ (fun c132 => ?_) (fun c132 => ?_)
          · have c132 : z131 ≥ 0 := c132
            exact yG.mono ((OUT (fun h9 => by omega)).sub (ySub.cons rfl (ySub.cons rfl (ySub.cons rfl (ySub.cons rfl (ySub.cons rfl (ySub.cons rfl (ySub.cons rfl (ySub.cons rfl (ySub.cons rfl (ySub.cons rfl (ySub.cons rfl (ySub.cons rfl (ySub.nil)))))))))))))) (by omega)
          · have c132 : z131 < 0 := c132
            refine yG.load xlk2 rfl (fun _ _ => rfl) (v := yJ (x)) rfl rfl ?_
            refine yG.numl (c := 1000000000) rfl (fun _ _ => rfl) (by decide) ?_
            refine yG.lcmp rfl ⟨by omega, by omega⟩ ⟨by omega, by omega⟩ (fun z133 e_z133 => ?_)
            refine yG.ifz rfl (t := 269) rfl ⟨by omega, by omega⟩ (fun c134 => ?_) (fun c134 => ?_)
            · have c134 : z133 ≥ 0 := c134
              refine yG.load xlk2 rfl (fun _ _ => rfl) (v := yJ (x)) rfl rfl ?_
              refine yG.numl (c := 1) rfl (fun _ _ => rfl) (by decide) ?_
              refine yG.lsub rfl ?_
              obtain ⟨z135, e_z135⟩ : ∃ z : Int, z = x - 1 := ⟨_, rfl⟩
              rw [← e_z135]
              refine yG.store2 xlk2 (L' := [(16, yJ (z135)), (18, yJ (lf)), (13, yI (i)), (11, yJ (s2)), (9, yJ (f1)), (7, yJ (f)), (6, yI ((m : Int))), (5, yI ((n : Int))), (0, yR 2073), (1, yI (qi)), (2, yI ((r : Int))), (3, yI ((a : Int))), (4, yI ((b : Int)))]) rfl (fun _ _ => rfl) rfl rfl ?_
              refine yG.load xlk2 rfl (fun _ _ => rfl) (v := yJ (lf)) rfl rfl ?_
              refine yG.load xlk2 rfl (fun _ _ => rfl) (v := yJ (f1)) rfl rfl ?_
              refine yG.ladd rfl ?_
              obtain ⟨z136, e_z136⟩ : ∃ z : Int, z = lf + f1 := ⟨_, rfl⟩
              rw [← e_z136]
              refine yG.store2 xlk2 (L' := [(18, yJ (z136)), (16, yJ (z135)), (13, yI (i)), (11, yJ (s2)), (9, yJ (f1)), (7, yJ (f)), (6, yI ((m : Int))), (5, yI ((n : Int))), (0, yR 2073), (1, yI (qi)), (2, yI ((r : Int))), (3, yI ((a : Int))), (4, yI ((b : Int)))]) rfl (fun _ _ => rfl) rfl rfl ?_
              refine yG.goto rfl (t := 222) rfl ?_
              have xL : U < x * Lw := by
                by_cases h9 : 1000000000 ≤ x
                · have : 1000000000 * Lw ≤ x * Lw := Int.mul_le_mul_of_nonneg_right h9 (by omega)
                  omega
                · exact yest_hi x0 el (by omega) Pp lw2.1 u3.2
              have x01 : 1 ≤ x := by
                by_cases h9 : 1 ≤ x
                · exact h9
                · have e0 : x = 0 := by omega
                  rw [e0, Int.zero_mul] at xL
                  omega
              exact yG.mono ((ihw (m9 - f1.toNat) (by omega) z135 z136 (by omega) (by omega) (by omega) (by omega) (by omega) (by rw [e_z135, Int.sub_mul, Int.one_mul]; omega) (by rw [e_z135, Int.sub_mul, Int.one_mul]; omega)).sub (ySub.cons rfl (ySub.cons rfl (ySub.cons rfl (ySub.cons rfl (ySub.cons rfl (ySub.cons rfl (ySub.cons rfl (ySub.cons rfl (ySub.cons rfl (ySub.cons rfl (ySub.cons rfl (ySub.cons rfl (ySub.cons rfl (ySub.nil))))))))))))))) (by omega)
            · have c134 : z133 < 0 := c134
              refine yG.load xlk2 rfl (fun _ _ => rfl) (v := yJ (x)) rfl rfl ?_
              refine yG.load xlk2 rfl (fun _ _ => rfl) (v := yJ (s2)) rfl rfl ?_
              refine yG.lmul rfl ?_
              refine yG.load xlk2 rfl (fun _ _ => rfl) (v := yJ (lf)) rfl rfl ?_
              refine yG.numl (c := 1000000000) rfl (fun _ _ => rfl) (by decide) ?_
              refine yG.lmul rfl ?_
              refine yG.load xak rfl (fun _ _ => rfl) (v := yR 2073) rfl rfl ?_
              refine yG.getR T_hq (yF_upper W) rfl rfl ?_
              refine yG.load xik rfl (fun _ _ => rfl) (v := yI (i)) rfl rfl ?_
              refine yG.load xik rfl (fun _ _ => rfl) (v := yI ((n : Int))) rfl rfl ?_
              refine yG.iadd rfl ?_
              refine yG.num (c := 2) rfl (fun _ _ => rfl) (by decide) ?_
              refine yG.isub rfl ?_
              refine yG.iald T_hq (yA_upper W) rfl (by omega) (by omega) (fun z137 e_z137 i_z137 l_z137 u_z137 => ?_)
              have q_z137 : z137 = yUp hq (k + n - 2) := e_z137.trans (by show ys _ 2078 _ = ys _ 2078 _; rw [show ((i + (n : Int)) - 2).toNat = k + n - 2 by omega])
              have r_z137 : z137 = u2 := by rw [q_z137, hu2]
              refine yG.i2l rfl ⟨by omega, by omega⟩ ?_
              refine yG.ladd rfl ?_
              refine yG.lcmp rfl ⟨by omega, by omega⟩ ⟨by omega, by omega⟩ (fun z138 e_z138 => ?_)
              refine yG.ifz rfl (t := 285) rfl ⟨by omega, by omega⟩ (fun c139 => ?_) (fun c139 => ?_)
              · have c139 : z138 ≤ 0 := c139
                exact yG.mono ((OUT (fun h9 => by omega)).sub (ySub.cons rfl (ySub.cons rfl (ySub.cons rfl (ySub.cons rfl (ySub.cons rfl (ySub.cons rfl (ySub.cons rfl (ySub.cons rfl (ySub.cons rfl (ySub.cons rfl (ySub.cons rfl (ySub.cons rfl (ySub.nil)))))))))))))) (by omega)
              · have c139 : z138 > 0 := c139
                refine yG.load xlk2 rfl (fun _ _ => rfl) (v := yJ (x)) rfl rfl ?_
                refine yG.numl (c := 1) rfl (fun _ _ => rfl) (by decide) ?_
                refine yG.lsub rfl ?_
                obtain ⟨z140, e_z140⟩ : ∃ z : Int, z = x - 1 := ⟨_, rfl⟩
                rw [← e_z140]
                refine yG.store2 xlk2 (L' := [(16, yJ (z140)), (18, yJ (lf)), (13, yI (i)), (11, yJ (s2)), (9, yJ (f1)), (7, yJ (f)), (6, yI ((m : Int))), (5, yI ((n : Int))), (0, yR 2073), (1, yI (qi)), (2, yI ((r : Int))), (3, yI ((a : Int))), (4, yI ((b : Int)))]) rfl (fun _ _ => rfl) rfl rfl ?_
                refine yG.load xlk2 rfl (fun _ _ => rfl) (v := yJ (lf)) rfl rfl ?_
                refine yG.load xlk2 rfl (fun _ _ => rfl) (v := yJ (f1)) rfl rfl ?_
                refine yG.ladd rfl ?_
                obtain ⟨z141, e_z141⟩ : ∃ z : Int, z = lf + f1 := ⟨_, rfl⟩
                rw [← e_z141]
                refine yG.store2 xlk2 (L' := [(18, yJ (z141)), (16, yJ (z140)), (13, yI (i)), (11, yJ (s2)), (9, yJ (f1)), (7, yJ (f)), (6, yI ((m : Int))), (5, yI ((n : Int))), (0, yR 2073), (1, yI (qi)), (2, yI ((r : Int))), (3, yI ((a : Int))), (4, yI ((b : Int)))]) rfl (fun _ _ => rfl) rfl rfl ?_
                refine yG.goto rfl (t := 222) rfl ?_
                have xL : U < x * Lw := by
                  by_cases h9 : 1000000000 ≤ x
                  · have : 1000000000 * Lw ≤ x * Lw := Int.mul_le_mul_of_nonneg_right h9 (by omega)
                    omega
                  · exact yest_hi x0 el (by omega) Pp lw2.1 u3.2
                have x01 : 1 ≤ x := by
                  by_cases h9 : 1 ≤ x
                  · exact h9
                  · have e0 : x = 0 := by omega
                    rw [e0, Int.zero_mul] at xL
                    omega
                exact yG.mono ((ihw (m9 - f1.toNat) (by omega) z140 z141 (by omega) (by omega) (by omega) (by omega) (by omega) (by rw [e_z140, Int.sub_mul, Int.one_mul]; omega) (by rw [e_z140, Int.sub_mul, Int.one_mul]; omega)).sub (ySub.cons rfl (ySub.cons rfl (ySub.cons rfl (ySub.cons rfl (ySub.cons rfl (ySub.cons rfl (ySub.cons rfl (ySub.cons rfl (ySub.cons rfl (ySub.cons rfl (ySub.cons rfl (ySub.cons rfl (ySub.cons rfl (ySub.nil))))))))))))))) (by omega)
      have d1 : 0 ≤ v / f1 := Int.ediv_nonneg (by omega) (by omega)
      have d2 : v / f1 ≤ 2000000000 := by
        have h9 : v ≤ 2000000000 * f1 := by omega
        exact Int.le_of_lt_add_one (Int.ediv_lt_of_lt_mul (by omega) (by omega))
      have d3 : 0 ≤ v % f1 := Int.emod_nonneg _ (by omega)
      have d4 : v % f1 < f1 := Int.emod_lt_of_pos _ (by omega)
      have d5 : v - v / f1 * f1 = v % f1 := by rw [Int.emod_def, Int.mul_comm]
      have d6 : U < v / f1 * Lw + Lw := by
        have h9 : (v + 1) * (1000000000 * yB n9) ≤ (v / f1 + 1) * f1 * (1000000000 * yB n9) := Int.mul_le_mul_of_nonneg_right (by rw [Int.add_mul, Int.one_mul]; omega) (by omega)
        have h8 : (v * 1000000000 + u2 + 1) * yB n9 ≤ (v + 1) * (1000000000 * yB n9) := by
          have : (v + 1) * (1000000000 * yB n9) = (v * 1000000000 + 1000000000) * yB n9 := by grind
          rw [this]
          exact Int.mul_le_mul_of_nonneg_right (by omega) (by omega)
        have h7 : (v / f1 + 1) * ((f1 * 1000000000 + s2) * yB n9) ≤ (v / f1 + 1) * Lw := Int.mul_le_mul_of_nonneg_left lw2.1 (by omega)
        have h6 : (v / f1 + 1) * f1 * (1000000000 * yB n9) ≤ (v / f1 + 1) * ((f1 * 1000000000 + s2) * yB n9) := by
          rw [Int.mul_assoc]
          refine Int.mul_le_mul_of_nonneg_left ?_ (by omega)
          have : f1 * (1000000000 * yB n9) = f1 * 1000000000 * yB n9 := by rw [Int.mul_assoc]
          rw [this]
          exact Int.mul_le_mul_of_nonneg_right (by omega) (by omega)
        rw [Int.add_mul _ 1 Lw, Int.one_mul] at h7
        omega
      refine yG.load xik rfl (fun _ _ => rfl) (v := yI (i)) rfl rfl ?_
      refine yG.ifz rfl (t := 323) rfl ⟨by omega, by omega⟩ (fun c161 => ?_) (fun c161 => ?_)
      · have c161 : i < 0 := c161
        exfalso; omega
      · have c161 : i ≥ 0 := c161
        refine yG.load xak rfl (fun _ _ => rfl) (v := yR 2073) rfl rfl ?_
        refine yG.getR T_hq (yF_upper W) rfl rfl ?_
        refine yG.load xik rfl (fun _ _ => rfl) (v := yI (i)) rfl rfl ?_
        refine yG.load xik rfl (fun _ _ => rfl) (v := yI ((n : Int))) rfl rfl ?_
        refine yG.iadd rfl ?_
        refine yG.iald T_hq (yA_upper W) rfl (by omega) (by omega) (fun z162 e_z162 i_z162 l_z162 u_z162 => ?_)
        have q_z162 : z162 = yUp hq (k + n) := e_z162.trans (by show ys _ 2078 _ = ys _ 2078 _; rw [show (i + (n : Int)).toNat = k + n by omega])
        refine yG.i2l rfl ⟨by omega, by omega⟩ ?_
        refine yG.numl (c := 1000000000) rfl (fun _ _ => rfl) (by decide) ?_
        refine yG.lmul rfl ?_
        refine yG.load xak rfl (fun _ _ => rfl) (v := yR 2073) rfl rfl ?_
        refine yG.getR T_hq (yF_upper W) rfl rfl ?_
        refine yG.load xik rfl (fun _ _ => rfl) (v := yI (i)) rfl rfl ?_
        refine yG.load xik rfl (fun _ _ => rfl) (v := yI ((n : Int))) rfl rfl ?_
        refine yG.iadd rfl ?_
        refine yG.num (c := 1) rfl (fun _ _ => rfl) (by decide) ?_
        refine yG.isub rfl ?_
        refine yG.iald T_hq (yA_upper W) rfl (by omega) (by omega) (fun z163 e_z163 i_z163 l_z163 u_z163 => ?_)
        have q_z163 : z163 = yUp hq (k + n - 1) := e_z163.trans (by show ys _ 2078 _ = ys _ 2078 _; rw [show ((i + (n : Int)) - 1).toNat = k + n - 1 by omega])
        refine yG.i2l rfl ⟨by omega, by omega⟩ ?_
        refine yG.ladd rfl ?_
        rw [show (z162 * 1000000000) + z163 = v by (rw [q_z162, q_z163, ← hu0, ← hu1]; omega)]
        refine yG.store2 xlk2 (L' := [(14, yJ (v)), (13, yI (i)), (11, yJ (s2)), (9, yJ (f1)), (7, yJ (f)), (6, yI ((m : Int))), (5, yI ((n : Int))), (0, yR 2073), (1, yI (qi)), (2, yI ((r : Int))), (3, yI ((a : Int))), (4, yI ((b : Int)))]) rfl (fun _ _ => rfl) rfl rfl ?_
        refine yG.load xlk2 rfl (fun _ _ => rfl) (v := yJ (v)) rfl rfl ?_
        refine yG.load xlk2 rfl (fun _ _ => rfl) (v := yJ (f1)) rfl rfl ?_
        refine yG.ldiv rfl ⟨by omega, by omega⟩ ⟨by omega, by omega⟩ (by omega) (by omega) ?_
        rw [show (v) / (f1) = (v / f1) by rfl]
        refine yG.store2 xlk2 (L' := [(16, yJ ((v / f1))), (14, yJ (v)), (13, yI (i)), (11, yJ (s2)), (9, yJ (f1)), (7, yJ (f)), (6, yI ((m : Int))), (5, yI ((n : Int))), (0, yR 2073), (1, yI (qi)), (2, yI ((r : Int))), (3, yI ((a : Int))), (4, yI ((b : Int)))]) rfl (fun _ _ => rfl) rfl rfl ?_
        refine yG.load xlk2 rfl (fun _ _ => rfl) (v := yJ (v)) rfl rfl ?_
        refine yG.load xlk2 rfl (fun _ _ => rfl) (v := yJ ((v / f1))) rfl rfl ?_
        refine yG.load xlk2 rfl (fun _ _ => rfl) (v := yJ (f1)) rfl rfl ?_
        refine yG.lmul rfl ?_
        refine yG.lsub rfl ?_
        rw [show v - ((v / f1) * f1) = (v % f1) by omega]
        refine yG.store2 xlk2 (L' := [(18, yJ ((v % f1))), (16, yJ ((v / f1))), (14, yJ (v)), (13, yI (i)), (11, yJ (s2)), (9, yJ (f1)), (7, yJ (f)), (6, yI ((m : Int))), (5, yI ((n : Int))), (0, yR 2073), (1, yI (qi)), (2, yI ((r : Int))), (3, yI ((a : Int))), (4, yI ((b : Int)))]) rfl (fun _ _ => rfl) rfl rfl ?_
        exact yG.mono ((HW (2000000000 - (v % f1)).toNat (v / f1) (v % f1) (by omega) d3 (by omega) d1 d2 (by omega) d6).sub (ySub.cons rfl (ySub.cons rfl (ySub.cons rfl (ySub.cons rfl (ySub.cons rfl (ySub.cons rfl (ySub.cons rfl (ySub.cons rfl (ySub.cons rfl (ySub.cons rfl (ySub.cons rfl (ySub.cons rfl (ySub.cons rfl (ySub.nil))))))))))))))) (by omega)
  refine yC.of (M := (xt_X13_divide, (20, (0, (14, []))))) rfl rfl (N := 90000000000 * 258 + 300000) (yfuel (by omega)) ?_
  show yG 89 xfts (xcall 89 xfts xpools xms (d + 2)) (xpool xp_RX13) [] xt_X13_divide (yP 0 (yQ_div G [2074, 2075, 2076, 2078, 2079] hp qi r (ymag hp a) (ymag hp b))) (90000000000 * 258 + 300000) 0 [(0, yR 2073), (1, yI (qi)), (2, yI ((r : Int))), (3, yI ((a : Int))), (4, yI ((b : Int)))] [] hp
  refine yG.load xak rfl (fun _ _ => rfl) (v := yR 2073) rfl rfl ?_
  refine yG.getR T_hp (yF_length W) rfl rfl ?_
  refine yG.load xik rfl (fun _ _ => rfl) (v := yI ((b : Int))) rfl rfl ?_
  refine yG.iald T_hp (yA_length W) rfl (by omega) (by omega) (fun z301 e_z301 i_z301 l_z301 u_z301 => ?_)
  have q_z301 : z301 = yL hp b := e_z301
  refine yG.store1 xik (L' := [(5, yI (z301)), (0, yR 2073), (1, yI (qi)), (2, yI ((r : Int))), (3, yI ((a : Int))), (4, yI ((b : Int)))]) rfl (fun _ _ => rfl) rfl rfl ?_
  refine yG.load xak rfl (fun _ _ => rfl) (v := yR 2073) rfl rfl ?_
  refine yG.getR T_hp (yF_length W) rfl rfl ?_
  refine yG.load xik rfl (fun _ _ => rfl) (v := yI ((a : Int))) rfl rfl ?_
  refine yG.iald T_hp (yA_length W) rfl (by omega) (by omega) (fun z302 e_z302 i_z302 l_z302 u_z302 => ?_)
  have q_z302 : z302 = yL hp a := e_z302
  refine yG.store1 xik (L' := [(6, yI (z302)), (5, yI (z301)), (0, yR 2073), (1, yI (qi)), (2, yI ((r : Int))), (3, yI ((a : Int))), (4, yI ((b : Int)))]) rfl (fun _ _ => rfl) rfl rfl ?_
  refine yG.load xak rfl (fun _ _ => rfl) (v := yR 2073) rfl rfl ?_
  refine yG.load xik rfl (fun _ _ => rfl) (v := yI ((a : Int))) rfl rfl ?_
  refine yG.load xik rfl (fun _ _ => rfl) (v := yI ((b : Int))) rfl rfl ?_
  refine yG.invV (rest := []) T_hp W.1 rfl rfl rfl rfl (y_compareSizes W (d + 1) T_hp ha hb na.1 tb) ?_
  intro _ hp9 h9
  obtain ⟨e9, w, rfl, hw⟩ := h9
  rw [e9]
  unfold ysgn at hw
  show yG _ _ _ _ _ _ _ _ _ _ [yI w] _
  have nm9 : 0 ≤ w → n ≤ m := fun h => by
    by_cases h9 : n ≤ m
    · exact h9
    · have h8 := ysum_short (ga.sub (show m ≤ 256 by omega)) (gb.sub (show n ≤ 256 by omega)) (by omega) (by have := tb hbz; rw [hn] at this; exact this)
      rw [← mga, ← mgb] at h8
      omega
  refine yG.ifz rfl (t := 64) rfl ⟨by omega, by omega⟩ (fun c303 => ?_) (fun c303 => ?_)
  · have c303 : w ≥ 0 := c303
    refine yG.load xik rfl (fun _ _ => rfl) (v := yI (z301)) rfl rfl ?_
    refine yG.num (c := 1) rfl (fun _ _ => rfl) (by decide) ?_
    refine yG.icmp rfl (t := 90) rfl ⟨by omega, by omega⟩ ⟨by omega, by omega⟩ (fun c304 => ?_) (fun c304 => ?_)
    · have c304 : z301 ≠ 1 := c304
      refine yG.numl (c := 1000000000) rfl (fun _ _ => rfl) (by decide) ?_
      refine yG.load xak rfl (fun _ _ => rfl) (v := yR 2073) rfl rfl ?_
      refine yG.getR T_hp (yF_big W) rfl rfl ?_
      refine yG.num (c := 256) rfl (fun _ _ => rfl) (by decide) ?_
      refine yG.load xik rfl (fun _ _ => rfl) (v := yI ((b : Int))) rfl rfl ?_
      refine yG.imul rfl ?_
      refine yG.load xik rfl (fun _ _ => rfl) (v := yI (z301)) rfl rfl ?_
      refine yG.iadd rfl ?_
      refine yG.num (c := 1) rfl (fun _ _ => rfl) (by decide) ?_
      refine yG.isub rfl ?_
      refine yG.iald T_hp (yA_big W) rfl (by omega) (by omega) (fun z305 e_z305 i_z305 l_z305 u_z305 => ?_)
      have q_z305 : z305 = yD hp b (n - 1) := e_z305.trans (yBig (by omega))
      refine yG.i2l rfl ⟨by omega, by omega⟩ ?_
      refine yG.numl (c := 1) rfl (fun _ _ => rfl) (by decide) ?_
      refine yG.ladd rfl ?_
      refine yG.ldiv rfl ⟨by omega, by omega⟩ ⟨by omega, by omega⟩ (by omega) (by omega) ?_
      obtain ⟨z306, e_z306⟩ : ∃ z : Int, z = (1000000000) / (z305 + 1) := ⟨_, rfl⟩
      rw [← e_z306]
      have nm := nm9 (by omega)
      have tnz : z305 ≠ 0 := by rw [q_z305]; have := tb hbz; rw [hn] at this; exact this
      have f_1 : 1 ≤ z306 := by rw [e_z306]; exact Int.le_ediv_of_mul_le (by omega) (by omega)
      have f_2 : z306 ≤ 999999999 := by rw [e_z306]; exact Int.le_of_lt_add_one (Int.ediv_lt_of_lt_mul (by omega) (by omega))
      refine yG.store2 xlk2 (L' := [(7, yJ (z306)), (6, yI (z302)), (5, yI (z301)), (0, yR 2073), (1, yI (qi)), (2, yI ((r : Int))), (3, yI ((a : Int))), (4, yI ((b : Int)))]) rfl (fun _ _ => rfl) rfl rfl ?_
      refine yG.load xak rfl (fun _ _ => rfl) (v := yR 2073) rfl rfl ?_
      refine yG.load xak rfl (fun _ _ => rfl) (v := yR 2073) rfl rfl ?_
      refine yG.getR T_hp (yF_upper W) rfl rfl ?_
      refine yG.load xik rfl (fun _ _ => rfl) (v := yI ((a : Int))) rfl rfl ?_
      refine yG.load xlk2 rfl (fun _ _ => rfl) (v := yJ (z306)) rfl rfl ?_
      refine yG.invV (rest := []) T_hp W.1 rfl rfl rfl rfl (y_spread_upper W (d + 1) T_hp ha (by omega) (by omega)) ?_
      intro rv h1 q1
      obtain ⟨e1, M1, V1⟩ := q1
      subst e1
      have T_h1 := M1.1
      have N_h1 : yNx G [2074, 2075, 2076, 2078, 2079] hp h1 := ⟨M1.1, M1.2.1, M1.2.2.sub (by decide)⟩
      have L_h1 : ∀ s, yL h1 s = yL hp s := fun s => M1.2.2.same (by decide) s
      have S_h1 : ∀ s, yS h1 s = yS hp s := fun s => M1.2.2.same (by decide) s
      have D_h1 : ∀ s j, yD h1 s j = yD hp s j := fun s j => M1.2.2.same (by decide) _
      show yG _ _ _ _ _ _ _ _ _ _ [] _
      refine yG.load xak rfl (fun _ _ => rfl) (v := yR 2073) rfl rfl ?_
      refine yG.load xak rfl (fun _ _ => rfl) (v := yR 2073) rfl rfl ?_
      refine yG.getR T_h1 (yF_lower W) rfl rfl ?_
      refine yG.load xik rfl (fun _ _ => rfl) (v := yI ((b : Int))) rfl rfl ?_
      refine yG.load xlk2 rfl (fun _ _ => rfl) (v := yJ (z306)) rfl rfl ?_
      refine yG.invV (rest := []) T_h1 W.1 rfl rfl rfl rfl (y_spread_lower W (d + 1) T_h1 hb (by omega) (by omega)) ?_
      intro rv h2 q2
      obtain ⟨e2, M2, V2⟩ := q2
      subst e2
      have T_h2 := M2.1
      have N_h2 := N_h1.tr (show yNx G [2074, 2075, 2076, 2078, 2079] h1 h2 from ⟨M2.1, M2.2.1, M2.2.2.sub (by decide)⟩)
      have L_h2 : ∀ s, yL h2 s = yL hp s := fun s => (M2.2.2.same (by decide) s).trans (L_h1 s)
      have S_h2 : ∀ s, yS h2 s = yS hp s := fun s => (M2.2.2.same (by decide) s).trans (S_h1 s)
      have D_h2 : ∀ s j, yD h2 s j = yD hp s j := fun s j => (M2.2.2.same (by decide) _).trans (D_h1 s j)
      have U2 : ∀ t, yUp h2 t = yUp h1 t := fun t => M2.2.2.same (by decide) t
      have gl2 : yFig (yLo h2) (n + 1) := fun t ht => yLo_bd W T_h2 (by omega)
      have gu2 : yFig (yUp h2) (m + 1) := fun t ht => yUp_bd W T_h2 (by omega)
      rw [L_h1, hn, show ((n : Int).toNat) = n from rfl, show ymag h1 b = ymag hp b by (show ysum (yD h1 b) (yL h1 b).toNat = ysum (yD hp b) (yL hp b).toNat; rw [L_h1]; exact ysum_congr fun j _ => D_h1 b j)] at V2
      rw [hm, show ((m : Int).toNat) = m from rfl, ← ysum_congr fun t _ => U2 t] at V1
      have top := ysum_pos (gb.sub (show n ≤ 256 by omega)) (by omega) (by have := tb hbz; rw [hn] at this; exact this)
      rw [← mgb] at top
      obtain ⟨tp, htp⟩ : ∃ x : Int, x = yD hp b (n - 1) := ⟨_, rfl⟩
      have btp := gb (n - 1) (by omega)
      have bup : ymag hp b + 1 ≤ (tp + 1) * yB (n - 1) := by
        have h9 := ysum_bd (gb.sub (show n - 1 ≤ 256 by omega))
        rw [mgb, show n = n - 1 + 1 by omega, ysum_succ, show n - 1 + 1 - 1 = n - 1 by omega, ← htp, Int.add_mul, Int.one_mul]
        omega
      have ft : z306 * (tp + 1) ≤ 1000000000 := by
        rw [e_z306, htp, ← q_z305]
        exact Int.ediv_mul_le _ (by omega)
      have Pp := yB_pos (n - 1)
      have PS : yB n = 1000000000 * yB (n - 1) := by rw [← yB_succ, show n - 1 + 1 = n by omega]
      have lwB : ymag hp b * z306 < yB n := by
        have h9 : (ymag hp b + 1) * z306 ≤ ((tp + 1) * yB (n - 1)) * z306 := Int.mul_le_mul_of_nonneg_right bup (by omega)
        have h8 : ((tp + 1) * yB (n - 1)) * z306 = (z306 * (tp + 1)) * yB (n - 1) := by grind
        have h7 : (z306 * (tp + 1)) * yB (n - 1) ≤ 1000000000 * yB (n - 1) := Int.mul_le_mul_of_nonneg_right ft (by omega)
        rw [Int.add_mul, Int.one_mul] at h9
        omega
      have lwB2 : yB (n - 1) * z306 ≤ ymag hp b * z306 := Int.mul_le_mul_of_nonneg_right top.1 (by omega)
      have lon : yLo h2 n = 0 := by
        have b9 := gl2 n (by omega)
        by_cases h9 : yLo h2 n = 0
        · exact h9
        · have h8 := ysum_top gl2 h9
          omega
      have V3 : ysum (yLo h2) n = ymag hp b * z306 := by rw [← V2, ysum_succ, lon, Int.zero_mul, Int.add_zero]
      have lo1 : 1 ≤ yLo h2 (n - 1) := by
        have b9 := gl2 (n - 1) (by omega)
        by_cases h9 : yLo h2 (n - 1) = 0
        · have h8 : ysum (yLo h2) n = ysum (yLo h2) (n - 1) := ysum_nought (by omega) fun t h1 h2 => by rw [show t = n - 1 by omega]; exact h9
          have h7 := ysum_bd (gl2.sub (show n - 1 ≤ n + 1 by omega))
          have h6 : yB (n - 1) * 1 ≤ yB (n - 1) * z306 := Int.mul_le_mul_of_nonneg_left (by omega) (by omega)
          omega
        · omega
      show yG _ _ _ _ _ _ _ _ _ _ [] _
      refine yG.load xak rfl (fun _ _ => rfl) (v := yR 2073) rfl rfl ?_
      refine yG.getR T_h2 (yF_lower W) rfl rfl ?_
      refine yG.load xik rfl (fun _ _ => rfl) (v := yI (z301)) rfl rfl ?_
      refine yG.num (c := 1) rfl (fun _ _ => rfl) (by decide) ?_
      refine yG.isub rfl ?_
      refine yG.iald T_h2 (yA_lower W) rfl (by omega) (by omega) (fun z307 e_z307 i_z307 l_z307 u_z307 => ?_)
      have q_z307 : z307 = yLo h2 (n - 1) := e_z307.trans (by show ys _ 2079 _ = ys _ 2079 _; rw [show (z301 - 1).toNat = n - 1 by omega])
      refine yG.i2l rfl ⟨by omega, by omega⟩ ?_
      refine yG.store2 xlk2 (L' := [(9, yJ (z307)), (7, yJ (z306)), (6, yI (z302)), (5, yI (z301)), (0, yR 2073), (1, yI (qi)), (2, yI ((r : Int))), (3, yI ((a : Int))), (4, yI ((b : Int)))]) rfl (fun _ _ => rfl) rfl rfl ?_
      refine yG.load xak rfl (fun _ _ => rfl) (v := yR 2073) rfl rfl ?_
      refine yG.getR T_h2 (yF_lower W) rfl rfl ?_
      refine yG.load xik rfl (fun _ _ => rfl) (v := yI (z301)) rfl rfl ?_
      refine yG.num (c := 2) rfl (fun _ _ => rfl) (by decide) ?_
      refine yG.isub rfl ?_
      refine yG.iald T_h2 (yA_lower W) rfl (by omega) (by omega) (fun z308 e_z308 i_z308 l_z308 u_z308 => ?_)
      have q_z308 : z308 = yLo h2 (n - 2) := e_z308.trans (by show ys _ 2079 _ = ys _ 2079 _; rw [show (z301 - 2).toNat = n - 2 by omega])
      refine yG.i2l rfl ⟨by omega, by omega⟩ ?_
      refine yG.store2 xlk2 (L' := [(11, yJ (z308)), (9, yJ (z307)), (7, yJ (z306)), (6, yI (z302)), (5, yI (z301)), (0, yR 2073), (1, yI (qi)), (2, yI ((r : Int))), (3, yI ((a : Int))), (4, yI ((b : Int)))]) rfl (fun _ _ => rfl) rfl rfl ?_
      refine yG.load xik rfl (fun _ _ => rfl) (v := yI (z302)) rfl rfl ?_
      refine yG.load xik rfl (fun _ _ => rfl) (v := yI (z301)) rfl rfl ?_
      refine yG.isub rfl ?_
      obtain ⟨z309, e_z309⟩ : ∃ z : Int, z = z302 - z301 := ⟨_, rfl⟩
      rw [← e_z309]
      refine yG.store1 xik (L' := [(13, yI (z309)), (11, yJ (z308)), (9, yJ (z307)), (7, yJ (z306)), (6, yI (z302)), (5, yI (z301)), (0, yR 2073), (1, yI (qi)), (2, yI ((r : Int))), (3, yI ((a : Int))), (4, yI ((b : Int)))]) rfl (fun _ _ => rfl) rfl rfl ?_
      have jn : ysum (fun t => yUp h2 (m - n + 1 + t)) n < ymag hp b * z306 := by
        have e9 : ∀ c : Nat, c ≤ m + 1 → ysum (yUp h2) (m + 1) = ysum (yUp h2) c + yB c * ysum (fun t => yUp h2 (c + t)) (m + 1 - c) := by
          intro c
          induction c with
          | zero => intro _; rw [show yB 0 = 1 from rfl, Int.one_mul, show ysum (yUp h2) 0 = 0 from rfl, Int.zero_add]; exact ysum_congr fun t _ => by rw [Nat.zero_add]
          | succ c ih =>
            intro hc
            rw [ih (by omega), show m + 1 - c = (m + 1 - (c + 1)) + 1 by omega, ysum_shift, ysum_succ, yB_succ]
            exact yalg11
        have e8 := e9 (m - n + 1) (by omega)
        rw [V1, show m + 1 - (m - n + 1) = n by omega] at e8
        have b8 := (ysum_bd (gu2.sub (show m - n + 1 ≤ m + 1 by omega))).1
        have b7 : (ymag hp a + 1) * z306 ≤ yB m * z306 := Int.mul_le_mul_of_nonneg_right (by rw [mga]; exact (ysum_bd (ga.sub (show m ≤ 256 by omega))).2) (by omega)
        have b6 : yB m = yB (m - n + 1) * yB (n - 1) := by rw [← yB_add, show m - n + 1 + (n - 1) = m by omega]
        by_cases h9 : ysum (fun t => yUp h2 (m - n + 1 + t)) n < ymag hp b * z306
        · exact h9
        · have h8 : yB (m - n + 1) * (yB (n - 1) * z306) ≤ yB (m - n + 1) * ysum (fun t => yUp h2 (m - n + 1 + t)) n := Int.mul_le_mul_of_nonneg_left (by omega) (by have := yB_pos (m - n + 1); omega)
          rw [← Int.mul_assoc, ← b6] at h8
          rw [Int.add_mul, Int.one_mul] at b7
          omega
      have tot : ymag hp a * z306 = ysum (yUp h2) (m - n + 1) + yB (m - n + 1) * ysum (fun t => yUp h2 (m - n + 1 + t)) n := by
        have e9 : ∀ c : Nat, c ≤ m + 1 → ysum (yUp h2) (m + 1) = ysum (yUp h2) c + yB c * ysum (fun t => yUp h2 (c + t)) (m + 1 - c) := by
          intro c
          induction c with
          | zero => intro _; rw [show yB 0 = 1 from rfl, Int.one_mul, show ysum (yUp h2) 0 = 0 from rfl, Int.zero_add]; exact ysum_congr fun t _ => by rw [Nat.zero_add]
          | succ c ih =>
            intro hc
            rw [ih (by omega), show m + 1 - c = (m + 1 - (c + 1)) + 1 by omega, ysum_shift, ysum_succ, yB_succ]
            exact yalg11
        have e8 := e9 (m - n + 1) (by omega)
        rw [V1, show m + 1 - (m - n + 1) = n by omega] at e8
        exact e8
      rw [show z301 = (n : Int) by omega, show z302 = (m : Int) by omega]
      exact yG.mono ((HJ (by omega) nm z306 (by omega) (by omega) h2 N_h2 L_h2 S_h2 D_h2 z307 z308 (by omega) (by omega) (by omega) V3 (m - n + 1) z309 h2 (by omega) (by omega) (yNx.rf T_h2) L_h2 S_h2 (fun s j _ _ => D_h2 s j) (fun _ => rfl) jn (fun q _ => by rw [Int.sub_self, Int.mul_zero, Int.add_zero]; exact tot) (fun _ => ⟨0, by rw [Int.zero_mul, Int.mul_zero, Int.add_zero]; exact tot⟩)).sub (ySub.cons rfl (ySub.cons rfl (ySub.cons rfl (ySub.cons rfl (ySub.cons rfl (ySub.cons rfl (ySub.cons rfl (ySub.cons rfl (ySub.cons rfl (ySub.cons rfl (ySub.cons rfl (ySub.nil))))))))))))) (by omega)
    · have c304 : z301 = 1 := c304
      refine yG.load xak rfl (fun _ _ => rfl) (v := yR 2073) rfl rfl ?_
      refine yG.load xik rfl (fun _ _ => rfl) (v := yI (qi)) rfl rfl ?_
      refine yG.load xik rfl (fun _ _ => rfl) (v := yI ((r : Int))) rfl rfl ?_
      refine yG.load xik rfl (fun _ _ => rfl) (v := yI ((a : Int))) rfl rfl ?_
      refine yG.load xak rfl (fun _ _ => rfl) (v := yR 2073) rfl rfl ?_
      refine yG.getR T_hp (yF_big W) rfl rfl ?_
      refine yG.num (c := 256) rfl (fun _ _ => rfl) (by decide) ?_
      refine yG.load xik rfl (fun _ _ => rfl) (v := yI ((b : Int))) rfl rfl ?_
      refine yG.imul rfl ?_
      refine yG.iald T_hp (yA_big W) rfl (by omega) (by omega) (fun z310 e_z310 i_z310 l_z310 u_z310 => ?_)
      have q_z310 : z310 = yD hp b (0) := e_z310.trans (yBig (by omega))
      refine yG.i2l rfl ⟨by omega, by omega⟩ ?_
      have e_n : n = 1 := by omega
      have mb1 : z310 = ymag hp b := by
        rw [mgb, e_n, q_z310]
        show _ = 0 + yD hp b 0 * 1
        omega
      refine yG.invV (rest := []) T_hp W.1 rfl rfl rfl rfl (show yC _ _ [yR 2073, yI qi, yI (r : Int), yI (a : Int), yJ z310] hp (yQ_div G [2074, 2075, 2076] hp qi r (ymag hp a) (ymag hp b)) from by rw [mb1]; exact y_divideByOne W (d + 0) T_hp hr ha hq1 hq2 hqr (by omega) (by omega)) ?_
      intro rv g1 q1
      obtain ⟨e2, M2, O2⟩ := q1
      subst e2
      have T_g1 := M2.1
      have N_g1 : yNx G [2074, 2075, 2076, 2078, 2079] hp g1 := ⟨M2.1, M2.2.1, M2.2.2.sub (by decide)⟩
      show yG _ _ _ _ _ _ _ _ _ _ [] _
      refine yG.ret rfl (fun _ _ => rfl) ?_
      exact yP.void ⟨rfl, N_g1, O2⟩
  · have c303 : w < 0 := c303
    refine yG.load xak rfl (fun _ _ => rfl) (v := yR 2073) rfl rfl ?_
    refine yG.load xik rfl (fun _ _ => rfl) (v := yI ((r : Int))) rfl rfl ?_
    refine yG.load xik rfl (fun _ _ => rfl) (v := yI ((a : Int))) rfl rfl ?_
    refine yG.invV (rest := []) T_hp W.1 rfl rfl rfl rfl (y_copy W (d + 1) T_hp hr ha) ?_
    intro rv h1 q1
    obtain ⟨m1, t1, v1⟩ := ycopy_mag bl2 q1
    obtain ⟨e1, M1, O1, X1, Y1, -⟩ := q1
    subst e1
    have T_h1 := M1.1
    have N_h1 : yNx G [2074, 2075, 2076, 2078, 2079] hp h1 := ⟨M1.1, M1.2.1, M1.2.2.sub (by decide)⟩
    have sa1 : yS h1 a = yS hp a := by
      by_cases e : a = r
      · rw [e, Y1, e]
      · exact (O1 a e).2.1
    show yG _ _ _ _ _ _ _ _ _ _ [] _
    refine yG.load xak rfl (fun _ _ => rfl) (v := yR 2073) rfl rfl ?_
    refine yG.getR T_h1 (yF_sign W) rfl rfl ?_
    refine yG.load xik rfl (fun _ _ => rfl) (v := yI ((r : Int))) rfl rfl ?_
    refine yG.load xak rfl (fun _ _ => rfl) (v := yR 2073) rfl rfl ?_
    refine yG.getR T_h1 (yF_sign W) rfl rfl ?_
    refine yG.load xik rfl (fun _ _ => rfl) (v := yI ((a : Int))) rfl rfl ?_
    refine yG.iald T_h1 (yA_sign W) rfl (by omega) (by omega) (fun z311 e_z311 i_z311 l_z311 u_z311 => ?_)
    have q_z311 : z311 = yS h1 a := e_z311
    refine yG.ifz rfl (t := 51) rfl ⟨by omega, by omega⟩ (fun c312 => ?_) (fun c312 => ?_)
    · have c312 : z311 ≠ 0 := c312
      refine yG.num (c := 1) rfl (fun _ _ => rfl) (by decide) ?_
      refine yG.iast T_h1 (yA_sign W) (by decide) rfl (by omega) (by omega) ⟨by omega, by omega⟩ (by omega) (by omega) (fun h313 T_h313 b_h313 f_h313 y_h313 => ?_)
      have N_h313 := N_h1.put T_h313 b_h313 (by decide) f_h313
      have D_h313 : ∀ s j, yD h313 s j = yD h1 s j := fun s j => yput_ne y_h313 (by decide) _
      have L_h313 : ∀ s, yL h313 s = yL h1 s := fun s => yput_ne y_h313 (by decide) _
      have S_h313 : ∀ s, yS h313 s = if s = r then 1 else yS h1 s := yput_S (r := r) y_h313
      have yUp_h313 : ∀ t, yUp h313 t = yUp h1 t := fun t => yput_ne y_h313 (by decide) _
      have yLo_h313 : ∀ t, yLo h313 t = yLo h1 t := fun t => yput_ne y_h313 (by decide) _
      refine yG.load xik rfl (fun _ _ => rfl) (v := yI (qi)) rfl rfl ?_
      refine yG.ifz rfl (t := 63) rfl ⟨by omega, by omega⟩ (fun c314 => ?_) (fun c314 => ?_)
      · have c314 : qi < 0 := c314
        refine yG.ret rfl (fun _ _ => rfl) ?_
        obtain ⟨f1, f2, f3⟩ := ysign_set W T_h313 hr (yL_bd W T_h1 hr).2 D_h313 L_h313 S_h313 (t1 na.1) (by rw [m1]; omega)
        have em : ymag hp a % ymag hp b = ymag hp a := Int.emod_eq_of_lt ma0 (by omega)
        have ed : ymag hp a / ymag hp b = 0 := Int.ediv_eq_zero_of_lt ma0 (by omega)
        have vr : yval h313 r = ymag hp a % ymag hp b := by
          rw [f2, m1, em]
          have : (1 : Int) = 1 ∨ ymag hp a = 0 := by omega
          rcases this with e | e
          · rw [e, Int.one_mul]
          · rw [e, Int.mul_zero]
        exact yP.void ⟨rfl, N_h313, fun s h1 h2 => (O1 s h1).tr (f1 s h1), fun q9 h9 => by omega, vr, f3⟩
      · have c314 : qi ≥ 0 := c314
        refine yG.load xak rfl (fun _ _ => rfl) (v := yR 2073) rfl rfl ?_
        refine yG.load xik rfl (fun _ _ => rfl) (v := yI (qi)) rfl rfl ?_
        refine yG.numl (c := 0) rfl (fun _ _ => rfl) (by decide) ?_
        obtain ⟨q, hq9⟩ : ∃ q : Nat, qi = (q : Int) := ⟨qi.toNat, by omega⟩
        refine yG.invV (rest := []) T_h313 W.1 rfl rfl rfl rfl (show yC _ _ [yR 2073, yI qi, yJ 0] h313 (yQ_val G [2074, 2075, 2076] h313 q 0) from by rw [hq9]; exact y_put (r := q) (v := 0) W (d + 1) T_h313 (by omega) (by omega) (by omega)) ?_
        intro rv g1 q1
        obtain ⟨e2, M2, O2, V2, n2⟩ := q1
        subst e2
        have T_g1 := M2.1
        have N_g1 := N_h313.tr (show yNx G [2074, 2075, 2076, 2078, 2079] h313 g1 from ⟨M2.1, M2.2.1, M2.2.2.sub (by decide)⟩)
        show yG _ _ _ _ _ _ _ _ _ _ [] _
        refine yG.ret rfl (fun _ _ => rfl) ?_
        obtain ⟨f1, f2, f3⟩ := ysign_set W T_h313 hr (yL_bd W T_h1 hr).2 D_h313 L_h313 S_h313 (t1 na.1) (by rw [m1]; omega)
        have em : ymag hp a % ymag hp b = ymag hp a := Int.emod_eq_of_lt ma0 (by omega)
        have ed : ymag hp a / ymag hp b = 0 := Int.ediv_eq_zero_of_lt ma0 (by omega)
        have vr : yval h313 r = ymag hp a % ymag hp b := by
          rw [f2, m1, em]
          have : (1 : Int) = 1 ∨ ymag hp a = 0 := by omega
          rcases this with e | e
          · rw [e, Int.one_mul]
          · rw [e, Int.mul_zero]
        have m := O2 r (by omega)
        have bq := (yL_bd W T_h313 hr).2
        exact yP.void ⟨rfl, N_g1, fun s h1 h2 => ((O1 s h1).tr (f1 s h1)).tr (O2 s (by omega)), fun q9 h9 => by
          obtain rfl : q = q9 := by omega
          exact ⟨by rw [V2, ed], n2⟩, by rw [m.val bq, vr], m.norm bq f3⟩
    · have c312 : z311 = 0 := c312
      refine yG.num (c := 0) rfl (fun _ _ => rfl) (by decide) ?_
      refine yG.goto rfl (t := 52) rfl ?_
      refine yG.iast T_h1 (yA_sign W) (by decide) rfl (by omega) (by omega) ⟨by omega, by omega⟩ (by omega) (by omega) (fun h315 T_h315 b_h315 f_h315 y_h315 => ?_)
      have N_h315 := N_h1.put T_h315 b_h315 (by decide) f_h315
      have D_h315 : ∀ s j, yD h315 s j = yD h1 s j := fun s j => yput_ne y_h315 (by decide) _
      have L_h315 : ∀ s, yL h315 s = yL h1 s := fun s => yput_ne y_h315 (by decide) _
      have S_h315 : ∀ s, yS h315 s = if s = r then 0 else yS h1 s := yput_S (r := r) y_h315
      have yUp_h315 : ∀ t, yUp h315 t = yUp h1 t := fun t => yput_ne y_h315 (by decide) _
      have yLo_h315 : ∀ t, yLo h315 t = yLo h1 t := fun t => yput_ne y_h315 (by decide) _
      refine yG.load xik rfl (fun _ _ => rfl) (v := yI (qi)) rfl rfl ?_
      refine yG.ifz rfl (t := 63) rfl ⟨by omega, by omega⟩ (fun c316 => ?_) (fun c316 => ?_)
      · have c316 : qi < 0 := c316
        refine yG.ret rfl (fun _ _ => rfl) ?_
        obtain ⟨f1, f2, f3⟩ := ysign_set W T_h315 hr (yL_bd W T_h1 hr).2 D_h315 L_h315 S_h315 (t1 na.1) (by rw [m1]; omega)
        have em : ymag hp a % ymag hp b = ymag hp a := Int.emod_eq_of_lt ma0 (by omega)
        have ed : ymag hp a / ymag hp b = 0 := Int.ediv_eq_zero_of_lt ma0 (by omega)
        have vr : yval h315 r = ymag hp a % ymag hp b := by
          rw [f2, m1, em]
          have : (0 : Int) = 1 ∨ ymag hp a = 0 := by omega
          rcases this with e | e
          · rw [e, Int.one_mul]
          · rw [e, Int.mul_zero]
        exact yP.void ⟨rfl, N_h315, fun s h1 h2 => (O1 s h1).tr (f1 s h1), fun q9 h9 => by omega, vr, f3⟩
      · have c316 : qi ≥ 0 := c316
        refine yG.load xak rfl (fun _ _ => rfl) (v := yR 2073) rfl rfl ?_
        refine yG.load xik rfl (fun _ _ => rfl) (v := yI (qi)) rfl rfl ?_
        refine yG.numl (c := 0) rfl (fun _ _ => rfl) (by decide) ?_
        obtain ⟨q, hq9⟩ : ∃ q : Nat, qi = (q : Int) := ⟨qi.toNat, by omega⟩
        refine yG.invV (rest := []) T_h315 W.1 rfl rfl rfl rfl (show yC _ _ [yR 2073, yI qi, yJ 0] h315 (yQ_val G [2074, 2075, 2076] h315 q 0) from by rw [hq9]; exact y_put (r := q) (v := 0) W (d + 1) T_h315 (by omega) (by omega) (by omega)) ?_
        intro rv g1 q1
        obtain ⟨e2, M2, O2, V2, n2⟩ := q1
        subst e2
        have T_g1 := M2.1
        have N_g1 := N_h315.tr (show yNx G [2074, 2075, 2076, 2078, 2079] h315 g1 from ⟨M2.1, M2.2.1, M2.2.2.sub (by decide)⟩)
        show yG _ _ _ _ _ _ _ _ _ _ [] _
        refine yG.ret rfl (fun _ _ => rfl) ?_
        obtain ⟨f1, f2, f3⟩ := ysign_set W T_h315 hr (yL_bd W T_h1 hr).2 D_h315 L_h315 S_h315 (t1 na.1) (by rw [m1]; omega)
        have em : ymag hp a % ymag hp b = ymag hp a := Int.emod_eq_of_lt ma0 (by omega)
        have ed : ymag hp a / ymag hp b = 0 := Int.ediv_eq_zero_of_lt ma0 (by omega)
        have vr : yval h315 r = ymag hp a % ymag hp b := by
          rw [f2, m1, em]
          have : (0 : Int) = 1 ∨ ymag hp a = 0 := by omega
          rcases this with e | e
          · rw [e, Int.one_mul]
          · rw [e, Int.mul_zero]
        have m := O2 r (by omega)
        have bq := (yL_bd W T_h315 hr).2
        exact yP.void ⟨rfl, N_g1, fun s h1 h2 => ((O1 s h1).tr (f1 s h1)).tr (O2 s (by omega)), fun q9 h9 => by
          obtain rfl : q = q9 := by omega
          exact ⟨by rw [V2, ed], n2⟩, by rw [m.val bq, vr], m.norm bq f3⟩
end YDivide
