/-! ===== the reference: by a number of one figure ===== -/
theorem yalg1 (R S p b s1 s2 x2 x3 : Int) : R + S + b * (x2 * p) + b * (s1 - (s2 + x3 * p)) = R + S + b * (s1 + (x2 - x3) * p - s2) := by grind
theorem yalg2 (R S b x2 z p : Int) : R + S + b * (x2 * p) + b * (z * (1000000000 * p)) = R + S + b * ((x2 + z * 1000000000) * p) := by grind
section YDivOne
variable {G : zW} {hp : xH} {r a q : Nat} {qi : Int}
/-- quotient and rest: q may be told as -1; others stay -/
def yQ_div (G : zW) (Ks : List Nat) (hp : xH) (qi : Int) (r : Nat) (x y : Int) (rv : Option xA) (hp' : xH) : Prop := rv = none ∧ yNx G Ks hp hp' ∧ (∀ s, s ≠ r → (s : Int) ≠ qi → ySm hp hp' s) ∧ (∀ q : Nat, qi = (q : Int) → yval hp' q = x / y ∧ yNorm hp' q) ∧ yval hp' r = x % y ∧ yNorm hp' r
theorem y_divideByOne (W : yMW G) (d : Nat) {by9 : Int} (hT : zTy G hp) (hr : r < 3412) (ha : a < 3412) (hq1 : -1 ≤ qi) (hq2 : qi < 3412) (hqr : qi ≠ r) (hb1 : 1 ≤ by9) (hb2 : by9 ≤ 999999999) : yC (xcall 89 xfts xpools xms (d + 2)) 389 [yR 2073, yI qi, yI (r : Int), yI (a : Int), yJ by9] hp (yQ_div G [2074, 2075, 2076] hp qi r (ymag hp a) by9) := by
  have T_hp := hT
  obtain ⟨bl1, bl2⟩ := yL_bd W hT ha
  have ga := yFig_of W hT ha
  obtain ⟨n, hn⟩ : ∃ n : Nat, yL hp a = (n : Int) := ⟨(yL hp a).toNat, by omega⟩
  have mga : ymag hp a = ysum (yD hp a) n := by show ysum _ (yL hp a).toNat = _; rw [hn]; rfl
  have H : ∀ k : Nat, ∀ i rs : Int, ∀ hq, i = (k : Int) - 1 → k ≤ n → yNx G [2074, 2075, 2076] hp hq → (∀ s, yL hq s = yL hp s) → (∀ s, yS hq s = yS hp s) → (∀ s j : Nat, j < 256 → (s : Int) ≠ qi ∨ j < k → yD hq s j = yD hp s j) → 0 ≤ rs → rs < by9 → (∀ q : Nat, qi = (q : Int) → ymag hp a = rs * yB k + ysum (yD hp a) k + by9 * (ysum (yD hq q) n - ysum (yD hq q) k)) → (qi < 0 → ∃ z, ymag hp a = rs * yB k + ysum (yD hp a) k + by9 * (z * yB k)) → yG 89 xfts (xcall 89 xfts xpools xms (d + 1)) (xpool xp_RX13) [] xt_X13_divideByOne (yP 0 (yQ_div G [2074, 2075, 2076] hp qi r (ymag hp a) by9)) (80 * k + 500) 17 [(9, yI (i)), (8, yI ((n : Int))), (6, yJ (rs)), (0, yR 2073), (1, yI (qi)), (2, yI ((r : Int))), (3, yI ((a : Int))), (4, yJ (by9))] [] hq := by
    intro k
    induction k with
    | zero =>
      intro i rs hq hi hk N_hq I1 I2 I3 I4 I5 I6 I7
      have T_hq := N_hq.1
      refine yG.load xik rfl (fun _ _ => rfl) (v := yI i) rfl rfl ?_
      refine yG.ifz rfl (t := 88) rfl ⟨by omega, by omega⟩ (fun c => ?_) (fun c => absurd (show 0 ≤ i from c) (by omega))
      refine yG.load xik rfl (fun _ _ => rfl) (v := yI (qi)) rfl rfl ?_
      refine yG.ifz rfl (t := 99) rfl ⟨by omega, by omega⟩ (fun c11 => ?_) (fun c11 => ?_)
      · have c11 : qi < 0 := c11
        refine yG.load xak rfl (fun _ _ => rfl) (v := yR 2073) rfl rfl ?_
        refine yG.load xik rfl (fun _ _ => rfl) (v := yI ((r : Int))) rfl rfl ?_
        refine yG.load xlk2 rfl (fun _ _ => rfl) (v := yJ (rs)) rfl rfl ?_
        refine yG.invV (rest := []) T_hq W.1 rfl rfl rfl rfl (y_put (r := r) (v := rs) W (d + 0) T_hq hr (by omega) (by omega)) ?_
        intro rv h3 q2
        obtain ⟨e2, M2, O2, V2, n2⟩ := q2
        subst e2
        have T_h3 := M2.1
        have N_h3 := N_hq.tr M2
        show yG _ _ _ _ _ _ _ _ _ _ [] _
        refine yG.ret rfl (fun _ _ => rfl) ?_
        have u1 : ymag hp a % by9 = rs := by
          obtain ⟨z, e⟩ := I7 (by omega)
          rw [show yB 0 = 1 from rfl, show ysum (yD hp a) 0 = 0 from rfl, Int.mul_one, Int.mul_one, Int.add_zero, Int.add_comm] at e
          rw [e, Int.mul_add_emod_self_left]
          exact Int.emod_eq_of_lt I4 I5
        exact yP.void ⟨rfl, N_h3, fun s h1 h2 => (show ySm hp hq s from ⟨I1 s, I2 s, fun j hj => I3 s j hj (Or.inl h2)⟩).tr (O2 s h1), fun q9 h9 => by omega, by rw [V2, u1], n2⟩
      · have c11 : qi ≥ 0 := c11
        refine yG.load xak rfl (fun _ _ => rfl) (v := yR 2073) rfl rfl ?_
        refine yG.load xik rfl (fun _ _ => rfl) (v := yI (qi)) rfl rfl ?_
        refine yG.load xik rfl (fun _ _ => rfl) (v := yI ((n : Int))) rfl rfl ?_
        obtain ⟨q, hq9⟩ : ∃ q : Nat, qi = (q : Int) := ⟨qi.toNat, by omega⟩
        subst hq9
        refine yG.invV (rest := []) T_hq W.1 rfl rfl rfl rfl (y_finish (r := q) (n := n) W d T_hq (by omega) (by omega)) ?_
        intro rv h1 q1
        obtain ⟨e1, M1, O1, V1, n1⟩ := q1
        subst e1
        have T_h1 := M1.1
        have N_h1 := N_hq.tr M1
        show yG _ _ _ _ _ _ _ _ _ _ [] _
        refine yG.load xak rfl (fun _ _ => rfl) (v := yR 2073) rfl rfl ?_
        refine yG.load xik rfl (fun _ _ => rfl) (v := yI ((r : Int))) rfl rfl ?_
        refine yG.load xlk2 rfl (fun _ _ => rfl) (v := yJ (rs)) rfl rfl ?_
        refine yG.invV (rest := []) T_h1 W.1 rfl rfl rfl rfl (y_put (r := r) (v := rs) W (d + 0) T_h1 hr (by omega) (by omega)) ?_
        intro rv h2 q2
        obtain ⟨e2, M2, O2, V2, n2⟩ := q2
        subst e2
        have T_h2 := M2.1
        have N_h2 := N_h1.tr M2
        show yG _ _ _ _ _ _ _ _ _ _ [] _
        refine yG.ret rfl (fun _ _ => rfl) ?_
        obtain ⟨u1, u2⟩ : ymag hp a % by9 = rs ∧ ymag hp a / by9 = ysum (yD hq q) n := by
          have e := I6 q rfl
          rw [show yB 0 = 1 from rfl, show ysum (yD hp a) 0 = 0 from rfl, show ysum (yD hq q) 0 = 0 from rfl, Int.sub_zero, Int.mul_one, Int.add_zero, Int.add_comm] at e
          rw [e]
          exact ⟨by rw [Int.mul_add_emod_self_left]; exact Int.emod_eq_of_lt I4 I5, by rw [Int.mul_comm, Int.add_comm, Int.add_mul_ediv_right _ _ (by omega), Int.ediv_eq_zero_of_lt I4 I5, Int.zero_add]⟩
        exact yP.void ⟨rfl, N_h2, fun s h1 h2 => (show ySm hp hq s from ⟨I1 s, I2 s, fun j hj => I3 s j hj (Or.inl h2)⟩).tr ((O1 s (by omega)).tr (O2 s h1)), fun q9 h9 => by
          obtain rfl : q = q9 := by omega
          have m := O2 q (by omega)
          have b := (yL_bd W T_h1 (show q < 3412 by omega)).2
          exact ⟨by rw [m.val b, V1, u2], m.norm b n1⟩, by rw [V2, u1], n2⟩
    | succ k ih =>
      intro i rs hq hi hk N_hq I1 I2 I3 I4 I5 I6 I7
      have T_hq := N_hq.1
      have ax := ga k (by omega)
      have e9 : yD hq a k = yD hp a k := I3 a k (by omega) (Or.inr (by omega))
      obtain ⟨v, hv⟩ : ∃ v : Int, v = rs * 1000000000 + yD hp a k := ⟨_, rfl⟩
      have v0 : 0 ≤ v := by omega
      have vb : v < by9 * 1000000000 := by omega
      have d1 : 0 ≤ v / by9 := Int.ediv_nonneg v0 (by omega)
      have d2 : v / by9 < 1000000000 := Int.ediv_lt_of_lt_mul (by omega) (by rw [Int.mul_comm]; exact vb)
      have d3 : 0 ≤ v % by9 := Int.emod_nonneg _ (by omega)
      have d4 : v % by9 < by9 := Int.emod_lt_of_pos _ (by omega)
      have d5 : v - v / by9 * by9 = v % by9 := by rw [Int.emod_def, Int.mul_comm]
      have key : rs * yB (k + 1) + ysum (yD hp a) (k + 1) = v % by9 * yB k + ysum (yD hp a) k + by9 * (v / by9 * yB k) := by
        have e : v = v % by9 + v / by9 * by9 := by omega
        rw [ysum_succ, yB_succ]
        generalize v % by9 = x1 at *
        generalize v / by9 = x2 at *
        generalize yB k = p
        generalize ysum (yD hp a) k = s1
        generalize yD hp a k = f at *
        clear d1 d2 d3 d4 d5 vb v0 ax e9 I1 I2 I3 I6 I7 ih
        rw [e] at hv
        grind
      refine yG.load xik rfl (fun _ _ => rfl) (v := yI i) rfl rfl ?_
      refine yG.ifz rfl (t := 88) rfl ⟨by omega, by omega⟩ (fun c => absurd (show i < 0 from c) (by omega)) (fun c => ?_)
      refine yG.load xlk2 rfl (fun _ _ => rfl) (v := yJ (rs)) rfl rfl ?_
      refine yG.numl (c := 1000000000) rfl (fun _ _ => rfl) (by decide) ?_
      refine yG.lmul rfl ?_
      refine yG.load xak rfl (fun _ _ => rfl) (v := yR 2073) rfl rfl ?_
      refine yG.getR T_hq (yF_big W) rfl rfl ?_
      refine yG.num (c := 256) rfl (fun _ _ => rfl) (by decide) ?_
      refine yG.load xik rfl (fun _ _ => rfl) (v := yI ((a : Int))) rfl rfl ?_
      refine yG.imul rfl ?_
      refine yG.load xik rfl (fun _ _ => rfl) (v := yI (i)) rfl rfl ?_
      refine yG.iadd rfl ?_
      refine yG.iald T_hq (yA_big W) rfl (by omega) (by omega) (fun z31 e_z31 i_z31 l_z31 u_z31 => ?_)
      have q_z31 : z31 = yD hq a (k) := e_z31.trans (yBig (by omega))
      refine yG.i2l rfl ⟨by omega, by omega⟩ ?_
      refine yG.ladd rfl ?_
      rw [show (rs * 1000000000) + z31 = v by omega]
      refine yG.store2 xlk2 (L' := [(10, yJ (v)), (9, yI (i)), (8, yI ((n : Int))), (6, yJ (rs)), (0, yR 2073), (1, yI (qi)), (2, yI ((r : Int))), (3, yI ((a : Int))), (4, yJ (by9))]) rfl (fun _ _ => rfl) rfl rfl ?_
      refine yG.load xlk2 rfl (fun _ _ => rfl) (v := yJ (v)) rfl rfl ?_
      refine yG.load xlk2 rfl (fun _ _ => rfl) (v := yJ (by9)) rfl rfl ?_
      refine yG.ldiv rfl ⟨by omega, by omega⟩ ⟨by omega, by omega⟩ (by omega) (by omega) ?_
      rw [show (v) / (by9) = (v / by9) by rfl]
      refine yG.store2 xlk2 (L' := [(12, yJ ((v / by9))), (10, yJ (v)), (9, yI (i)), (8, yI ((n : Int))), (6, yJ (rs)), (0, yR 2073), (1, yI (qi)), (2, yI ((r : Int))), (3, yI ((a : Int))), (4, yJ (by9))]) rfl (fun _ _ => rfl) rfl rfl ?_
      refine yG.load xlk2 rfl (fun _ _ => rfl) (v := yJ (v)) rfl rfl ?_
      refine yG.load xlk2 rfl (fun _ _ => rfl) (v := yJ ((v / by9))) rfl rfl ?_
      refine yG.load xlk2 rfl (fun _ _ => rfl) (v := yJ (by9)) rfl rfl ?_
      refine yG.lmul rfl ?_
      refine yG.lsub rfl ?_
      rw [show v - ((v / by9) * by9) = (v % by9) by omega]
      refine yG.store2 xlk2 (L' := [(6, yJ ((v % by9))), (12, yJ ((v / by9))), (10, yJ (v)), (9, yI (i)), (8, yI ((n : Int))), (0, yR 2073), (1, yI (qi)), (2, yI ((r : Int))), (3, yI ((a : Int))), (4, yJ (by9))]) rfl (fun _ _ => rfl) rfl rfl ?_
      refine yG.load xik rfl (fun _ _ => rfl) (v := yI (qi)) rfl rfl ?_
      refine yG.ifz rfl (t := 82) rfl ⟨by omega, by omega⟩ (fun c32 => ?_) (fun c32 => ?_)
      · have c32 : qi < 0 := c32
        refine yG.iinc rfl (a := i) rfl (L' := [(9, yI (i + (-1))), (6, yJ ((v % by9))), (12, yJ ((v / by9))), (10, yJ (v)), (8, yI ((n : Int))), (0, yR 2073), (1, yI (qi)), (2, yI ((r : Int))), (3, yI ((a : Int))), (4, yJ (by9))]) rfl ?_
        refine yG.goto rfl (t := 17) rfl ?_
        exact yG.mono ((ih (i + (-1)) (v % by9) hq (by omega) (by omega) N_hq I1 I2 (fun s j hj h => I3 s j hj (by omega)) d3 d4 (fun q h => by omega) (fun h => by
          obtain ⟨z, e⟩ := I7 h
          refine ⟨v / by9 + z * 1000000000, ?_⟩
          rw [e, key, yB_succ]
          exact yalg2 _ _ _ _ _ _)).sub (ySub.cons rfl (ySub.cons rfl (ySub.cons rfl (ySub.cons rfl (ySub.cons rfl (ySub.cons rfl (ySub.cons rfl (ySub.cons rfl (ySub.nil)))))))))) (by omega)
      · have c32 : qi ≥ 0 := c32
        refine yG.load xak rfl (fun _ _ => rfl) (v := yR 2073) rfl rfl ?_
        refine yG.getR T_hq (yF_big W) rfl rfl ?_
        refine yG.num (c := 256) rfl (fun _ _ => rfl) (by decide) ?_
        refine yG.load xik rfl (fun _ _ => rfl) (v := yI (qi)) rfl rfl ?_
        refine yG.imul rfl ?_
        refine yG.load xik rfl (fun _ _ => rfl) (v := yI (i)) rfl rfl ?_
        refine yG.iadd rfl ?_
        refine yG.load xlk2 rfl (fun _ _ => rfl) (v := yJ ((v / by9))) rfl rfl ?_
        refine yG.l2i rfl ?_
        refine yG.iast T_hq (yA_big W) (by decide) rfl (by omega) (by omega) ⟨by omega, by omega⟩ (by omega) (by omega) (fun h33 T_h33 b_h33 f_h33 y_h33 => ?_)
        have N_h33 := N_hq.put T_h33 b_h33 (by decide) f_h33
        have L_h33 : ∀ s, yL h33 s = yL hq s := fun s => yput_ne y_h33 (by decide) _
        have S_h33 : ∀ s, yS h33 s = yS hq s := fun s => yput_ne y_h33 (by decide) _
        refine yG.iinc rfl (a := i) rfl (L' := [(9, yI (i + (-1))), (6, yJ ((v % by9))), (12, yJ ((v / by9))), (10, yJ (v)), (8, yI ((n : Int))), (0, yR 2073), (1, yI (qi)), (2, yI ((r : Int))), (3, yI ((a : Int))), (4, yJ (by9))]) rfl ?_
        refine yG.goto rfl (t := 17) rfl ?_
        obtain ⟨q, hq9⟩ : ∃ q : Nat, qi = (q : Int) := ⟨qi.toNat, by omega⟩
        have Dq : ∀ s j, j < 256 → yD h33 s j = if s = q ∧ j = k then v / by9 else yD hq s j := yput_D (r := q) (k := k) y_h33 (by omega) (by omega)
        exact yG.mono ((ih (i + (-1)) (v % by9) h33 (by omega) (by omega) N_h33 (fun s => (L_h33 s).trans (I1 s)) (fun s => (S_h33 s).trans (I2 s)) (fun s j hj h => by rw [Dq s j hj, if_neg (by omega)]; exact I3 s j hj (by omega)) d3 d4 (fun q9 h => by
          obtain rfl : q = q9 := by omega
          rw [I6 q hq9, key, ysum_succ (yD hq q) k]
          rw [show ysum (yD h33 q) k = ysum (yD hq q) k from ysum_congr fun j hj => by rw [Dq q j (by omega), if_neg (by omega)], ysum_upd (f := yD hq q) (g := yD h33 q) (n := n) (t := k) (by omega) fun j h1 h2 => by rw [Dq q j (by omega), if_neg (fun h => h2 h.2)], Dq q k (by omega), if_pos ⟨rfl, rfl⟩]
          exact yalg1 _ _ _ _ _ _ _ _) (fun h => by omega)).sub (ySub.cons rfl (ySub.cons rfl (ySub.cons rfl (ySub.cons rfl (ySub.cons rfl (ySub.cons rfl (ySub.cons rfl (ySub.cons rfl (ySub.nil)))))))))) (by omega)
  refine yC.of (M := (xt_X13_divideByOne, (14, (0, (14, []))))) rfl rfl (N := 80 * n + 600) (yfuel (by omega)) ?_
  show yG 89 xfts (xcall 89 xfts xpools xms (d + 1)) (xpool xp_RX13) [] xt_X13_divideByOne (yP 0 (yQ_div G [2074, 2075, 2076] hp qi r (ymag hp a) by9)) (80 * n + 600) 0 [(0, yR 2073), (1, yI (qi)), (2, yI ((r : Int))), (3, yI ((a : Int))), (4, yJ (by9))] [] hp
  refine yG.numl (c := 0) rfl (fun _ _ => rfl) (by decide) ?_
  refine yG.store2 xlk2 (L' := [(6, yJ (0)), (0, yR 2073), (1, yI (qi)), (2, yI ((r : Int))), (3, yI ((a : Int))), (4, yJ (by9))]) rfl (fun _ _ => rfl) rfl rfl ?_
  refine yG.load xak rfl (fun _ _ => rfl) (v := yR 2073) rfl rfl ?_
  refine yG.getR T_hp (yF_length W) rfl rfl ?_
  refine yG.load xik rfl (fun _ _ => rfl) (v := yI ((a : Int))) rfl rfl ?_
  refine yG.iald T_hp (yA_length W) rfl (by omega) (by omega) (fun z61 e_z61 i_z61 l_z61 u_z61 => ?_)
  have q_z61 : z61 = yL hp a := e_z61
  refine yG.store1 xik (L' := [(8, yI (z61)), (6, yJ (0)), (0, yR 2073), (1, yI (qi)), (2, yI ((r : Int))), (3, yI ((a : Int))), (4, yJ (by9))]) rfl (fun _ _ => rfl) rfl rfl ?_
  refine yG.load xik rfl (fun _ _ => rfl) (v := yI (z61)) rfl rfl ?_
  refine yG.num (c := 1) rfl (fun _ _ => rfl) (by decide) ?_
  refine yG.isub rfl ?_
  obtain ⟨z62, e_z62⟩ : ∃ z : Int, z = z61 - 1 := ⟨_, rfl⟩
  rw [← e_z62]
  refine yG.store1 xik (L' := [(9, yI (z62)), (8, yI (z61)), (6, yJ (0)), (0, yR 2073), (1, yI (qi)), (2, yI ((r : Int))), (3, yI ((a : Int))), (4, yJ (by9))]) rfl (fun _ _ => rfl) rfl rfl ?_
  rw [show z61 = (n : Int) by omega]
  exact yG.mono (H n _ 0 hp (by omega) (Nat.le_refl _) (yNx.rf hT) (fun _ => rfl) (fun _ => rfl) (fun _ _ _ _ => rfl) (by omega) (by omega) (fun q _ => by rw [Int.sub_self, Int.mul_zero, Int.zero_mul, Int.zero_add, Int.add_zero, mga]) (fun _ => ⟨0, by rw [Int.zero_mul, Int.mul_zero, Int.zero_add, Int.add_zero, mga]⟩)) (by omega)
end YDivOne
