/-! ===== the reference: sizes added, taken away ===== -/
/-- a register's figures with noughts ahead -/
noncomputable def yFA (hp : xH) (a : Nat) (j : Nat) : Int := if (j : Int) < yL hp a then yD hp a j else 0
theorem yFA_in {hp : xH} {a j : Nat} (h : (j : Int) < yL hp a) : yFA hp a j = yD hp a j := if_pos h
theorem yFA_out {hp : xH} {a j : Nat} (h : ¬ (j : Int) < yL hp a) : yFA hp a j = 0 := if_neg h
theorem yFA_sum {hp : xH} {a n : Nat} (h : yL hp a ≤ n) : ysum (yFA hp a) n = ymag hp a := by
  rw [ysum_nought (n := (yL hp a).toNat) (by omega) fun k h1 _ => yFA_out (by omega)]
  exact ysum_congr fun k hk => yFA_in (by omega)
section YAdd
variable {G : zW} {hp : xH} {r a b : Nat}
def yQ_size (G : zW) (hp : xH) (r : Nat) (m : Int) (rv : Option xA) (hp' : xH) : Prop := rv = none ∧ yNx G [2074, 2075, 2076] hp hp' ∧ (∀ s, s ≠ r → ySm hp hp' s) ∧ yS hp' r = yS hp r ∧ ymag hp' r = m ∧ yTop hp' r
theorem y_addSizes (W : yMW G) (d : Nat) (hT : zTy G hp) (hr : r < 3412) (ha : a < 3412) (hb : b < 3412) (ta : yTop hp a) (tb : yTop hp b) (hm : ymag hp a + ymag hp b < yB 256) : yC (xcall 89 xfts xpools xms (d + 1)) 347 [yR 2073, yI (r : Int), yI (a : Int), yI (b : Int)] hp (yQ_size G hp r (ymag hp a + ymag hp b)) := by
  have T_hp := hT
  obtain ⟨bl1, bl2⟩ := yL_bd W hT ha
  obtain ⟨bl3, bl4⟩ := yL_bd W hT hb
  have ga := yFig_of W hT ha
  have gb := yFig_of W hT hb
  have H : ∀ n : Nat, yL hp a ≤ n → yL hp b ≤ n → ((n : Int) = yL hp a ∨ (n : Int) = yL hp b) → ∀ m k : Nat, ∀ cy : Int, ∀ hq, m + k = n → cy = 0 ∨ cy = 1 → yNx G [2074, 2075, 2076] hp hq → (∀ s, yL hq s = yL hp s) → (∀ s, yS hq s = yS hp s) → (∀ s j, j < 256 → s ≠ r ∨ k ≤ j → yD hq s j = yD hp s j) → ysum (yD hq r) k + cy * yB k = ysum (yFA hp a) k + ysum (yFA hp b) k → (0 < k → cy = 0 → yFA hp a (k - 1) ≤ yD hq r (k - 1) ∧ yFA hp b (k - 1) ≤ yD hq r (k - 1)) → yG 89 xfts (xcall 89 xfts xpools xms d) (xpool xp_RX13) [] xt_X13_addSizes (yP 0 (yQ_size G hp r (ymag hp a + ymag hp b))) (100 * m + 100) 38 [(6, yI ((k : Int))), (5, yI (cy)), (4, yI ((n : Int))), (0, yR 2073), (1, yI ((r : Int))), (2, yI ((a : Int))), (3, yI ((b : Int)))] [] hq := by
    intro n hn1 hn2 hn3 m
    induction m with
    | zero =>
      intro k cy hq hk hcy N_hq I1 I2 I3 I4 I5
      have T_hq := N_hq.1
      have ekn : k = n := by omega
      subst ekn
      rw [yFA_sum hn1, yFA_sum hn2] at I4
      have gr := yFig_of W T_hq hr
      have kb : k ≤ 256 := by omega
      have kc : cy = 1 → k < 256 := fun e => by
        have h1 := (ysum_bd (gr.sub kb)).1
        rw [e] at I4
        rcases Nat.lt_or_ge k 256 with h | h
        · exact h
        · rw [show k = 256 by omega] at I4 h1
          omega
      refine yG.load xik rfl (fun _ _ => rfl) (v := yI ((k : Int))) rfl rfl ?_
      refine yG.load xik rfl (fun _ _ => rfl) (v := yI ((k : Int))) rfl rfl ?_
      refine yG.icmp rfl (t := 156) rfl ⟨by omega, by omega⟩ ⟨by omega, by omega⟩ (fun c => ?_) (fun c => absurd (show (k : Int) < k from c) (by omega))
      refine yG.load xik rfl (fun _ _ => rfl) (v := yI (cy)) rfl rfl ?_
      refine yG.ifz rfl (t := 178) rfl ⟨by omega, by omega⟩ (fun c1 => ?_) (fun c1 => ?_)
      · have c1 : cy ≤ 0 := c1
        refine yG.load xak rfl (fun _ _ => rfl) (v := yR 2073) rfl rfl ?_
        refine yG.getR T_hq (yF_length W) rfl rfl ?_
        refine yG.load xik rfl (fun _ _ => rfl) (v := yI ((r : Int))) rfl rfl ?_
        refine yG.load xik rfl (fun _ _ => rfl) (v := yI ((k : Int))) rfl rfl ?_
        refine yG.iast T_hq (yA_length W) (by decide) rfl (by omega) (by omega) ⟨by omega, by omega⟩ (by omega) (by omega) (fun h2 T_h2 b_h2 f_h2 y_h2 => ?_)
        have N_h2 := N_hq.put T_h2 b_h2 (by decide) f_h2
        have D_h2 : ∀ s j, yD h2 s j = yD hq s j := fun s j => yput_ne y_h2 (by decide) _
        have L_h2 : ∀ s, yL h2 s = if s = r then (k : Int) else yL hq s := yput_L (r := r) y_h2
        have S_h2 : ∀ s, yS h2 s = yS hq s := fun s => yput_ne y_h2 (by decide) _
        refine yG.ret rfl (fun _ _ => rfl) ?_
        exact yP.void ⟨rfl, N_h2, fun s hs => ⟨by rw [L_h2, if_neg hs, I1], by rw [S_h2, I2], fun j hj => by rw [D_h2, I3 s j hj (Or.inl hs)]⟩, by rw [S_h2, I2], by
          show ysum (yD h2 r) (yL h2 r).toNat = _
          rw [L_h2, if_pos rfl]
          have e0 : cy = 0 := by omega
          rw [e0, Int.zero_mul, Int.add_zero] at I4
          rw [← I4]
          exact ysum_congr fun j _ => D_h2 r j, by
          intro h0
          rw [L_h2, if_pos rfl] at h0 ⊢
          rw [D_h2]
          have e0 : cy = 0 := by omega
          obtain ⟨q1, q2⟩ := I5 (by omega) e0
          show yD hq r (k - 1) ≠ 0
          rcases hn3 with e | e
          · have := ta (by omega)
            have h1 := ga (k - 1) (by omega)
            rw [yFA_in (by omega)] at q1
            rw [show (yL hp a).toNat - 1 = k - 1 by omega] at this
            omega
          · have := tb (by omega)
            have h1 := gb (k - 1) (by omega)
            rw [yFA_in (by omega)] at q2
            rw [show (yL hp b).toNat - 1 = k - 1 by omega] at this
            omega⟩
      · have c1 : cy > 0 := c1
        refine yG.load xak rfl (fun _ _ => rfl) (v := yR 2073) rfl rfl ?_
        refine yG.getR T_hq (yF_big W) rfl rfl ?_
        refine yG.num (c := 256) rfl (fun _ _ => rfl) (by decide) ?_
        refine yG.load xik rfl (fun _ _ => rfl) (v := yI ((r : Int))) rfl rfl ?_
        refine yG.imul rfl ?_
        refine yG.load xik rfl (fun _ _ => rfl) (v := yI ((k : Int))) rfl rfl ?_
        refine yG.iadd rfl ?_
        refine yG.num (c := 1) rfl (fun _ _ => rfl) (by decide) ?_
        refine yG.iast T_hq (yA_big W) (by decide) rfl (by omega) (by omega) ⟨by omega, by omega⟩ (by omega) (by omega) (fun h3 T_h3 b_h3 f_h3 y_h3 => ?_)
        have N_h3 := N_hq.put T_h3 b_h3 (by decide) f_h3
        have D_h3 : ∀ s j, j < 256 → yD h3 s j = if s = r ∧ j = k then 1 else yD hq s j := yput_D (r := r) (k := k) y_h3 (by omega) (by omega)
        have L_h3 : ∀ s, yL h3 s = yL hq s := fun s => yput_ne y_h3 (by decide) _
        have S_h3 : ∀ s, yS h3 s = yS hq s := fun s => yput_ne y_h3 (by decide) _
        refine yG.iinc rfl (a := (k : Int)) rfl (L' := [(4, yI ((k : Int) + 1)), (6, yI ((k : Int))), (5, yI (cy)), (0, yR 2073), (1, yI ((r : Int))), (2, yI ((a : Int))), (3, yI ((b : Int)))]) rfl ?_
        refine yG.load xak rfl (fun _ _ => rfl) (v := yR 2073) rfl rfl ?_
        refine yG.getR T_h3 (yF_length W) rfl rfl ?_
        refine yG.load xik rfl (fun _ _ => rfl) (v := yI ((r : Int))) rfl rfl ?_
        refine yG.load xik rfl (fun _ _ => rfl) (v := yI ((k : Int) + 1)) rfl rfl ?_
        refine yG.iast T_h3 (yA_length W) (by decide) rfl (by omega) (by omega) ⟨by omega, by omega⟩ (by omega) (by omega) (fun h4 T_h4 b_h4 f_h4 y_h4 => ?_)
        have N_h4 := N_h3.put T_h4 b_h4 (by decide) f_h4
        have D_h4 : ∀ s j, yD h4 s j = yD h3 s j := fun s j => yput_ne y_h4 (by decide) _
        have L_h4 : ∀ s, yL h4 s = if s = r then (k : Int) + 1 else yL h3 s := yput_L (r := r) y_h4
        have S_h4 : ∀ s, yS h4 s = yS h3 s := fun s => yput_ne y_h4 (by decide) _
        refine yG.ret rfl (fun _ _ => rfl) ?_
        exact yP.void ⟨rfl, N_h4, fun s hs => ⟨by rw [L_h4, if_neg hs, L_h3, I1], by rw [S_h4, S_h3, I2], fun j hj => by rw [D_h4, D_h3 s j hj, if_neg (fun h => hs h.1), I3 s j hj (Or.inl hs)]⟩, by rw [S_h4, S_h3, I2], by
          show ysum (yD h4 r) (yL h4 r).toNat = _
          have e1 : cy = 1 := by omega
          rw [e1, Int.one_mul] at I4
          rw [L_h4, if_pos rfl, show ((k : Int) + 1).toNat = k + 1 by omega, ysum_succ, ← I4, D_h4, D_h3 r k (kc e1), if_pos ⟨rfl, rfl⟩, Int.one_mul]
          exact congrArg (fun x : Int => x + yB k) (ysum_congr fun j hj => by rw [D_h4, D_h3 r j (by omega), if_neg (by omega)]), by
          intro h0
          have e1 : cy = 1 := by omega
          rw [L_h4, if_pos rfl, show ((k : Int) + 1).toNat - 1 = k by omega, D_h4, D_h3 r k (kc e1), if_pos ⟨rfl, rfl⟩]
          decide⟩
    | succ m ih =>
      intro k cy hq hk hcy N_hq I1 I2 I3 I4 I5
      have T_hq := N_hq.1
      have kn : k < n := by omega
      have A1 : (k : Int) < yL hp a → yFA hp a k = yD hp a k := yFA_in
      have A2 : ¬ (k : Int) < yL hp a → yFA hp a k = 0 := yFA_out
      have B1 : (k : Int) < yL hp b → yFA hp b k = yD hp b k := yFA_in
      have B2 : ¬ (k : Int) < yL hp b → yFA hp b k = 0 := yFA_out
      have A3 : yD hq a k = yD hp a k := I3 a k (by omega) (Or.inr (Nat.le_refl _))
      have B3 : yD hq b k = yD hp b k := I3 b k (by omega) (Or.inr (Nat.le_refl _))
      have A4 := ga k (by omega)
      have B4 := gb k (by omega)
      have L1 := I1 a
      have L2 := I1 b
      have STEP : ∀ v c w : Int, ∀ h, v = yFA hp a k + yFA hp b k + cy → (v < 1000000000 ∧ c = 0 ∧ w = v ∨ 1000000000 ≤ v ∧ c = 1 ∧ w = v - 1000000000) → yNx G [2074, 2075, 2076] hp h → (∀ s j, j < 256 → yD h s j = if s = r ∧ j = k then w else yD hq s j) → (∀ s, yL h s = yL hq s) → (∀ s, yS h s = yS hq s) → yG 89 xfts (xcall 89 xfts xpools xms d) (xpool xp_RX13) [] xt_X13_addSizes (yP 0 (yQ_size G hp r (ymag hp a + ymag hp b))) (100 * m + 100) 38 [(6, yI ((k : Int) + 1)), (5, yI (c)), (4, yI ((n : Int))), (0, yR 2073), (1, yI ((r : Int))), (2, yI ((a : Int))), (3, yI ((b : Int)))] [] h := by
        intro v c w h e1 e2 Nh Dh Lh Sh
        refine ih (k + 1) c h (by omega) (by omega) Nh (fun s => (Lh s).trans (I1 s)) (fun s => (Sh s).trans (I2 s)) (fun s j hj ho => ?_) ?_ (fun _ e0 => ?_)
        · rw [Dh s j hj, if_neg (by omega)]
          exact I3 s j hj (by omega)
        · rw [ysum_succ, ysum_succ, ysum_succ, Dh r k (by omega), if_pos ⟨rfl, rfl⟩, yB_succ, show ysum (yD h r) k = ysum (yD hq r) k from ysum_congr fun j hj => by rw [Dh r j (by omega), if_neg (by omega)]]
          have e3 : w = v - c * 1000000000 := by omega
          rw [e3, e1]
          generalize ysum (yD hq r) k = s1 at *
          generalize ysum (yFA hp a) k = s2 at *
          generalize ysum (yFA hp b) k = s3 at *
          generalize yB k = p at *
          generalize yFA hp a k = x at *
          generalize yFA hp b k = y at *
          grind
        · rw [show k + 1 - 1 = k from rfl, Dh r k (by omega), if_pos ⟨rfl, rfl⟩]
          omega
      refine yG.load xik rfl (fun _ _ => rfl) (v := yI ((k : Int))) rfl rfl ?_
      refine yG.load xik rfl (fun _ _ => rfl) (v := yI ((n : Int))) rfl rfl ?_
      refine yG.icmp rfl (t := 156) rfl ⟨by omega, by omega⟩ ⟨by omega, by omega⟩ (fun c => absurd (show (k : Int) ≥ n from c) (by omega)) (fun c => ?_)
      refine yG.load xik rfl (fun _ _ => rfl) (v := yI ((k : Int))) rfl rfl ?_
      refine yG.load xak rfl (fun _ _ => rfl) (v := yR 2073) rfl rfl ?_
      refine yG.getR T_hq (yF_length W) rfl rfl ?_
      refine yG.load xik rfl (fun _ _ => rfl) (v := yI ((a : Int))) rfl rfl ?_
      refine yG.iald T_hq (yA_length W) rfl (by omega) (by omega) (fun z1 e_z1 i_z1 l_z1 u_z1 => ?_)
      have q_z1 : z1 = yL hq a := e_z1
      refine yG.icmp rfl (t := 72) rfl ⟨by omega, by omega⟩ ⟨by omega, by omega⟩ (fun c2 => ?_) (fun c2 => ?_)
      · have c2 : (k : Int) ≥ z1 := c2
        refine yG.num (c := 0) rfl (fun _ _ => rfl) (by decide) ?_
        refine yG.load xik rfl (fun _ _ => rfl) (v := yI ((k : Int))) rfl rfl ?_
        refine yG.load xak rfl (fun _ _ => rfl) (v := yR 2073) rfl rfl ?_
        refine yG.getR T_hq (yF_length W) rfl rfl ?_
        refine yG.load xik rfl (fun _ _ => rfl) (v := yI ((b : Int))) rfl rfl ?_
        refine yG.iald T_hq (yA_length W) rfl (by omega) (by omega) (fun z3 e_z3 i_z3 l_z3 u_z3 => ?_)
        have q_z3 : z3 = yL hq b := e_z3
        refine yG.icmp rfl (t := 100) rfl ⟨by omega, by omega⟩ ⟨by omega, by omega⟩ (fun c4 => ?_) (fun c4 => ?_)
        · have c4 : (k : Int) ≥ z3 := c4
          refine yG.num (c := 0) rfl (fun _ _ => rfl) (by decide) ?_
          refine yG.iadd rfl ?_
          refine yG.load xik rfl (fun _ _ => rfl) (v := yI (cy)) rfl rfl ?_
          refine yG.iadd rfl ?_
          obtain ⟨z5, e_z5⟩ : ∃ z : Int, z = (0 + 0) + cy := ⟨_, rfl⟩
          rw [← e_z5]
          refine yG.store1 xik (L' := [(7, yI (z5)), (6, yI ((k : Int))), (5, yI (cy)), (4, yI ((n : Int))), (0, yR 2073), (1, yI ((r : Int))), (2, yI ((a : Int))), (3, yI ((b : Int)))]) rfl (fun _ _ => rfl) rfl rfl ?_
          refine yG.load xik rfl (fun _ _ => rfl) (v := yI (z5)) rfl rfl ?_
          refine yG.num (c := 1000000000) rfl (fun _ _ => rfl) (by decide) ?_
          refine yG.icmp rfl (t := 118) rfl ⟨by omega, by omega⟩ ⟨by omega, by omega⟩ (fun c6 => ?_) (fun c6 => ?_)
          · have c6 : z5 < 1000000000 := c6
            refine yG.num (c := 0) rfl (fun _ _ => rfl) (by decide) ?_
            refine yG.store1 xik (L' := [(5, yI (0)), (7, yI (z5)), (6, yI ((k : Int))), (4, yI ((n : Int))), (0, yR 2073), (1, yI ((r : Int))), (2, yI ((a : Int))), (3, yI ((b : Int)))]) rfl (fun _ _ => rfl) rfl rfl ?_
            refine yG.load xak rfl (fun _ _ => rfl) (v := yR 2073) rfl rfl ?_
            refine yG.getR T_hq (yF_big W) rfl rfl ?_
            refine yG.num (c := 256) rfl (fun _ _ => rfl) (by decide) ?_
            refine yG.load xik rfl (fun _ _ => rfl) (v := yI ((r : Int))) rfl rfl ?_
            refine yG.imul rfl ?_
            refine yG.load xik rfl (fun _ _ => rfl) (v := yI ((k : Int))) rfl rfl ?_
            refine yG.iadd rfl ?_
            refine yG.load xik rfl (fun _ _ => rfl) (v := yI (z5)) rfl rfl ?_
            refine yG.load xik rfl (fun _ _ => rfl) (v := yI (z5)) rfl rfl ?_
            refine yG.num (c := 1000000000) rfl (fun _ _ => rfl) (by decide) ?_
            refine yG.icmp rfl (t := 147) rfl ⟨by omega, by omega⟩ ⟨by omega, by omega⟩ (fun c7 => ?_) (fun c7 => ?_)
            · have c7 : z5 < 1000000000 := c7
              refine yG.num (c := 0) rfl (fun _ _ => rfl) (by decide) ?_
              refine yG.isub rfl ?_
              refine yG.iast T_hq (yA_big W) (by decide) rfl (by omega) (by omega) ⟨by omega, by omega⟩ (by omega) (by omega) (fun h8 T_h8 b_h8 f_h8 y_h8 => ?_)
              have N_h8 := N_hq.put T_h8 b_h8 (by decide) f_h8
              have D_h8 : ∀ s j, j < 256 → yD h8 s j = if s = r ∧ j = k then z5 - 0 else yD hq s j := yput_D (r := r) (k := k) y_h8 (by omega) (by omega)
              have L_h8 : ∀ s, yL h8 s = yL hq s := fun s => yput_ne y_h8 (by decide) _
              have S_h8 : ∀ s, yS h8 s = yS hq s := fun s => yput_ne y_h8 (by decide) _
              refine yG.iinc rfl (a := (k : Int)) rfl (L' := [(6, yI ((k : Int) + 1)), (5, yI (0)), (7, yI (z5)), (4, yI ((n : Int))), (0, yR 2073), (1, yI ((r : Int))), (2, yI ((a : Int))), (3, yI ((b : Int)))]) rfl ?_
              refine yG.goto rfl (t := 38) rfl ?_
              exact yG.mono ((STEP z5 0 _ h8 (by omega) (by omega) N_h8 D_h8 L_h8 S_h8).sub (ySub.cons rfl (ySub.cons rfl (ySub.cons rfl (ySub.cons rfl (ySub.cons rfl (ySub.cons rfl (ySub.cons rfl (ySub.nil))))))))) (by omega)
            · have c7 : z5 ≥ 1000000000 := c7
              refine yG.num (c := 1000000000) rfl (fun _ _ => rfl) (by decide) ?_
              refine yG.goto rfl (t := 148) rfl ?_
              refine yG.isub rfl ?_
              refine yG.iast T_hq (yA_big W) (by decide) rfl (by omega) (by omega) ⟨by omega, by omega⟩ (by omega) (by omega) (fun h9 T_h9 b_h9 f_h9 y_h9 => ?_)
              have N_h9 := N_hq.put T_h9 b_h9 (by decide) f_h9
              have D_h9 : ∀ s j, j < 256 → yD h9 s j = if s = r ∧ j = k then z5 - 1000000000 else yD hq s j := yput_D (r := r) (k := k) y_h9 (by omega) (by omega)
              have L_h9 : ∀ s, yL h9 s = yL hq s := fun s => yput_ne y_h9 (by decide) _
              have S_h9 : ∀ s, yS h9 s = yS hq s := fun s => yput_ne y_h9 (by decide) _
              refine yG.iinc rfl (a := (k : Int)) rfl (L' := [(6, yI ((k : Int) + 1)), (5, yI (0)), (7, yI (z5)), (4, yI ((n : Int))), (0, yR 2073), (1, yI ((r : Int))), (2, yI ((a : Int))), (3, yI ((b : Int)))]) rfl ?_
              refine yG.goto rfl (t := 38) rfl ?_
              exact yG.mono ((STEP z5 0 _ h9 (by omega) (by omega) N_h9 D_h9 L_h9 S_h9).sub (ySub.cons rfl (ySub.cons rfl (ySub.cons rfl (ySub.cons rfl (ySub.cons rfl (ySub.cons rfl (ySub.cons rfl (ySub.nil))))))))) (by omega)
          · have c6 : z5 ≥ 1000000000 := c6
            refine yG.num (c := 1) rfl (fun _ _ => rfl) (by decide) ?_
            refine yG.goto rfl (t := 119) rfl ?_
            refine yG.store1 xik (L' := [(5, yI (1)), (7, yI (z5)), (6, yI ((k : Int))), (4, yI ((n : Int))), (0, yR 2073), (1, yI ((r : Int))), (2, yI ((a : Int))), (3, yI ((b : Int)))]) rfl (fun _ _ => rfl) rfl rfl ?_
            refine yG.load xak rfl (fun _ _ => rfl) (v := yR 2073) rfl rfl ?_
            refine yG.getR T_hq (yF_big W) rfl rfl ?_
            refine yG.num (c := 256) rfl (fun _ _ => rfl) (by decide) ?_
            refine yG.load xik rfl (fun _ _ => rfl) (v := yI ((r : Int))) rfl rfl ?_
            refine yG.imul rfl ?_
            refine yG.load xik rfl (fun _ _ => rfl) (v := yI ((k : Int))) rfl rfl ?_
            refine yG.iadd rfl ?_
            refine yG.load xik rfl (fun _ _ => rfl) (v := yI (z5)) rfl rfl ?_
            refine yG.load xik rfl (fun _ _ => rfl) (v := yI (z5)) rfl rfl ?_
            refine yG.num (c := 1000000000) rfl (fun _ _ => rfl) (by decide) ?_
            refine yG.icmp rfl (t := 147) rfl ⟨by omega, by omega⟩ ⟨by omega, by omega⟩ (fun c10 => ?_) (fun c10 => ?_)
            · have c10 : z5 < 1000000000 := c10
              refine yG.num (c := 0) rfl (fun _ _ => rfl) (by decide) ?_
              refine yG.isub rfl ?_
              refine yG.iast T_hq (yA_big W) (by decide) rfl (by omega) (by omega) ⟨by omega, by omega⟩ (by omega) (by omega) (fun h11 T_h11 b_h11 f_h11 y_h11 => ?_)
              have N_h11 := N_hq.put T_h11 b_h11 (by decide) f_h11
              have D_h11 : ∀ s j, j < 256 → yD h11 s j = if s = r ∧ j = k then z5 - 0 else yD hq s j := yput_D (r := r) (k := k) y_h11 (by omega) (by omega)
              have L_h11 : ∀ s, yL h11 s = yL hq s := fun s => yput_ne y_h11 (by decide) _
              have S_h11 : ∀ s, yS h11 s = yS hq s := fun s => yput_ne y_h11 (by decide) _
              refine yG.iinc rfl (a := (k : Int)) rfl (L' := [(6, yI ((k : Int) + 1)), (5, yI (1)), (7, yI (z5)), (4, yI ((n : Int))), (0, yR 2073), (1, yI ((r : Int))), (2, yI ((a : Int))), (3, yI ((b : Int)))]) rfl ?_
              refine yG.goto rfl (t := 38) rfl ?_
              exact yG.mono ((STEP z5 1 _ h11 (by omega) (by omega) N_h11 D_h11 L_h11 S_h11).sub (ySub.cons rfl (ySub.cons rfl (ySub.cons rfl (ySub.cons rfl (ySub.cons rfl (ySub.cons rfl (ySub.cons rfl (ySub.nil))))))))) (by omega)
            · have c10 : z5 ≥ 1000000000 := c10
              refine yG.num (c := 1000000000) rfl (fun _ _ => rfl) (by decide) ?_
              refine yG.goto rfl (t := 148) rfl ?_
              refine yG.isub rfl ?_
              refine yG.iast T_hq (yA_big W) (by decide) rfl (by omega) (by omega) ⟨by omega, by omega⟩ (by omega) (by omega) (fun h12 T_h12 b_h12 f_h12 y_h12 => ?_)
              have N_h12 := N_hq.put T_h12 b_h12 (by decide) f_h12
              have D_h12 : ∀ s j, j < 256 → yD h12 s j = if s = r ∧ j = k then z5 - 1000000000 else yD hq s j := yput_D (r := r) (k := k) y_h12 (by omega) (by omega)
              have L_h12 : ∀ s, yL h12 s = yL hq s := fun s => yput_ne y_h12 (by decide) _
              have S_h12 : ∀ s, yS h12 s = yS hq s := fun s => yput_ne y_h12 (by decide) _
              refine yG.iinc rfl (a := (k : Int)) rfl (L' := [(6, yI ((k : Int) + 1)), (5, yI (1)), (7, yI (z5)), (4, yI ((n : Int))), (0, yR 2073), (1, yI ((r : Int))), (2, yI ((a : Int))), (3, yI ((b : Int)))]) rfl ?_
              refine yG.goto rfl (t := 38) rfl ?_
              exact yG.mono ((STEP z5 1 _ h12 (by omega) (by omega) N_h12 D_h12 L_h12 S_h12).sub (ySub.cons rfl (ySub.cons rfl (ySub.cons rfl (ySub.cons rfl (ySub.cons rfl (ySub.cons rfl (ySub.cons rfl (ySub.nil))))))))) (by omega)
        · have c4 : (k : Int) < z3 := c4
          refine yG.load xak rfl (fun _ _ => rfl) (v := yR 2073) rfl rfl ?_
          refine yG.getR T_hq (yF_big W) rfl rfl ?_
          refine yG.num (c := 256) rfl (fun _ _ => rfl) (by decide) ?_
          refine yG.load xik rfl (fun _ _ => rfl) (v := yI ((b : Int))) rfl rfl ?_
          refine yG.imul rfl ?_
          refine yG.load xik rfl (fun _ _ => rfl) (v := yI ((k : Int))) rfl rfl ?_
          refine yG.iadd rfl ?_
          refine yG.iald T_hq (yA_big W) rfl (by omega) (by omega) (fun z13 e_z13 i_z13 l_z13 u_z13 => ?_)
          have q_z13 : z13 = yD hq b (k) := e_z13.trans (yBig (by omega))
          refine yG.goto rfl (t := 101) rfl ?_
          refine yG.iadd rfl ?_
          refine yG.load xik rfl (fun _ _ => rfl) (v := yI (cy)) rfl rfl ?_
          refine yG.iadd rfl ?_
          obtain ⟨z14, e_z14⟩ : ∃ z : Int, z = (0 + z13) + cy := ⟨_, rfl⟩
          rw [← e_z14]
          refine yG.store1 xik (L' := [(7, yI (z14)), (6, yI ((k : Int))), (5, yI (cy)), (4, yI ((n : Int))), (0, yR 2073), (1, yI ((r : Int))), (2, yI ((a : Int))), (3, yI ((b : Int)))]) rfl (fun _ _ => rfl) rfl rfl ?_
          refine yG.load xik rfl (fun _ _ => rfl) (v := yI (z14)) rfl rfl ?_
          refine yG.num (c := 1000000000) rfl (fun _ _ => rfl) (by decide) ?_
          refine yG.icmp rfl (t := 118) rfl ⟨by omega, by omega⟩ ⟨by omega, by omega⟩ (fun c15 => ?_) (fun c15 => ?_)
          · have c15 : z14 < 1000000000 := c15
            refine yG.num (c := 0) rfl (fun _ _ => rfl) (by decide) ?_
            refine yG.store1 xik (L' := [(5, yI (0)), (7, yI (z14)), (6, yI ((k : Int))), (4, yI ((n : Int))), (0, yR 2073), (1, yI ((r : Int))), (2, yI ((a : Int))), (3, yI ((b : Int)))]) rfl (fun _ _ => rfl) rfl rfl ?_
            refine yG.load xak rfl (fun _ _ => rfl) (v := yR 2073) rfl rfl ?_
            refine yG.getR T_hq (yF_big W) rfl rfl ?_
            refine yG.num (c := 256) rfl (fun _ _ => rfl) (by decide) ?_
            refine yG.load xik rfl (fun _ _ => rfl) (v := yI ((r : Int))) rfl rfl ?_
            refine yG.imul rfl ?_
            refine yG.load xik rfl (fun _ _ => rfl) (v := yI ((k : Int))) rfl rfl ?_
            refine yG.iadd rfl ?_
            refine yG.load xik rfl (fun _ _ => rfl) (v := yI (z14)) rfl rfl ?_
            refine yG.load xik rfl (fun _ _ => rfl) (v := yI (z14)) rfl rfl ?_
            refine yG.num (c := 1000000000) rfl (fun _ _ => rfl) (by decide) ?_
            refine yG.icmp rfl (t := 147) rfl ⟨by omega, by omega⟩ ⟨by omega, by omega⟩ (fun c16 => ?_) (fun c16 => ?_)
            · have c16 : z14 < 1000000000 := c16
              refine yG.num (c := 0) rfl (fun _ _ => rfl) (by decide) ?_
              refine yG.isub rfl ?_
              refine yG.iast T_hq (yA_big W) (by decide) rfl (by omega) (by omega) ⟨by omega, by omega⟩ (by omega) (by omega) (fun h17 T_h17 b_h17 f_h17 y_h17 => ?_)
              have N_h17 := N_hq.put T_h17 b_h17 (by decide) f_h17
              have D_h17 : ∀ s j, j < 256 → yD h17 s j = if s = r ∧ j = k then z14 - 0 else yD hq s j := yput_D (r := r) (k := k) y_h17 (by omega) (by omega)
              have L_h17 : ∀ s, yL h17 s = yL hq s := fun s => yput_ne y_h17 (by decide) _
              have S_h17 : ∀ s, yS h17 s = yS hq s := fun s => yput_ne y_h17 (by decide) _
              refine yG.iinc rfl (a := (k : Int)) rfl (L' := [(6, yI ((k : Int) + 1)), (5, yI (0)), (7, yI (z14)), (4, yI ((n : Int))), (0, yR 2073), (1, yI ((r : Int))), (2, yI ((a : Int))), (3, yI ((b : Int)))]) rfl ?_
              refine yG.goto rfl (t := 38) rfl ?_
              exact yG.mono ((STEP z14 0 _ h17 (by omega) (by omega) N_h17 D_h17 L_h17 S_h17).sub (ySub.cons rfl (ySub.cons rfl (ySub.cons rfl (ySub.cons rfl (ySub.cons rfl (ySub.cons rfl (ySub.cons rfl (ySub.nil))))))))) (by omega)
            · have c16 : z14 ≥ 1000000000 := c16
              refine yG.num (c := 1000000000) rfl (fun _ _ => rfl) (by decide) ?_
              refine yG.goto rfl (t := 148) rfl ?_
              refine yG.isub rfl ?_
              refine yG.iast T_hq (yA_big W) (by decide) rfl (by omega) (by omega) ⟨by omega, by omega⟩ (by omega) (by omega) (fun h18 T_h18 b_h18 f_h18 y_h18 => ?_)
              have N_h18 := N_hq.put T_h18 b_h18 (by decide) f_h18
              have D_h18 : ∀ s j, j < 256 → yD h18 s j = if s = r ∧ j = k then z14 - 1000000000 else yD hq s j := yput_D (r := r) (k := k) y_h18 (by omega) (by omega)
              have L_h18 : ∀ s, yL h18 s = yL hq s := fun s => yput_ne y_h18 (by decide) _
              have S_h18 : ∀ s, yS h18 s = yS hq s := fun s => yput_ne y_h18 (by decide) _
              refine yG.iinc rfl (a := (k : Int)) rfl (L' := [(6, yI ((k : Int) + 1)), (5, yI (0)), (7, yI (z14)), (4, yI ((n : Int))), (0, yR 2073), (1, yI ((r : Int))), (2, yI ((a : Int))), (3, yI ((b : Int)))]) rfl ?_
              refine yG.goto rfl (t := 38) rfl ?_
              exact yG.mono ((STEP z14 0 _ h18 (by omega) (by omega) N_h18 D_h18 L_h18 S_h18).sub (ySub.cons rfl (ySub.cons rfl (ySub.cons rfl (ySub.cons rfl (ySub.cons rfl (ySub.cons rfl (ySub.cons rfl (ySub.nil))))))))) (by omega)
          · have c15 : z14 ≥ 1000000000 := c15
            refine yG.num (c := 1) rfl (fun _ _ => rfl) (by decide) ?_
            refine yG.goto rfl (t := 119) rfl ?_
            refine yG.store1 xik (L' := [(5, yI (1)), (7, yI (z14)), (6, yI ((k : Int))), (4, yI ((n : Int))), (0, yR 2073), (1, yI ((r : Int))), (2, yI ((a : Int))), (3, yI ((b : Int)))]) rfl (fun _ _ => rfl) rfl rfl ?_
            refine yG.load xak rfl (fun _ _ => rfl) (v := yR 2073) rfl rfl ?_
            refine yG.getR T_hq (yF_big W) rfl rfl ?_
            refine yG.num (c := 256) rfl (fun _ _ => rfl) (by decide) ?_
            refine yG.load xik rfl (fun _ _ => rfl) (v := yI ((r : Int))) rfl rfl ?_
            refine yG.imul rfl ?_
            refine yG.load xik rfl (fun _ _ => rfl) (v := yI ((k : Int))) rfl rfl ?_
            refine yG.iadd rfl ?_
            refine yG.load xik rfl (fun _ _ => rfl) (v := yI (z14)) rfl rfl ?_
            refine yG.load xik rfl (fun _ _ => rfl) (v := yI (z14)) rfl rfl ?_
            refine yG.num (c := 1000000000) rfl (fun _ _ => rfl) (by decide) ?_
            refine yG.icmp rfl (t := 147) rfl ⟨by omega, by omega⟩ ⟨by omega, by omega⟩ (fun c19 => ?_) (fun c19 => ?_)
            · have c19 : z14 < 1000000000 := c19
              refine yG.num (c := 0) rfl (fun _ _ => rfl) (by decide) ?_
              refine yG.isub rfl ?_
              refine yG.iast T_hq (yA_big W) (by decide) rfl (by omega) (by omega) ⟨by omega, by omega⟩ (by omega) (by omega) (fun h20 T_h20 b_h20 f_h20 y_h20 => ?_)
              have N_h20 := N_hq.put T_h20 b_h20 (by decide) f_h20
              have D_h20 : ∀ s j, j < 256 → yD h20 s j = if s = r ∧ j = k then z14 - 0 else yD hq s j := yput_D (r := r) (k := k) y_h20 (by omega) (by omega)
              have L_h20 : ∀ s, yL h20 s = yL hq s := fun s => yput_ne y_h20 (by decide) _
              have S_h20 : ∀ s, yS h20 s = yS hq s := fun s => yput_ne y_h20 (by decide) _
              refine yG.iinc rfl (a := (k : Int)) rfl (L' := [(6, yI ((k : Int) + 1)), (5, yI (1)), (7, yI (z14)), (4, yI ((n : Int))), (0, yR 2073), (1, yI ((r : Int))), (2, yI ((a : Int))), (3, yI ((b : Int)))]) rfl ?_
              refine yG.goto rfl (t := 38) rfl ?_
              exact yG.mono ((STEP z14 1 _ h20 (by omega) (by omega) N_h20 D_h20 L_h20 S_h20).sub (ySub.cons rfl (ySub.cons rfl (ySub.cons rfl (ySub.cons rfl (ySub.cons rfl (ySub.cons rfl (ySub.cons rfl (ySub.nil))))))))) (by omega)
            · have c19 : z14 ≥ 1000000000 := c19
              refine yG.num (c := 1000000000) rfl (fun _ _ => rfl) (by decide) ?_
              refine yG.goto rfl (t := 148) rfl ?_
              refine yG.isub rfl ?_
              refine yG.iast T_hq (yA_big W) (by decide) rfl (by omega) (by omega) ⟨by omega, by omega⟩ (by omega) (by omega) (fun h21 T_h21 b_h21 f_h21 y_h21 => ?_)
              have N_h21 := N_hq.put T_h21 b_h21 (by decide) f_h21
              have D_h21 : ∀ s j, j < 256 → yD h21 s j = if s = r ∧ j = k then z14 - 1000000000 else yD hq s j := yput_D (r := r) (k := k) y_h21 (by omega) (by omega)
              have L_h21 : ∀ s, yL h21 s = yL hq s := fun s => yput_ne y_h21 (by decide) _
              have S_h21 : ∀ s, yS h21 s = yS hq s := fun s => yput_ne y_h21 (by decide) _
              refine yG.iinc rfl (a := (k : Int)) rfl (L' := [(6, yI ((k : Int) + 1)), (5, yI (1)), (7, yI (z14)), (4, yI ((n : Int))), (0, yR 2073), (1, yI ((r : Int))), (2, yI ((a : Int))), (3, yI ((b : Int)))]) rfl ?_
              refine yG.goto rfl (t := 38) rfl ?_
              exact yG.mono ((STEP z14 1 _ h21 (by omega) (by omega) N_h21 D_h21 L_h21 S_h21).sub (ySub.cons rfl (ySub.cons rfl (ySub.cons rfl (ySub.cons rfl (ySub.cons rfl (ySub.cons rfl (ySub.cons rfl (ySub.nil))))))))) (by omega)
      · have c2 : (k : Int) < z1 := c2
        refine yG.load xak rfl (fun _ _ => rfl) (v := yR 2073) rfl rfl ?_
        refine yG.getR T_hq (yF_big W) rfl rfl ?_
        refine yG.num (c := 256) rfl (fun _ _ => rfl) (by decide) ?_
        refine yG.load xik rfl (fun _ _ => rfl) (v := yI ((a : Int))) rfl rfl ?_
        refine yG.imul rfl ?_
        refine yG.load xik rfl (fun _ _ => rfl) (v := yI ((k : Int))) rfl rfl ?_
        refine yG.iadd rfl ?_
        refine yG.iald T_hq (yA_big W) rfl (by omega) (by omega) (fun z22 e_z22 i_z22 l_z22 u_z22 => ?_)
        have q_z22 : z22 = yD hq a (k) := e_z22.trans (yBig (by omega))
        refine yG.goto rfl (t := 73) rfl ?_
        refine yG.load xik rfl (fun _ _ => rfl) (v := yI ((k : Int))) rfl rfl ?_
        refine yG.load xak rfl (fun _ _ => rfl) (v := yR 2073) rfl rfl ?_
        refine yG.getR T_hq (yF_length W) rfl rfl ?_
        refine yG.load xik rfl (fun _ _ => rfl) (v := yI ((b : Int))) rfl rfl ?_
        refine yG.iald T_hq (yA_length W) rfl (by omega) (by omega) (fun z23 e_z23 i_z23 l_z23 u_z23 => ?_)
        have q_z23 : z23 = yL hq b := e_z23
        refine yG.icmp rfl (t := 100) rfl ⟨by omega, by omega⟩ ⟨by omega, by omega⟩ (fun c24 => ?_) (fun c24 => ?_)
        · have c24 : (k : Int) ≥ z23 := c24
          refine yG.num (c := 0) rfl (fun _ _ => rfl) (by decide) ?_
          refine yG.iadd rfl ?_
          refine yG.load xik rfl (fun _ _ => rfl) (v := yI (cy)) rfl rfl ?_
          refine yG.iadd rfl ?_
          obtain ⟨z25, e_z25⟩ : ∃ z : Int, z = (z22 + 0) + cy := ⟨_, rfl⟩
          rw [← e_z25]
          refine yG.store1 xik (L' := [(7, yI (z25)), (6, yI ((k : Int))), (5, yI (cy)), (4, yI ((n : Int))), (0, yR 2073), (1, yI ((r : Int))), (2, yI ((a : Int))), (3, yI ((b : Int)))]) rfl (fun _ _ => rfl) rfl rfl ?_
          refine yG.load xik rfl (fun _ _ => rfl) (v := yI (z25)) rfl rfl ?_
          refine yG.num (c := 1000000000) rfl (fun _ _ => rfl) (by decide) ?_
          refine yG.icmp rfl (t := 118) rfl ⟨by omega, by omega⟩ ⟨by omega, by omega⟩ (fun c26 => ?_) (fun c26 => ?_)
          · have c26 : z25 < 1000000000 := c26
            refine yG.num (c := 0) rfl (fun _ _ => rfl) (by decide) ?_
            refine yG.store1 xik (L' := [(5, yI (0)), (7, yI (z25)), (6, yI ((k : Int))), (4, yI ((n : Int))), (0, yR 2073), (1, yI ((r : Int))), (2, yI ((a : Int))), (3, yI ((b : Int)))]) rfl (fun _ _ => rfl) rfl rfl ?_
            refine yG.load xak rfl (fun _ _ => rfl) (v := yR 2073) rfl rfl ?_
            refine yG.getR T_hq (yF_big W) rfl rfl ?_
            refine yG.num (c := 256) rfl (fun _ _ => rfl) (by decide) ?_
            refine yG.load xik rfl (fun _ _ => rfl) (v := yI ((r : Int))) rfl rfl ?_
            refine yG.imul rfl ?_
            refine yG.load xik rfl (fun _ _ => rfl) (v := yI ((k : Int))) rfl rfl ?_
            refine yG.iadd rfl ?_
            refine yG.load xik rfl (fun _ _ => rfl) (v := yI (z25)) rfl rfl ?_
            refine yG.load xik rfl (fun _ _ => rfl) (v := yI (z25)) rfl rfl ?_
            refine yG.num (c := 1000000000) rfl (fun _ _ => rfl) (by decide) ?_
            refine yG.icmp rfl (t := 147) rfl ⟨by omega, by omega⟩ ⟨by omega, by omega⟩ (fun c27 => ?_) (fun c27 => ?_)
            · have c27 : z25 < 1000000000 := c27
              refine yG.num (c := 0) rfl (fun _ _ => rfl) (by decide) ?_
              refine yG.isub rfl ?_
              refine yG.iast T_hq (yA_big W) (by decide) rfl (by omega) (by omega) ⟨by omega, by omega⟩ (by omega) (by omega) (fun h28 T_h28 b_h28 f_h28 y_h28 => ?_)
              have N_h28 := N_hq.put T_h28 b_h28 (by decide) f_h28
              have D_h28 : ∀ s j, j < 256 → yD h28 s j = if s = r ∧ j = k then z25 - 0 else yD hq s j := yput_D (r := r) (k := k) y_h28 (by omega) (by omega)
              have L_h28 : ∀ s, yL h28 s = yL hq s := fun s => yput_ne y_h28 (by decide) _
              have S_h28 : ∀ s, yS h28 s = yS hq s := fun s => yput_ne y_h28 (by decide) _
              refine yG.iinc rfl (a := (k : Int)) rfl (L' := [(6, yI ((k : Int) + 1)), (5, yI (0)), (7, yI (z25)), (4, yI ((n : Int))), (0, yR 2073), (1, yI ((r : Int))), (2, yI ((a : Int))), (3, yI ((b : Int)))]) rfl ?_
              refine yG.goto rfl (t := 38) rfl ?_
              exact yG.mono ((STEP z25 0 _ h28 (by omega) (by omega) N_h28 D_h28 L_h28 S_h28).sub (ySub.cons rfl (ySub.cons rfl (ySub.cons rfl (ySub.cons rfl (ySub.cons rfl (ySub.cons rfl (ySub.cons rfl (ySub.nil))))))))) (by omega)
            · have c27 : z25 ≥ 1000000000 := c27
              refine yG.num (c := 1000000000) rfl (fun _ _ => rfl) (by decide) ?_
              refine yG.goto rfl (t := 148) rfl ?_
              refine yG.isub rfl ?_
              refine yG.iast T_hq (yA_big W) (by decide) rfl (by omega) (by omega) ⟨by omega, by omega⟩ (by omega) (by omega) (fun h29 T_h29 b_h29 f_h29 y_h29 => ?_)
              have N_h29 := N_hq.put T_h29 b_h29 (by decide) f_h29
              have D_h29 : ∀ s j, j < 256 → yD h29 s j = if s = r ∧ j = k then z25 - 1000000000 else yD hq s j := yput_D (r := r) (k := k) y_h29 (by omega) (by omega)
              have L_h29 : ∀ s, yL h29 s = yL hq s := fun s => yput_ne y_h29 (by decide) _
              have S_h29 : ∀ s, yS h29 s = yS hq s := fun s => yput_ne y_h29 (by decide) _
              refine yG.iinc rfl (a := (k : Int)) rfl (L' := [(6, yI ((k : Int) + 1)), (5, yI (0)), (7, yI (z25)), (4, yI ((n : Int))), (0, yR 2073), (1, yI ((r : Int))), (2, yI ((a : Int))), (3, yI ((b : Int)))]) rfl ?_
              refine yG.goto rfl (t := 38) rfl ?_
              exact yG.mono ((STEP z25 0 _ h29 (by omega) (by omega) N_h29 D_h29 L_h29 S_h29).sub (ySub.cons rfl (ySub.cons rfl (ySub.cons rfl (ySub.cons rfl (ySub.cons rfl (ySub.cons rfl (ySub.cons rfl (ySub.nil))))))))) (by omega)
          · have c26 : z25 ≥ 1000000000 := c26
            refine yG.num (c := 1) rfl (fun _ _ => rfl) (by decide) ?_
            refine yG.goto rfl (t := 119) rfl ?_
            refine yG.store1 xik (L' := [(5, yI (1)), (7, yI (z25)), (6, yI ((k : Int))), (4, yI ((n : Int))), (0, yR 2073), (1, yI ((r : Int))), (2, yI ((a : Int))), (3, yI ((b : Int)))]) rfl (fun _ _ => rfl) rfl rfl ?_
            refine yG.load xak rfl (fun _ _ => rfl) (v := yR 2073) rfl rfl ?_
            refine yG.getR T_hq (yF_big W) rfl rfl ?_
            refine yG.num (c := 256) rfl (fun _ _ => rfl) (by decide) ?_
            refine yG.load xik rfl (fun _ _ => rfl) (v := yI ((r : Int))) rfl rfl ?_
            refine yG.imul rfl ?_
            refine yG.load xik rfl (fun _ _ => rfl) (v := yI ((k : Int))) rfl rfl ?_
            refine yG.iadd rfl ?_
            refine yG.load xik rfl (fun _ _ => rfl) (v := yI (z25)) rfl rfl ?_
            refine yG.load xik rfl (fun _ _ => rfl) (v := yI (z25)) rfl rfl ?_
            refine yG.num (c := 1000000000) rfl (fun _ _ => rfl) (by decide) ?_
            refine yG.icmp rfl (t := 147) rfl ⟨by omega, by omega⟩ ⟨by omega, by omega⟩ (fun c30 => ?_) (fun c30 => ?_)
            · have c30 : z25 < 1000000000 := c30
              refine yG.num (c := 0) rfl (fun _ _ => rfl) (by decide) ?_
              refine yG.isub rfl ?_
              refine yG.iast T_hq (yA_big W) (by decide) rfl (by omega) (by omega) ⟨by omega, by omega⟩ (by omega) (by omega) (fun h31 T_h31 b_h31 f_h31 y_h31 => ?_)
              have N_h31 := N_hq.put T_h31 b_h31 (by decide) f_h31
              have D_h31 : ∀ s j, j < 256 → yD h31 s j = if s = r ∧ j = k then z25 - 0 else yD hq s j := yput_D (r := r) (k := k) y_h31 (by omega) (by omega)
              have L_h31 : ∀ s, yL h31 s = yL hq s := fun s => yput_ne y_h31 (by decide) _
              have S_h31 : ∀ s, yS h31 s = yS hq s := fun s => yput_ne y_h31 (by decide) _
              refine yG.iinc rfl (a := (k : Int)) rfl (L' := [(6, yI ((k : Int) + 1)), (5, yI (1)), (7, yI (z25)), (4, yI ((n : Int))), (0, yR 2073), (1, yI ((r : Int))), (2, yI ((a : Int))), (3, yI ((b : Int)))]) rfl ?_
              refine yG.goto rfl (t := 38) rfl ?_
              exact yG.mono ((STEP z25 1 _ h31 (by omega) (by omega) N_h31 D_h31 L_h31 S_h31).sub (ySub.cons rfl (ySub.cons rfl (ySub.cons rfl (ySub.cons rfl (ySub.cons rfl (ySub.cons rfl (ySub.cons rfl (ySub.nil))))))))) (by omega)
            · have c30 : z25 ≥ 1000000000 := c30
              refine yG.num (c := 1000000000) rfl (fun _ _ => rfl) (by decide) ?_
              refine yG.goto rfl (t := 148) rfl ?_
              refine yG.isub rfl ?_
              refine yG.iast T_hq (yA_big W) (by decide) rfl (by omega) (by omega) ⟨by omega, by omega⟩ (by omega) (by omega) (fun h32 T_h32 b_h32 f_h32 y_h32 => ?_)
              have N_h32 := N_hq.put T_h32 b_h32 (by decide) f_h32
              have D_h32 : ∀ s j, j < 256 → yD h32 s j = if s = r ∧ j = k then z25 - 1000000000 else yD hq s j := yput_D (r := r) (k := k) y_h32 (by omega) (by omega)
              have L_h32 : ∀ s, yL h32 s = yL hq s := fun s => yput_ne y_h32 (by decide) _
              have S_h32 : ∀ s, yS h32 s = yS hq s := fun s => yput_ne y_h32 (by decide) _
              refine yG.iinc rfl (a := (k : Int)) rfl (L' := [(6, yI ((k : Int) + 1)), (5, yI (1)), (7, yI (z25)), (4, yI ((n : Int))), (0, yR 2073), (1, yI ((r : Int))), (2, yI ((a : Int))), (3, yI ((b : Int)))]) rfl ?_
              refine yG.goto rfl (t := 38) rfl ?_
              exact yG.mono ((STEP z25 1 _ h32 (by omega) (by omega) N_h32 D_h32 L_h32 S_h32).sub (ySub.cons rfl (ySub.cons rfl (ySub.cons rfl (ySub.cons rfl (ySub.cons rfl (ySub.cons rfl (ySub.cons rfl (ySub.nil))))))))) (by omega)
        · have c24 : (k : Int) < z23 := c24
          refine yG.load xak rfl (fun _ _ => rfl) (v := yR 2073) rfl rfl ?_
          refine yG.getR T_hq (yF_big W) rfl rfl ?_
          refine yG.num (c := 256) rfl (fun _ _ => rfl) (by decide) ?_
          refine yG.load xik rfl (fun _ _ => rfl) (v := yI ((b : Int))) rfl rfl ?_
          refine yG.imul rfl ?_
          refine yG.load xik rfl (fun _ _ => rfl) (v := yI ((k : Int))) rfl rfl ?_
          refine yG.iadd rfl ?_
          refine yG.iald T_hq (yA_big W) rfl (by omega) (by omega) (fun z33 e_z33 i_z33 l_z33 u_z33 => ?_)
          have q_z33 : z33 = yD hq b (k) := e_z33.trans (yBig (by omega))
          refine yG.goto rfl (t := 101) rfl ?_
          refine yG.iadd rfl ?_
          refine yG.load xik rfl (fun _ _ => rfl) (v := yI (cy)) rfl rfl ?_
          refine yG.iadd rfl ?_
          obtain ⟨z34, e_z34⟩ : ∃ z : Int, z = (z22 + z33) + cy := ⟨_, rfl⟩
          rw [← e_z34]
          refine yG.store1 xik (L' := [(7, yI (z34)), (6, yI ((k : Int))), (5, yI (cy)), (4, yI ((n : Int))), (0, yR 2073), (1, yI ((r : Int))), (2, yI ((a : Int))), (3, yI ((b : Int)))]) rfl (fun _ _ => rfl) rfl rfl ?_
          refine yG.load xik rfl (fun _ _ => rfl) (v := yI (z34)) rfl rfl ?_
          refine yG.num (c := 1000000000) rfl (fun _ _ => rfl) (by decide) ?_
          refine yG.icmp rfl (t := 118) rfl ⟨by omega, by omega⟩ ⟨by omega, by omega⟩ (fun c35 => ?_) (fun c35 => ?_)
          · have c35 : z34 < 1000000000 := c35
            refine yG.num (c := 0) rfl (fun _ _ => rfl) (by decide) ?_
            refine yG.store1 xik (L' := [(5, yI (0)), (7, yI (z34)), (6, yI ((k : Int))), (4, yI ((n : Int))), (0, yR 2073), (1, yI ((r : Int))), (2, yI ((a : Int))), (3, yI ((b : Int)))]) rfl (fun _ _ => rfl) rfl rfl ?_
            refine yG.load xak rfl (fun _ _ => rfl) (v := yR 2073) rfl rfl ?_
            refine yG.getR T_hq (yF_big W) rfl rfl ?_
            refine yG.num (c := 256) rfl (fun _ _ => rfl) (by decide) ?_
            refine yG.load xik rfl (fun _ _ => rfl) (v := yI ((r : Int))) rfl rfl ?_
            refine yG.imul rfl ?_
            refine yG.load xik rfl (fun _ _ => rfl) (v := yI ((k : Int))) rfl rfl ?_
            refine yG.iadd rfl ?_
            refine yG.load xik rfl (fun _ _ => rfl) (v := yI (z34)) rfl rfl ?_
            refine yG.load xik rfl (fun _ _ => rfl) (v := yI (z34)) rfl rfl ?_
            refine yG.num (c := 1000000000) rfl (fun _ _ => rfl) (by decide) ?_
            refine yG.icmp rfl (t := 147) rfl ⟨by omega, by omega⟩ ⟨by omega, by omega⟩ (fun c36 => ?_) (fun c36 => ?_)
            · have c36 : z34 < 1000000000 := c36
              refine yG.num (c := 0) rfl (fun _ _ => rfl) (by decide) ?_
              refine yG.isub rfl ?_
              refine yG.iast T_hq (yA_big W) (by decide) rfl (by omega) (by omega) ⟨by omega, by omega⟩ (by omega) (by omega) (fun h37 T_h37 b_h37 f_h37 y_h37 => ?_)
              have N_h37 := N_hq.put T_h37 b_h37 (by decide) f_h37
              have D_h37 : ∀ s j, j < 256 → yD h37 s j = if s = r ∧ j = k then z34 - 0 else yD hq s j := yput_D (r := r) (k := k) y_h37 (by omega) (by omega)
              have L_h37 : ∀ s, yL h37 s = yL hq s := fun s => yput_ne y_h37 (by decide) _
              have S_h37 : ∀ s, yS h37 s = yS hq s := fun s => yput_ne y_h37 (by decide) _
              refine yG.iinc rfl (a := (k : Int)) rfl (L' := [(6, yI ((k : Int) + 1)), (5, yI (0)), (7, yI (z34)), (4, yI ((n : Int))), (0, yR 2073), (1, yI ((r : Int))), (2, yI ((a : Int))), (3, yI ((b : Int)))]) rfl ?_
              refine yG.goto rfl (t := 38) rfl ?_
              exact yG.mono ((STEP z34 0 _ h37 (by omega) (by omega) N_h37 D_h37 L_h37 S_h37).sub (ySub.cons rfl (ySub.cons rfl (ySub.cons rfl (ySub.cons rfl (ySub.cons rfl (ySub.cons rfl (ySub.cons rfl (ySub.nil))))))))) (by omega)
            · have c36 : z34 ≥ 1000000000 := c36
              refine yG.num (c := 1000000000) rfl (fun _ _ => rfl) (by decide) ?_
              refine yG.goto rfl (t := 148) rfl ?_
              refine yG.isub rfl ?_
              refine yG.iast T_hq (yA_big W) (by decide) rfl (by omega) (by omega) ⟨by omega, by omega⟩ (by omega) (by omega) (fun h38 T_h38 b_h38 f_h38 y_h38 => ?_)
              have N_h38 := N_hq.put T_h38 b_h38 (by decide) f_h38
              have D_h38 : ∀ s j, j < 256 → yD h38 s j = if s = r ∧ j = k then z34 - 1000000000 else yD hq s j := yput_D (r := r) (k := k) y_h38 (by omega) (by omega)
              have L_h38 : ∀ s, yL h38 s = yL hq s := fun s => yput_ne y_h38 (by decide) _
              have S_h38 : ∀ s, yS h38 s = yS hq s := fun s => yput_ne y_h38 (by decide) _
              refine yG.iinc rfl (a := (k : Int)) rfl (L' := [(6, yI ((k : Int) + 1)), (5, yI (0)), (7, yI (z34)), (4, yI ((n : Int))), (0, yR 2073), (1, yI ((r : Int))), (2, yI ((a : Int))), (3, yI ((b : Int)))]) rfl ?_
              refine yG.goto rfl (t := 38) rfl ?_
              exact yG.mono ((STEP z34 0 _ h38 (by omega) (by omega) N_h38 D_h38 L_h38 S_h38).sub (ySub.cons rfl (ySub.cons rfl (ySub.cons rfl (ySub.cons rfl (ySub.cons rfl (ySub.cons rfl (ySub.cons rfl (ySub.nil))))))))) (by omega)
          · have c35 : z34 ≥ 1000000000 := c35
            refine yG.num (c := 1) rfl (fun _ _ => rfl) (by decide) ?_
            refine yG.goto rfl (t := 119) rfl ?_
            refine yG.store1 xik (L' := [(5, yI (1)), (7, yI (z34)), (6, yI ((k : Int))), (4, yI ((n : Int))), (0, yR 2073), (1, yI ((r : Int))), (2, yI ((a : Int))), (3, yI ((b : Int)))]) rfl (fun _ _ => rfl) rfl rfl ?_
            refine yG.load xak rfl (fun _ _ => rfl) (v := yR 2073) rfl rfl ?_
            refine yG.getR T_hq (yF_big W) rfl rfl ?_
            refine yG.num (c := 256) rfl (fun _ _ => rfl) (by decide) ?_
            refine yG.load xik rfl (fun _ _ => rfl) (v := yI ((r : Int))) rfl rfl ?_
            refine yG.imul rfl ?_
            refine yG.load xik rfl (fun _ _ => rfl) (v := yI ((k : Int))) rfl rfl ?_
            refine yG.iadd rfl ?_
            refine yG.load xik rfl (fun _ _ => rfl) (v := yI (z34)) rfl rfl ?_
            refine yG.load xik rfl (fun _ _ => rfl) (v := yI (z34)) rfl rfl ?_
            refine yG.num (c := 1000000000) rfl (fun _ _ => rfl) (by decide) ?_
            refine yG.icmp rfl (t := 147) rfl ⟨by omega, by omega⟩ ⟨by omega, by omega⟩ (fun c39 => ?_) (fun c39 => ?_)
            · have c39 : z34 < 1000000000 := c39
              refine yG.num (c := 0) rfl (fun _ _ => rfl) (by decide) ?_
              refine yG.isub rfl ?_
              refine yG.iast T_hq (yA_big W) (by decide) rfl (by omega) (by omega) ⟨by omega, by omega⟩ (by omega) (by omega) (fun h40 T_h40 b_h40 f_h40 y_h40 => ?_)
              have N_h40 := N_hq.put T_h40 b_h40 (by decide) f_h40
              have D_h40 : ∀ s j, j < 256 → yD h40 s j = if s = r ∧ j = k then z34 - 0 else yD hq s j := yput_D (r := r) (k := k) y_h40 (by omega) (by omega)
              have L_h40 : ∀ s, yL h40 s = yL hq s := fun s => yput_ne y_h40 (by decide) _
              have S_h40 : ∀ s, yS h40 s = yS hq s := fun s => yput_ne y_h40 (by decide) _
              refine yG.iinc rfl (a := (k : Int)) rfl (L' := [(6, yI ((k : Int) + 1)), (5, yI (1)), (7, yI (z34)), (4, yI ((n : Int))), (0, yR 2073), (1, yI ((r : Int))), (2, yI ((a : Int))), (3, yI ((b : Int)))]) rfl ?_
              refine yG.goto rfl (t := 38) rfl ?_
              exact yG.mono ((STEP z34 1 _ h40 (by omega) (by omega) N_h40 D_h40 L_h40 S_h40).sub (ySub.cons rfl (ySub.cons rfl (ySub.cons rfl (ySub.cons rfl (ySub.cons rfl (ySub.cons rfl (ySub.cons rfl (ySub.nil))))))))) (by omega)
            · have c39 : z34 ≥ 1000000000 := c39
              refine yG.num (c := 1000000000) rfl (fun _ _ => rfl) (by decide) ?_
              refine yG.goto rfl (t := 148) rfl ?_
              refine yG.isub rfl ?_
              refine yG.iast T_hq (yA_big W) (by decide) rfl (by omega) (by omega) ⟨by omega, by omega⟩ (by omega) (by omega) (fun h41 T_h41 b_h41 f_h41 y_h41 => ?_)
              have N_h41 := N_hq.put T_h41 b_h41 (by decide) f_h41
              have D_h41 : ∀ s j, j < 256 → yD h41 s j = if s = r ∧ j = k then z34 - 1000000000 else yD hq s j := yput_D (r := r) (k := k) y_h41 (by omega) (by omega)
              have L_h41 : ∀ s, yL h41 s = yL hq s := fun s => yput_ne y_h41 (by decide) _
              have S_h41 : ∀ s, yS h41 s = yS hq s := fun s => yput_ne y_h41 (by decide) _
              refine yG.iinc rfl (a := (k : Int)) rfl (L' := [(6, yI ((k : Int) + 1)), (5, yI (1)), (7, yI (z34)), (4, yI ((n : Int))), (0, yR 2073), (1, yI ((r : Int))), (2, yI ((a : Int))), (3, yI ((b : Int)))]) rfl ?_
              refine yG.goto rfl (t := 38) rfl ?_
              exact yG.mono ((STEP z34 1 _ h41 (by omega) (by omega) N_h41 D_h41 L_h41 S_h41).sub (ySub.cons rfl (ySub.cons rfl (ySub.cons rfl (ySub.cons rfl (ySub.cons rfl (ySub.cons rfl (ySub.cons rfl (ySub.nil))))))))) (by omega)
  refine yC.of (M := (xt_X13_addSizes, (8, (0, (14, []))))) rfl rfl (N := 100 * 256 + 300) (yfuel (by omega)) ?_
  show yG 89 xfts (xcall 89 xfts xpools xms d) (xpool xp_RX13) [] xt_X13_addSizes (yP 0 (yQ_size G hp r (ymag hp a + ymag hp b))) (100 * 256 + 300) 0 [(0, yR 2073), (1, yI ((r : Int))), (2, yI ((a : Int))), (3, yI ((b : Int)))] [] hp
  refine yG.load xak rfl (fun _ _ => rfl) (v := yR 2073) rfl rfl ?_
  refine yG.getR T_hp (yF_length W) rfl rfl ?_
  refine yG.load xik rfl (fun _ _ => rfl) (v := yI ((a : Int))) rfl rfl ?_
  refine yG.iald T_hp (yA_length W) rfl (by omega) (by omega) (fun z1 e_z1 i_z1 l_z1 u_z1 => ?_)
  have q_z1 : z1 = yL hp a := e_z1
  refine yG.load xak rfl (fun _ _ => rfl) (v := yR 2073) rfl rfl ?_
  refine yG.getR T_hp (yF_length W) rfl rfl ?_
  refine yG.load xik rfl (fun _ _ => rfl) (v := yI ((b : Int))) rfl rfl ?_
  refine yG.iald T_hp (yA_length W) rfl (by omega) (by omega) (fun z2 e_z2 i_z2 l_z2 u_z2 => ?_)
  have q_z2 : z2 = yL hp b := e_z2
  refine yG.icmp rfl (t := 24) rfl ⟨by omega, by omega⟩ ⟨by omega, by omega⟩ (fun c3 => ?_) (fun c3 => ?_)
  · have c3 : z1 ≤ z2 := c3
    refine yG.load xak rfl (fun _ _ => rfl) (v := yR 2073) rfl rfl ?_
    refine yG.getR T_hp (yF_length W) rfl rfl ?_
    refine yG.load xik rfl (fun _ _ => rfl) (v := yI ((b : Int))) rfl rfl ?_
    refine yG.iald T_hp (yA_length W) rfl (by omega) (by omega) (fun z4 e_z4 i_z4 l_z4 u_z4 => ?_)
    have q_z4 : z4 = yL hp b := e_z4
    refine yG.store1 xik (L' := [(4, yI (z4)), (0, yR 2073), (1, yI ((r : Int))), (2, yI ((a : Int))), (3, yI ((b : Int)))]) rfl (fun _ _ => rfl) rfl rfl ?_
    refine yG.num (c := 0) rfl (fun _ _ => rfl) (by decide) ?_
    refine yG.store1 xik (L' := [(5, yI (0)), (4, yI (z4)), (0, yR 2073), (1, yI ((r : Int))), (2, yI ((a : Int))), (3, yI ((b : Int)))]) rfl (fun _ _ => rfl) rfl rfl ?_
    refine yG.num (c := 0) rfl (fun _ _ => rfl) (by decide) ?_
    refine yG.store1 xik (L' := [(6, yI (0)), (5, yI (0)), (4, yI (z4)), (0, yR 2073), (1, yI ((r : Int))), (2, yI ((a : Int))), (3, yI ((b : Int)))]) rfl (fun _ _ => rfl) rfl rfl ?_
    obtain ⟨n, hn⟩ : ∃ n : Nat, z4 = (n : Int) := ⟨(z4).toNat, by omega⟩
    rw [hn]
    exact yG.mono (H n (by omega) (by omega) (by omega) n 0 0 hp (by omega) (Or.inl rfl) (yNx.rf hT) (fun _ => rfl) (fun _ => rfl) (fun _ _ _ _ => rfl) rfl (fun h => absurd h (by omega))) (by omega)
  · have c3 : z1 > z2 := c3
    refine yG.load xak rfl (fun _ _ => rfl) (v := yR 2073) rfl rfl ?_
    refine yG.getR T_hp (yF_length W) rfl rfl ?_
    refine yG.load xik rfl (fun _ _ => rfl) (v := yI ((a : Int))) rfl rfl ?_
    refine yG.iald T_hp (yA_length W) rfl (by omega) (by omega) (fun z5 e_z5 i_z5 l_z5 u_z5 => ?_)
    have q_z5 : z5 = yL hp a := e_z5
    refine yG.goto rfl (t := 30) rfl ?_
    refine yG.store1 xik (L' := [(4, yI (z5)), (0, yR 2073), (1, yI ((r : Int))), (2, yI ((a : Int))), (3, yI ((b : Int)))]) rfl (fun _ _ => rfl) rfl rfl ?_
    refine yG.num (c := 0) rfl (fun _ _ => rfl) (by decide) ?_
    refine yG.store1 xik (L' := [(5, yI (0)), (4, yI (z5)), (0, yR 2073), (1, yI ((r : Int))), (2, yI ((a : Int))), (3, yI ((b : Int)))]) rfl (fun _ _ => rfl) rfl rfl ?_
    refine yG.num (c := 0) rfl (fun _ _ => rfl) (by decide) ?_
    refine yG.store1 xik (L' := [(6, yI (0)), (5, yI (0)), (4, yI (z5)), (0, yR 2073), (1, yI ((r : Int))), (2, yI ((a : Int))), (3, yI ((b : Int)))]) rfl (fun _ _ => rfl) rfl rfl ?_
    obtain ⟨n, hn⟩ : ∃ n : Nat, z5 = (n : Int) := ⟨(z5).toNat, by omega⟩
    rw [hn]
    exact yG.mono (H n (by omega) (by omega) (by omega) n 0 0 hp (by omega) (Or.inl rfl) (yNx.rf hT) (fun _ => rfl) (fun _ => rfl) (fun _ _ _ _ => rfl) rfl (fun h => absurd h (by omega))) (by omega)
end YAdd
