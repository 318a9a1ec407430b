/-! ===== the reference: sizes taken away ===== -/
section YLess
variable {G : zW} {hp : xH} {r a b : Nat}
theorem y_lessSizes (W : yMW G) (d : Nat) (hT : zTy G hp) (hr : r < 3412) (ha : a < 3412) (hb : b < 3412) (ta : yTop hp a) (tb : yTop hp b) (hm : ymag hp b ≤ ymag hp a) : yC (xcall 89 xfts xpools xms (d + 1)) 443 [yR 2073, yI (r : Int), yI (a : Int), yI (b : Int)] hp (yQ_size G hp r (ymag hp a - ymag hp b)) := by
  have T_hp := hT
  obtain ⟨bl1, bl2⟩ := yL_bd W hT ha
  obtain ⟨bl3, bl4⟩ := yL_bd W hT hb
  have ga := yFig_of W hT ha
  have gb := yFig_of W hT hb
  have hl : yL hp b ≤ yL hp a := by
    by_cases h : yL hp a < yL hp b
    · have := ysum_short (yFig_len W hT ha) (yFig_len W hT hb) (by omega) (tb (by omega))
      have : ymag hp a < ymag hp b := this
      omega
    · omega
  have H : ∀ n : Int, n = yL hp a → ∀ m k : Nat, ∀ cy tp : Int, ∀ hq, m + k = n → cy = 0 ∨ cy = 1 → yNx G [2074, 2075, 2076] hp hq → (∀ s, yL hq s = yL hp s) → (∀ s, yS hq s = yS hp s) → (∀ s j, j < 256 → s ≠ r ∨ k ≤ j → yD hq s j = yD hp s j) → ysum (yD hq r) k - cy * yB k = ysum (yFA hp a) k - ysum (yFA hp b) k → 0 ≤ tp → tp ≤ k → (0 < tp → yD hq r (tp.toNat - 1) ≠ 0) → (∀ j : Nat, tp ≤ j → j < k → yD hq r j = 0) → yG 89 xfts (xcall 89 xfts xpools xms d) (xpool xp_RX13) [] xt_X13_lessSizes (yP 0 (yQ_size G hp r (ymag hp a - ymag hp b))) (100 * m + 100) 17 [(7, yI ((k : Int))), (6, yI (tp)), (5, yI (cy)), (4, yI (n)), (0, yR 2073), (1, yI ((r : Int))), (2, yI ((a : Int))), (3, yI ((b : Int)))] [] hq := by
    intro n hn m
    induction m with
    | zero =>
      intro k cy tp hq hk hcy N_hq I1 I2 I3 I4 I5 I6 I7 I8
      have T_hq := N_hq.1
      have ekn : (k : Int) = n := by omega
      rw [yFA_sum (by omega), yFA_sum (by omega)] at I4
      have gr := yFig_of W T_hq hr
      have kb : k ≤ 256 := by omega
      have e0 : cy = 0 := by
        rcases hcy with e | e
        · exact e
        · rw [e] at I4
          have h1 := (ysum_bd (gr.sub kb)).2
          omega
      rw [e0, Int.zero_mul, Int.sub_zero] at I4
      refine yG.load xik rfl (fun _ _ => rfl) (v := yI ((k : Int))) rfl rfl ?_
      refine yG.load xik rfl (fun _ _ => rfl) (v := yI n) rfl rfl ?_
      refine yG.icmp rfl (t := 136) rfl ⟨by omega, by omega⟩ ⟨by omega, by omega⟩ (fun c => ?_) (fun c => absurd (show (k : Int) < n from c) (by omega))
      refine yG.load xak rfl (fun _ _ => rfl) (v := yR 2073) rfl rfl ?_
      refine yG.getR T_hq (yF_length W) rfl rfl ?_
      refine yG.load xik rfl (fun _ _ => rfl) (v := yI ((r : Int))) rfl rfl ?_
      refine yG.load xik rfl (fun _ _ => rfl) (v := yI (tp)) rfl rfl ?_
      refine yG.iast T_hq (yA_length W) (by decide) rfl (by omega) (by omega) ⟨by omega, by omega⟩ (by omega) (by omega) (fun h1 T_h1 b_h1 f_h1 y_h1 => ?_)
      have N_h1 := N_hq.put T_h1 b_h1 (by decide) f_h1
      have D_h1 : ∀ s j, yD h1 s j = yD hq s j := fun s j => yput_ne y_h1 (by decide) _
      have L_h1 : ∀ s, yL h1 s = if s = r then tp else yL hq s := yput_L (r := r) y_h1
      have S_h1 : ∀ s, yS h1 s = yS hq s := fun s => yput_ne y_h1 (by decide) _
      refine yG.ret rfl (fun _ _ => rfl) ?_
      exact yP.void ⟨rfl, N_h1, fun s hs => ⟨by rw [L_h1, if_neg hs, I1], by rw [S_h1, I2], fun j hj => by rw [D_h1, I3 s j hj (Or.inl hs)]⟩, by rw [S_h1, I2], by
        show ysum (yD h1 r) (yL h1 r).toNat = _
        rw [L_h1, if_pos rfl, ← I4, ysum_nought (f := yD hq r) (n := tp.toNat) (m := k) (by omega) fun j h1 h2 => I8 j (by omega) h2]
        exact ysum_congr fun j _ => D_h1 r j, by
        intro h0
        rw [L_h1, if_pos rfl] at h0 ⊢
        rw [D_h1]
        exact I7 h0⟩
    | succ m ih =>
      intro k cy tp hq hk hcy N_hq I1 I2 I3 I4 I5 I6 I7 I8
      have T_hq := N_hq.1
      have kn : (k : Int) < n := by omega
      have A1 : (k : Int) < yL hp a → yFA hp a k = yD hp a k := yFA_in
      have B1 : (k : Int) < yL hp b → yFA hp b k = yD hp b k := yFA_in
      have B2 : ¬ (k : Int) < yL hp b → yFA hp b k = 0 := yFA_out
      have A3 : yD hq a k = yD hp a k := I3 a k (by omega) (Or.inr (Nat.le_refl _))
      have B3 : yD hq b k = yD hp b k := I3 b k (by omega) (Or.inr (Nat.le_refl _))
      have A4 := ga k (by omega)
      have B4 := gb k (by omega)
      have L2 := I1 b
      have STEP : ∀ v c w t : Int, ∀ h, v = yFA hp a k - yFA hp b k - cy → (0 ≤ v ∧ c = 0 ∧ w = v ∨ v < 0 ∧ c = 1 ∧ w = v + 1000000000) → (0 < w ∧ t = k + 1 ∨ w ≤ 0 ∧ t = tp) → yNx G [2074, 2075, 2076] hp h → (∀ s j, j < 256 → yD h s j = if s = r ∧ j = k then w else yD hq s j) → (∀ s, yL h s = yL hq s) → (∀ s, yS h s = yS hq s) → yG 89 xfts (xcall 89 xfts xpools xms d) (xpool xp_RX13) [] xt_X13_lessSizes (yP 0 (yQ_size G hp r (ymag hp a - ymag hp b))) (100 * m + 100) 17 [(7, yI ((k : Int) + 1)), (6, yI (t)), (5, yI (c)), (4, yI (n)), (0, yR 2073), (1, yI ((r : Int))), (2, yI ((a : Int))), (3, yI ((b : Int)))] [] h := by
        intro v c w t h e1 e2 e4 Nh Dh Lh Sh
        refine ih (k + 1) c t h (by omega) (by omega) Nh (fun s => (Lh s).trans (I1 s)) (fun s => (Sh s).trans (I2 s)) (fun s j hj ho => ?_) ?_ (by omega) (by omega) (fun h0 => ?_) (fun j h1 h2 => ?_)
        · rw [Dh s j hj, if_neg (by omega)]
          exact I3 s j hj (by omega)
        · rw [ysum_succ, ysum_succ, ysum_succ, Dh r k (by omega), if_pos ⟨rfl, rfl⟩, yB_succ, show ysum (yD h r) k = ysum (yD hq r) k from ysum_congr fun j hj => by rw [Dh r j (by omega), if_neg (by omega)]]
          have e3 : w = v + c * 1000000000 := by omega
          rw [e3, e1]
          generalize ysum (yD hq r) k = s1 at *
          generalize ysum (yFA hp a) k = s2 at *
          generalize ysum (yFA hp b) k = s3 at *
          generalize yB k = p at *
          generalize yFA hp a k = x at *
          generalize yFA hp b k = y at *
          grind
        · rcases e4 with ⟨e5, e6⟩ | ⟨e5, e6⟩
          · rw [show t.toNat - 1 = k by omega, Dh r k (by omega), if_pos ⟨rfl, rfl⟩]
            omega
          · rw [e6] at h0 ⊢
            rw [Dh r (tp.toNat - 1) (by omega), if_neg (by omega)]
            exact I7 h0
        · by_cases e7 : j = k
          · rw [e7, Dh r k (by omega), if_pos ⟨rfl, rfl⟩]
            omega
          · rw [Dh r j (by omega), if_neg (by omega)]
            exact I8 j (by omega) (by omega)
      refine yG.load xik rfl (fun _ _ => rfl) (v := yI ((k : Int))) rfl rfl ?_
      refine yG.load xik rfl (fun _ _ => rfl) (v := yI n) rfl rfl ?_
      refine yG.icmp rfl (t := 136) rfl ⟨by omega, by omega⟩ ⟨by omega, by omega⟩ (fun c => absurd (show (k : Int) ≥ n from c) (by omega)) (fun c => ?_)
      refine yG.load xak rfl (fun _ _ => rfl) (v := yR 2073) rfl rfl ?_
      refine yG.getR T_hq (yF_big W) rfl rfl ?_
      refine yG.num (c := 256) rfl (fun _ _ => rfl) (by decide) ?_
      refine yG.load xik rfl (fun _ _ => rfl) (v := yI ((a : Int))) rfl rfl ?_
      refine yG.imul rfl ?_
      refine yG.load xik rfl (fun _ _ => rfl) (v := yI ((k : Int))) rfl rfl ?_
      refine yG.iadd rfl ?_
      refine yG.iald T_hq (yA_big W) rfl (by omega) (by omega) (fun z1 e_z1 i_z1 l_z1 u_z1 => ?_)
      have q_z1 : z1 = yD hq a (k) := e_z1.trans (yBig (by omega))
      refine yG.load xik rfl (fun _ _ => rfl) (v := yI ((k : Int))) rfl rfl ?_
      refine yG.load xak rfl (fun _ _ => rfl) (v := yR 2073) rfl rfl ?_
      refine yG.getR T_hq (yF_length W) rfl rfl ?_
      refine yG.load xik rfl (fun _ _ => rfl) (v := yI ((b : Int))) rfl rfl ?_
      refine yG.iald T_hq (yA_length W) rfl (by omega) (by omega) (fun z2 e_z2 i_z2 l_z2 u_z2 => ?_)
      have q_z2 : z2 = yL hq b := e_z2
      refine yG.icmp rfl (t := 64) rfl ⟨by omega, by omega⟩ ⟨by omega, by omega⟩ (fun c3 => ?_) (fun c3 => ?_)
      · have c3 : (k : Int) ≥ z2 := c3
        refine yG.num (c := 0) rfl (fun _ _ => rfl) (by decide) ?_
        refine yG.isub rfl ?_
        refine yG.load xik rfl (fun _ _ => rfl) (v := yI (cy)) rfl rfl ?_
        refine yG.isub rfl ?_
        obtain ⟨z4, e_z4⟩ : ∃ z : Int, z = (z1 - 0) - cy := ⟨_, rfl⟩
        rw [← e_z4]
        refine yG.store1 xik (L' := [(8, yI (z4)), (7, yI ((k : Int))), (6, yI (tp)), (5, yI (cy)), (4, yI (n)), (0, yR 2073), (1, yI ((r : Int))), (2, yI ((a : Int))), (3, yI ((b : Int)))]) rfl (fun _ _ => rfl) rfl rfl ?_
        refine yG.load xik rfl (fun _ _ => rfl) (v := yI (z4)) rfl rfl ?_
        refine yG.ifz rfl (t := 80) rfl ⟨by omega, by omega⟩ (fun c5 => ?_) (fun c5 => ?_)
        · have c5 : z4 ≥ 0 := c5
          refine yG.num (c := 0) rfl (fun _ _ => rfl) (by decide) ?_
          refine yG.store1 xik (L' := [(5, yI (0)), (8, yI (z4)), (7, yI ((k : Int))), (6, yI (tp)), (4, yI (n)), (0, yR 2073), (1, yI ((r : Int))), (2, yI ((a : Int))), (3, yI ((b : Int)))]) rfl (fun _ _ => rfl) rfl rfl ?_
          refine yG.load xik rfl (fun _ _ => rfl) (v := yI (z4)) rfl rfl ?_
          refine yG.load xik rfl (fun _ _ => rfl) (v := yI (z4)) rfl rfl ?_
          refine yG.ifz rfl (t := 95) rfl ⟨by omega, by omega⟩ (fun c6 => ?_) (fun c6 => ?_)
          · have c6 : z4 ≥ 0 := c6
            refine yG.num (c := 0) rfl (fun _ _ => rfl) (by decide) ?_
            refine yG.iadd rfl ?_
            obtain ⟨z7, e_z7⟩ : ∃ z : Int, z = z4 + 0 := ⟨_, rfl⟩
            rw [← e_z7]
            refine yG.store1 xik (L' := [(8, yI (z7)), (5, yI (0)), (7, yI ((k : Int))), (6, yI (tp)), (4, yI (n)), (0, yR 2073), (1, yI ((r : Int))), (2, yI ((a : Int))), (3, yI ((b : Int)))]) rfl (fun _ _ => rfl) rfl rfl ?_
            refine yG.load xak rfl (fun _ _ => rfl) (v := yR 2073) rfl rfl ?_
            refine yG.getR T_hq (yF_big W) rfl rfl ?_
            refine yG.num (c := 256) rfl (fun _ _ => rfl) (by decide) ?_
            refine yG.load xik rfl (fun _ _ => rfl) (v := yI ((r : Int))) rfl rfl ?_
            refine yG.imul rfl ?_
            refine yG.load xik rfl (fun _ _ => rfl) (v := yI ((k : Int))) rfl rfl ?_
            refine yG.iadd rfl ?_
            refine yG.load xik rfl (fun _ _ => rfl) (v := yI (z7)) rfl rfl ?_
            refine yG.iast T_hq (yA_big W) (by decide) rfl (by omega) (by omega) ⟨by omega, by omega⟩ (by omega) (by omega) (fun h8 T_h8 b_h8 f_h8 y_h8 => ?_)
            have N_h8 := N_hq.put T_h8 b_h8 (by decide) f_h8
            have D_h8 : ∀ s j, j < 256 → yD h8 s j = if s = r ∧ j = k then z7 else yD hq s j := yput_D (r := r) (k := k) y_h8 (by omega) (by omega)
            have L_h8 : ∀ s, yL h8 s = yL hq s := fun s => yput_ne y_h8 (by decide) _
            have S_h8 : ∀ s, yS h8 s = yS hq s := fun s => yput_ne y_h8 (by decide) _
            refine yG.load xik rfl (fun _ _ => rfl) (v := yI (z7)) rfl rfl ?_
            refine yG.ifz rfl (t := 126) rfl ⟨by omega, by omega⟩ (fun c9 => ?_) (fun c9 => ?_)
            · have c9 : z7 ≤ 0 := c9
              refine yG.load xik rfl (fun _ _ => rfl) (v := yI (tp)) rfl rfl ?_
              refine yG.store1 xik (L' := [(6, yI (tp)), (8, yI (z7)), (5, yI (0)), (7, yI ((k : Int))), (4, yI (n)), (0, yR 2073), (1, yI ((r : Int))), (2, yI ((a : Int))), (3, yI ((b : Int)))]) rfl (fun _ _ => rfl) rfl rfl ?_
              refine yG.iinc rfl (a := (k : Int)) rfl (L' := [(7, yI ((k : Int) + 1)), (6, yI (tp)), (8, yI (z7)), (5, yI (0)), (4, yI (n)), (0, yR 2073), (1, yI ((r : Int))), (2, yI ((a : Int))), (3, yI ((b : Int)))]) rfl ?_
              refine yG.goto rfl (t := 17) rfl ?_
              exact yG.mono ((STEP _ 0 z7 tp h8 rfl (by omega) (by omega) N_h8 D_h8 L_h8 S_h8).sub (ySub.cons rfl (ySub.cons rfl (ySub.cons rfl (ySub.cons rfl (ySub.cons rfl (ySub.cons rfl (ySub.cons rfl (ySub.cons rfl (ySub.nil)))))))))) (by omega)
            · have c9 : z7 > 0 := c9
              refine yG.load xik rfl (fun _ _ => rfl) (v := yI ((k : Int))) rfl rfl ?_
              refine yG.num (c := 1) rfl (fun _ _ => rfl) (by decide) ?_
              refine yG.iadd rfl ?_
              refine yG.goto rfl (t := 128) rfl ?_
              obtain ⟨z10, e_z10⟩ : ∃ z : Int, z = (k : Int) + 1 := ⟨_, rfl⟩
              rw [← e_z10]
              refine yG.store1 xik (L' := [(6, yI (z10)), (8, yI (z7)), (5, yI (0)), (7, yI ((k : Int))), (4, yI (n)), (0, yR 2073), (1, yI ((r : Int))), (2, yI ((a : Int))), (3, yI ((b : Int)))]) rfl (fun _ _ => rfl) rfl rfl ?_
              refine yG.iinc rfl (a := (k : Int)) rfl (L' := [(7, yI ((k : Int) + 1)), (6, yI (z10)), (8, yI (z7)), (5, yI (0)), (4, yI (n)), (0, yR 2073), (1, yI ((r : Int))), (2, yI ((a : Int))), (3, yI ((b : Int)))]) rfl ?_
              refine yG.goto rfl (t := 17) rfl ?_
              exact yG.mono ((STEP _ 0 z7 z10 h8 rfl (by omega) (by omega) N_h8 D_h8 L_h8 S_h8).sub (ySub.cons rfl (ySub.cons rfl (ySub.cons rfl (ySub.cons rfl (ySub.cons rfl (ySub.cons rfl (ySub.cons rfl (ySub.cons rfl (ySub.nil)))))))))) (by omega)
          · have c6 : z4 < 0 := c6
            refine yG.num (c := 1000000000) rfl (fun _ _ => rfl) (by decide) ?_
            refine yG.goto rfl (t := 96) rfl ?_
            refine yG.iadd rfl ?_
            obtain ⟨z11, e_z11⟩ : ∃ z : Int, z = z4 + 1000000000 := ⟨_, rfl⟩
            rw [← e_z11]
            refine yG.store1 xik (L' := [(8, yI (z11)), (5, yI (0)), (7, yI ((k : Int))), (6, yI (tp)), (4, yI (n)), (0, yR 2073), (1, yI ((r : Int))), (2, yI ((a : Int))), (3, yI ((b : Int)))]) rfl (fun _ _ => rfl) rfl rfl ?_
            refine yG.load xak rfl (fun _ _ => rfl) (v := yR 2073) rfl rfl ?_
            refine yG.getR T_hq (yF_big W) rfl rfl ?_
            refine yG.num (c := 256) rfl (fun _ _ => rfl) (by decide) ?_
            refine yG.load xik rfl (fun _ _ => rfl) (v := yI ((r : Int))) rfl rfl ?_
            refine yG.imul rfl ?_
            refine yG.load xik rfl (fun _ _ => rfl) (v := yI ((k : Int))) rfl rfl ?_
            refine yG.iadd rfl ?_
            refine yG.load xik rfl (fun _ _ => rfl) (v := yI (z11)) rfl rfl ?_
            refine yG.iast T_hq (yA_big W) (by decide) rfl (by omega) (by omega) ⟨by omega, by omega⟩ (by omega) (by omega) (fun h12 T_h12 b_h12 f_h12 y_h12 => ?_)
            have N_h12 := N_hq.put T_h12 b_h12 (by decide) f_h12
            have D_h12 : ∀ s j, j < 256 → yD h12 s j = if s = r ∧ j = k then z11 else yD hq s j := yput_D (r := r) (k := k) y_h12 (by omega) (by omega)
            have L_h12 : ∀ s, yL h12 s = yL hq s := fun s => yput_ne y_h12 (by decide) _
            have S_h12 : ∀ s, yS h12 s = yS hq s := fun s => yput_ne y_h12 (by decide) _
            refine yG.load xik rfl (fun _ _ => rfl) (v := yI (z11)) rfl rfl ?_
            refine yG.ifz rfl (t := 126) rfl ⟨by omega, by omega⟩ (fun c13 => ?_) (fun c13 => ?_)
            · have c13 : z11 ≤ 0 := c13
              refine yG.load xik rfl (fun _ _ => rfl) (v := yI (tp)) rfl rfl ?_
              refine yG.store1 xik (L' := [(6, yI (tp)), (8, yI (z11)), (5, yI (0)), (7, yI ((k : Int))), (4, yI (n)), (0, yR 2073), (1, yI ((r : Int))), (2, yI ((a : Int))), (3, yI ((b : Int)))]) rfl (fun _ _ => rfl) rfl rfl ?_
              refine yG.iinc rfl (a := (k : Int)) rfl (L' := [(7, yI ((k : Int) + 1)), (6, yI (tp)), (8, yI (z11)), (5, yI (0)), (4, yI (n)), (0, yR 2073), (1, yI ((r : Int))), (2, yI ((a : Int))), (3, yI ((b : Int)))]) rfl ?_
              refine yG.goto rfl (t := 17) rfl ?_
              exact yG.mono ((STEP _ 0 z11 tp h12 rfl (by omega) (by omega) N_h12 D_h12 L_h12 S_h12).sub (ySub.cons rfl (ySub.cons rfl (ySub.cons rfl (ySub.cons rfl (ySub.cons rfl (ySub.cons rfl (ySub.cons rfl (ySub.cons rfl (ySub.nil)))))))))) (by omega)
            · have c13 : z11 > 0 := c13
              refine yG.load xik rfl (fun _ _ => rfl) (v := yI ((k : Int))) rfl rfl ?_
              refine yG.num (c := 1) rfl (fun _ _ => rfl) (by decide) ?_
              refine yG.iadd rfl ?_
              refine yG.goto rfl (t := 128) rfl ?_
              obtain ⟨z14, e_z14⟩ : ∃ z : Int, z = (k : Int) + 1 := ⟨_, rfl⟩
              rw [← e_z14]
              refine yG.store1 xik (L' := [(6, yI (z14)), (8, yI (z11)), (5, yI (0)), (7, yI ((k : Int))), (4, yI (n)), (0, yR 2073), (1, yI ((r : Int))), (2, yI ((a : Int))), (3, yI ((b : Int)))]) rfl (fun _ _ => rfl) rfl rfl ?_
              refine yG.iinc rfl (a := (k : Int)) rfl (L' := [(7, yI ((k : Int) + 1)), (6, yI (z14)), (8, yI (z11)), (5, yI (0)), (4, yI (n)), (0, yR 2073), (1, yI ((r : Int))), (2, yI ((a : Int))), (3, yI ((b : Int)))]) rfl ?_
              refine yG.goto rfl (t := 17) rfl ?_
              exact yG.mono ((STEP _ 0 z11 z14 h12 rfl (by omega) (by omega) N_h12 D_h12 L_h12 S_h12).sub (ySub.cons rfl (ySub.cons rfl (ySub.cons rfl (ySub.cons rfl (ySub.cons rfl (ySub.cons rfl (ySub.cons rfl (ySub.cons rfl (ySub.nil)))))))))) (by omega)
        · have c5 : z4 < 0 := c5
          refine yG.num (c := 1) rfl (fun _ _ => rfl) (by decide) ?_
          refine yG.goto rfl (t := 81) rfl ?_
          refine yG.store1 xik (L' := [(5, yI (1)), (8, yI (z4)), (7, yI ((k : Int))), (6, yI (tp)), (4, yI (n)), (0, yR 2073), (1, yI ((r : Int))), (2, yI ((a : Int))), (3, yI ((b : Int)))]) rfl (fun _ _ => rfl) rfl rfl ?_
          refine yG.load xik rfl (fun _ _ => rfl) (v := yI (z4)) rfl rfl ?_
          refine yG.load xik rfl (fun _ _ => rfl) (v := yI (z4)) rfl rfl ?_
          refine yG.ifz rfl (t := 95) rfl ⟨by omega, by omega⟩ (fun c15 => ?_) (fun c15 => ?_)
          · have c15 : z4 ≥ 0 := c15
            refine yG.num (c := 0) rfl (fun _ _ => rfl) (by decide) ?_
            refine yG.iadd rfl ?_
            obtain ⟨z16, e_z16⟩ : ∃ z : Int, z = z4 + 0 := ⟨_, rfl⟩
            rw [← e_z16]
            refine yG.store1 xik (L' := [(8, yI (z16)), (5, yI (1)), (7, yI ((k : Int))), (6, yI (tp)), (4, yI (n)), (0, yR 2073), (1, yI ((r : Int))), (2, yI ((a : Int))), (3, yI ((b : Int)))]) rfl (fun _ _ => rfl) rfl rfl ?_
            refine yG.load xak rfl (fun _ _ => rfl) (v := yR 2073) rfl rfl ?_
            refine yG.getR T_hq (yF_big W) rfl rfl ?_
            refine yG.num (c := 256) rfl (fun _ _ => rfl) (by decide) ?_
            refine yG.load xik rfl (fun _ _ => rfl) (v := yI ((r : Int))) rfl rfl ?_
            refine yG.imul rfl ?_
            refine yG.load xik rfl (fun _ _ => rfl) (v := yI ((k : Int))) rfl rfl ?_
            refine yG.iadd rfl ?_
            refine yG.load xik rfl (fun _ _ => rfl) (v := yI (z16)) rfl rfl ?_
            refine yG.iast T_hq (yA_big W) (by decide) rfl (by omega) (by omega) ⟨by omega, by omega⟩ (by omega) (by omega) (fun h17 T_h17 b_h17 f_h17 y_h17 => ?_)
            have N_h17 := N_hq.put T_h17 b_h17 (by decide) f_h17
            have D_h17 : ∀ s j, j < 256 → yD h17 s j = if s = r ∧ j = k then z16 else yD hq s j := yput_D (r := r) (k := k) y_h17 (by omega) (by omega)
            have L_h17 : ∀ s, yL h17 s = yL hq s := fun s => yput_ne y_h17 (by decide) _
            have S_h17 : ∀ s, yS h17 s = yS hq s := fun s => yput_ne y_h17 (by decide) _
            refine yG.load xik rfl (fun _ _ => rfl) (v := yI (z16)) rfl rfl ?_
            refine yG.ifz rfl (t := 126) rfl ⟨by omega, by omega⟩ (fun c18 => ?_) (fun c18 => ?_)
            · have c18 : z16 ≤ 0 := c18
              refine yG.load xik rfl (fun _ _ => rfl) (v := yI (tp)) rfl rfl ?_
              refine yG.store1 xik (L' := [(6, yI (tp)), (8, yI (z16)), (5, yI (1)), (7, yI ((k : Int))), (4, yI (n)), (0, yR 2073), (1, yI ((r : Int))), (2, yI ((a : Int))), (3, yI ((b : Int)))]) rfl (fun _ _ => rfl) rfl rfl ?_
              refine yG.iinc rfl (a := (k : Int)) rfl (L' := [(7, yI ((k : Int) + 1)), (6, yI (tp)), (8, yI (z16)), (5, yI (1)), (4, yI (n)), (0, yR 2073), (1, yI ((r : Int))), (2, yI ((a : Int))), (3, yI ((b : Int)))]) rfl ?_
              refine yG.goto rfl (t := 17) rfl ?_
              exact yG.mono ((STEP _ 1 z16 tp h17 rfl (by omega) (by omega) N_h17 D_h17 L_h17 S_h17).sub (ySub.cons rfl (ySub.cons rfl (ySub.cons rfl (ySub.cons rfl (ySub.cons rfl (ySub.cons rfl (ySub.cons rfl (ySub.cons rfl (ySub.nil)))))))))) (by omega)
            · have c18 : z16 > 0 := c18
              refine yG.load xik rfl (fun _ _ => rfl) (v := yI ((k : Int))) rfl rfl ?_
              refine yG.num (c := 1) rfl (fun _ _ => rfl) (by decide) ?_
              refine yG.iadd rfl ?_
              refine yG.goto rfl (t := 128) rfl ?_
              obtain ⟨z19, e_z19⟩ : ∃ z : Int, z = (k : Int) + 1 := ⟨_, rfl⟩
              rw [← e_z19]
              refine yG.store1 xik (L' := [(6, yI (z19)), (8, yI (z16)), (5, yI (1)), (7, yI ((k : Int))), (4, yI (n)), (0, yR 2073), (1, yI ((r : Int))), (2, yI ((a : Int))), (3, yI ((b : Int)))]) rfl (fun _ _ => rfl) rfl rfl ?_
              refine yG.iinc rfl (a := (k : Int)) rfl (L' := [(7, yI ((k : Int) + 1)), (6, yI (z19)), (8, yI (z16)), (5, yI (1)), (4, yI (n)), (0, yR 2073), (1, yI ((r : Int))), (2, yI ((a : Int))), (3, yI ((b : Int)))]) rfl ?_
              refine yG.goto rfl (t := 17) rfl ?_
              exact yG.mono ((STEP _ 1 z16 z19 h17 rfl (by omega) (by omega) N_h17 D_h17 L_h17 S_h17).sub (ySub.cons rfl (ySub.cons rfl (ySub.cons rfl (ySub.cons rfl (ySub.cons rfl (ySub.cons rfl (ySub.cons rfl (ySub.cons rfl (ySub.nil)))))))))) (by omega)
          · have c15 : z4 < 0 := c15
            refine yG.num (c := 1000000000) rfl (fun _ _ => rfl) (by decide) ?_
            refine yG.goto rfl (t := 96) rfl ?_
            refine yG.iadd rfl ?_
            obtain ⟨z20, e_z20⟩ : ∃ z : Int, z = z4 + 1000000000 := ⟨_, rfl⟩
            rw [← e_z20]
            refine yG.store1 xik (L' := [(8, yI (z20)), (5, yI (1)), (7, yI ((k : Int))), (6, yI (tp)), (4, yI (n)), (0, yR 2073), (1, yI ((r : Int))), (2, yI ((a : Int))), (3, yI ((b : Int)))]) rfl (fun _ _ => rfl) rfl rfl ?_
            refine yG.load xak rfl (fun _ _ => rfl) (v := yR 2073) rfl rfl ?_
            refine yG.getR T_hq (yF_big W) rfl rfl ?_
            refine yG.num (c := 256) rfl (fun _ _ => rfl) (by decide) ?_
            refine yG.load xik rfl (fun _ _ => rfl) (v := yI ((r : Int))) rfl rfl ?_
            refine yG.imul rfl ?_
            refine yG.load xik rfl (fun _ _ => rfl) (v := yI ((k : Int))) rfl rfl ?_
            refine yG.iadd rfl ?_
            refine yG.load xik rfl (fun _ _ => rfl) (v := yI (z20)) rfl rfl ?_
            refine yG.iast T_hq (yA_big W) (by decide) rfl (by omega) (by omega) ⟨by omega, by omega⟩ (by omega) (by omega) (fun h21 T_h21 b_h21 f_h21 y_h21 => ?_)
            have N_h21 := N_hq.put T_h21 b_h21 (by decide) f_h21
            have D_h21 : ∀ s j, j < 256 → yD h21 s j = if s = r ∧ j = k then z20 else yD hq s j := yput_D (r := r) (k := k) y_h21 (by omega) (by omega)
            have L_h21 : ∀ s, yL h21 s = yL hq s := fun s => yput_ne y_h21 (by decide) _
            have S_h21 : ∀ s, yS h21 s = yS hq s := fun s => yput_ne y_h21 (by decide) _
            refine yG.load xik rfl (fun _ _ => rfl) (v := yI (z20)) rfl rfl ?_
            refine yG.ifz rfl (t := 126) rfl ⟨by omega, by omega⟩ (fun c22 => ?_) (fun c22 => ?_)
            · have c22 : z20 ≤ 0 := c22
              refine yG.load xik rfl (fun _ _ => rfl) (v := yI (tp)) rfl rfl ?_
              refine yG.store1 xik (L' := [(6, yI (tp)), (8, yI (z20)), (5, yI (1)), (7, yI ((k : Int))), (4, yI (n)), (0, yR 2073), (1, yI ((r : Int))), (2, yI ((a : Int))), (3, yI ((b : Int)))]) rfl (fun _ _ => rfl) rfl rfl ?_
              refine yG.iinc rfl (a := (k : Int)) rfl (L' := [(7, yI ((k : Int) + 1)), (6, yI (tp)), (8, yI (z20)), (5, yI (1)), (4, yI (n)), (0, yR 2073), (1, yI ((r : Int))), (2, yI ((a : Int))), (3, yI ((b : Int)))]) rfl ?_
              refine yG.goto rfl (t := 17) rfl ?_
              exact yG.mono ((STEP _ 1 z20 tp h21 rfl (by omega) (by omega) N_h21 D_h21 L_h21 S_h21).sub (ySub.cons rfl (ySub.cons rfl (ySub.cons rfl (ySub.cons rfl (ySub.cons rfl (ySub.cons rfl (ySub.cons rfl (ySub.cons rfl (ySub.nil)))))))))) (by omega)
            · have c22 : z20 > 0 := c22
              refine yG.load xik rfl (fun _ _ => rfl) (v := yI ((k : Int))) rfl rfl ?_
              refine yG.num (c := 1) rfl (fun _ _ => rfl) (by decide) ?_
              refine yG.iadd rfl ?_
              refine yG.goto rfl (t := 128) rfl ?_
              obtain ⟨z23, e_z23⟩ : ∃ z : Int, z = (k : Int) + 1 := ⟨_, rfl⟩
              rw [← e_z23]
              refine yG.store1 xik (L' := [(6, yI (z23)), (8, yI (z20)), (5, yI (1)), (7, yI ((k : Int))), (4, yI (n)), (0, yR 2073), (1, yI ((r : Int))), (2, yI ((a : Int))), (3, yI ((b : Int)))]) rfl (fun _ _ => rfl) rfl rfl ?_
              refine yG.iinc rfl (a := (k : Int)) rfl (L' := [(7, yI ((k : Int) + 1)), (6, yI (z23)), (8, yI (z20)), (5, yI (1)), (4, yI (n)), (0, yR 2073), (1, yI ((r : Int))), (2, yI ((a : Int))), (3, yI ((b : Int)))]) rfl ?_
              refine yG.goto rfl (t := 17) rfl ?_
              exact yG.mono ((STEP _ 1 z20 z23 h21 rfl (by omega) (by omega) N_h21 D_h21 L_h21 S_h21).sub (ySub.cons rfl (ySub.cons rfl (ySub.cons rfl (ySub.cons rfl (ySub.cons rfl (ySub.cons rfl (ySub.cons rfl (ySub.cons rfl (ySub.nil)))))))))) (by omega)
      · have c3 : (k : Int) < z2 := c3
        refine yG.load xak rfl (fun _ _ => rfl) (v := yR 2073) rfl rfl ?_
        refine yG.getR T_hq (yF_big W) rfl rfl ?_
        refine yG.num (c := 256) rfl (fun _ _ => rfl) (by decide) ?_
        refine yG.load xik rfl (fun _ _ => rfl) (v := yI ((b : Int))) rfl rfl ?_
        refine yG.imul rfl ?_
        refine yG.load xik rfl (fun _ _ => rfl) (v := yI ((k : Int))) rfl rfl ?_
        refine yG.iadd rfl ?_
        refine yG.iald T_hq (yA_big W) rfl (by omega) (by omega) (fun z24 e_z24 i_z24 l_z24 u_z24 => ?_)
        have q_z24 : z24 = yD hq b (k) := e_z24.trans (yBig (by omega))
        refine yG.goto rfl (t := 65) rfl ?_
        refine yG.isub rfl ?_
        refine yG.load xik rfl (fun _ _ => rfl) (v := yI (cy)) rfl rfl ?_
        refine yG.isub rfl ?_
        obtain ⟨z25, e_z25⟩ : ∃ z : Int, z = (z1 - z24) - cy := ⟨_, rfl⟩
        rw [← e_z25]
        refine yG.store1 xik (L' := [(8, yI (z25)), (7, yI ((k : Int))), (6, yI (tp)), (5, yI (cy)), (4, yI (n)), (0, yR 2073), (1, yI ((r : Int))), (2, yI ((a : Int))), (3, yI ((b : Int)))]) rfl (fun _ _ => rfl) rfl rfl ?_
        refine yG.load xik rfl (fun _ _ => rfl) (v := yI (z25)) rfl rfl ?_
        refine yG.ifz rfl (t := 80) rfl ⟨by omega, by omega⟩ (fun c26 => ?_) (fun c26 => ?_)
        · have c26 : z25 ≥ 0 := c26
          refine yG.num (c := 0) rfl (fun _ _ => rfl) (by decide) ?_
          refine yG.store1 xik (L' := [(5, yI (0)), (8, yI (z25)), (7, yI ((k : Int))), (6, yI (tp)), (4, yI (n)), (0, yR 2073), (1, yI ((r : Int))), (2, yI ((a : Int))), (3, yI ((b : Int)))]) rfl (fun _ _ => rfl) rfl rfl ?_
          refine yG.load xik rfl (fun _ _ => rfl) (v := yI (z25)) rfl rfl ?_
          refine yG.load xik rfl (fun _ _ => rfl) (v := yI (z25)) rfl rfl ?_
          refine yG.ifz rfl (t := 95) rfl ⟨by omega, by omega⟩ (fun c27 => ?_) (fun c27 => ?_)
          · have c27 : z25 ≥ 0 := c27
            refine yG.num (c := 0) rfl (fun _ _ => rfl) (by decide) ?_
            refine yG.iadd rfl ?_
            obtain ⟨z28, e_z28⟩ : ∃ z : Int, z = z25 + 0 := ⟨_, rfl⟩
            rw [← e_z28]
            refine yG.store1 xik (L' := [(8, yI (z28)), (5, yI (0)), (7, yI ((k : Int))), (6, yI (tp)), (4, yI (n)), (0, yR 2073), (1, yI ((r : Int))), (2, yI ((a : Int))), (3, yI ((b : Int)))]) rfl (fun _ _ => rfl) rfl rfl ?_
            refine yG.load xak rfl (fun _ _ => rfl) (v := yR 2073) rfl rfl ?_
            refine yG.getR T_hq (yF_big W) rfl rfl ?_
            refine yG.num (c := 256) rfl (fun _ _ => rfl) (by decide) ?_
            refine yG.load xik rfl (fun _ _ => rfl) (v := yI ((r : Int))) rfl rfl ?_
            refine yG.imul rfl ?_
            refine yG.load xik rfl (fun _ _ => rfl) (v := yI ((k : Int))) rfl rfl ?_
            refine yG.iadd rfl ?_
            refine yG.load xik rfl (fun _ _ => rfl) (v := yI (z28)) rfl rfl ?_
            refine yG.iast T_hq (yA_big W) (by decide) rfl (by omega) (by omega) ⟨by omega, by omega⟩ (by omega) (by omega) (fun h29 T_h29 b_h29 f_h29 y_h29 => ?_)
            have N_h29 := N_hq.put T_h29 b_h29 (by decide) f_h29
            have D_h29 : ∀ s j, j < 256 → yD h29 s j = if s = r ∧ j = k then z28 else yD hq s j := yput_D (r := r) (k := k) y_h29 (by omega) (by omega)
            have L_h29 : ∀ s, yL h29 s = yL hq s := fun s => yput_ne y_h29 (by decide) _
            have S_h29 : ∀ s, yS h29 s = yS hq s := fun s => yput_ne y_h29 (by decide) _
            refine yG.load xik rfl (fun _ _ => rfl) (v := yI (z28)) rfl rfl ?_
            refine yG.ifz rfl (t := 126) rfl ⟨by omega, by omega⟩ (fun c30 => ?_) (fun c30 => ?_)
            · have c30 : z28 ≤ 0 := c30
              refine yG.load xik rfl (fun _ _ => rfl) (v := yI (tp)) rfl rfl ?_
              refine yG.store1 xik (L' := [(6, yI (tp)), (8, yI (z28)), (5, yI (0)), (7, yI ((k : Int))), (4, yI (n)), (0, yR 2073), (1, yI ((r : Int))), (2, yI ((a : Int))), (3, yI ((b : Int)))]) rfl (fun _ _ => rfl) rfl rfl ?_
              refine yG.iinc rfl (a := (k : Int)) rfl (L' := [(7, yI ((k : Int) + 1)), (6, yI (tp)), (8, yI (z28)), (5, yI (0)), (4, yI (n)), (0, yR 2073), (1, yI ((r : Int))), (2, yI ((a : Int))), (3, yI ((b : Int)))]) rfl ?_
              refine yG.goto rfl (t := 17) rfl ?_
              exact yG.mono ((STEP _ 0 z28 tp h29 rfl (by omega) (by omega) N_h29 D_h29 L_h29 S_h29).sub (ySub.cons rfl (ySub.cons rfl (ySub.cons rfl (ySub.cons rfl (ySub.cons rfl (ySub.cons rfl (ySub.cons rfl (ySub.cons rfl (ySub.nil)))))))))) (by omega)
            · have c30 : z28 > 0 := c30
              refine yG.load xik rfl (fun _ _ => rfl) (v := yI ((k : Int))) rfl rfl ?_
              refine yG.num (c := 1) rfl (fun _ _ => rfl) (by decide) ?_
              refine yG.iadd rfl ?_
              refine yG.goto rfl (t := 128) rfl ?_
              obtain ⟨z31, e_z31⟩ : ∃ z : Int, z = (k : Int) + 1 := ⟨_, rfl⟩
              rw [← e_z31]
              refine yG.store1 xik (L' := [(6, yI (z31)), (8, yI (z28)), (5, yI (0)), (7, yI ((k : Int))), (4, yI (n)), (0, yR 2073), (1, yI ((r : Int))), (2, yI ((a : Int))), (3, yI ((b : Int)))]) rfl (fun _ _ => rfl) rfl rfl ?_
              refine yG.iinc rfl (a := (k : Int)) rfl (L' := [(7, yI ((k : Int) + 1)), (6, yI (z31)), (8, yI (z28)), (5, yI (0)), (4, yI (n)), (0, yR 2073), (1, yI ((r : Int))), (2, yI ((a : Int))), (3, yI ((b : Int)))]) rfl ?_
              refine yG.goto rfl (t := 17) rfl ?_
              exact yG.mono ((STEP _ 0 z28 z31 h29 rfl (by omega) (by omega) N_h29 D_h29 L_h29 S_h29).sub (ySub.cons rfl (ySub.cons rfl (ySub.cons rfl (ySub.cons rfl (ySub.cons rfl (ySub.cons rfl (ySub.cons rfl (ySub.cons rfl (ySub.nil)))))))))) (by omega)
          · have c27 : z25 < 0 := c27
            refine yG.num (c := 1000000000) rfl (fun _ _ => rfl) (by decide) ?_
            refine yG.goto rfl (t := 96) rfl ?_
            refine yG.iadd rfl ?_
            obtain ⟨z32, e_z32⟩ : ∃ z : Int, z = z25 + 1000000000 := ⟨_, rfl⟩
            rw [← e_z32]
            refine yG.store1 xik (L' := [(8, yI (z32)), (5, yI (0)), (7, yI ((k : Int))), (6, yI (tp)), (4, yI (n)), (0, yR 2073), (1, yI ((r : Int))), (2, yI ((a : Int))), (3, yI ((b : Int)))]) rfl (fun _ _ => rfl) rfl rfl ?_
            refine yG.load xak rfl (fun _ _ => rfl) (v := yR 2073) rfl rfl ?_
            refine yG.getR T_hq (yF_big W) rfl rfl ?_
            refine yG.num (c := 256) rfl (fun _ _ => rfl) (by decide) ?_
            refine yG.load xik rfl (fun _ _ => rfl) (v := yI ((r : Int))) rfl rfl ?_
            refine yG.imul rfl ?_
            refine yG.load xik rfl (fun _ _ => rfl) (v := yI ((k : Int))) rfl rfl ?_
            refine yG.iadd rfl ?_
            refine yG.load xik rfl (fun _ _ => rfl) (v := yI (z32)) rfl rfl ?_
            refine yG.iast T_hq (yA_big W) (by decide) rfl (by omega) (by omega) ⟨by omega, by omega⟩ (by omega) (by omega) (fun h33 T_h33 b_h33 f_h33 y_h33 => ?_)
            have N_h33 := N_hq.put T_h33 b_h33 (by decide) f_h33
            have D_h33 : ∀ s j, j < 256 → yD h33 s j = if s = r ∧ j = k then z32 else yD hq s j := yput_D (r := r) (k := k) y_h33 (by omega) (by omega)
            have L_h33 : ∀ s, yL h33 s = yL hq s := fun s => yput_ne y_h33 (by decide) _
            have S_h33 : ∀ s, yS h33 s = yS hq s := fun s => yput_ne y_h33 (by decide) _
            refine yG.load xik rfl (fun _ _ => rfl) (v := yI (z32)) rfl rfl ?_
            refine yG.ifz rfl (t := 126) rfl ⟨by omega, by omega⟩ (fun c34 => ?_) (fun c34 => ?_)
            · have c34 : z32 ≤ 0 := c34
              refine yG.load xik rfl (fun _ _ => rfl) (v := yI (tp)) rfl rfl ?_
              refine yG.store1 xik (L' := [(6, yI (tp)), (8, yI (z32)), (5, yI (0)), (7, yI ((k : Int))), (4, yI (n)), (0, yR 2073), (1, yI ((r : Int))), (2, yI ((a : Int))), (3, yI ((b : Int)))]) rfl (fun _ _ => rfl) rfl rfl ?_
              refine yG.iinc rfl (a := (k : Int)) rfl (L' := [(7, yI ((k : Int) + 1)), (6, yI (tp)), (8, yI (z32)), (5, yI (0)), (4, yI (n)), (0, yR 2073), (1, yI ((r : Int))), (2, yI ((a : Int))), (3, yI ((b : Int)))]) rfl ?_
              refine yG.goto rfl (t := 17) rfl ?_
              exact yG.mono ((STEP _ 0 z32 tp h33 rfl (by omega) (by omega) N_h33 D_h33 L_h33 S_h33).sub (ySub.cons rfl (ySub.cons rfl (ySub.cons rfl (ySub.cons rfl (ySub.cons rfl (ySub.cons rfl (ySub.cons rfl (ySub.cons rfl (ySub.nil)))))))))) (by omega)
            · have c34 : z32 > 0 := c34
              refine yG.load xik rfl (fun _ _ => rfl) (v := yI ((k : Int))) rfl rfl ?_
              refine yG.num (c := 1) rfl (fun _ _ => rfl) (by decide) ?_
              refine yG.iadd rfl ?_
              refine yG.goto rfl (t := 128) rfl ?_
              obtain ⟨z35, e_z35⟩ : ∃ z : Int, z = (k : Int) + 1 := ⟨_, rfl⟩
              rw [← e_z35]
              refine yG.store1 xik (L' := [(6, yI (z35)), (8, yI (z32)), (5, yI (0)), (7, yI ((k : Int))), (4, yI (n)), (0, yR 2073), (1, yI ((r : Int))), (2, yI ((a : Int))), (3, yI ((b : Int)))]) rfl (fun _ _ => rfl) rfl rfl ?_
              refine yG.iinc rfl (a := (k : Int)) rfl (L' := [(7, yI ((k : Int) + 1)), (6, yI (z35)), (8, yI (z32)), (5, yI (0)), (4, yI (n)), (0, yR 2073), (1, yI ((r : Int))), (2, yI ((a : Int))), (3, yI ((b : Int)))]) rfl ?_
              refine yG.goto rfl (t := 17) rfl ?_
              exact yG.mono ((STEP _ 0 z32 z35 h33 rfl (by omega) (by omega) N_h33 D_h33 L_h33 S_h33).sub (ySub.cons rfl (ySub.cons rfl (ySub.cons rfl (ySub.cons rfl (ySub.cons rfl (ySub.cons rfl (ySub.cons rfl (ySub.cons rfl (ySub.nil)))))))))) (by omega)
        · have c26 : z25 < 0 := c26
          refine yG.num (c := 1) rfl (fun _ _ => rfl) (by decide) ?_
          refine yG.goto rfl (t := 81) rfl ?_
          refine yG.store1 xik (L' := [(5, yI (1)), (8, yI (z25)), (7, yI ((k : Int))), (6, yI (tp)), (4, yI (n)), (0, yR 2073), (1, yI ((r : Int))), (2, yI ((a : Int))), (3, yI ((b : Int)))]) rfl (fun _ _ => rfl) rfl rfl ?_
          refine yG.load xik rfl (fun _ _ => rfl) (v := yI (z25)) rfl rfl ?_
          refine yG.load xik rfl (fun _ _ => rfl) (v := yI (z25)) rfl rfl ?_
          refine yG.ifz rfl (t := 95) rfl ⟨by omega, by omega⟩ (fun c36 => ?_) (fun c36 => ?_)
          · have c36 : z25 ≥ 0 := c36
            refine yG.num (c := 0) rfl (fun _ _ => rfl) (by decide) ?_
            refine yG.iadd rfl ?_
            obtain ⟨z37, e_z37⟩ : ∃ z : Int, z = z25 + 0 := ⟨_, rfl⟩
            rw [← e_z37]
            refine yG.store1 xik (L' := [(8, yI (z37)), (5, yI (1)), (7, yI ((k : Int))), (6, yI (tp)), (4, yI (n)), (0, yR 2073), (1, yI ((r : Int))), (2, yI ((a : Int))), (3, yI ((b : Int)))]) rfl (fun _ _ => rfl) rfl rfl ?_
            refine yG.load xak rfl (fun _ _ => rfl) (v := yR 2073) rfl rfl ?_
            refine yG.getR T_hq (yF_big W) rfl rfl ?_
            refine yG.num (c := 256) rfl (fun _ _ => rfl) (by decide) ?_
            refine yG.load xik rfl (fun _ _ => rfl) (v := yI ((r : Int))) rfl rfl ?_
            refine yG.imul rfl ?_
            refine yG.load xik rfl (fun _ _ => rfl) (v := yI ((k : Int))) rfl rfl ?_
            refine yG.iadd rfl ?_
            refine yG.load xik rfl (fun _ _ => rfl) (v := yI (z37)) rfl rfl ?_
            refine yG.iast T_hq (yA_big W) (by decide) rfl (by omega) (by omega) ⟨by omega, by omega⟩ (by omega) (by omega) (fun h38 T_h38 b_h38 f_h38 y_h38 => ?_)
            have N_h38 := N_hq.put T_h38 b_h38 (by decide) f_h38
            have D_h38 : ∀ s j, j < 256 → yD h38 s j = if s = r ∧ j = k then z37 else yD hq s j := yput_D (r := r) (k := k) y_h38 (by omega) (by omega)
            have L_h38 : ∀ s, yL h38 s = yL hq s := fun s => yput_ne y_h38 (by decide) _
            have S_h38 : ∀ s, yS h38 s = yS hq s := fun s => yput_ne y_h38 (by decide) _
            refine yG.load xik rfl (fun _ _ => rfl) (v := yI (z37)) rfl rfl ?_
            refine yG.ifz rfl (t := 126) rfl ⟨by omega, by omega⟩ (fun c39 => ?_) (fun c39 => ?_)
            · have c39 : z37 ≤ 0 := c39
              refine yG.load xik rfl (fun _ _ => rfl) (v := yI (tp)) rfl rfl ?_
              refine yG.store1 xik (L' := [(6, yI (tp)), (8, yI (z37)), (5, yI (1)), (7, yI ((k : Int))), (4, yI (n)), (0, yR 2073), (1, yI ((r : Int))), (2, yI ((a : Int))), (3, yI ((b : Int)))]) rfl (fun _ _ => rfl) rfl rfl ?_
              refine yG.iinc rfl (a := (k : Int)) rfl (L' := [(7, yI ((k : Int) + 1)), (6, yI (tp)), (8, yI (z37)), (5, yI (1)), (4, yI (n)), (0, yR 2073), (1, yI ((r : Int))), (2, yI ((a : Int))), (3, yI ((b : Int)))]) rfl ?_
              refine yG.goto rfl (t := 17) rfl ?_
              exact yG.mono ((STEP _ 1 z37 tp h38 rfl (by omega) (by omega) N_h38 D_h38 L_h38 S_h38).sub (ySub.cons rfl (ySub.cons rfl (ySub.cons rfl (ySub.cons rfl (ySub.cons rfl (ySub.cons rfl (ySub.cons rfl (ySub.cons rfl (ySub.nil)))))))))) (by omega)
            · have c39 : z37 > 0 := c39
              refine yG.load xik rfl (fun _ _ => rfl) (v := yI ((k : Int))) rfl rfl ?_
              refine yG.num (c := 1) rfl (fun _ _ => rfl) (by decide) ?_
              refine yG.iadd rfl ?_
              refine yG.goto rfl (t := 128) rfl ?_
              obtain ⟨z40, e_z40⟩ : ∃ z : Int, z = (k : Int) + 1 := ⟨_, rfl⟩
              rw [← e_z40]
              refine yG.store1 xik (L' := [(6, yI (z40)), (8, yI (z37)), (5, yI (1)), (7, yI ((k : Int))), (4, yI (n)), (0, yR 2073), (1, yI ((r : Int))), (2, yI ((a : Int))), (3, yI ((b : Int)))]) rfl (fun _ _ => rfl) rfl rfl ?_
              refine yG.iinc rfl (a := (k : Int)) rfl (L' := [(7, yI ((k : Int) + 1)), (6, yI (z40)), (8, yI (z37)), (5, yI (1)), (4, yI (n)), (0, yR 2073), (1, yI ((r : Int))), (2, yI ((a : Int))), (3, yI ((b : Int)))]) rfl ?_
              refine yG.goto rfl (t := 17) rfl ?_
              exact yG.mono ((STEP _ 1 z37 z40 h38 rfl (by omega) (by omega) N_h38 D_h38 L_h38 S_h38).sub (ySub.cons rfl (ySub.cons rfl (ySub.cons rfl (ySub.cons rfl (ySub.cons rfl (ySub.cons rfl (ySub.cons rfl (ySub.cons rfl (ySub.nil)))))))))) (by omega)
          · have c36 : z25 < 0 := c36
            refine yG.num (c := 1000000000) rfl (fun _ _ => rfl) (by decide) ?_
            refine yG.goto rfl (t := 96) rfl ?_
            refine yG.iadd rfl ?_
            obtain ⟨z41, e_z41⟩ : ∃ z : Int, z = z25 + 1000000000 := ⟨_, rfl⟩
            rw [← e_z41]
            refine yG.store1 xik (L' := [(8, yI (z41)), (5, yI (1)), (7, yI ((k : Int))), (6, yI (tp)), (4, yI (n)), (0, yR 2073), (1, yI ((r : Int))), (2, yI ((a : Int))), (3, yI ((b : Int)))]) rfl (fun _ _ => rfl) rfl rfl ?_
            refine yG.load xak rfl (fun _ _ => rfl) (v := yR 2073) rfl rfl ?_
            refine yG.getR T_hq (yF_big W) rfl rfl ?_
            refine yG.num (c := 256) rfl (fun _ _ => rfl) (by decide) ?_
            refine yG.load xik rfl (fun _ _ => rfl) (v := yI ((r : Int))) rfl rfl ?_
            refine yG.imul rfl ?_
            refine yG.load xik rfl (fun _ _ => rfl) (v := yI ((k : Int))) rfl rfl ?_
            refine yG.iadd rfl ?_
            refine yG.load xik rfl (fun _ _ => rfl) (v := yI (z41)) rfl rfl ?_
            refine yG.iast T_hq (yA_big W) (by decide) rfl (by omega) (by omega) ⟨by omega, by omega⟩ (by omega) (by omega) (fun h42 T_h42 b_h42 f_h42 y_h42 => ?_)
            have N_h42 := N_hq.put T_h42 b_h42 (by decide) f_h42
            have D_h42 : ∀ s j, j < 256 → yD h42 s j = if s = r ∧ j = k then z41 else yD hq s j := yput_D (r := r) (k := k) y_h42 (by omega) (by omega)
            have L_h42 : ∀ s, yL h42 s = yL hq s := fun s => yput_ne y_h42 (by decide) _
            have S_h42 : ∀ s, yS h42 s = yS hq s := fun s => yput_ne y_h42 (by decide) _
            refine yG.load xik rfl (fun _ _ => rfl) (v := yI (z41)) rfl rfl ?_
            refine yG.ifz rfl (t := 126) rfl ⟨by omega, by omega⟩ (fun c43 => ?_) (fun c43 => ?_)
            · have c43 : z41 ≤ 0 := c43
              refine yG.load xik rfl (fun _ _ => rfl) (v := yI (tp)) rfl rfl ?_
              refine yG.store1 xik (L' := [(6, yI (tp)), (8, yI (z41)), (5, yI (1)), (7, yI ((k : Int))), (4, yI (n)), (0, yR 2073), (1, yI ((r : Int))), (2, yI ((a : Int))), (3, yI ((b : Int)))]) rfl (fun _ _ => rfl) rfl rfl ?_
              refine yG.iinc rfl (a := (k : Int)) rfl (L' := [(7, yI ((k : Int) + 1)), (6, yI (tp)), (8, yI (z41)), (5, yI (1)), (4, yI (n)), (0, yR 2073), (1, yI ((r : Int))), (2, yI ((a : Int))), (3, yI ((b : Int)))]) rfl ?_
              refine yG.goto rfl (t := 17) rfl ?_
              exact yG.mono ((STEP _ 1 z41 tp h42 rfl (by omega) (by omega) N_h42 D_h42 L_h42 S_h42).sub (ySub.cons rfl (ySub.cons rfl (ySub.cons rfl (ySub.cons rfl (ySub.cons rfl (ySub.cons rfl (ySub.cons rfl (ySub.cons rfl (ySub.nil)))))))))) (by omega)
            · have c43 : z41 > 0 := c43
              refine yG.load xik rfl (fun _ _ => rfl) (v := yI ((k : Int))) rfl rfl ?_
              refine yG.num (c := 1) rfl (fun _ _ => rfl) (by decide) ?_
              refine yG.iadd rfl ?_
              refine yG.goto rfl (t := 128) rfl ?_
              obtain ⟨z44, e_z44⟩ : ∃ z : Int, z = (k : Int) + 1 := ⟨_, rfl⟩
              rw [← e_z44]
              refine yG.store1 xik (L' := [(6, yI (z44)), (8, yI (z41)), (5, yI (1)), (7, yI ((k : Int))), (4, yI (n)), (0, yR 2073), (1, yI ((r : Int))), (2, yI ((a : Int))), (3, yI ((b : Int)))]) rfl (fun _ _ => rfl) rfl rfl ?_
              refine yG.iinc rfl (a := (k : Int)) rfl (L' := [(7, yI ((k : Int) + 1)), (6, yI (z44)), (8, yI (z41)), (5, yI (1)), (4, yI (n)), (0, yR 2073), (1, yI ((r : Int))), (2, yI ((a : Int))), (3, yI ((b : Int)))]) rfl ?_
              refine yG.goto rfl (t := 17) rfl ?_
              exact yG.mono ((STEP _ 1 z41 z44 h42 rfl (by omega) (by omega) N_h42 D_h42 L_h42 S_h42).sub (ySub.cons rfl (ySub.cons rfl (ySub.cons rfl (ySub.cons rfl (ySub.cons rfl (ySub.cons rfl (ySub.cons rfl (ySub.cons rfl (ySub.nil)))))))))) (by omega)
  refine yC.of (M := (xt_X13_lessSizes, (9, (0, (14, []))))) rfl rfl (N := 100 * 256 + 300) (yfuel (by omega)) ?_
  show yG 89 xfts (xcall 89 xfts xpools xms d) (xpool xp_RX13) [] xt_X13_lessSizes (yP 0 (yQ_size G hp r (ymag hp a - ymag hp b))) (100 * 256 + 300) 0 [(0, yR 2073), (1, yI ((r : Int))), (2, yI ((a : Int))), (3, yI ((b : Int)))] [] hp
  refine yG.load xak rfl (fun _ _ => rfl) (v := yR 2073) rfl rfl ?_
  refine yG.getR T_hp (yF_length W) rfl rfl ?_
  refine yG.load xik rfl (fun _ _ => rfl) (v := yI ((a : Int))) rfl rfl ?_
  refine yG.iald T_hp (yA_length W) rfl (by omega) (by omega) (fun z1 e_z1 i_z1 l_z1 u_z1 => ?_)
  have q_z1 : z1 = yL hp a := e_z1
  refine yG.store1 xik (L' := [(4, yI (z1)), (0, yR 2073), (1, yI ((r : Int))), (2, yI ((a : Int))), (3, yI ((b : Int)))]) rfl (fun _ _ => rfl) rfl rfl ?_
  refine yG.num (c := 0) rfl (fun _ _ => rfl) (by decide) ?_
  refine yG.store1 xik (L' := [(5, yI (0)), (4, yI (z1)), (0, yR 2073), (1, yI ((r : Int))), (2, yI ((a : Int))), (3, yI ((b : Int)))]) rfl (fun _ _ => rfl) rfl rfl ?_
  refine yG.num (c := 0) rfl (fun _ _ => rfl) (by decide) ?_
  refine yG.store1 xik (L' := [(6, yI (0)), (5, yI (0)), (4, yI (z1)), (0, yR 2073), (1, yI ((r : Int))), (2, yI ((a : Int))), (3, yI ((b : Int)))]) rfl (fun _ _ => rfl) rfl rfl ?_
  refine yG.num (c := 0) rfl (fun _ _ => rfl) (by decide) ?_
  refine yG.store1 xik (L' := [(7, yI (0)), (6, yI (0)), (5, yI (0)), (4, yI (z1)), (0, yR 2073), (1, yI ((r : Int))), (2, yI ((a : Int))), (3, yI ((b : Int)))]) rfl (fun _ _ => rfl) rfl rfl ?_
  exact yG.mono (H z1 (by omega) (z1).toNat 0 0 0 hp (by omega) (Or.inl rfl) (yNx.rf hT) (fun _ => rfl) (fun _ => rfl) (fun _ _ _ _ => rfl) rfl (by omega) (by omega) (fun h => absurd h (by omega)) (fun _ _ h => absurd h (by omega))) (by omega)
end YLess
