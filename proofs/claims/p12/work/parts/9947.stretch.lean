/-! ===== the reference: a size times a number, and another one more ===== -/
section YStretch
variable {G : zW} {hp : xH} {r : Nat} {by9 more : Int}
theorem ystr1 (x s b c f p cy z v m9 : Int) (h1 : v = f * b + cy) (h2 : z = v - c * 1000000000) (h3 : s + cy * p = x * b + m9) : s + z * p + c * (1000000000 * p) = (x + f * p) * b + m9 := by
  subst h1; subst h2
  have e : s = x * b + m9 - cy * p := by omega
  subst e
  grind
theorem ystr2 (s c z p cy : Int) (h : cy = c * 1000000000 + z) : s + z * p + c * (1000000000 * p) = s + cy * p := by
  subst h
  grind
theorem y_stretch (W : yMW G) (d : Nat) (hT : zTy G hp) (hr : r < 3412) (hb1 : 0 ≤ by9) (hb2 : by9 ≤ 2147483647) (hm1 : 0 ≤ more) (hm2 : more ≤ 2147483647) (hv : ymag hp r * by9 + more < yB 256) : yC (xcall 89 xfts xpools xms (d + 2)) 522 [yR 2073, yI (r : Int), yJ by9, yJ more] hp (yQ_val G [2074, 2075, 2076] hp r (ymag hp r * by9 + more)) := by
  have T_hp := hT
  obtain ⟨bl1, bl2⟩ := yL_bd W hT hr
  have ga := yFig_of W hT hr
  obtain ⟨n0, hn⟩ : ∃ n : Nat, yL hp r = (n : Int) := ⟨(yL hp r).toNat, by omega⟩
  have mga : ymag hp r = ysum (yD hp r) n0 := by show ysum _ (yL hp r).toNat = _; rw [hn]; rfl
  obtain ⟨V, hV⟩ : ∃ V : Int, ymag hp r * by9 + more = V := ⟨_, rfl⟩
  rw [hV]
  rw [hV] at hv
  have H2 : ∀ m n : Nat, ∀ cy : Int, ∀ hq, cy < (m : Int) → yNx G [2074, 2075, 2076] hp hq → (∀ s, s ≠ r → ySm hp hq s) → n ≤ 256 → 0 ≤ cy → cy ≤ 2147483647 → ysum (yD hq r) n + cy * yB n = V → yG 89 xfts (xcall 89 xfts xpools xms (d + 1)) (xpool xp_RX13) [] xt_X13_stretch (yP 0 (yQ_val G [2074, 2075, 2076] hp r (V))) (60 * m + 300) 80 [(8, yI ((n : Int))), (6, yJ (cy)), (0, yR 2073), (1, yI ((r : Int))), (2, yJ (by9)), (4, yJ (more))] [] hq := by
    intro m
    induction m with
    | zero => intros; exfalso; omega
    | succ m ih =>
      intro n cy hq hm N_hq O_hq I2 I5 I6 I7
      have T_hq := N_hq.1
      have gq := yFig_of W T_hq hr
      have sb := ysum_bd (gq.sub I2)
      have bn := yB_pos n
      refine yG.load xlk2 rfl (fun _ _ => rfl) (v := yJ (cy)) rfl rfl ?_
      refine yG.numl (c := 0) rfl (fun _ _ => rfl) (by decide) ?_
      refine yG.lcmp rfl ⟨by omega, by omega⟩ ⟨by omega, by omega⟩ (fun z101 e_z101 => ?_)
      refine yG.ifz rfl (t := 121) rfl ⟨by omega, by omega⟩ (fun c102 => ?_) (fun c102 => ?_)
      · have c102 : z101 ≤ 0 := c102
        refine yG.load xak rfl (fun _ _ => rfl) (v := yR 2073) rfl rfl ?_
        refine yG.load xik rfl (fun _ _ => rfl) (v := yI ((r : Int))) rfl rfl ?_
        refine yG.load xik rfl (fun _ _ => rfl) (v := yI ((n : Int))) rfl rfl ?_
        refine yG.invV (rest := []) T_hq W.1 rfl rfl rfl rfl (y_finish (r := r) (n := n) W d T_hq hr (by omega)) ?_
        intro rv h103 q1
        obtain ⟨e1, M1, O1, V1, n1⟩ := q1
        subst e1
        have T_h103 := M1.1
        have N_h103 := N_hq.tr M1
        show yG _ _ _ _ _ _ _ _ _ _ [] _
        refine yG.ret rfl (fun _ _ => rfl) ?_
        have cz : cy = 0 := by omega
        rw [cz, Int.zero_mul, Int.add_zero] at I7
        exact yP.void ⟨rfl, N_h103, fun s h9 => (O_hq s h9).tr (O1 s h9), by rw [V1, I7], n1⟩
      · have c102 : z101 > 0 := c102
        have cy1 : 1 ≤ cy := by omega
        have n256 : n < 256 := by
          rcases Nat.lt_or_ge n 256 with h | h
          · exact h
          · exfalso
            have : 1 * yB n ≤ cy * yB n := Int.mul_le_mul_of_nonneg_right cy1 (by omega)
            have := yB_mono h
            omega
        refine yG.load xak rfl (fun _ _ => rfl) (v := yR 2073) rfl rfl ?_
        refine yG.getR T_hq (yF_big W) rfl rfl ?_
        refine yG.num (c := 256) rfl (fun _ _ => rfl) (by decide) ?_
        refine yG.load xik rfl (fun _ _ => rfl) (v := yI ((r : Int))) rfl rfl ?_
        refine yG.imul rfl ?_
        refine yG.load xik rfl (fun _ _ => rfl) (v := yI ((n : Int))) rfl rfl ?_
        refine yG.iadd rfl ?_
        refine yG.load xlk2 rfl (fun _ _ => rfl) (v := yJ (cy)) rfl rfl ?_
        refine yG.numl (c := 1000000000) rfl (fun _ _ => rfl) (by decide) ?_
        refine yG.lrem rfl ⟨by omega, by omega⟩ ⟨by omega, by omega⟩ (by omega) (by omega) ?_
        refine yG.l2i rfl ?_
        refine yG.iast T_hq (yA_big W) (by decide) rfl (by omega) (by omega) ⟨by omega, by omega⟩ (by omega) (by omega) (fun h104 T_h104 b_h104 f_h104 y_h104 => ?_)
        have N_h104 := N_hq.put T_h104 b_h104 (by decide) f_h104
        have D_h104 : ∀ s j, j < 256 → yD h104 s j = if s = r ∧ j = n then (cy) % (1000000000) else yD hq s j := yput_D (r := r) (k := n) y_h104 (by omega) (by omega)
        have L_h104 : ∀ s, yL h104 s = yL hq s := fun s => yput_ne y_h104 (by decide) _
        have S_h104 : ∀ s, yS h104 s = yS hq s := fun s => yput_ne y_h104 (by decide) _
        refine yG.load xlk2 rfl (fun _ _ => rfl) (v := yJ (cy)) rfl rfl ?_
        refine yG.numl (c := 1000000000) rfl (fun _ _ => rfl) (by decide) ?_
        refine yG.ldiv rfl ⟨by omega, by omega⟩ ⟨by omega, by omega⟩ (by omega) (by omega) ?_
        obtain ⟨z105, e_z105⟩ : ∃ z : Int, z = (cy) / (1000000000) := ⟨_, rfl⟩
        rw [← e_z105]
        refine yG.store2 xlk2 (L' := [(6, yJ (z105)), (8, yI ((n : Int))), (0, yR 2073), (1, yI ((r : Int))), (2, yJ (by9)), (4, yJ (more))]) rfl (fun _ _ => rfl) rfl rfl ?_
        refine yG.iinc rfl (a := (n : Int)) rfl (L' := [(8, yI ((n : Int) + 1)), (6, yJ (z105)), (0, yR 2073), (1, yI ((r : Int))), (2, yJ (by9)), (4, yJ (more))]) rfl ?_
        refine yG.goto rfl (t := 80) rfl ?_
        refine yG.mono ((ih (n + 1) z105 h104 (by omega) N_h104 (fun s h9 => (O_hq s h9).tr ⟨L_h104 s, S_h104 s, fun k9 hk9 => by rw [D_h104 s k9 hk9, if_neg (fun e => h9 e.1)]⟩) (by omega) (by omega) (by omega) ?_).sub (ySub.cons rfl (ySub.cons rfl (ySub.cons rfl (ySub.cons rfl (ySub.cons rfl (ySub.cons rfl (ySub.nil)))))))) (by omega)
        rw [ysum_succ, yB_succ, D_h104 r n (by omega), if_pos ⟨rfl, rfl⟩, show ysum (yD h104 r) n = ysum (yD hq r) n from ysum_congr fun j hj => by rw [D_h104 r j (by omega), if_neg (by omega)], ← I7]
        exact ystr2 _ _ _ _ _ (by omega)
  have H : ∀ m k : Nat, ∀ cy : Int, ∀ hq, m + k = n0 → yNx G [2074, 2075, 2076] hp hq → (∀ s, s ≠ r → ySm hp hq s) → yL hq r = yL hp r → (∀ j, k ≤ j → j < 256 → yD hq r j = yD hp r j) → 0 ≤ cy → cy ≤ 2147483647 → ysum (yD hq r) k + cy * yB k = ysum (yD hp r) k * by9 + more → yG 89 xfts (xcall 89 xfts xpools xms (d + 1)) (xpool xp_RX13) [] xt_X13_stretch (yP 0 (yQ_val G [2074, 2075, 2076] hp r (V))) (60 * m + 60 * 2147483648 + 400) 15 [(9, yI ((k : Int))), (8, yI ((n0 : Int))), (6, yJ (cy)), (0, yR 2073), (1, yI ((r : Int))), (2, yJ (by9)), (4, yJ (more))] [] hq := by
    intro m
    induction m with
    | zero =>
      intro k cy hq hk N_hq O_hq I2 I3 I5 I6 I7
      have T_hq := N_hq.1
      have ek : k = n0 := by omega
      subst ek
      refine yG.load xik rfl (fun _ _ => rfl) (v := yI ((k : Int))) rfl rfl ?_
      refine yG.load xik rfl (fun _ _ => rfl) (v := yI ((k : Int))) rfl rfl ?_
      refine yG.icmp rfl (t := 80) rfl ⟨by omega, by omega⟩ ⟨by omega, by omega⟩ (fun c11 => ?_) (fun c11 => ?_)
      · have c11 : (k : Int) ≥ (k : Int) := c11
        exact yG.mono ((H2 2147483648 k cy hq (by omega) N_hq O_hq (by omega) I5 I6 (by rw [I7, ← hV, mga])).sub (ySub.cons rfl (ySub.cons rfl (ySub.cons rfl (ySub.cons rfl (ySub.cons rfl (ySub.cons rfl (ySub.nil)))))))) (by omega)
      · have c11 : (k : Int) < (k : Int) := c11
        exfalso; omega
    | succ m ih =>
      intro k cy hq hk N_hq O_hq I2 I3 I5 I6 I7
      have T_hq := N_hq.1
      have ax := ga k (by omega)
      have v1 : 0 ≤ yD hp r k * by9 := Int.mul_nonneg ax.1 hb1
      have v2 : yD hp r k * by9 ≤ 999999999 * by9 := Int.mul_le_mul_of_nonneg_right ax.2 hb1
      refine yG.load xik rfl (fun _ _ => rfl) (v := yI ((k : Int))) rfl rfl ?_
      refine yG.load xik rfl (fun _ _ => rfl) (v := yI ((n0 : Int))) rfl rfl ?_
      refine yG.icmp rfl (t := 80) rfl ⟨by omega, by omega⟩ ⟨by omega, by omega⟩ (fun c31 => ?_) (fun c31 => ?_)
      · have c31 : (k : Int) ≥ (n0 : Int) := c31
        exfalso; omega
      · have c31 : (k : Int) < (n0 : Int) := c31
        refine yG.load xak rfl (fun _ _ => rfl) (v := yR 2073) rfl rfl ?_
        refine yG.getR T_hq (yF_big W) rfl rfl ?_
        refine yG.num (c := 256) rfl (fun _ _ => rfl) (by decide) ?_
        refine yG.load xik rfl (fun _ _ => rfl) (v := yI ((r : Int))) rfl rfl ?_
        refine yG.imul rfl ?_
        refine yG.load xik rfl (fun _ _ => rfl) (v := yI ((k : Int))) rfl rfl ?_
        refine yG.iadd rfl ?_
        refine yG.iald T_hq (yA_big W) rfl (by omega) (by omega) (fun z32 e_z32 i_z32 l_z32 u_z32 => ?_)
        have q_z32 : z32 = yD hq r (k) := e_z32.trans (yBig (by omega))
        have r_z32 : z32 = yD hp r k := by rw [q_z32]; exact I3 k (Nat.le_refl _) (by omega)
        rw [r_z32]
        refine yG.i2l rfl ⟨by omega, by omega⟩ ?_
        refine yG.load xlk2 rfl (fun _ _ => rfl) (v := yJ (by9)) rfl rfl ?_
        refine yG.lmul rfl ?_
        refine yG.load xlk2 rfl (fun _ _ => rfl) (v := yJ (cy)) rfl rfl ?_
        refine yG.ladd rfl ?_
        obtain ⟨z33, e_z33⟩ : ∃ z : Int, z = ((yD hp r k) * by9) + cy := ⟨_, rfl⟩
        rw [← e_z33]
        refine yG.store2 xlk2 (L' := [(10, yJ (z33)), (9, yI ((k : Int))), (8, yI ((n0 : Int))), (6, yJ (cy)), (0, yR 2073), (1, yI ((r : Int))), (2, yJ (by9)), (4, yJ (more))]) rfl (fun _ _ => rfl) rfl rfl ?_
        refine yG.load xlk2 rfl (fun _ _ => rfl) (v := yJ (z33)) rfl rfl ?_
        refine yG.numl (c := 1000000000) rfl (fun _ _ => rfl) (by decide) ?_
        refine yG.ldiv rfl ⟨by omega, by omega⟩ ⟨by omega, by omega⟩ (by omega) (by omega) ?_
        obtain ⟨z34, e_z34⟩ : ∃ z : Int, z = (z33) / (1000000000) := ⟨_, rfl⟩
        rw [← e_z34]
        refine yG.store2 xlk2 (L' := [(6, yJ (z34)), (10, yJ (z33)), (9, yI ((k : Int))), (8, yI ((n0 : Int))), (0, yR 2073), (1, yI ((r : Int))), (2, yJ (by9)), (4, yJ (more))]) rfl (fun _ _ => rfl) rfl rfl ?_
        refine yG.load xak rfl (fun _ _ => rfl) (v := yR 2073) rfl rfl ?_
        refine yG.getR T_hq (yF_big W) rfl rfl ?_
        refine yG.num (c := 256) rfl (fun _ _ => rfl) (by decide) ?_
        refine yG.load xik rfl (fun _ _ => rfl) (v := yI ((r : Int))) rfl rfl ?_
        refine yG.imul rfl ?_
        refine yG.load xik rfl (fun _ _ => rfl) (v := yI ((k : Int))) rfl rfl ?_
        refine yG.iadd rfl ?_
        refine yG.load xlk2 rfl (fun _ _ => rfl) (v := yJ (z33)) rfl rfl ?_
        refine yG.load xlk2 rfl (fun _ _ => rfl) (v := yJ (z34)) rfl rfl ?_
        refine yG.numl (c := 1000000000) rfl (fun _ _ => rfl) (by decide) ?_
        refine yG.lmul rfl ?_
        refine yG.lsub rfl ?_
        refine yG.l2i rfl ?_
        refine yG.iast T_hq (yA_big W) (by decide) rfl (by omega) (by omega) ⟨by omega, by omega⟩ (by omega) (by omega) (fun h35 T_h35 b_h35 f_h35 y_h35 => ?_)
        have N_h35 := N_hq.put T_h35 b_h35 (by decide) f_h35
        have D_h35 : ∀ s j, j < 256 → yD h35 s j = if s = r ∧ j = k then z33 - (z34 * 1000000000) else yD hq s j := yput_D (r := r) (k := k) y_h35 (by omega) (by omega)
        have L_h35 : ∀ s, yL h35 s = yL hq s := fun s => yput_ne y_h35 (by decide) _
        have S_h35 : ∀ s, yS h35 s = yS hq s := fun s => yput_ne y_h35 (by decide) _
        refine yG.iinc rfl (a := (k : Int)) rfl (L' := [(9, yI ((k : Int) + 1)), (6, yJ (z34)), (10, yJ (z33)), (8, yI ((n0 : Int))), (0, yR 2073), (1, yI ((r : Int))), (2, yJ (by9)), (4, yJ (more))]) rfl ?_
        refine yG.goto rfl (t := 15) rfl ?_
        refine yG.mono ((ih (k + 1) z34 h35 (by omega) N_h35 (fun s h9 => (O_hq s h9).tr ⟨L_h35 s, S_h35 s, fun k9 hk9 => by rw [D_h35 s k9 hk9, if_neg (fun e => h9 e.1)]⟩) ((L_h35 r).trans I2) (fun j hj1 hj2 => by rw [D_h35 r j hj2, if_neg (by omega)]; exact I3 j (by omega) hj2) (by omega) (by omega) ?_).sub (ySub.cons rfl (ySub.cons rfl (ySub.cons rfl (ySub.cons rfl (ySub.cons rfl (ySub.cons rfl (ySub.cons rfl (ySub.nil))))))))) (by omega)
        rw [ysum_succ, ysum_succ, yB_succ, D_h35 r k (by omega), if_pos ⟨rfl, rfl⟩, show ysum (yD h35 r) k = ysum (yD hq r) k from ysum_congr fun j hj => by rw [D_h35 r j (by omega), if_neg (by omega)]]
        exact ystr1 _ _ _ _ _ _ _ _ _ _ e_z33 rfl I7
  refine yC.of (M := (xt_X13_stretch, (12, (0, (14, []))))) rfl rfl (N := 60 * n0 + 60 * 2147483648 + 800) (yfuel (by omega)) ?_
  show yG 89 xfts (xcall 89 xfts xpools xms (d + 1)) (xpool xp_RX13) [] xt_X13_stretch (yP 0 (yQ_val G [2074, 2075, 2076] hp r (V))) (60 * n0 + 60 * 2147483648 + 800) 0 [(0, yR 2073), (1, yI ((r : Int))), (2, yJ (by9)), (4, yJ (more))] [] hp
  refine yG.load xlk2 rfl (fun _ _ => rfl) (v := yJ (more)) rfl rfl ?_
  refine yG.store2 xlk2 (L' := [(6, yJ (more)), (0, yR 2073), (1, yI ((r : Int))), (2, yJ (by9)), (4, yJ (more))]) rfl (fun _ _ => rfl) rfl rfl ?_
  refine yG.load xak rfl (fun _ _ => rfl) (v := yR 2073) rfl rfl ?_
  refine yG.getR T_hp (yF_length W) rfl rfl ?_
  refine yG.load xik rfl (fun _ _ => rfl) (v := yI ((r : Int))) rfl rfl ?_
  refine yG.iald T_hp (yA_length W) rfl (by omega) (by omega) (fun z61 e_z61 i_z61 l_z61 u_z61 => ?_)
  have q_z61 : z61 = yL hp r := e_z61
  refine yG.store1 xik (L' := [(8, yI (z61)), (6, yJ (more)), (0, yR 2073), (1, yI ((r : Int))), (2, yJ (by9)), (4, yJ (more))]) rfl (fun _ _ => rfl) rfl rfl ?_
  refine yG.num (c := 0) rfl (fun _ _ => rfl) (by decide) ?_
  refine yG.store1 xik (L' := [(9, yI (0)), (8, yI (z61)), (6, yJ (more)), (0, yR 2073), (1, yI ((r : Int))), (2, yJ (by9)), (4, yJ (more))]) rfl (fun _ _ => rfl) rfl rfl ?_
  have en : z61 = (n0 : Int) := by omega
  rw [en]
  exact yG.mono ((H n0 0 more hp rfl (yNx.rf hT) (fun s _ => ySm.rf hp s) rfl (fun _ _ _ => rfl) hm1 hm2 (by show (0 : Int) + more * 1 = 0 * _ + more; rw [Int.zero_mul, Int.mul_one])).sub (ySub.cons rfl (ySub.cons rfl (ySub.cons rfl (ySub.cons rfl (ySub.cons rfl (ySub.cons rfl (ySub.cons rfl (ySub.nil))))))))) (by omega)
end YStretch
