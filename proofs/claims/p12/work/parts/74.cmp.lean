/-! ===== the reference: registers compared ===== -/
section YCmp
variable {G : zW} {hp : xH} {a b : Nat}
def ysgn (x y z : Int) : Prop := (x < y ∧ z = -1) ∨ (x = y ∧ z = 0) ∨ (y < x ∧ z = 1)
def yQ_cmps (hp : xH) (a b : Nat) (rv : Option xA) (hp' : xH) : Prop := hp' = hp ∧ ∃ z : Int, rv = some (yI z) ∧ ysgn (ymag hp a) (ymag hp b) z
theorem y_compareSizes (W : yMW G) (d : Nat) (hT : zTy G hp) (ha : a < 3412) (hb : b < 3412) (ta : yTop hp a) (tb : yTop hp b) : yC (xcall 89 xfts xpools xms (d + 1)) 374 [yR 2073, yI (a : Int), yI (b : Int)] hp (yQ_cmps hp a b) := by
  have T_hp := hT
  obtain ⟨bl1, bl2⟩ := yL_bd W hT ha
  obtain ⟨bl3, bl4⟩ := yL_bd W hT hb
  have ga := yFig_len W hT ha
  have gb := yFig_len W hT hb
  have H : yL hp a = yL hp b → ∀ k : Nat, ∀ i : Int, i = (k : Int) - 1 → (k : Int) ≤ yL hp a → (∀ j, k ≤ j → (j : Int) < yL hp a → yD hp a j = yD hp b j) → yG 89 xfts (xcall 89 xfts xpools xms d) (xpool xp_RX13) [] xt_X13_compareSizes (yP 1 (yQ_cmps hp a b)) (60 * k + 100) 45 [(3, yI (i)), (0, yR 2073), (1, yI ((a : Int))), (2, yI ((b : Int)))] [] hp := by
    intro hl k
    induction k with
    | zero =>
      intro i hi _ he
      refine yG.load xik rfl (fun _ _ => rfl) (v := yI (i)) rfl rfl ?_
      refine yG.ifz rfl (t := 103) rfl ⟨by omega, by omega⟩ (fun c => ?_) (fun c => absurd (show 0 ≤ i from c) (by omega))
      refine yG.num (c := 0) rfl (fun _ _ => rfl) (by decide) ?_
      refine yG.ret rfl (fun _ _ => rfl) ?_
      exact yP.int ⟨by decide, by decide⟩ ⟨rfl, 0, rfl, Or.inr (Or.inl ⟨by unfold ymag; rw [hl]; exact ysum_congr fun j hj => he j (Nat.zero_le _) (by omega), rfl⟩)⟩
    | succ k ih =>
      intro i hi hk he
      refine yG.load xik rfl (fun _ _ => rfl) (v := yI (i)) rfl rfl ?_
      refine yG.ifz rfl (t := 103) rfl ⟨by omega, by omega⟩ (fun c1 => ?_) (fun c1 => ?_)
      · have c1 : i < 0 := c1
        refine yG.num (c := 0) rfl (fun _ _ => rfl) (by decide) ?_
        refine yG.ret rfl (fun _ _ => rfl) ?_
        exact absurd hi (by omega)
      · have c1 : i ≥ 0 := c1
        refine yG.load xak rfl (fun _ _ => rfl) (v := yR 2073) rfl rfl ?_
        refine yG.getR T_hp (yF_big W) rfl rfl ?_
        refine yG.num (c := 256) rfl (fun _ _ => rfl) (by decide) ?_
        refine yG.load xik rfl (fun _ _ => rfl) (v := yI ((a : Int))) rfl rfl ?_
        refine yG.imul rfl ?_
        refine yG.load xik rfl (fun _ _ => rfl) (v := yI (i)) rfl rfl ?_
        refine yG.iadd rfl ?_
        refine yG.iald T_hp (yA_big W) rfl (by omega) (by omega) (fun z2 e_z2 i_z2 l_z2 u_z2 => ?_)
        have q_z2 : z2 = yD hp a (k) := e_z2.trans (yBig (by omega))
        refine yG.store1 xik (L' := [(4, yI (z2)), (3, yI (i)), (0, yR 2073), (1, yI ((a : Int))), (2, yI ((b : Int)))]) rfl (fun _ _ => rfl) rfl rfl ?_
        refine yG.load xak rfl (fun _ _ => rfl) (v := yR 2073) rfl rfl ?_
        refine yG.getR T_hp (yF_big W) rfl rfl ?_
        refine yG.num (c := 256) rfl (fun _ _ => rfl) (by decide) ?_
        refine yG.load xik rfl (fun _ _ => rfl) (v := yI ((b : Int))) rfl rfl ?_
        refine yG.imul rfl ?_
        refine yG.load xik rfl (fun _ _ => rfl) (v := yI (i)) rfl rfl ?_
        refine yG.iadd rfl ?_
        refine yG.iald T_hp (yA_big W) rfl (by omega) (by omega) (fun z3 e_z3 i_z3 l_z3 u_z3 => ?_)
        have q_z3 : z3 = yD hp b (k) := e_z3.trans (yBig (by omega))
        refine yG.store1 xik (L' := [(5, yI (z3)), (4, yI (z2)), (3, yI (i)), (0, yR 2073), (1, yI ((a : Int))), (2, yI ((b : Int)))]) rfl (fun _ _ => rfl) rfl rfl ?_
        refine yG.load xik rfl (fun _ _ => rfl) (v := yI (z2)) rfl rfl ?_
        refine yG.load xik rfl (fun _ _ => rfl) (v := yI (z3)) rfl rfl ?_
        refine yG.icmp rfl (t := 97) rfl ⟨by omega, by omega⟩ ⟨by omega, by omega⟩ (fun c4 => ?_) (fun c4 => ?_)
        · have c4 : z2 = z3 := c4
          refine yG.iinc rfl (a := i) rfl (L' := [(3, yI (i + (-1))), (5, yI (z3)), (4, yI (z2)), (0, yR 2073), (1, yI ((a : Int))), (2, yI ((b : Int)))]) rfl ?_
          refine yG.goto rfl (t := 45) rfl ?_
          exact yG.mono ((ih (i + (-1)) (by omega) (by omega) fun j h1 h2 => by
              by_cases e : j = k
              · rw [e]; omega
              · exact he j (by omega) h2).sub (ySub.cons rfl (ySub.cons rfl (ySub.cons rfl (ySub.cons rfl (ySub.nil)))))) (by omega)
        · have c4 : z2 ≠ z3 := c4
          refine yG.load xik rfl (fun _ _ => rfl) (v := yI (z2)) rfl rfl ?_
          refine yG.load xik rfl (fun _ _ => rfl) (v := yI (z3)) rfl rfl ?_
          refine yG.icmp rfl (t := 95) rfl ⟨by omega, by omega⟩ ⟨by omega, by omega⟩ (fun c5 => ?_) (fun c5 => ?_)
          · have c5 : z2 ≥ z3 := c5
            refine yG.num (c := 1) rfl (fun _ _ => rfl) (by decide) ?_
            refine yG.ret rfl (fun _ _ => rfl) ?_
            exact yP.int ⟨by decide, by decide⟩ ⟨rfl, 1, rfl, Or.inr (Or.inr ⟨by unfold ymag; rw [← hl] at gb ⊢; exact ysum_first (k := k) gb ga (by omega) (fun j h1 h2 => (he j (by omega) (by omega)).symm) (by omega), rfl⟩)⟩
          · have c5 : z2 < z3 := c5
            refine yG.num (c := -1) rfl (fun _ _ => rfl) (by decide) ?_
            refine yG.goto rfl (t := 96) rfl ?_
            refine yG.ret rfl (fun _ _ => rfl) ?_
            exact yP.int ⟨by decide, by decide⟩ ⟨rfl, -1, rfl, Or.inl ⟨by unfold ymag; rw [← hl] at gb ⊢; exact ysum_first (k := k) ga gb (by omega) (fun j h1 h2 => he j (by omega) (by omega)) (by omega), rfl⟩⟩
  refine yC.of (M := (xt_X13_compareSizes, (6, (1, (14, []))))) rfl rfl (N := 60 * (yL hp a).toNat + 300) (yfuel (by omega)) ?_
  show yG 89 xfts (xcall 89 xfts xpools xms d) (xpool xp_RX13) [] xt_X13_compareSizes (yP 1 (yQ_cmps hp a b)) (60 * (yL hp a).toNat + 300) 0 [(0, yR 2073), (1, yI ((a : Int))), (2, yI ((b : Int)))] [] hp
  refine yG.load xak rfl (fun _ _ => rfl) (v := yR 2073) rfl rfl ?_
  refine yG.getR T_hp (yF_length W) rfl rfl ?_
  refine yG.load xik rfl (fun _ _ => rfl) (v := yI ((a : Int))) rfl rfl ?_
  refine yG.iald T_hp (yA_length W) rfl (by omega) (by omega) (fun z1 e_z1 i_z1 l_z1 u_z1 => ?_)
  have q_z1 : z1 = yL hp a := e_z1
  refine yG.load xak rfl (fun _ _ => rfl) (v := yR 2073) rfl rfl ?_
  refine yG.getR T_hp (yF_length W) rfl rfl ?_
  refine yG.load xik rfl (fun _ _ => rfl) (v := yI ((b : Int))) rfl rfl ?_
  refine yG.iald T_hp (yA_length W) rfl (by omega) (by omega) (fun z2 e_z2 i_z2 l_z2 u_z2 => ?_)
  have q_z2 : z2 = yL hp b := e_z2
  refine yG.icmp rfl (t := 36) rfl ⟨by omega, by omega⟩ ⟨by omega, by omega⟩ (fun c3 => ?_) (fun c3 => ?_)
  · have c3 : z1 = z2 := c3
    refine yG.load xak rfl (fun _ _ => rfl) (v := yR 2073) rfl rfl ?_
    refine yG.getR T_hp (yF_length W) rfl rfl ?_
    refine yG.load xik rfl (fun _ _ => rfl) (v := yI ((a : Int))) rfl rfl ?_
    refine yG.iald T_hp (yA_length W) rfl (by omega) (by omega) (fun z4 e_z4 i_z4 l_z4 u_z4 => ?_)
    have q_z4 : z4 = yL hp a := e_z4
    refine yG.num (c := 1) rfl (fun _ _ => rfl) (by decide) ?_
    refine yG.isub rfl ?_
    obtain ⟨z5, e_z5⟩ : ∃ z : Int, z = z4 - 1 := ⟨_, rfl⟩
    rw [← e_z5]
    refine yG.store1 xik (L' := [(3, yI (z5)), (0, yR 2073), (1, yI ((a : Int))), (2, yI ((b : Int)))]) rfl (fun _ _ => rfl) rfl rfl ?_
    exact yG.mono (H (by omega) (yL hp a).toNat _ (by omega) (by omega) fun j h1 h2 => absurd h1 (by omega)) (by omega)
  · have c3 : z1 ≠ z2 := c3
    refine yG.load xak rfl (fun _ _ => rfl) (v := yR 2073) rfl rfl ?_
    refine yG.getR T_hp (yF_length W) rfl rfl ?_
    refine yG.load xik rfl (fun _ _ => rfl) (v := yI ((a : Int))) rfl rfl ?_
    refine yG.iald T_hp (yA_length W) rfl (by omega) (by omega) (fun z6 e_z6 i_z6 l_z6 u_z6 => ?_)
    have q_z6 : z6 = yL hp a := e_z6
    refine yG.load xak rfl (fun _ _ => rfl) (v := yR 2073) rfl rfl ?_
    refine yG.getR T_hp (yF_length W) rfl rfl ?_
    refine yG.load xik rfl (fun _ _ => rfl) (v := yI ((b : Int))) rfl rfl ?_
    refine yG.iald T_hp (yA_length W) rfl (by omega) (by omega) (fun z7 e_z7 i_z7 l_z7 u_z7 => ?_)
    have q_z7 : z7 = yL hp b := e_z7
    refine yG.icmp rfl (t := 34) rfl ⟨by omega, by omega⟩ ⟨by omega, by omega⟩ (fun c8 => ?_) (fun c8 => ?_)
    · have c8 : z6 ≥ z7 := c8
      refine yG.num (c := 1) rfl (fun _ _ => rfl) (by decide) ?_
      refine yG.ret rfl (fun _ _ => rfl) ?_
      exact yP.int ⟨by decide, by decide⟩ ⟨rfl, 1, rfl, Or.inr (Or.inr ⟨ysum_short gb ga (by omega) (ta (by omega)), rfl⟩)⟩
    · have c8 : z6 < z7 := c8
      refine yG.num (c := -1) rfl (fun _ _ => rfl) (by decide) ?_
      refine yG.goto rfl (t := 35) rfl ?_
      refine yG.ret rfl (fun _ _ => rfl) ?_
      exact yP.int ⟨by decide, by decide⟩ ⟨rfl, -1, rfl, Or.inl ⟨ysum_short ga gb (by omega) (tb (by omega)), rfl⟩⟩
def yQ_cmp (hp : xH) (a b : Nat) (rv : Option xA) (hp' : xH) : Prop := hp' = hp ∧ ∃ z : Int, rv = some (yI z) ∧ ysgn (yval hp a) (yval hp b) z
theorem y_compare (W : yMW G) (d : Nat) (hT : zTy G hp) (ha : a < 3412) (hb : b < 3412) (na : yNorm hp a) (nb : yNorm hp b) : yC (xcall 89 xfts xpools xms (d + 2)) 373 [yR 2073, yI (a : Int), yI (b : Int)] hp (yQ_cmp hp a b) := by
  have T_hp := hT
  obtain ⟨bl1, bl2⟩ := yS_bd W hT ha
  obtain ⟨bl3, bl4⟩ := yS_bd W hT hb
  have pa : 0 ≤ ymag hp a ∧ (yS hp a ≠ 0 → 0 < ymag hp a) := ⟨(ymag_bd W hT ha).1, fun h => (ymag_pos W hT ha (by have := yL_bd W hT ha; have := na.2; omega) na.1).2⟩
  have pb : 0 ≤ ymag hp b ∧ (yS hp b ≠ 0 → 0 < ymag hp b) := ⟨(ymag_bd W hT hb).1, fun h => (ymag_pos W hT hb (by have := yL_bd W hT hb; have := nb.2; omega) nb.1).2⟩
  obtain ⟨pa1, pa2⟩ := pa
  obtain ⟨pb1, pb2⟩ := pb
  have key : ∀ s t m n z : Int, -1 ≤ s → s ≤ 1 → -1 ≤ t → t ≤ 1 → 0 ≤ m → 0 ≤ n → (s ≠ 0 → 0 < m) → (t ≠ 0 → 0 < n) → (s < t ∧ z = -1 ∨ t < s ∧ z = 1 ∨ s = t ∧ ∃ w, ysgn m n w ∧ z = s * w) → ysgn (s * m) (t * n) z := by
    intro s t m n z h1 h2 h3 h4 h5 h6 h7 h8 h
    unfold ysgn at h ⊢
    have hs : s = -1 ∨ s = 0 ∨ s = 1 := by omega
    have ht : t = -1 ∨ t = 0 ∨ t = 1 := by omega
    rcases h with h | h | ⟨h, w, h9, h10⟩ <;> rcases hs with rfl | rfl | rfl <;> rcases ht with rfl | rfl | rfl <;> omega
  have zi : ∀ s w : Int, -1 ≤ s → s ≤ 1 → -1 ≤ w → w ≤ 1 → zi32 (s * w) := by
    intro s w h1 h2 h3 h4
    have hs : s = -1 ∨ s = 0 ∨ s = 1 := by omega
    rcases hs with rfl | rfl | rfl
    · exact ⟨by omega, by omega⟩
    · exact ⟨by omega, by omega⟩
    · exact ⟨by omega, by omega⟩
  refine yC.of (M := (xt_X13_compare, (3, (1, (14, []))))) rfl rfl (N := 300) (yfuel (by omega)) ?_
  show yG 89 xfts (xcall 89 xfts xpools xms (d + 1)) (xpool xp_RX13) [] xt_X13_compare (yP 1 (yQ_cmp hp a b)) 300 0 [(0, yR 2073), (1, yI ((a : Int))), (2, yI ((b : Int)))] [] hp
  refine yG.load xak rfl (fun _ _ => rfl) (v := yR 2073) rfl rfl ?_
  refine yG.getR T_hp (yF_sign W) rfl rfl ?_
  refine yG.load xik rfl (fun _ _ => rfl) (v := yI ((a : Int))) rfl rfl ?_
  refine yG.iald T_hp (yA_sign W) rfl (by omega) (by omega) (fun z1 e_z1 i_z1 l_z1 u_z1 => ?_)
  have q_z1 : z1 = yS hp a := e_z1
  refine yG.load xak rfl (fun _ _ => rfl) (v := yR 2073) rfl rfl ?_
  refine yG.getR T_hp (yF_sign W) rfl rfl ?_
  refine yG.load xik rfl (fun _ _ => rfl) (v := yI ((b : Int))) rfl rfl ?_
  refine yG.iald T_hp (yA_sign W) rfl (by omega) (by omega) (fun z2 e_z2 i_z2 l_z2 u_z2 => ?_)
  have q_z2 : z2 = yS hp b := e_z2
  refine yG.icmp rfl (t := 36) rfl ⟨by omega, by omega⟩ ⟨by omega, by omega⟩ (fun c3 => ?_) (fun c3 => ?_)
  · have c3 : z1 = z2 := c3
    refine yG.load xak rfl (fun _ _ => rfl) (v := yR 2073) rfl rfl ?_
    refine yG.getR T_hp (yF_sign W) rfl rfl ?_
    refine yG.load xik rfl (fun _ _ => rfl) (v := yI ((a : Int))) rfl rfl ?_
    refine yG.iald T_hp (yA_sign W) rfl (by omega) (by omega) (fun z4 e_z4 i_z4 l_z4 u_z4 => ?_)
    have q_z4 : z4 = yS hp a := e_z4
    refine yG.load xak rfl (fun _ _ => rfl) (v := yR 2073) rfl rfl ?_
    refine yG.load xik rfl (fun _ _ => rfl) (v := yI ((a : Int))) rfl rfl ?_
    refine yG.load xik rfl (fun _ _ => rfl) (v := yI ((b : Int))) rfl rfl ?_
    refine yG.invV (rest := [yI (z4)]) T_hp W.1 rfl rfl rfl rfl (y_compareSizes W d hT ha hb na.1 nb.1) ?_
    intro _ hp9 h9
    obtain ⟨e9, w, rfl, hw⟩ := h9
    rw [e9]
    show yG _ _ _ _ _ _ _ _ _ _ (yI w :: [yI (z4)]) _
    refine yG.imul rfl ?_
    refine yG.ret rfl (fun _ _ => rfl) ?_
    exact yP.int (zi _ _ (by omega) (by omega) (by unfold ysgn at hw; omega) (by unfold ysgn at hw; omega)) ⟨rfl, _, rfl, key _ _ _ _ _ bl1 bl2 bl3 bl4 pa1 pb1 pa2 pb2 (Or.inr (Or.inr ⟨by omega, w, hw, by rw [q_z4]⟩))⟩
  · have c3 : z1 ≠ z2 := c3
    refine yG.load xak rfl (fun _ _ => rfl) (v := yR 2073) rfl rfl ?_
    refine yG.getR T_hp (yF_sign W) rfl rfl ?_
    refine yG.load xik rfl (fun _ _ => rfl) (v := yI ((a : Int))) rfl rfl ?_
    refine yG.iald T_hp (yA_sign W) rfl (by omega) (by omega) (fun z5 e_z5 i_z5 l_z5 u_z5 => ?_)
    have q_z5 : z5 = yS hp a := e_z5
    refine yG.load xak rfl (fun _ _ => rfl) (v := yR 2073) rfl rfl ?_
    refine yG.getR T_hp (yF_sign W) rfl rfl ?_
    refine yG.load xik rfl (fun _ _ => rfl) (v := yI ((b : Int))) rfl rfl ?_
    refine yG.iald T_hp (yA_sign W) rfl (by omega) (by omega) (fun z6 e_z6 i_z6 l_z6 u_z6 => ?_)
    have q_z6 : z6 = yS hp b := e_z6
    refine yG.icmp rfl (t := 34) rfl ⟨by omega, by omega⟩ ⟨by omega, by omega⟩ (fun c7 => ?_) (fun c7 => ?_)
    · have c7 : z5 ≥ z6 := c7
      refine yG.num (c := 1) rfl (fun _ _ => rfl) (by decide) ?_
      refine yG.ret rfl (fun _ _ => rfl) ?_
      exact yP.int ⟨by decide, by decide⟩ ⟨rfl, 1, rfl, key _ _ _ _ _ bl1 bl2 bl3 bl4 pa1 pb1 pa2 pb2 (Or.inr (Or.inl ⟨by omega, rfl⟩))⟩
    · have c7 : z5 < z6 := c7
      refine yG.num (c := -1) rfl (fun _ _ => rfl) (by decide) ?_
      refine yG.goto rfl (t := 35) rfl ?_
      refine yG.ret rfl (fun _ _ => rfl) ?_
      exact yP.int ⟨by decide, by decide⟩ ⟨rfl, -1, rfl, key _ _ _ _ _ bl1 bl2 bl3 bl4 pa1 pb1 pa2 pb2 (Or.inl ⟨by omega, rfl⟩)⟩
end YCmp
