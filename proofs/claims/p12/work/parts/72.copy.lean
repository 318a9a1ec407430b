/-! ===== the reference: a register copied ===== -/
theorem yBig {hp : xH} {r k : Nat} {e : Int} (h : e = 256 * (r : Int) + (k : Int)) : ys hp 2074 e.toNat = yD hp r k := by
  unfold yD
  rw [show e.toNat = 256 * r + k by omega]
theorem yNx.rf {G : zW} {hp : xH} {Ks : List Nat} (h : zTy G hp) : yNx G Ks hp hp := ⟨h, rfl, yFr.rf hp⟩
theorem yNx.put {G : zW} {a b c : xH} {Ks : List Nat} {k n : Nat} {v : xA} (h : yNx G Ks a b) (hT : zTy G c) (h2 : c.2 = b.2) (hk : k ∈ Ks) (h3 : ∀ k' j', zsl c k' j' = if k' = k ∧ j' = n then v else zsl b k' j') : yNx G Ks a c := ⟨hT, h2.trans h.2.1, h.2.2.tr (yFr.put hk h3)⟩
theorem yNx.tr {G : zW} {a b c : xH} {Ks : List Nat} (h : yNx G Ks a b) (h2 : yNx G Ks b c) : yNx G Ks a c := ⟨h2.1, h2.2.1.trans h.2.1, h.2.2.tr h2.2.2⟩
theorem yfuel {N : Nat} (h : N ≤ 1000000000000000000000000000000) : N ≤ xfuel := Nat.le_trans h (Nat.le_of_ble_eq_true rfl)
section YCopy
variable {G : zW} {hp : xH} {r a : Nat}
def yQ_copy (G : zW) (hp : xH) (r a : Nat) (rv : Option xA) (hp' : xH) : Prop := rv = none ∧ yNx G [2074, 2075, 2076] hp hp' ∧ (∀ s, s ≠ r → ySm hp hp' s) ∧ yL hp' r = yL hp a ∧ yS hp' r = yS hp a ∧ ∀ k : Nat, (k : Int) < yL hp a → yD hp' r k = yD hp a k
def yI_copy (G : zW) (hp : xH) (r a k : Nat) (hp' : xH) : Prop := yNx G [2074, 2075, 2076] hp hp' ∧ (∀ s, yL hp' s = yL hp s ∧ yS hp' s = yS hp s) ∧ ∀ s j, j < 256 → yD hp' s j = if s = r ∧ j < k then yD hp a j else yD hp s j
theorem y_copy (W : yMW G) (d : Nat) (hT : zTy G hp) (hr : r < 3412) (ha : a < 3412) : yC (xcall 89 xfts xpools xms (d + 1)) 376 [yR 2073, yI (r : Int), yI (a : Int)] hp (yQ_copy G hp r a) := by
  obtain ⟨bl1, bl2⟩ := yL_bd W hT ha
  have H : ∀ m k : Nat, ∀ hq, (m : Int) + k = yL hp a → yI_copy G hp r a k hq → yG 89 xfts (xcall 89 xfts xpools xms d) (xpool xp_RX13) [] xt_X13_copy (yP 0 (yQ_copy G hp r a)) (60 * m + 100) 2 [(3, yI (k : Int)), (0, yR 2073), (1, yI (r : Int)), (2, yI (a : Int))] [] hq := by
    intro m
    induction m using Nat.strongRecOn with
    | _ m ih =>
      intro k hq hk I
      obtain ⟨N0, I1, I2⟩ := I
      have T_hq := N0.1
      have e1 : yL hq a = yL hp a := (I1 a).1
      refine yG.load xik rfl (fun _ _ => rfl) (v := yI ((k : Int))) rfl rfl ?_
      refine yG.load xak rfl (fun _ _ => rfl) (v := yR 2073) rfl rfl ?_
      refine yG.getR T_hq (yF_length W) rfl rfl ?_
      refine yG.load xik rfl (fun _ _ => rfl) (v := yI ((a : Int))) rfl rfl ?_
      refine yG.iald T_hq (yA_length W) rfl (by omega) (by omega) (fun z1 e_z1 i_z1 l_z1 u_z1 => ?_)
      have q1 : z1 = yL hp a := e_z1.trans e1
      refine yG.icmp rfl (t := 42) rfl ⟨by omega, by omega⟩ ⟨by omega, by omega⟩ (fun c2 => ?_) (fun c2 => ?_)
      · have c2 : (k : Int) ≥ z1 := c2
        refine yG.load xak rfl (fun _ _ => rfl) (v := yR 2073) rfl rfl ?_
        refine yG.getR T_hq (yF_length W) rfl rfl ?_
        refine yG.load xik rfl (fun _ _ => rfl) (v := yI ((r : Int))) rfl rfl ?_
        refine yG.load xak rfl (fun _ _ => rfl) (v := yR 2073) rfl rfl ?_
        refine yG.getR T_hq (yF_length W) rfl rfl ?_
        refine yG.load xik rfl (fun _ _ => rfl) (v := yI ((a : Int))) rfl rfl ?_
        refine yG.iald T_hq (yA_length W) rfl (by omega) (by omega) (fun z3 e_z3 i_z3 l_z3 u_z3 => ?_)
        refine yG.iast T_hq (yA_length W) (by decide) rfl (by omega) (by omega) ⟨by omega, by omega⟩ (by omega) (by omega) (fun h4 T_h4 b_h4 f_h4 y_h4 => ?_)
        refine yG.load xak rfl (fun _ _ => rfl) (v := yR 2073) rfl rfl ?_
        refine yG.getR T_h4 (yF_sign W) rfl rfl ?_
        refine yG.load xik rfl (fun _ _ => rfl) (v := yI ((r : Int))) rfl rfl ?_
        refine yG.load xak rfl (fun _ _ => rfl) (v := yR 2073) rfl rfl ?_
        refine yG.getR T_h4 (yF_sign W) rfl rfl ?_
        refine yG.load xik rfl (fun _ _ => rfl) (v := yI ((a : Int))) rfl rfl ?_
        refine yG.iald T_h4 (yA_sign W) rfl (by omega) (by omega) (fun z5 e_z5 i_z5 l_z5 u_z5 => ?_)
        refine yG.iast T_h4 (yA_sign W) (by decide) rfl (by omega) (by omega) ⟨by omega, by omega⟩ (by omega) (by omega) (fun h6 T_h6 b_h6 f_h6 y_h6 => ?_)
        refine yG.ret rfl (fun _ _ => rfl) ?_
        have q3 : z3 = yL hp a := e_z3.trans e1
        have hS4 : ∀ s, yS h4 s = yS hq s := fun s => by unfold yS; rw [y_h4, if_neg (by omega)]
        have q5 : z5 = yS hp a := (e_z5.trans (hS4 a)).trans (I1 a).2
        have mk : m = 0 := by omega
        have hL6 : ∀ s, yL h6 s = if s = r then yL hp a else yL hp s := fun s => by
          unfold yL
          rw [y_h6, if_neg (by omega), y_h4]
          by_cases e : s = r
          · rw [if_pos ⟨rfl, e⟩, if_pos e]; exact q3
          · rw [if_neg (fun h => e h.2), if_neg e]; exact (I1 s).1
        have hS6 : ∀ s, yS h6 s = if s = r then yS hp a else yS hp s := fun s => by
          have := hS4 s
          unfold yS at this ⊢
          rw [y_h6]
          by_cases e : s = r
          · rw [if_pos ⟨rfl, e⟩, if_pos e]; exact q5
          · rw [if_neg (fun h => e h.2), if_neg e, this]; exact (I1 s).2
        have hD6 : ∀ s j, yD h6 s j = yD hq s j := fun s j => by
          unfold yD
          rw [y_h6, if_neg (by omega), y_h4, if_neg (by omega)]
        refine yP.void ⟨rfl, (N0.put T_h4 b_h4 (by decide) f_h4).put T_h6 b_h6 (by decide) f_h6, fun s hs => ⟨by rw [hL6, if_neg hs], by rw [hS6, if_neg hs], fun k' hk' => by rw [hD6, I2 s k' hk', if_neg (fun h => hs h.1)]⟩, by rw [hL6, if_pos rfl], by rw [hS6, if_pos rfl], fun k' hk' => by rw [hD6, I2 r k' (by omega), if_pos ⟨rfl, by omega⟩]⟩
      · have c2 : (k : Int) < z1 := c2
        refine yG.load xak rfl (fun _ _ => rfl) (v := yR 2073) rfl rfl ?_
        refine yG.getR T_hq (yF_big W) rfl rfl ?_
        refine yG.num (c := 256) rfl (fun _ _ => rfl) (by decide) ?_
        refine yG.load xik rfl (fun _ _ => rfl) (v := yI ((r : Int))) rfl rfl ?_
        refine yG.imul rfl ?_
        refine yG.load xik rfl (fun _ _ => rfl) (v := yI ((k : Int))) rfl rfl ?_
        refine yG.iadd rfl ?_
        refine yG.load xak rfl (fun _ _ => rfl) (v := yR 2073) rfl rfl ?_
        refine yG.getR T_hq (yF_big W) rfl rfl ?_
        refine yG.num (c := 256) rfl (fun _ _ => rfl) (by decide) ?_
        refine yG.load xik rfl (fun _ _ => rfl) (v := yI ((a : Int))) rfl rfl ?_
        refine yG.imul rfl ?_
        refine yG.load xik rfl (fun _ _ => rfl) (v := yI ((k : Int))) rfl rfl ?_
        refine yG.iadd rfl ?_
        refine yG.iald T_hq (yA_big W) rfl (by omega) (by omega) (fun z7 e_z7 i_z7 l_z7 u_z7 => ?_)
        refine yG.iast T_hq (yA_big W) (by decide) rfl (by omega) (by omega) ⟨by omega, by omega⟩ (by omega) (by omega) (fun h8 T_h8 b_h8 f_h8 y_h8 => ?_)
        refine yG.iinc rfl (a := (k : Int)) rfl (L' := [(3, yI ((k : Int) + 1)), (0, yR 2073), (1, yI ((r : Int))), (2, yI ((a : Int)))]) rfl ?_
        refine yG.goto rfl (t := 2) rfl ?_
        have q7 : z7 = yD hq a k := e_z7.trans (yBig rfl)
        refine yG.mono (ih (m - 1) (by omega) (k + 1) h8 (by omega) ⟨N0.put T_h8 b_h8 (by decide) f_h8, fun s => ?_, fun s j hj => ?_⟩) (by omega)
        · have e8 : ∀ s, yL h8 s = yL hq s := fun s => by unfold yL; rw [y_h8, if_neg (by omega)]
          have e9 : ∀ s, yS h8 s = yS hq s := fun s => by unfold yS; rw [y_h8, if_neg (by omega)]
          rw [e8, e9]
          exact I1 s
        · unfold yD
          rw [y_h8]
          by_cases e : 2074 = 2074 ∧ 256 * s + j = (256 * (r : Int) + (k : Int)).toNat
          · obtain ⟨rfl, rfl⟩ : s = r ∧ j = k := by omega
            rw [if_pos e, if_pos ⟨rfl, by omega⟩, q7, I2 a j hj]
            by_cases e9 : a = s ∧ j < j
            · omega
            · rw [if_neg e9]
              rfl
          · rw [if_neg e]
            have h9 := I2 s j hj
            unfold yD at h9
            rw [h9]
            by_cases e9 : s = r ∧ j < k
            · rw [if_pos e9, if_pos ⟨e9.1, by omega⟩]
            · rw [if_neg e9, if_neg (by rintro ⟨rfl, h8⟩; omega)]
  refine yC.of (M := (xt_X13_copy, (4, (0, (14, []))))) rfl rfl (N := 60 * (yL hp a).toNat + 200) (yfuel (by omega)) ?_
  show yG 89 xfts (xcall 89 xfts xpools xms d) (xpool xp_RX13) [] xt_X13_copy (yP 0 (yQ_copy G hp r a)) (60 * (yL hp a).toNat + 200) 0 [(0, yR 2073), (1, yI (r : Int)), (2, yI (a : Int))] [] hp
  refine yG.num (c := 0) rfl (fun _ _ => rfl) (by decide) ?_
  refine yG.store1 xik (L' := [(3, yI (0)), (0, yR 2073), (1, yI ((r : Int))), (2, yI ((a : Int)))]) rfl (fun _ _ => rfl) rfl rfl ?_
  exact yG.mono (H (yL hp a).toNat 0 hp (by omega) ⟨yNx.rf hT, fun s => ⟨rfl, rfl⟩, fun s j _ => by rw [if_neg (by omega)]⟩) (by omega)
end YCopy
