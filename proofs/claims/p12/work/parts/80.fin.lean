/-! ===== the reference: finish, scale, a small divisor ===== -/
section YFin
variable {G : zW} {hp : xH} {r a b q : Nat}
theorem y_finish (W : yMW G) (d : Nat) {n : Nat} (hT : zTy G hp) (hr : r < 3412) (hn : n ≤ 256) : yC (xcall 89 xfts xpools xms (d + 1)) 404 [yR 2073, yI (r : Int), yI (n : Int)] hp (yQ_val G [2074, 2075, 2076] hp r (ysum (yD hp r) n)) := by
  have T_hp := hT
  have N_hp : yNx G [2074, 2075, 2076] hp hp := yNx.rf hT
  have gr := yFig_of W hT hr
  have HX : ∀ k : Nat, k ≤ n → (∀ j, k ≤ j → j < n → yD hp r j = 0) → (0 < k → yD hp r (k - 1) ≠ 0) → yG 89 xfts (xcall 89 xfts xpools xms d) (xpool xp_RX13) [] xt_X13_finish (yP 0 (yQ_val G [2074, 2075, 2076] hp r (ysum (yD hp r) n))) 200 29 [(3, yI ((k : Int))), (0, yR 2073), (1, yI ((r : Int))), (2, yI ((n : Int)))] [] hp := by
    intro k hk I4 I5
    refine yG.load xak rfl (fun _ _ => rfl) (v := yR 2073) rfl rfl ?_
    refine yG.getR T_hp (yF_length W) rfl rfl ?_
    refine yG.load xik rfl (fun _ _ => rfl) (v := yI ((r : Int))) rfl rfl ?_
    refine yG.load xik rfl (fun _ _ => rfl) (v := yI ((k : Int))) rfl rfl ?_
    refine yG.iast T_hp (yA_length W) (by decide) rfl (by omega) (by omega) ⟨by omega, by omega⟩ (by omega) (by omega) (fun h1 T_h1 b_h1 f_h1 y_h1 => ?_)
    have N_h1 := N_hp.put T_h1 b_h1 (by decide) f_h1
    have D_h1 : ∀ s j, yD h1 s j = yD hp s j := fun s j => yput_ne y_h1 (by decide) _
    have L_h1 : ∀ s, yL h1 s = if s = r then (k : Int) else yL hp s := yput_L (r := r) y_h1
    have S_h1 : ∀ s, yS h1 s = yS hp s := fun s => yput_ne y_h1 (by decide) _
    refine yG.load xak rfl (fun _ _ => rfl) (v := yR 2073) rfl rfl ?_
    refine yG.getR T_h1 (yF_sign W) rfl rfl ?_
    refine yG.load xik rfl (fun _ _ => rfl) (v := yI ((r : Int))) rfl rfl ?_
    refine yG.load xik rfl (fun _ _ => rfl) (v := yI ((k : Int))) rfl rfl ?_
    refine yG.ifz rfl (t := 49) rfl ⟨by omega, by omega⟩ (fun c2 => ?_) (fun c2 => ?_)
    · have c2 : (k : Int) ≤ 0 := c2
      refine yG.num (c := 0) rfl (fun _ _ => rfl) (by decide) ?_
      refine yG.iast T_h1 (yA_sign W) (by decide) rfl (by omega) (by omega) ⟨by omega, by omega⟩ (by omega) (by omega) (fun h3 T_h3 b_h3 f_h3 y_h3 => ?_)
      have N_h3 := N_h1.put T_h3 b_h3 (by decide) f_h3
      have D_h3 : ∀ s j, yD h3 s j = yD h1 s j := fun s j => yput_ne y_h3 (by decide) _
      have L_h3 : ∀ s, yL h3 s = yL h1 s := fun s => yput_ne y_h3 (by decide) _
      have S_h3 : ∀ s, yS h3 s = if s = r then 0 else yS h1 s := yput_S (r := r) y_h3
      refine yG.ret rfl (fun _ _ => rfl) ?_
      have mg : ymag h1 r = ysum (yD hp r) n := by
        show ysum (yD h1 r) (yL h1 r).toNat = _
        rw [L_h1, if_pos rfl, ysum_nought (n := k) hk I4]
        exact ysum_congr fun j _ => D_h1 r j
      have bk := ysum_bd (gr.sub (show k ≤ 256 by omega))
      have zz : ((0 : Int) = 0 ↔ ymag h1 r = 0) ∧ 0 * ymag h1 r = ysum (yD hp r) n := by
        rw [mg]
        have e := ysum_nought (f := yD hp r) (n := k) hk I4
        by_cases k0 : 0 < k
        · have := (ysum_pos (gr.sub (show k ≤ 256 by omega)) k0 (I5 k0)).2
          omega
        · have e2 : ysum (yD hp r) k = 0 := by rw [show k = 0 by omega]; rfl
          omega
      obtain ⟨f1, f2, f3⟩ := ysign_set W T_h3 hr (yL_bd W T_h1 hr).2 D_h3 L_h3 S_h3 (fun h0 => by
        rw [L_h1, if_pos rfl] at h0 ⊢
        rw [D_h1, show (k : Int).toNat - 1 = k - 1 by omega]
        exact I5 (by omega)) zz.1
      exact yP.void ⟨rfl, N_h3, fun s hs => (show ySm hp h1 s from ⟨by rw [L_h1, if_neg hs], S_h1 s, fun j hj => D_h1 s j⟩).tr (f1 s hs), by rw [f2]; exact zz.2, f3⟩
    · have c2 : (k : Int) > 0 := c2
      refine yG.num (c := 1) rfl (fun _ _ => rfl) (by decide) ?_
      refine yG.goto rfl (t := 50) rfl ?_
      refine yG.iast T_h1 (yA_sign W) (by decide) rfl (by omega) (by omega) ⟨by omega, by omega⟩ (by omega) (by omega) (fun h4 T_h4 b_h4 f_h4 y_h4 => ?_)
      have N_h4 := N_h1.put T_h4 b_h4 (by decide) f_h4
      have D_h4 : ∀ s j, yD h4 s j = yD h1 s j := fun s j => yput_ne y_h4 (by decide) _
      have L_h4 : ∀ s, yL h4 s = yL h1 s := fun s => yput_ne y_h4 (by decide) _
      have S_h4 : ∀ s, yS h4 s = if s = r then 1 else yS h1 s := yput_S (r := r) y_h4
      refine yG.ret rfl (fun _ _ => rfl) ?_
      have mg : ymag h1 r = ysum (yD hp r) n := by
        show ysum (yD h1 r) (yL h1 r).toNat = _
        rw [L_h1, if_pos rfl, ysum_nought (n := k) hk I4]
        exact ysum_congr fun j _ => D_h1 r j
      have bk := ysum_bd (gr.sub (show k ≤ 256 by omega))
      have zz : ((1 : Int) = 0 ↔ ymag h1 r = 0) ∧ 1 * ymag h1 r = ysum (yD hp r) n := by
        rw [mg]
        have e := ysum_nought (f := yD hp r) (n := k) hk I4
        by_cases k0 : 0 < k
        · have := (ysum_pos (gr.sub (show k ≤ 256 by omega)) k0 (I5 k0)).2
          omega
        · have e2 : ysum (yD hp r) k = 0 := by rw [show k = 0 by omega]; rfl
          omega
      obtain ⟨f1, f2, f3⟩ := ysign_set W T_h4 hr (yL_bd W T_h1 hr).2 D_h4 L_h4 S_h4 (fun h0 => by
        rw [L_h1, if_pos rfl] at h0 ⊢
        rw [D_h1, show (k : Int).toNat - 1 = k - 1 by omega]
        exact I5 (by omega)) zz.1
      exact yP.void ⟨rfl, N_h4, fun s hs => (show ySm hp h1 s from ⟨by rw [L_h1, if_neg hs], S_h1 s, fun j hj => D_h1 s j⟩).tr (f1 s hs), by rw [f2]; exact zz.2, f3⟩
  have H : ∀ k : Nat, k ≤ n → (∀ j, k ≤ j → j < n → yD hp r j = 0) → yG 89 xfts (xcall 89 xfts xpools xms d) (xpool xp_RX13) [] xt_X13_finish (yP 0 (yQ_val G [2074, 2075, 2076] hp r (ysum (yD hp r) n))) (60 * k + 300) 2 [(3, yI ((k : Int))), (0, yR 2073), (1, yI ((r : Int))), (2, yI ((n : Int)))] [] hp := by
    intro k
    induction k with
    | zero =>
      intro hk I4
      refine yG.load xik rfl (fun _ _ => rfl) (v := yI ((0 : Nat) : Int)) rfl rfl ?_
      refine yG.ifz rfl (t := 29) rfl ⟨by omega, by omega⟩ (fun c => yG.mono (HX 0 hk I4 (fun h => absurd h (by omega))) (by omega)) (fun c => absurd (show (0 : Int) < ((0 : Nat) : Int) from c) (by omega))
    | succ k ih =>
      intro hk I4
      have b9 := gr k (by omega)
      refine yG.load xik rfl (fun _ _ => rfl) (v := yI (((k + 1 : Nat) : Int))) rfl rfl ?_
      refine yG.ifz rfl (t := 29) rfl ⟨by omega, by omega⟩ (fun c21 => ?_) (fun c21 => ?_)
      · have c21 : ((k + 1 : Nat) : Int) ≤ 0 := c21
        exfalso; omega
      · have c21 : ((k + 1 : Nat) : Int) > 0 := c21
        refine yG.load xak rfl (fun _ _ => rfl) (v := yR 2073) rfl rfl ?_
        refine yG.getR T_hp (yF_big W) rfl rfl ?_
        refine yG.num (c := 256) rfl (fun _ _ => rfl) (by decide) ?_
        refine yG.load xik rfl (fun _ _ => rfl) (v := yI ((r : Int))) rfl rfl ?_
        refine yG.imul rfl ?_
        refine yG.load xik rfl (fun _ _ => rfl) (v := yI (((k + 1 : Nat) : Int))) rfl rfl ?_
        refine yG.iadd rfl ?_
        refine yG.num (c := 1) rfl (fun _ _ => rfl) (by decide) ?_
        refine yG.isub rfl ?_
        refine yG.iald T_hp (yA_big W) rfl (by omega) (by omega) (fun z22 e_z22 i_z22 l_z22 u_z22 => ?_)
        have q_z22 : z22 = yD hp r (k) := e_z22.trans (yBig (by omega))
        refine yG.ifz rfl (t := 29) rfl ⟨by omega, by omega⟩ (fun c23 => ?_) (fun c23 => ?_)
        · have c23 : z22 ≠ 0 := c23
          exact yG.mono (HX (k + 1) hk I4 (fun _ => show yD hp r k ≠ 0 by omega)) (by omega)
        · have c23 : z22 = 0 := c23
          refine yG.iinc rfl (a := ((k + 1 : Nat) : Int)) rfl (L' := [(3, yI (((k + 1 : Nat) : Int) + (-1))), (0, yR 2073), (1, yI ((r : Int))), (2, yI ((n : Int)))]) rfl ?_
          refine yG.goto rfl (t := 2) rfl ?_
          have hz : yD hp r k = 0 := by omega
          have I9 : ∀ j, k ≤ j → j < n → yD hp r j = 0 := fun j h1 h2 => by
            by_cases e : j = k
            · rw [e]; exact hz
            · exact I4 j (by omega) h2
          exact yG.mono ((show yG _ _ _ _ _ _ _ _ _ [(3, yI (((k + 1 : Nat) : Int) + (-1))), (0, yR 2073), (1, yI ((r : Int))), (2, yI ((n : Int)))] _ _ from by rw [show ((k + 1 : Nat) : Int) + (-1) = (k : Int) by omega]; exact ih (by omega) I9)) (by omega)
  refine yC.of (M := (xt_X13_finish, (4, (0, (14, []))))) rfl rfl (N := 60 * n + 400) (yfuel (by omega)) ?_
  show yG 89 xfts (xcall 89 xfts xpools xms d) (xpool xp_RX13) [] xt_X13_finish (yP 0 (yQ_val G [2074, 2075, 2076] hp r (ysum (yD hp r) n))) (60 * n + 400) 0 [(0, yR 2073), (1, yI ((r : Int))), (2, yI ((n : Int)))] [] hp
  refine yG.load xik rfl (fun _ _ => rfl) (v := yI ((n : Int))) rfl rfl ?_
  refine yG.store1 xik (L' := [(3, yI ((n : Int))), (0, yR 2073), (1, yI ((r : Int))), (2, yI ((n : Int)))]) rfl (fun _ _ => rfl) rfl rfl ?_
  exact yG.mono (H n (Nat.le_refl _) (fun j h1 h2 => absurd h1 (by omega))) (by omega)
/-- a register's value, the scratch register 259 may change too -/
def yQ_scr (G : zW) (Ks : List Nat) (hp : xH) (r : Nat) (v : Int) (rv : Option xA) (hp' : xH) : Prop := rv = none ∧ yNx G Ks hp hp' ∧ (∀ s, s ≠ r → s ≠ 259 → ySm hp hp' s) ∧ yval hp' r = v ∧ yNorm hp' r ∧ yNorm hp' 259
theorem yval_abs {v : Int} (W : yMW G) (hT : zTy G hp) (hr : r < 3412) (h : yval hp r = v) (n : yNorm hp r) : (0 ≤ v → ymag hp r = v) ∧ (v < 0 → ymag hp r = -v) := by
  have h1 := yS_bd W hT hr
  have h2 := (ymag_bd W hT hr).1
  have h3 := n.sg W hT hr
  have h : yS hp r * ymag hp r = v := h
  have hs : yS hp r = -1 ∨ yS hp r = 0 ∨ yS hp r = 1 := by omega
  rcases hs with e | e | e <;> rw [e] at h h3 <;> exact ⟨fun _ => by omega, fun _ => by omega⟩
theorem y_scale (W : yMW G) (d : Nat) {v : Int} (hT : zTy G hp) (hr : r < 3412) (ha : a < 3412) (ha2 : a ≠ 259) (na : yNorm hp a) (hv1 : -9223372036854775807 ≤ v) (hv2 : v ≤ 9223372036854775807) (hm : (v < 0 → ymag hp a * -v < yB 256) ∧ (0 ≤ v → ymag hp a * v < yB 256)) : yC (xcall 89 xfts xpools xms (d + 2)) 499 [yR 2073, yI (r : Int), yI (a : Int), yJ v] hp (yQ_scr G [2074, 2075, 2076, 2077] hp r (yval hp a * v)) := by
  have T_hp := hT
  have la := (yL_bd W hT ha).2
  refine yC.of (M := (xt_X13_scale, (5, (0, (14, []))))) rfl rfl (N := 200) (yfuel (by omega)) ?_
  show yG 89 xfts (xcall 89 xfts xpools xms (d + 1)) (xpool xp_RX13) [] xt_X13_scale (yP 0 (yQ_scr G [2074, 2075, 2076, 2077] hp r (yval hp a * v))) 200 0 [(0, yR 2073), (1, yI ((r : Int))), (2, yI ((a : Int))), (3, yJ (v))] [] hp
  refine yG.load xak rfl (fun _ _ => rfl) (v := yR 2073) rfl rfl ?_
  refine yG.num (c := 259) rfl (fun _ _ => rfl) (by decide) ?_
  refine yG.load xlk2 rfl (fun _ _ => rfl) (v := yJ (v)) rfl rfl ?_
  refine yG.invV (rest := []) T_hp W.1 rfl rfl rfl rfl (y_put (r := 259) W d hT (by decide) hv1 hv2) ?_
  intro rv h1 q1
  obtain ⟨e1, M1, O1, V1, n1⟩ := q1
  subst e1
  have T_h1 := M1.1
  have A1 := O1 a ha2
  have B1 := yval_abs W T_h1 (by decide) V1 n1
  show yG _ _ _ _ _ _ _ _ _ _ [] _
  refine yG.load xak rfl (fun _ _ => rfl) (v := yR 2073) rfl rfl ?_
  refine yG.load xik rfl (fun _ _ => rfl) (v := yI ((r : Int))) rfl rfl ?_
  refine yG.load xik rfl (fun _ _ => rfl) (v := yI ((a : Int))) rfl rfl ?_
  refine yG.num (c := 259) rfl (fun _ _ => rfl) (by decide) ?_
  refine yG.invV (rest := []) T_h1 W.1 rfl rfl rfl rfl (y_times (b := 259) W d T_h1 hr ha (by decide) (A1.norm la na) n1 (by
    rw [A1.mag la]
    rcases Int.lt_or_le v 0 with h | h
    · rw [B1.2 h]; exact hm.1 h
    · rw [B1.1 h]; exact hm.2 h)) ?_
  intro rv h2 q2
  obtain ⟨e2, M2, O2, V2, n2⟩ := q2
  subst e2
  have T_h2 := M2.1
  show yG _ _ _ _ _ _ _ _ _ _ [] _
  refine yG.ret rfl (fun _ _ => rfl) ?_
  exact yP.void ⟨rfl, (show yNx G [2074, 2075, 2076, 2077] hp h1 from ⟨M1.1, M1.2.1, M1.2.2.sub (by decide)⟩).tr M2, fun s h1 h2 => (O1 s h2).tr (O2 s h1), by rw [V2, A1.val la, V1], n2, by
    by_cases h : r = 259
    · rw [← h]; exact n2
    · exact (O2 259 (fun z => h z.symm)).norm (yL_bd W T_h1 (by decide)).2 n1⟩
end YFin
