/-! ===== the reference: registers added ===== -/
section YSign
variable {G : zW} {hp : xH}
theorem ymag_eq0 (W : yMW G) (hT : zTy G hp) {r : Nat} (hr : r < 3412) (ht : yTop hp r) : yL hp r = 0 ↔ ymag hp r = 0 := by
  constructor
  · exact ymag_zero
  · intro h
    have := yL_bd W hT hr
    by_cases e : 0 < yL hp r
    · have := ymag_pos W hT hr e ht
      omega
    · omega
theorem yNorm.mk (W : yMW G) (hT : zTy G hp) {r : Nat} (hr : r < 3412) (ht : yTop hp r) (h : yS hp r = 0 ↔ ymag hp r = 0) : yNorm hp r := ⟨ht, by rw [ymag_eq0 W hT hr ht]; exact h.symm⟩
theorem yNorm.sg (W : yMW G) (hT : zTy G hp) {r : Nat} (hr : r < 3412) (h : yNorm hp r) : yS hp r = 0 ↔ ymag hp r = 0 := by rw [← h.2, ymag_eq0 W hT hr h.1]
/-- the sign of register r is put -/
theorem ysign_set {h1 h2 : xH} {r : Nat} {z : Int} (W : yMW G) (hT : zTy G h2) (hr : r < 3412) (hb : yL h1 r ≤ 256) (D : ∀ s j, yD h2 s j = yD h1 s j) (L : ∀ s, yL h2 s = yL h1 s) (S : ∀ s, yS h2 s = if s = r then z else yS h1 s) (ht : yTop h1 r) (hz : z = 0 ↔ ymag h1 r = 0) : (∀ s, s ≠ r → ySm h1 h2 s) ∧ yval h2 r = z * ymag h1 r ∧ yNorm h2 r := by
  have e : ymag h2 r = ymag h1 r := by
    show ysum (yD h2 r) (yL h2 r).toNat = ysum (yD h1 r) (yL h1 r).toNat
    rw [L]
    exact ysum_congr fun j _ => D r j
  refine ⟨fun s hs => ⟨L s, by rw [S, if_neg hs], fun j _ => D s j⟩, ?_, yNorm.mk W hT hr (fun h0 => ?_) ?_⟩
  · show yS h2 r * ymag h2 r = _
    rw [e, S, if_pos rfl]
  · rw [L] at h0 ⊢
    rw [D]
    exact ht h0
  · rw [e, S, if_pos rfl]
    exact hz
theorem ycopy_mag {r a : Nat} {h1 : xH} {rv : Option xA} (hb : yL hp a ≤ 256) (h : yQ_copy G hp r a rv h1) : ymag h1 r = ymag hp a ∧ (yTop hp a → yTop h1 r) ∧ yval h1 r = yval hp a := by
  obtain ⟨-, -, -, h4, h5, h6⟩ := h
  have e : ymag h1 r = ymag hp a := by
    show ysum (yD h1 r) (yL h1 r).toNat = ysum (yD hp a) (yL hp a).toNat
    rw [h4]
    exact ysum_congr fun j hj => h6 j (by omega)
  refine ⟨e, fun ht h0 => ?_, ?_⟩
  · rw [h4] at h0 ⊢
    rw [h6 _ (by omega)]
    exact ht h0
  · show yS h1 r * ymag h1 r = yS hp a * ymag hp a
    rw [e, h5]
def yQ_val (G : zW) (Ks : List Nat) (hp : xH) (r : Nat) (v : Int) (rv : Option xA) (hp' : xH) : Prop := rv = none ∧ yNx G Ks hp hp' ∧ (∀ s, s ≠ r → ySm hp hp' s) ∧ yval hp' r = v ∧ yNorm hp' r
end YSign
theorem yplus_fin {sa sb t z2 ma mb is m : Int} (hsa : sa = -1 ∨ sa = 0 ∨ sa = 1) (hsb : sb = -1 ∨ sb = 0 ∨ sb = 1) (ht : t = 1 ∨ t = -1) (E : z2 = sb * t) (h1 : 0 ≤ ma) (h2 : 0 ≤ mb) (za : sa = 0 ↔ ma = 0) (zb : sb = 0 ↔ mb = 0)
    (h : (is = z2 ∧ sa = z2 ∧ z2 ≠ 0 ∧ m = ma + mb) ∨ (sa ≠ 0 ∧ z2 ≠ 0 ∧ sa ≠ z2 ∧ ((mb < ma ∧ is = sa ∧ m = ma - mb) ∨ (ma < mb ∧ is = z2 ∧ m = mb - ma) ∨ (ma = mb ∧ is = 0 ∧ m = ma - mb))) ∨ (sa = 0 ∧ is = z2 ∧ m = mb)) : (is = 0 ↔ m = 0) ∧ is * m = sa * ma + t * (sb * mb) := by
  have e2 : z2 = -1 ∨ z2 = 0 ∨ z2 = 1 := by rcases hsb with rfl | rfl | rfl <;> rcases ht with rfl | rfl <;> omega
  have e3 : is = -1 ∨ is = 0 ∨ is = 1 := by omega
  have e4 : t * (sb * mb) = z2 * mb := by rw [E, ← Int.mul_assoc, Int.mul_comm t sb]
  have e5 : z2 = 0 ↔ mb = 0 := by rw [← zb, E]; rcases hsb with rfl | rfl | rfl <;> rcases ht with rfl | rfl <;> omega
  rw [e4]
  clear e4 E hsb ht zb
  refine ⟨by omega, ?_⟩
  rcases e3 with rfl | rfl | rfl <;> rcases hsa with rfl | rfl | rfl <;> rcases e2 with rfl | rfl | rfl <;> omega
section YPlus
variable {G : zW} {hp : xH} {r a b : Nat} {t : Int}
theorem y_plus (W : yMW G) (d : Nat) (hT : zTy G hp) (hr : r < 3412) (ha : a < 3412) (hb : b < 3412) (ht : t = 1 ∨ t = -1) (na : yNorm hp a) (nb : yNorm hp b) (hm : ymag hp a + ymag hp b < yB 256) : yC (xcall 89 xfts xpools xms (d + 2)) 481 [yR 2073, yI (r : Int), yI (a : Int), yI (b : Int), yI t] hp (yQ_val G [2074, 2075, 2076] hp r (yval hp a + t * yval hp b)) := by
  have T_hp := hT
  have N_hp : yNx G [2074, 2075, 2076] hp hp := yNx.rf hT
  obtain ⟨bl1, bl2⟩ := yS_bd W hT ha
  obtain ⟨bl3, bl4⟩ := yS_bd W hT hb
  have la := (yL_bd W hT ha).2
  have lb := (yL_bd W hT hb).2
  have ma := (ymag_bd W hT ha).1
  have mb := (ymag_bd W hT hb).1
  have za := na.sg W hT ha
  have zb := nb.sg W hT hb
  have hsa : yS hp a = -1 ∨ yS hp a = 0 ∨ yS hp a = 1 := by omega
  have hsb : yS hp b = -1 ∨ yS hp b = 0 ∨ yS hp b = 1 := by omega
  have zi : zi32 (yS hp b * t) := by
    rcases hsb with e | e | e <;> rcases ht with rfl | rfl <;> rw [e] <;> exact ⟨by omega, by omega⟩
  have zs : yS hp b * t = -1 ∨ yS hp b * t = 0 ∨ yS hp b * t = 1 := by
    rcases hsb with e | e | e <;> rcases ht with rfl | rfl <;> rw [e] <;> omega
  refine yC.of (M := (xt_X13_plus, (8, (0, (14, []))))) rfl rfl (N := 1000) (yfuel (by omega)) ?_
  show yG 89 xfts (xcall 89 xfts xpools xms (d + 1)) (xpool xp_RX13) [] xt_X13_plus (yP 0 (yQ_val G [2074, 2075, 2076] hp r (yval hp a + t * yval hp b))) 1000 0 [(0, yR 2073), (1, yI ((r : Int))), (2, yI ((a : Int))), (3, yI ((b : Int))), (4, yI (t))] [] hp
  refine yG.load xak rfl (fun _ _ => rfl) (v := yR 2073) rfl rfl ?_
  refine yG.getR T_hp (yF_sign W) rfl rfl ?_
  refine yG.load xik rfl (fun _ _ => rfl) (v := yI ((b : Int))) rfl rfl ?_
  refine yG.iald T_hp (yA_sign W) rfl (by omega) (by omega) (fun z101 e_z101 i_z101 l_z101 u_z101 => ?_)
  have q_z101 : z101 = yS hp b := e_z101
  refine yG.load xik rfl (fun _ _ => rfl) (v := yI (t)) rfl rfl ?_
  refine yG.imul rfl ?_
  obtain ⟨z102, e_z102⟩ : ∃ z : Int, z = z101 * t := ⟨_, rfl⟩
  rw [← e_z102]
  have E : z102 = yS hp b * t := by rw [e_z102, q_z101]
  rw [← E] at zi zs
  obtain ⟨zi1, zi2⟩ := zi
  refine yG.store1 xik (L' := [(5, yI (z102)), (0, yR 2073), (1, yI ((r : Int))), (2, yI ((a : Int))), (3, yI ((b : Int))), (4, yI (t))]) rfl (fun _ _ => rfl) rfl rfl ?_
  refine yG.load xik rfl (fun _ _ => rfl) (v := yI (z102)) rfl rfl ?_
  refine yG.ifz rfl (t := 25) rfl ⟨by omega, by omega⟩ (fun c103 => ?_) (fun c103 => ?_)
  · have c103 : z102 ≠ 0 := c103
    refine yG.load xak rfl (fun _ _ => rfl) (v := yR 2073) rfl rfl ?_
    refine yG.getR T_hp (yF_sign W) rfl rfl ?_
    refine yG.load xik rfl (fun _ _ => rfl) (v := yI ((a : Int))) rfl rfl ?_
    refine yG.iald T_hp (yA_sign W) rfl (by omega) (by omega) (fun z104 e_z104 i_z104 l_z104 u_z104 => ?_)
    have q_z104 : z104 = yS hp a := e_z104
    refine yG.ifz rfl (t := 51) rfl ⟨by omega, by omega⟩ (fun c105 => ?_) (fun c105 => ?_)
    · have c105 : z104 ≠ 0 := c105
      refine yG.load xak rfl (fun _ _ => rfl) (v := yR 2073) rfl rfl ?_
      refine yG.getR T_hp (yF_sign W) rfl rfl ?_
      refine yG.load xik rfl (fun _ _ => rfl) (v := yI ((a : Int))) rfl rfl ?_
      refine yG.iald T_hp (yA_sign W) rfl (by omega) (by omega) (fun z106 e_z106 i_z106 l_z106 u_z106 => ?_)
      have q_z106 : z106 = yS hp a := e_z106
      refine yG.load xik rfl (fun _ _ => rfl) (v := yI (z102)) rfl rfl ?_
      refine yG.icmp rfl (t := 80) rfl ⟨by omega, by omega⟩ ⟨by omega, by omega⟩ (fun c107 => ?_) (fun c107 => ?_)
      · have c107 : z106 ≠ z102 := c107
        refine yG.load xak rfl (fun _ _ => rfl) (v := yR 2073) rfl rfl ?_
        refine yG.load xik rfl (fun _ _ => rfl) (v := yI ((a : Int))) rfl rfl ?_
        refine yG.load xik rfl (fun _ _ => rfl) (v := yI ((b : Int))) rfl rfl ?_
        refine yG.invV (rest := []) T_hp W.1 rfl rfl rfl rfl (y_compareSizes W d T_hp ha hb na.1 nb.1) ?_
        intro _ hp9 h9
        obtain ⟨e9, w, rfl, hw⟩ := h9
        rw [e9]
        unfold ysgn at hw
        show yG _ _ _ _ _ _ _ _ _ _ [yI w] _
        refine yG.store1 xik (L' := [(6, yI (w)), (5, yI (z102)), (0, yR 2073), (1, yI ((r : Int))), (2, yI ((a : Int))), (3, yI ((b : Int))), (4, yI (t))]) rfl (fun _ _ => rfl) rfl rfl ?_
        refine yG.load xik rfl (fun _ _ => rfl) (v := yI (w)) rfl rfl ?_
        refine yG.ifz rfl (t := 102) rfl ⟨by omega, by omega⟩ (fun c108 => ?_) (fun c108 => ?_)
        · have c108 : w ≤ 0 := c108
          refine yG.load xik rfl (fun _ _ => rfl) (v := yI (w)) rfl rfl ?_
          refine yG.ifz rfl (t := 112) rfl ⟨by omega, by omega⟩ (fun c109 => ?_) (fun c109 => ?_)
          · have c109 : w ≥ 0 := c109
            refine yG.num (c := 0) rfl (fun _ _ => rfl) (by decide) ?_
            refine yG.store1 xik (L' := [(7, yI (0)), (6, yI (w)), (5, yI (z102)), (0, yR 2073), (1, yI ((r : Int))), (2, yI ((a : Int))), (3, yI ((b : Int))), (4, yI (t))]) rfl (fun _ _ => rfl) rfl rfl ?_
            refine yG.load xik rfl (fun _ _ => rfl) (v := yI (w)) rfl rfl ?_
            refine yG.ifz rfl (t := 130) rfl ⟨by omega, by omega⟩ (fun c110 => ?_) (fun c110 => ?_)
            · have c110 : w ≥ 0 := c110
              refine yG.load xak rfl (fun _ _ => rfl) (v := yR 2073) rfl rfl ?_
              refine yG.load xik rfl (fun _ _ => rfl) (v := yI ((r : Int))) rfl rfl ?_
              refine yG.load xik rfl (fun _ _ => rfl) (v := yI ((a : Int))) rfl rfl ?_
              refine yG.load xik rfl (fun _ _ => rfl) (v := yI ((b : Int))) rfl rfl ?_
              refine yG.invV (rest := []) T_hp W.1 rfl rfl rfl rfl (y_lessSizes W d T_hp hr ha hb na.1 nb.1 (by omega)) ?_
              intro rv h111 q_h111
              obtain ⟨e_h111, M_h111, O_h111, Y_h111, m_h111, t_h111⟩ := q_h111
              subst e_h111
              have T_h111 := M_h111.1
              have N_h111 := N_hp.tr M_h111
              show yG _ _ _ _ _ _ _ _ _ _ [] _
              refine yG.load xak rfl (fun _ _ => rfl) (v := yR 2073) rfl rfl ?_
              refine yG.getR T_h111 (yF_sign W) rfl rfl ?_
              refine yG.load xik rfl (fun _ _ => rfl) (v := yI ((r : Int))) rfl rfl ?_
              refine yG.load xik rfl (fun _ _ => rfl) (v := yI (0)) rfl rfl ?_
              refine yG.iast T_h111 (yA_sign W) (by decide) rfl (by omega) (by omega) ⟨by omega, by omega⟩ (by omega) (by omega) (fun h112 T_h112 b_h112 f_h112 y_h112 => ?_)
              have N_h112 := N_h111.put T_h112 b_h112 (by decide) f_h112
              have D_h112 : ∀ s j, yD h112 s j = yD h111 s j := fun s j => yput_ne y_h112 (by decide) _
              have L_h112 : ∀ s, yL h112 s = yL h111 s := fun s => yput_ne y_h112 (by decide) _
              have S_h112 : ∀ s, yS h112 s = if s = r then 0 else yS h111 s := yput_S (r := r) y_h112
              refine yG.ret rfl (fun _ _ => rfl) ?_
              obtain ⟨z1, z2⟩ := yplus_fin (is := 0) (m := ymag h111 r) hsa hsb ht E ma mb za zb (by omega)
              obtain ⟨f1, f2, f3⟩ := ysign_set W T_h112 hr (yL_bd W T_h111 hr).2 D_h112 L_h112 S_h112 t_h111 z1
              exact yP.void ⟨rfl, N_h112, fun s hs => (O_h111 s hs).tr (f1 s hs), f2.trans z2, f3⟩
            · have c110 : w < 0 := c110
              refine yG.load xak rfl (fun _ _ => rfl) (v := yR 2073) rfl rfl ?_
              refine yG.load xik rfl (fun _ _ => rfl) (v := yI ((r : Int))) rfl rfl ?_
              refine yG.load xik rfl (fun _ _ => rfl) (v := yI ((b : Int))) rfl rfl ?_
              refine yG.load xik rfl (fun _ _ => rfl) (v := yI ((a : Int))) rfl rfl ?_
              refine yG.invV (rest := []) T_hp W.1 rfl rfl rfl rfl (y_lessSizes W d T_hp hr hb ha nb.1 na.1 (by omega)) ?_
              intro rv h113 q_h113
              obtain ⟨e_h113, M_h113, O_h113, Y_h113, m_h113, t_h113⟩ := q_h113
              subst e_h113
              have T_h113 := M_h113.1
              have N_h113 := N_hp.tr M_h113
              show yG _ _ _ _ _ _ _ _ _ _ [] _
              refine yG.goto rfl (t := 137) rfl ?_
              refine yG.load xak rfl (fun _ _ => rfl) (v := yR 2073) rfl rfl ?_
              refine yG.getR T_h113 (yF_sign W) rfl rfl ?_
              refine yG.load xik rfl (fun _ _ => rfl) (v := yI ((r : Int))) rfl rfl ?_
              refine yG.load xik rfl (fun _ _ => rfl) (v := yI (0)) rfl rfl ?_
              refine yG.iast T_h113 (yA_sign W) (by decide) rfl (by omega) (by omega) ⟨by omega, by omega⟩ (by omega) (by omega) (fun h114 T_h114 b_h114 f_h114 y_h114 => ?_)
              have N_h114 := N_h113.put T_h114 b_h114 (by decide) f_h114
              have D_h114 : ∀ s j, yD h114 s j = yD h113 s j := fun s j => yput_ne y_h114 (by decide) _
              have L_h114 : ∀ s, yL h114 s = yL h113 s := fun s => yput_ne y_h114 (by decide) _
              have S_h114 : ∀ s, yS h114 s = if s = r then 0 else yS h113 s := yput_S (r := r) y_h114
              refine yG.ret rfl (fun _ _ => rfl) ?_
              obtain ⟨z1, z2⟩ := yplus_fin (is := 0) (m := ymag h113 r) hsa hsb ht E ma mb za zb (by omega)
              obtain ⟨f1, f2, f3⟩ := ysign_set W T_h114 hr (yL_bd W T_h113 hr).2 D_h114 L_h114 S_h114 t_h113 z1
              exact yP.void ⟨rfl, N_h114, fun s hs => (O_h113 s hs).tr (f1 s hs), f2.trans z2, f3⟩
          · have c109 : w < 0 := c109
            refine yG.load xik rfl (fun _ _ => rfl) (v := yI (z102)) rfl rfl ?_
            refine yG.goto rfl (t := 113) rfl ?_
            refine yG.store1 xik (L' := [(7, yI (z102)), (6, yI (w)), (5, yI (z102)), (0, yR 2073), (1, yI ((r : Int))), (2, yI ((a : Int))), (3, yI ((b : Int))), (4, yI (t))]) rfl (fun _ _ => rfl) rfl rfl ?_
            refine yG.load xik rfl (fun _ _ => rfl) (v := yI (w)) rfl rfl ?_
            refine yG.ifz rfl (t := 130) rfl ⟨by omega, by omega⟩ (fun c115 => ?_) (fun c115 => ?_)
            · have c115 : w ≥ 0 := c115
              refine yG.load xak rfl (fun _ _ => rfl) (v := yR 2073) rfl rfl ?_
              refine yG.load xik rfl (fun _ _ => rfl) (v := yI ((r : Int))) rfl rfl ?_
              refine yG.load xik rfl (fun _ _ => rfl) (v := yI ((a : Int))) rfl rfl ?_
              refine yG.load xik rfl (fun _ _ => rfl) (v := yI ((b : Int))) rfl rfl ?_
              refine yG.invV (rest := []) T_hp W.1 rfl rfl rfl rfl (y_lessSizes W d T_hp hr ha hb na.1 nb.1 (by omega)) ?_
              intro rv h116 q_h116
              obtain ⟨e_h116, M_h116, O_h116, Y_h116, m_h116, t_h116⟩ := q_h116
              subst e_h116
              have T_h116 := M_h116.1
              have N_h116 := N_hp.tr M_h116
              show yG _ _ _ _ _ _ _ _ _ _ [] _
              refine yG.load xak rfl (fun _ _ => rfl) (v := yR 2073) rfl rfl ?_
              refine yG.getR T_h116 (yF_sign W) rfl rfl ?_
              refine yG.load xik rfl (fun _ _ => rfl) (v := yI ((r : Int))) rfl rfl ?_
              refine yG.load xik rfl (fun _ _ => rfl) (v := yI (z102)) rfl rfl ?_
              refine yG.iast T_h116 (yA_sign W) (by decide) rfl (by omega) (by omega) ⟨by omega, by omega⟩ (by omega) (by omega) (fun h117 T_h117 b_h117 f_h117 y_h117 => ?_)
              have N_h117 := N_h116.put T_h117 b_h117 (by decide) f_h117
              have D_h117 : ∀ s j, yD h117 s j = yD h116 s j := fun s j => yput_ne y_h117 (by decide) _
              have L_h117 : ∀ s, yL h117 s = yL h116 s := fun s => yput_ne y_h117 (by decide) _
              have S_h117 : ∀ s, yS h117 s = if s = r then z102 else yS h116 s := yput_S (r := r) y_h117
              refine yG.ret rfl (fun _ _ => rfl) ?_
              obtain ⟨z1, z2⟩ := yplus_fin (is := z102) (m := ymag h116 r) hsa hsb ht E ma mb za zb (by omega)
              obtain ⟨f1, f2, f3⟩ := ysign_set W T_h117 hr (yL_bd W T_h116 hr).2 D_h117 L_h117 S_h117 t_h116 z1
              exact yP.void ⟨rfl, N_h117, fun s hs => (O_h116 s hs).tr (f1 s hs), f2.trans z2, f3⟩
            · have c115 : w < 0 := c115
              refine yG.load xak rfl (fun _ _ => rfl) (v := yR 2073) rfl rfl ?_
              refine yG.load xik rfl (fun _ _ => rfl) (v := yI ((r : Int))) rfl rfl ?_
              refine yG.load xik rfl (fun _ _ => rfl) (v := yI ((b : Int))) rfl rfl ?_
              refine yG.load xik rfl (fun _ _ => rfl) (v := yI ((a : Int))) rfl rfl ?_
              refine yG.invV (rest := []) T_hp W.1 rfl rfl rfl rfl (y_lessSizes W d T_hp hr hb ha nb.1 na.1 (by omega)) ?_
              intro rv h118 q_h118
              obtain ⟨e_h118, M_h118, O_h118, Y_h118, m_h118, t_h118⟩ := q_h118
              subst e_h118
              have T_h118 := M_h118.1
              have N_h118 := N_hp.tr M_h118
              show yG _ _ _ _ _ _ _ _ _ _ [] _
              refine yG.goto rfl (t := 137) rfl ?_
              refine yG.load xak rfl (fun _ _ => rfl) (v := yR 2073) rfl rfl ?_
              refine yG.getR T_h118 (yF_sign W) rfl rfl ?_
              refine yG.load xik rfl (fun _ _ => rfl) (v := yI ((r : Int))) rfl rfl ?_
              refine yG.load xik rfl (fun _ _ => rfl) (v := yI (z102)) rfl rfl ?_
              refine yG.iast T_h118 (yA_sign W) (by decide) rfl (by omega) (by omega) ⟨by omega, by omega⟩ (by omega) (by omega) (fun h119 T_h119 b_h119 f_h119 y_h119 => ?_)
              have N_h119 := N_h118.put T_h119 b_h119 (by decide) f_h119
              have D_h119 : ∀ s j, yD h119 s j = yD h118 s j := fun s j => yput_ne y_h119 (by decide) _
              have L_h119 : ∀ s, yL h119 s = yL h118 s := fun s => yput_ne y_h119 (by decide) _
              have S_h119 : ∀ s, yS h119 s = if s = r then z102 else yS h118 s := yput_S (r := r) y_h119
              refine yG.ret rfl (fun _ _ => rfl) ?_
              obtain ⟨z1, z2⟩ := yplus_fin (is := z102) (m := ymag h118 r) hsa hsb ht E ma mb za zb (by omega)
              obtain ⟨f1, f2, f3⟩ := ysign_set W T_h119 hr (yL_bd W T_h118 hr).2 D_h119 L_h119 S_h119 t_h118 z1
              exact yP.void ⟨rfl, N_h119, fun s hs => (O_h118 s hs).tr (f1 s hs), f2.trans z2, f3⟩
        · have c108 : w > 0 := c108
          refine yG.load xak rfl (fun _ _ => rfl) (v := yR 2073) rfl rfl ?_
          refine yG.getR T_hp (yF_sign W) rfl rfl ?_
          refine yG.load xik rfl (fun _ _ => rfl) (v := yI ((a : Int))) rfl rfl ?_
          refine yG.iald T_hp (yA_sign W) rfl (by omega) (by omega) (fun z120 e_z120 i_z120 l_z120 u_z120 => ?_)
          have q_z120 : z120 = yS hp a := e_z120
          refine yG.goto rfl (t := 113) rfl ?_
          refine yG.store1 xik (L' := [(7, yI (z120)), (6, yI (w)), (5, yI (z102)), (0, yR 2073), (1, yI ((r : Int))), (2, yI ((a : Int))), (3, yI ((b : Int))), (4, yI (t))]) rfl (fun _ _ => rfl) rfl rfl ?_
          refine yG.load xik rfl (fun _ _ => rfl) (v := yI (w)) rfl rfl ?_
          refine yG.ifz rfl (t := 130) rfl ⟨by omega, by omega⟩ (fun c121 => ?_) (fun c121 => ?_)
          · have c121 : w ≥ 0 := c121
            refine yG.load xak rfl (fun _ _ => rfl) (v := yR 2073) rfl rfl ?_
            refine yG.load xik rfl (fun _ _ => rfl) (v := yI ((r : Int))) rfl rfl ?_
            refine yG.load xik rfl (fun _ _ => rfl) (v := yI ((a : Int))) rfl rfl ?_
            refine yG.load xik rfl (fun _ _ => rfl) (v := yI ((b : Int))) rfl rfl ?_
            refine yG.invV (rest := []) T_hp W.1 rfl rfl rfl rfl (y_lessSizes W d T_hp hr ha hb na.1 nb.1 (by omega)) ?_
            intro rv h122 q_h122
            obtain ⟨e_h122, M_h122, O_h122, Y_h122, m_h122, t_h122⟩ := q_h122
            subst e_h122
            have T_h122 := M_h122.1
            have N_h122 := N_hp.tr M_h122
            show yG _ _ _ _ _ _ _ _ _ _ [] _
            refine yG.load xak rfl (fun _ _ => rfl) (v := yR 2073) rfl rfl ?_
            refine yG.getR T_h122 (yF_sign W) rfl rfl ?_
            refine yG.load xik rfl (fun _ _ => rfl) (v := yI ((r : Int))) rfl rfl ?_
            refine yG.load xik rfl (fun _ _ => rfl) (v := yI (z120)) rfl rfl ?_
            refine yG.iast T_h122 (yA_sign W) (by decide) rfl (by omega) (by omega) ⟨by omega, by omega⟩ (by omega) (by omega) (fun h123 T_h123 b_h123 f_h123 y_h123 => ?_)
            have N_h123 := N_h122.put T_h123 b_h123 (by decide) f_h123
            have D_h123 : ∀ s j, yD h123 s j = yD h122 s j := fun s j => yput_ne y_h123 (by decide) _
            have L_h123 : ∀ s, yL h123 s = yL h122 s := fun s => yput_ne y_h123 (by decide) _
            have S_h123 : ∀ s, yS h123 s = if s = r then z120 else yS h122 s := yput_S (r := r) y_h123
            refine yG.ret rfl (fun _ _ => rfl) ?_
            obtain ⟨z1, z2⟩ := yplus_fin (is := z120) (m := ymag h122 r) hsa hsb ht E ma mb za zb (by omega)
            obtain ⟨f1, f2, f3⟩ := ysign_set W T_h123 hr (yL_bd W T_h122 hr).2 D_h123 L_h123 S_h123 t_h122 z1
            exact yP.void ⟨rfl, N_h123, fun s hs => (O_h122 s hs).tr (f1 s hs), f2.trans z2, f3⟩
          · have c121 : w < 0 := c121
            refine yG.load xak rfl (fun _ _ => rfl) (v := yR 2073) rfl rfl ?_
            refine yG.load xik rfl (fun _ _ => rfl) (v := yI ((r : Int))) rfl rfl ?_
            refine yG.load xik rfl (fun _ _ => rfl) (v := yI ((b : Int))) rfl rfl ?_
            refine yG.load xik rfl (fun _ _ => rfl) (v := yI ((a : Int))) rfl rfl ?_
            refine yG.invV (rest := []) T_hp W.1 rfl rfl rfl rfl (y_lessSizes W d T_hp hr hb ha nb.1 na.1 (by omega)) ?_
            intro rv h124 q_h124
            obtain ⟨e_h124, M_h124, O_h124, Y_h124, m_h124, t_h124⟩ := q_h124
            subst e_h124
            have T_h124 := M_h124.1
            have N_h124 := N_hp.tr M_h124
            show yG _ _ _ _ _ _ _ _ _ _ [] _
            refine yG.goto rfl (t := 137) rfl ?_
            refine yG.load xak rfl (fun _ _ => rfl) (v := yR 2073) rfl rfl ?_
            refine yG.getR T_h124 (yF_sign W) rfl rfl ?_
            refine yG.load xik rfl (fun _ _ => rfl) (v := yI ((r : Int))) rfl rfl ?_
            refine yG.load xik rfl (fun _ _ => rfl) (v := yI (z120)) rfl rfl ?_
            refine yG.iast T_h124 (yA_sign W) (by decide) rfl (by omega) (by omega) ⟨by omega, by omega⟩ (by omega) (by omega) (fun h125 T_h125 b_h125 f_h125 y_h125 => ?_)
            have N_h125 := N_h124.put T_h125 b_h125 (by decide) f_h125
            have D_h125 : ∀ s j, yD h125 s j = yD h124 s j := fun s j => yput_ne y_h125 (by decide) _
            have L_h125 : ∀ s, yL h125 s = yL h124 s := fun s => yput_ne y_h125 (by decide) _
            have S_h125 : ∀ s, yS h125 s = if s = r then z120 else yS h124 s := yput_S (r := r) y_h125
            refine yG.ret rfl (fun _ _ => rfl) ?_
            obtain ⟨z1, z2⟩ := yplus_fin (is := z120) (m := ymag h124 r) hsa hsb ht E ma mb za zb (by omega)
            obtain ⟨f1, f2, f3⟩ := ysign_set W T_h125 hr (yL_bd W T_h124 hr).2 D_h125 L_h125 S_h125 t_h124 z1
            exact yP.void ⟨rfl, N_h125, fun s hs => (O_h124 s hs).tr (f1 s hs), f2.trans z2, f3⟩
      · have c107 : z106 = z102 := c107
        refine yG.load xak rfl (fun _ _ => rfl) (v := yR 2073) rfl rfl ?_
        refine yG.load xik rfl (fun _ _ => rfl) (v := yI ((r : Int))) rfl rfl ?_
        refine yG.load xik rfl (fun _ _ => rfl) (v := yI ((a : Int))) rfl rfl ?_
        refine yG.load xik rfl (fun _ _ => rfl) (v := yI ((b : Int))) rfl rfl ?_
        refine yG.invV (rest := []) T_hp W.1 rfl rfl rfl rfl (y_addSizes W d T_hp hr ha hb na.1 nb.1 hm) ?_
        intro rv h126 q_h126
        obtain ⟨e_h126, M_h126, O_h126, Y_h126, m_h126, t_h126⟩ := q_h126
        subst e_h126
        have T_h126 := M_h126.1
        have N_h126 := N_hp.tr M_h126
        show yG _ _ _ _ _ _ _ _ _ _ [] _
        refine yG.load xak rfl (fun _ _ => rfl) (v := yR 2073) rfl rfl ?_
        refine yG.getR T_h126 (yF_sign W) rfl rfl ?_
        refine yG.load xik rfl (fun _ _ => rfl) (v := yI ((r : Int))) rfl rfl ?_
        refine yG.load xik rfl (fun _ _ => rfl) (v := yI (z102)) rfl rfl ?_
        refine yG.iast T_h126 (yA_sign W) (by decide) rfl (by omega) (by omega) ⟨by omega, by omega⟩ (by omega) (by omega) (fun h127 T_h127 b_h127 f_h127 y_h127 => ?_)
        have N_h127 := N_h126.put T_h127 b_h127 (by decide) f_h127
        have D_h127 : ∀ s j, yD h127 s j = yD h126 s j := fun s j => yput_ne y_h127 (by decide) _
        have L_h127 : ∀ s, yL h127 s = yL h126 s := fun s => yput_ne y_h127 (by decide) _
        have S_h127 : ∀ s, yS h127 s = if s = r then z102 else yS h126 s := yput_S (r := r) y_h127
        refine yG.goto rfl (t := 145) rfl ?_
        refine yG.ret rfl (fun _ _ => rfl) ?_
        obtain ⟨z1, z2⟩ := yplus_fin (is := z102) (m := ymag h126 r) hsa hsb ht E ma mb za zb (by omega)
        obtain ⟨f1, f2, f3⟩ := ysign_set W T_h127 hr (yL_bd W T_h126 hr).2 D_h127 L_h127 S_h127 t_h126 z1
        exact yP.void ⟨rfl, N_h127, fun s hs => (O_h126 s hs).tr (f1 s hs), f2.trans z2, f3⟩
    · have c105 : z104 = 0 := c105
      refine yG.load xak rfl (fun _ _ => rfl) (v := yR 2073) rfl rfl ?_
      refine yG.load xik rfl (fun _ _ => rfl) (v := yI ((r : Int))) rfl rfl ?_
      refine yG.load xik rfl (fun _ _ => rfl) (v := yI ((b : Int))) rfl rfl ?_
      refine yG.invV (rest := []) T_hp W.1 rfl rfl rfl rfl (y_copy W d T_hp hr hb) ?_
      intro rv h128 q_h128
      obtain ⟨m_h128, t_h128, v_h128⟩ := ycopy_mag lb q_h128
      obtain ⟨e_h128, M_h128, O_h128, X_h128, Y_h128, -⟩ := q_h128
      subst e_h128
      have T_h128 := M_h128.1
      have N_h128 := N_hp.tr M_h128
      show yG _ _ _ _ _ _ _ _ _ _ [] _
      refine yG.load xak rfl (fun _ _ => rfl) (v := yR 2073) rfl rfl ?_
      refine yG.getR T_h128 (yF_sign W) rfl rfl ?_
      refine yG.load xik rfl (fun _ _ => rfl) (v := yI ((r : Int))) rfl rfl ?_
      refine yG.load xik rfl (fun _ _ => rfl) (v := yI (z102)) rfl rfl ?_
      refine yG.iast T_h128 (yA_sign W) (by decide) rfl (by omega) (by omega) ⟨by omega, by omega⟩ (by omega) (by omega) (fun h129 T_h129 b_h129 f_h129 y_h129 => ?_)
      have N_h129 := N_h128.put T_h129 b_h129 (by decide) f_h129
      have D_h129 : ∀ s j, yD h129 s j = yD h128 s j := fun s j => yput_ne y_h129 (by decide) _
      have L_h129 : ∀ s, yL h129 s = yL h128 s := fun s => yput_ne y_h129 (by decide) _
      have S_h129 : ∀ s, yS h129 s = if s = r then z102 else yS h128 s := yput_S (r := r) y_h129
      refine yG.goto rfl (t := 145) rfl ?_
      refine yG.ret rfl (fun _ _ => rfl) ?_
      obtain ⟨z1, z2⟩ := yplus_fin (is := z102) (m := ymag h128 r) hsa hsb ht E ma mb za zb (by omega)
      obtain ⟨f1, f2, f3⟩ := ysign_set W T_h129 hr (yL_bd W T_h128 hr).2 D_h129 L_h129 S_h129 (t_h128 nb.1) z1
      exact yP.void ⟨rfl, N_h129, fun s hs => (O_h128 s hs).tr (f1 s hs), f2.trans z2, f3⟩
  · have c103 : z102 = 0 := c103
    refine yG.load xak rfl (fun _ _ => rfl) (v := yR 2073) rfl rfl ?_
    refine yG.load xik rfl (fun _ _ => rfl) (v := yI ((r : Int))) rfl rfl ?_
    refine yG.load xik rfl (fun _ _ => rfl) (v := yI ((a : Int))) rfl rfl ?_
    refine yG.invV (rest := []) T_hp W.1 rfl rfl rfl rfl (y_copy W d T_hp hr ha) ?_
    intro rv h130 q_h130
    obtain ⟨m_h130, t_h130, v_h130⟩ := ycopy_mag la q_h130
    obtain ⟨e_h130, M_h130, O_h130, X_h130, Y_h130, -⟩ := q_h130
    subst e_h130
    have T_h130 := M_h130.1
    have N_h130 := N_hp.tr M_h130
    show yG _ _ _ _ _ _ _ _ _ _ [] _
    refine yG.goto rfl (t := 145) rfl ?_
    refine yG.ret rfl (fun _ _ => rfl) ?_
    have sb : yS hp b = 0 := by
      rcases hsb with e | e | e
      · rw [e] at E; rcases ht with rfl | rfl <;> omega
      · exact e
      · rw [e] at E; rcases ht with rfl | rfl <;> omega
    exact yP.void ⟨rfl, N_h130, O_h130, by
      rw [v_h130]
      show _ = yval hp a + t * (yS hp b * ymag hp b)
      rw [sb, Int.zero_mul, Int.mul_zero, Int.add_zero], yNorm.mk W T_h130 hr (t_h130 na.1) (by rw [Y_h130, m_h130]; exact za)⟩
end YPlus
