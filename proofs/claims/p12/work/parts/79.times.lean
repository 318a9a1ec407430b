/-! ===== the reference: registers multiplied ===== -/
noncomputable def yPd (hp : xH) (j : Nat) : Int := ys hp 2077 j
section YTimes
variable {G : zW} {hp : xH} {r a b : Nat}
theorem yPd_bd (W : yMW G) (hT : zTy G hp) {j : Nat} (hj : j < 512) : 0 ≤ yPd hp j ∧ yPd hp j ≤ 999999999 := by
  obtain ⟨-, -, x, y⟩ := (yA_product W).int hT hj
  exact ⟨x, y⟩
theorem y_times (W : yMW G) (d : Nat) (hT : zTy G hp) (hr : r < 3412) (ha : a < 3412) (hb : b < 3412) (na : yNorm hp a) (nb : yNorm hp b) (hm : ymag hp a * ymag hp b < yB 256) : yC (xcall 89 xfts xpools xms (d + 1)) 531 [yR 2073, yI (r : Int), yI (a : Int), yI (b : Int)] hp (yQ_val G [2074, 2075, 2076, 2077] hp r (yval hp a * yval hp b)) := by
  have T_hp := hT
  obtain ⟨bl1, bl2⟩ := yL_bd W hT ha
  obtain ⟨bl3, bl4⟩ := yL_bd W hT hb
  obtain ⟨bs1, bs2⟩ := yS_bd W hT ha
  obtain ⟨bs3, bs4⟩ := yS_bd W hT hb
  have ga := yFig_of W hT ha
  have gb := yFig_of W hT hb
  obtain ⟨n, hn⟩ : ∃ n : Nat, yL hp a = (n : Int) := ⟨(yL hp a).toNat, by omega⟩
  obtain ⟨m, hm9⟩ : ∃ m : Nat, yL hp b = (m : Int) := ⟨(yL hp b).toNat, by omega⟩
  have mga : ymag hp a = ysum (yD hp a) n := by show ysum _ (yL hp a).toNat = _; rw [hn]; rfl
  have mgb : ymag hp b = ysum (yD hp b) m := by show ysum _ (yL hp b).toNat = _; rw [hm9]; rfl
  have za := na.sg W hT ha
  have zb := nb.sg W hT hb
  have ma0 := (ymag_bd W hT ha).1
  have mb0 := (ymag_bd W hT hb).1
  have hsa : yS hp a = -1 ∨ yS hp a = 0 ∨ yS hp a = 1 := by omega
  have hsb : yS hp b = -1 ∨ yS hp b = 0 ∨ yS hp b = 1 := by omega
  have zi : zi32 (yS hp a * yS hp b) ∧ -1 ≤ yS hp a * yS hp b ∧ yS hp a * yS hp b ≤ 1 := by
    rcases hsa with e | e | e <;> rcases hsb with e2 | e2 | e2 <;> rw [e, e2] <;> exact ⟨⟨by omega, by omega⟩, by omega, by omega⟩
  obtain ⟨⟨zi1, zi2⟩, zi3, zi4⟩ := zi
  have zz : yS hp a * yS hp b = 0 ↔ yS hp a = 0 ∨ yS hp b = 0 := Int.mul_eq_zero
  have mm : ymag hp a * ymag hp b = 0 ↔ ymag hp a = 0 ∨ ymag hp b = 0 := Int.mul_eq_zero
  have fin : yS hp a * yS hp b * (ymag hp a * ymag hp b) = yval hp a * yval hp b := by
    show _ = yS hp a * ymag hp a * (yS hp b * ymag hp b)
    generalize yS hp a = p; generalize yS hp b = q; generalize ymag hp a = u; generalize ymag hp b = v
    grind
  obtain ⟨sg, hsg⟩ : ∃ sg : Int, sg = yS hp a * yS hp b := ⟨_, rfl⟩
  rw [← hsg] at zi1 zi2 zi3 zi4 zz fin
  have HE : ∀ t : Nat, t ≤ 256 → ∀ m9 k : Nat, ∀ hq, m9 + k = t → yNx G [2074, 2075, 2076, 2077] hp hq → (∀ s, yL hq s = yL hp s) → (∀ s, yS hq s = yS hp s) → (∀ s j, j < 256 → s ≠ r → yD hq s j = yD hp s j) → (∀ j, j < k → yD hq r j = yPd hq j) → sg * ysum (yPd hq) t = yval hp a * yval hp b → (sg = 0 ↔ ysum (yPd hq) t = 0) → (0 < t → yPd hq (t - 1) ≠ 0) → yG 89 xfts (xcall 89 xfts xpools xms d) (xpool xp_RX13) [] xt_X13_times (yP 0 (yQ_val G [2074, 2075, 2076, 2077] hp r (yval hp a * yval hp b))) (60 * m9 + 100) 226 [(8, yI ((k : Int))), (7, yI ((t : Int))), (6, yI (sg)), (5, yI ((m : Int))), (4, yI ((n : Int))), (0, yR 2073), (1, yI ((r : Int))), (2, yI ((a : Int))), (3, yI ((b : Int)))] [] hq := by
    intro t ht m9
    induction m9 using Nat.strongRecOn with
    | _ m9 ih =>
      intro k hq hk N_hq I1 I2 I3 I4 I5 I6 I7
      have T_hq := N_hq.1
      refine yG.load xik rfl (fun _ _ => rfl) (v := yI ((k : Int))) rfl rfl ?_
      refine yG.load xik rfl (fun _ _ => rfl) (v := yI ((t : Int))) rfl rfl ?_
      refine yG.icmp rfl (t := 259) rfl ⟨by omega, by omega⟩ ⟨by omega, by omega⟩ (fun c1 => ?_) (fun c1 => ?_)
      · have c1 : (k : Int) ≥ (t : Int) := c1
        refine yG.load xak rfl (fun _ _ => rfl) (v := yR 2073) rfl rfl ?_
        refine yG.getR T_hq (yF_length W) rfl rfl ?_
        refine yG.load xik rfl (fun _ _ => rfl) (v := yI ((r : Int))) rfl rfl ?_
        refine yG.load xik rfl (fun _ _ => rfl) (v := yI ((t : Int))) rfl rfl ?_
        refine yG.iast T_hq (yA_length W) (by decide) rfl (by omega) (by omega) ⟨by omega, by omega⟩ (by omega) (by omega) (fun h2 T_h2 b_h2 f_h2 y_h2 => ?_)
        have N_h2 := N_hq.put T_h2 b_h2 (by decide) f_h2
        have D_h2 : ∀ s j, yD h2 s j = yD hq s j := fun s j => yput_ne y_h2 (by decide) _
        have L_h2 : ∀ s, yL h2 s = if s = r then (t : Int) else yL hq s := yput_L (r := r) y_h2
        have S_h2 : ∀ s, yS h2 s = yS hq s := fun s => yput_ne y_h2 (by decide) _
        have yPd_h2 : ∀ t, yPd h2 t = yPd hq t := fun t => yput_ne y_h2 (by decide) _
        refine yG.load xak rfl (fun _ _ => rfl) (v := yR 2073) rfl rfl ?_
        refine yG.getR T_h2 (yF_sign W) rfl rfl ?_
        refine yG.load xik rfl (fun _ _ => rfl) (v := yI ((r : Int))) rfl rfl ?_
        refine yG.load xik rfl (fun _ _ => rfl) (v := yI (sg)) rfl rfl ?_
        refine yG.iast T_h2 (yA_sign W) (by decide) rfl (by omega) (by omega) ⟨by omega, by omega⟩ (by omega) (by omega) (fun h3 T_h3 b_h3 f_h3 y_h3 => ?_)
        have N_h3 := N_h2.put T_h3 b_h3 (by decide) f_h3
        have D_h3 : ∀ s j, yD h3 s j = yD h2 s j := fun s j => yput_ne y_h3 (by decide) _
        have L_h3 : ∀ s, yL h3 s = yL h2 s := fun s => yput_ne y_h3 (by decide) _
        have S_h3 : ∀ s, yS h3 s = if s = r then sg else yS h2 s := yput_S (r := r) y_h3
        have yPd_h3 : ∀ t, yPd h3 t = yPd h2 t := fun t => yput_ne y_h3 (by decide) _
        refine yG.ret rfl (fun _ _ => rfl) ?_
        have ek : k = t := by omega
        have mg : ymag h2 r = ysum (yPd hq) t := by
          show ysum (yD h2 r) (yL h2 r).toNat = _
          rw [L_h2, if_pos rfl]
          exact ysum_congr fun j hj => by rw [D_h2, I4 j (by omega)]
        obtain ⟨f1, f2, f3⟩ := ysign_set W T_h3 hr (yL_bd W T_h2 hr).2 D_h3 L_h3 S_h3 (fun h0 => by
          rw [L_h2, if_pos rfl] at h0 ⊢
          rw [D_h2, show (t : Int).toNat - 1 = t - 1 by omega, I4 _ (by omega)]
          exact I7 (by omega)) (by rw [mg]; exact I6)
        exact yP.void ⟨rfl, N_h3, fun s hs => (show ySm hp h2 s from ⟨by rw [L_h2, if_neg hs, I1], by rw [S_h2, I2], fun j hj => by rw [D_h2, I3 s j hj hs]⟩).tr (f1 s hs), by rw [f2, mg, I5], f3⟩
      · have c1 : (k : Int) < (t : Int) := c1
        refine yG.load xak rfl (fun _ _ => rfl) (v := yR 2073) rfl rfl ?_
        refine yG.getR T_hq (yF_big W) rfl rfl ?_
        refine yG.num (c := 256) rfl (fun _ _ => rfl) (by decide) ?_
        refine yG.load xik rfl (fun _ _ => rfl) (v := yI ((r : Int))) rfl rfl ?_
        refine yG.imul rfl ?_
        refine yG.load xik rfl (fun _ _ => rfl) (v := yI ((k : Int))) rfl rfl ?_
        refine yG.iadd rfl ?_
        refine yG.load xak rfl (fun _ _ => rfl) (v := yR 2073) rfl rfl ?_
        refine yG.getR T_hq (yF_product W) rfl rfl ?_
        refine yG.load xik rfl (fun _ _ => rfl) (v := yI ((k : Int))) rfl rfl ?_
        refine yG.iald T_hq (yA_product W) rfl (by omega) (by omega) (fun z4 e_z4 i_z4 l_z4 u_z4 => ?_)
        have q_z4 : z4 = yPd hq (k) := e_z4.trans (by show ys _ 2077 _ = ys _ 2077 _; rw [show ((k : Int)).toNat = k by omega])
        refine yG.iast T_hq (yA_big W) (by decide) rfl (by omega) (by omega) ⟨by omega, by omega⟩ (by omega) (by omega) (fun h5 T_h5 b_h5 f_h5 y_h5 => ?_)
        have N_h5 := N_hq.put T_h5 b_h5 (by decide) f_h5
        have D_h5 : ∀ s j, j < 256 → yD h5 s j = if s = r ∧ j = k then z4 else yD hq s j := yput_D (r := r) (k := k) y_h5 (by omega) (by omega)
        have L_h5 : ∀ s, yL h5 s = yL hq s := fun s => yput_ne y_h5 (by decide) _
        have S_h5 : ∀ s, yS h5 s = yS hq s := fun s => yput_ne y_h5 (by decide) _
        have yPd_h5 : ∀ t, yPd h5 t = yPd hq t := fun t => yput_ne y_h5 (by decide) _
        refine yG.iinc rfl (a := (k : Int)) rfl (L' := [(8, yI ((k : Int) + 1)), (7, yI ((t : Int))), (6, yI (sg)), (5, yI ((m : Int))), (4, yI ((n : Int))), (0, yR 2073), (1, yI ((r : Int))), (2, yI ((a : Int))), (3, yI ((b : Int)))]) rfl ?_
        refine yG.goto rfl (t := 226) rfl ?_
        exact yG.mono (ih (m9 - 1) (by omega) (k + 1) h5 (by omega) N_h5 (fun s => (L_h5 s).trans (I1 s)) (fun s => (S_h5 s).trans (I2 s)) (fun s j hj hs => by rw [D_h5 s j hj, if_neg (fun e => hs e.1)]; exact I3 s j hj hs) (fun j hj => by
          rw [D_h5 r j (by omega), yPd_h5]
          by_cases e : j = k
          · rw [if_pos ⟨rfl, e⟩, e]; omega
          · rw [if_neg (fun h => e h.2)]; exact I4 j (by omega)) (by rw [ysum_congr fun j _ => yPd_h5 j]; exact I5) (by rw [ysum_congr fun j _ => yPd_h5 j]; exact I6) (fun h0 => by rw [yPd_h5]; exact I7 h0)) (by omega)
  have HD : ∀ t : Nat, ∀ hq, t ≤ n + m → yNx G [2074, 2075, 2076, 2077] hp hq → (∀ s, yL hq s = yL hp s) → (∀ s, yS hq s = yS hp s) → (∀ s j, j < 256 → yD hq s j = yD hp s j) → sg * ysum (yPd hq) t = yval hp a * yval hp b → (sg = 0 ↔ ysum (yPd hq) t = 0) → ysum (yPd hq) t < yB 256 → yG 89 xfts (xcall 89 xfts xpools xms d) (xpool xp_RX13) [] xt_X13_times (yP 0 (yQ_val G [2074, 2075, 2076, 2077] hp r (yval hp a * yval hp b))) (60 * t + 60 * 256 + 300) 200 [(7, yI ((t : Int))), (6, yI (sg)), (5, yI ((m : Int))), (4, yI ((n : Int))), (0, yR 2073), (1, yI ((r : Int))), (2, yI ((a : Int))), (3, yI ((b : Int)))] [] hq := by
    intro t
    induction t with
    | zero =>
      intro hq _ N_hq I1 I2 I3 I5 I6 I8
      have T_hq := N_hq.1
      refine yG.load xik rfl (fun _ _ => rfl) (v := yI (((0 : Nat) : Int))) rfl rfl ?_
      refine yG.ifz rfl (t := 223) rfl ⟨by omega, by omega⟩ (fun c => ?_) (fun c => absurd (show (0 : Int) < ((0 : Nat) : Int) from c) (by omega))
      refine yG.num (c := 0) rfl (fun _ _ => rfl) (by decide) ?_
      refine yG.store1 xik (L' := [(8, yI (0)), (7, yI (((0 : Nat) : Int))), (6, yI (sg)), (5, yI ((m : Int))), (4, yI ((n : Int))), (0, yR 2073), (1, yI ((r : Int))), (2, yI ((a : Int))), (3, yI ((b : Int)))]) rfl (fun _ _ => rfl) rfl rfl ?_
      exact yG.mono (HE 0 (by omega) 0 0 hq rfl N_hq I1 I2 (fun s j hj _ => I3 s j hj) (fun _ h => absurd h (by omega)) I5 I6 (fun h => absurd h (by omega))) (by omega)
    | succ t ih =>
      intro hq ht N_hq I1 I2 I3 I5 I6 I8
      have T_hq := N_hq.1
      have b9 := yPd_bd W T_hq (j := t) (by omega)
      have gp : yFig (yPd hq) (t + 1) := fun j hj => yPd_bd W T_hq (by omega)
      refine yG.load xik rfl (fun _ _ => rfl) (v := yI (((t + 1 : Nat) : Int))) rfl rfl ?_
      refine yG.ifz rfl (t := 223) rfl ⟨by omega, by omega⟩ (fun c1 => ?_) (fun c1 => ?_)
      · have c1 : ((t + 1 : Nat) : Int) ≤ 0 := c1
        refine yG.num (c := 0) rfl (fun _ _ => rfl) (by decide) ?_
        refine yG.store1 xik (L' := [(8, yI (0)), (7, yI (((t + 1 : Nat) : Int))), (6, yI (sg)), (5, yI ((m : Int))), (4, yI ((n : Int))), (0, yR 2073), (1, yI ((r : Int))), (2, yI ((a : Int))), (3, yI ((b : Int)))]) rfl (fun _ _ => rfl) rfl rfl ?_
        exfalso; omega
      · have c1 : ((t + 1 : Nat) : Int) > 0 := c1
        refine yG.load xak rfl (fun _ _ => rfl) (v := yR 2073) rfl rfl ?_
        refine yG.getR T_hq (yF_product W) rfl rfl ?_
        refine yG.load xik rfl (fun _ _ => rfl) (v := yI (((t + 1 : Nat) : Int))) rfl rfl ?_
        refine yG.num (c := 1) rfl (fun _ _ => rfl) (by decide) ?_
        refine yG.isub rfl ?_
        refine yG.iald T_hq (yA_product W) rfl (by omega) (by omega) (fun z2 e_z2 i_z2 l_z2 u_z2 => ?_)
        have q_z2 : z2 = yPd hq (t) := e_z2.trans (by show ys _ 2077 _ = ys _ 2077 _; rw [show ((((t + 1 : Nat) : Int)) - 1).toNat = t by omega])
        refine yG.ifz rfl (t := 223) rfl ⟨by omega, by omega⟩ (fun c3 => ?_) (fun c3 => ?_)
        · have c3 : z2 ≠ 0 := c3
          refine yG.num (c := 0) rfl (fun _ _ => rfl) (by decide) ?_
          refine yG.store1 xik (L' := [(8, yI (0)), (7, yI (((t + 1 : Nat) : Int))), (6, yI (sg)), (5, yI ((m : Int))), (4, yI ((n : Int))), (0, yR 2073), (1, yI ((r : Int))), (2, yI ((a : Int))), (3, yI ((b : Int)))]) rfl (fun _ _ => rfl) rfl rfl ?_
          have hz : yPd hq t ≠ 0 := by omega
          have t256 : t + 1 ≤ 256 := by
            have h1 := ysum_top gp hz
            rcases Nat.lt_or_ge t 256 with h | h
            · omega
            · have := yB_mono h
              omega
          exact yG.mono (HE (t + 1) t256 (t + 1) 0 hq rfl N_hq I1 I2 (fun s j hj _ => I3 s j hj) (fun _ h => absurd h (by omega)) I5 I6 (fun _ => hz)) (by omega)
        · have c3 : z2 = 0 := c3
          refine yG.iinc rfl (a := ((t + 1 : Nat) : Int)) rfl (L' := [(7, yI (((t + 1 : Nat) : Int) + (-1))), (6, yI (sg)), (5, yI ((m : Int))), (4, yI ((n : Int))), (0, yR 2073), (1, yI ((r : Int))), (2, yI ((a : Int))), (3, yI ((b : Int)))]) rfl ?_
          refine yG.goto rfl (t := 200) rfl ?_
          have hz : yPd hq t = 0 := by omega
          have e9 : ysum (yPd hq) (t + 1) = ysum (yPd hq) t := by rw [ysum_succ, hz, Int.zero_mul, Int.add_zero]
          rw [e9] at I5 I6 I8
          exact yG.mono ((show yG _ _ _ _ _ _ _ _ _ [(7, yI (((t + 1 : Nat) : Int) + (-1))), (6, yI sg), (5, yI (m : Int)), (4, yI (n : Int)), (0, yR 2073), (1, yI (r : Int)), (2, yI (a : Int)), (3, yI (b : Int))] _ _ from by rw [show ((t + 1 : Nat) : Int) + (-1) = (t : Int) by omega]; exact ih hq (by omega) N_hq I1 I2 I3 I5 I6 I8)) (by omega)
  have HB : ∀ m9 i : Nat, ∀ hq, m9 + i = n → yNx G [2074, 2075, 2076, 2077] hp hq → (∀ s, yL hq s = yL hp s) → (∀ s, yS hq s = yS hp s) → (∀ s j, j < 256 → yD hq s j = yD hp s j) → ysum (yPd hq) (i + m) = ysum (yD hp a) i * ymag hp b → (∀ j, i + m ≤ j → j < n + m → yPd hq j = 0) → yG 89 xfts (xcall 89 xfts xpools xms d) (xpool xp_RX13) [] xt_X13_times (yP 0 (yQ_val G [2074, 2075, 2076, 2077] hp r (yval hp a * yval hp b))) ((60 * m + 200) * m9 + 60 * (n + m) + 60 * 256 + 500) 46 [(6, yI ((i : Int))), (5, yI ((m : Int))), (4, yI ((n : Int))), (0, yR 2073), (1, yI ((r : Int))), (2, yI ((a : Int))), (3, yI ((b : Int)))] [] hq := by
    intro m9
    induction m9 with
    | zero =>
      intro i hq hi N_hq I1 I2 I3 I5 I6
      have T_hq := N_hq.1
      have ei : i = n := by omega
      subst ei
      rw [← mga] at I5
      refine yG.load xik rfl (fun _ _ => rfl) (v := yI (i : Int)) rfl rfl ?_
      refine yG.load xik rfl (fun _ _ => rfl) (v := yI (i : Int)) rfl rfl ?_
      refine yG.icmp rfl (t := 169) rfl ⟨by omega, by omega⟩ ⟨by omega, by omega⟩ (fun c => ?_) (fun c => absurd (show (i : Int) < i from c) (by omega))
      refine yG.load xak rfl (fun _ _ => rfl) (v := yR 2073) rfl rfl ?_
      refine yG.getR T_hq (yF_sign W) rfl rfl ?_
      refine yG.load xik rfl (fun _ _ => rfl) (v := yI ((a : Int))) rfl rfl ?_
      refine yG.iald T_hq (yA_sign W) rfl (by omega) (by omega) (fun z51 e_z51 i_z51 l_z51 u_z51 => ?_)
      have q_z51 : z51 = yS hq a := e_z51
      refine yG.load xak rfl (fun _ _ => rfl) (v := yR 2073) rfl rfl ?_
      refine yG.getR T_hq (yF_sign W) rfl rfl ?_
      refine yG.load xik rfl (fun _ _ => rfl) (v := yI ((b : Int))) rfl rfl ?_
      refine yG.iald T_hq (yA_sign W) rfl (by omega) (by omega) (fun z52 e_z52 i_z52 l_z52 u_z52 => ?_)
      have q_z52 : z52 = yS hq b := e_z52
      refine yG.imul rfl ?_
      obtain ⟨z53, e_z53⟩ : ∃ z : Int, z = z51 * z52 := ⟨_, rfl⟩
      rw [← e_z53]
      have E : z53 = sg := by rw [e_z53, q_z51, q_z52, I2, I2, hsg]
      rw [E] at *
      clear e_z53
      refine yG.store1 xik (L' := [(6, yI (sg)), (5, yI ((m : Int))), (4, yI ((i : Int))), (0, yR 2073), (1, yI ((r : Int))), (2, yI ((a : Int))), (3, yI ((b : Int)))]) rfl (fun _ _ => rfl) rfl rfl ?_
      refine yG.load xik rfl (fun _ _ => rfl) (v := yI (sg)) rfl rfl ?_
      refine yG.ifz rfl (t := 193) rfl ⟨by omega, by omega⟩ (fun c54 => ?_) (fun c54 => ?_)
      · have c54 : sg ≠ 0 := c54
        refine yG.load xik rfl (fun _ _ => rfl) (v := yI ((i : Int))) rfl rfl ?_
        refine yG.load xik rfl (fun _ _ => rfl) (v := yI ((m : Int))) rfl rfl ?_
        refine yG.iadd rfl ?_
        obtain ⟨z55, e_z55⟩ : ∃ z : Int, z = (i : Int) + (m : Int) := ⟨_, rfl⟩
        rw [← e_z55]
        refine yG.store1 xik (L' := [(7, yI (z55)), (6, yI (sg)), (5, yI ((m : Int))), (4, yI ((i : Int))), (0, yR 2073), (1, yI ((r : Int))), (2, yI ((a : Int))), (3, yI ((b : Int)))]) rfl (fun _ _ => rfl) rfl rfl ?_
        have es : sg ≠ 0 := by omega
        have e7 : z55 = ((i + m : Nat) : Int) := by omega
        rw [e7]
        exact yG.mono (HD (i + m) hq (by omega) N_hq I1 I2 I3 (by rw [I5, fin]) (by rw [I5, mm, ← za, ← zb]; exact zz) (by rw [I5]; exact hm)) (by omega)
      · have c54 : sg = 0 := c54
        refine yG.num (c := 0) rfl (fun _ _ => rfl) (by decide) ?_
        refine yG.goto rfl (t := 198) rfl ?_
        refine yG.store1 xik (L' := [(7, yI (0)), (6, yI (sg)), (5, yI ((m : Int))), (4, yI ((i : Int))), (0, yR 2073), (1, yI ((r : Int))), (2, yI ((a : Int))), (3, yI ((b : Int)))]) rfl (fun _ _ => rfl) rfl rfl ?_
        have es : sg = 0 := by omega
        exact yG.mono (HD 0 hq (by omega) N_hq I1 I2 I3 (by rw [es, Int.zero_mul, ← fin, es, Int.zero_mul]) ⟨fun _ => rfl, fun _ => es⟩ (by have := yB_pos 256; show (0 : Int) < _; omega)) (by omega)
    | succ m9 ih =>
      intro i hq hi N_hq I1 I2 I3 I5 I6
      have T_hq := N_hq.1
      have hin : i < n := by omega
      have ax := ga i (by omega)
      obtain ⟨KF, hKF⟩ : ∃ K : Nat, K = (60 * m + 200) * m9 + 60 * (n + m) + 60 * 256 + 500 := ⟨_, rfl⟩
      have HC : ∀ m8 j : Nat, ∀ cy : Int, ∀ hq, m8 + j = m → yNx G [2074, 2075, 2076, 2077] hp hq → (∀ s, yL hq s = yL hp s) → (∀ s, yS hq s = yS hp s) → (∀ s j, j < 256 → yD hq s j = yD hp s j) → 0 ≤ cy → cy ≤ 999999999 → ysum (yPd hq) (i + m) + cy * yB (i + j) = ysum (yD hp a) i * ymag hp b + yD hp a i * yB i * ysum (yD hp b) j → (∀ j, i + m ≤ j → j < n + m → yPd hq j = 0) → yG 89 xfts (xcall 89 xfts xpools xms d) (xpool xp_RX13) [] xt_X13_times (yP 0 (yQ_val G [2074, 2075, 2076, 2077] hp r (yval hp a * yval hp b))) (KF + 60 * m8 + 100) 75 [(11, yI ((j : Int))), (9, yJ (cy)), (7, yJ (yD hp a i)), (6, yI ((i : Int))), (5, yI ((m : Int))), (4, yI ((n : Int))), (0, yR 2073), (1, yI ((r : Int))), (2, yI ((a : Int))), (3, yI ((b : Int)))] [] hq := by
        intro m8
        induction m8 with
        | zero =>
          intro j cy hq hj N_hq I1 I2 I3 I7 I8 I5 I6
          have T_hq := N_hq.1
          have ej : j = m := by omega
          subst ej
          refine yG.load xik rfl (fun _ _ => rfl) (v := yI (j : Int)) rfl rfl ?_
          refine yG.load xik rfl (fun _ _ => rfl) (v := yI (j : Int)) rfl rfl ?_
          refine yG.icmp rfl (t := 150) rfl ⟨by omega, by omega⟩ ⟨by omega, by omega⟩ (fun c => ?_) (fun c => absurd (show (j : Int) < j from c) (by omega))
          refine yG.load xak rfl (fun _ _ => rfl) (v := yR 2073) rfl rfl ?_
          refine yG.getR T_hq (yF_product W) rfl rfl ?_
          refine yG.load xik rfl (fun _ _ => rfl) (v := yI ((i : Int))) rfl rfl ?_
          refine yG.load xik rfl (fun _ _ => rfl) (v := yI ((j : Int))) rfl rfl ?_
          refine yG.iadd rfl ?_
          refine yG.load xlk2 rfl (fun _ _ => rfl) (v := yJ (cy)) rfl rfl ?_
          refine yG.l2i rfl ?_
          refine yG.iast T_hq (yA_product W) (by decide) rfl (by omega) (by omega) ⟨by omega, by omega⟩ (by omega) (by omega) (fun h71 T_h71 b_h71 f_h71 y_h71 => ?_)
          have N_h71 := N_hq.put T_h71 b_h71 (by decide) f_h71
          have D_h71 : ∀ s j, yD h71 s j = yD hq s j := fun s j => yput_ne y_h71 (by decide) _
          have L_h71 : ∀ s, yL h71 s = yL hq s := fun s => yput_ne y_h71 (by decide) _
          have S_h71 : ∀ s, yS h71 s = yS hq s := fun s => yput_ne y_h71 (by decide) _
          have yPd_h71 : ∀ t, yPd h71 t = if t = i + j then cy else yPd hq t := yput_A (n := i + j) y_h71 (by omega)
          refine yG.iinc rfl (a := (i : Int)) rfl (L' := [(6, yI ((i : Int) + 1)), (11, yI ((j : Int))), (9, yJ (cy)), (7, yJ (yD hp a i)), (5, yI ((j : Int))), (4, yI ((n : Int))), (0, yR 2073), (1, yI ((r : Int))), (2, yI ((a : Int))), (3, yI ((b : Int)))]) rfl ?_
          refine yG.goto rfl (t := 46) rfl ?_
          refine yG.mono ((ih (i + 1) h71 (by omega) N_h71 (fun s => (L_h71 s).trans (I1 s)) (fun s => (S_h71 s).trans (I2 s)) (fun s j9 hj9 => (D_h71 s j9).trans (I3 s j9 hj9)) ?_ ?_).sub (ySub.cons rfl (ySub.cons rfl (ySub.cons rfl (ySub.cons rfl (ySub.cons rfl (ySub.cons rfl (ySub.cons rfl (ySub.nil))))))))) (by omega)
          · rw [show i + 1 + j = (i + j) + 1 by omega, ysum_succ, ysum_succ, Int.add_mul, yPd_h71, if_pos rfl, mgb, show ysum (yPd h71) (i + j) = ysum (yPd hq) (i + j) from ysum_congr fun t ht => by rw [yPd_h71, if_neg (by omega)], I5, mgb]
          · intro t h1 h2
            rw [yPd_h71, if_neg (by omega)]
            exact I6 t (by omega) h2
        | succ m8 ih8 =>
          intro j cy hq hj N_hq I1 I2 I3 I7 I8 I5 I6
          have T_hq := N_hq.1
          have hjm : j < m := by omega
          have bx := gb j (by omega)
          have px := yPd_bd W T_hq (j := i + j) (by omega)
          have e9 : yD hq b j = yD hp b j := I3 b j (by omega)
          have v1 : 0 ≤ yD hp a i * yD hp b j := Int.mul_nonneg ax.1 bx.1
          have v2 : yD hp a i * yD hp b j ≤ 999999999 * 999999999 := Int.mul_le_mul ax.2 bx.2 bx.1 (by omega)
          refine yG.load xik rfl (fun _ _ => rfl) (v := yI (j : Int)) rfl rfl ?_
          refine yG.load xik rfl (fun _ _ => rfl) (v := yI (m : Int)) rfl rfl ?_
          refine yG.icmp rfl (t := 150) rfl ⟨by omega, by omega⟩ ⟨by omega, by omega⟩ (fun c => absurd (show (j : Int) ≥ m from c) (by omega)) (fun c => ?_)
          refine yG.load xlk2 rfl (fun _ _ => rfl) (v := yJ (yD hp a i)) rfl rfl ?_
          refine yG.load xak rfl (fun _ _ => rfl) (v := yR 2073) rfl rfl ?_
          refine yG.getR T_hq (yF_big W) rfl rfl ?_
          refine yG.num (c := 256) rfl (fun _ _ => rfl) (by decide) ?_
          refine yG.load xik rfl (fun _ _ => rfl) (v := yI ((b : Int))) rfl rfl ?_
          refine yG.imul rfl ?_
          refine yG.load xik rfl (fun _ _ => rfl) (v := yI ((j : Int))) rfl rfl ?_
          refine yG.iadd rfl ?_
          refine yG.iald T_hq (yA_big W) rfl (by omega) (by omega) (fun z91 e_z91 i_z91 l_z91 u_z91 => ?_)
          have q_z91 : z91 = yD hq b (j) := e_z91.trans (yBig (by omega))
          have r_z91 : z91 = yD hp b j := by omega
          rw [r_z91]
          refine yG.i2l rfl ⟨by omega, by omega⟩ ?_
          refine yG.lmul rfl ?_
          refine yG.load xak rfl (fun _ _ => rfl) (v := yR 2073) rfl rfl ?_
          refine yG.getR T_hq (yF_product W) rfl rfl ?_
          refine yG.load xik rfl (fun _ _ => rfl) (v := yI ((i : Int))) rfl rfl ?_
          refine yG.load xik rfl (fun _ _ => rfl) (v := yI ((j : Int))) rfl rfl ?_
          refine yG.iadd rfl ?_
          refine yG.iald T_hq (yA_product W) rfl (by omega) (by omega) (fun z92 e_z92 i_z92 l_z92 u_z92 => ?_)
          have q_z92 : z92 = yPd hq (i + j) := e_z92.trans (by show ys _ 2077 _ = ys _ 2077 _; rw [show ((i : Int) + (j : Int)).toNat = i + j by omega])
          refine yG.i2l rfl ⟨by omega, by omega⟩ ?_
          refine yG.ladd rfl ?_
          refine yG.load xlk2 rfl (fun _ _ => rfl) (v := yJ (cy)) rfl rfl ?_
          refine yG.ladd rfl ?_
          obtain ⟨z93, e_z93⟩ : ∃ z : Int, z = (((yD hp a i) * (yD hp b j)) + z92) + cy := ⟨_, rfl⟩
          rw [← e_z93]
          refine yG.store2 xlk2 (L' := [(12, yJ (z93)), (11, yI ((j : Int))), (9, yJ (cy)), (7, yJ (yD hp a i)), (6, yI ((i : Int))), (5, yI ((m : Int))), (4, yI ((n : Int))), (0, yR 2073), (1, yI ((r : Int))), (2, yI ((a : Int))), (3, yI ((b : Int)))]) rfl (fun _ _ => rfl) rfl rfl ?_
          refine yG.load xlk2 rfl (fun _ _ => rfl) (v := yJ (z93)) rfl rfl ?_
          refine yG.numl (c := 1000000000) rfl (fun _ _ => rfl) (by decide) ?_
          refine yG.ldiv rfl ⟨by omega, by omega⟩ ⟨by omega, by omega⟩ (by omega) (by omega) ?_
          obtain ⟨z94, e_z94⟩ : ∃ z : Int, z = (z93) / (1000000000) := ⟨_, rfl⟩
          rw [← e_z94]
          refine yG.store2 xlk2 (L' := [(9, yJ (z94)), (12, yJ (z93)), (11, yI ((j : Int))), (7, yJ (yD hp a i)), (6, yI ((i : Int))), (5, yI ((m : Int))), (4, yI ((n : Int))), (0, yR 2073), (1, yI ((r : Int))), (2, yI ((a : Int))), (3, yI ((b : Int)))]) rfl (fun _ _ => rfl) rfl rfl ?_
          refine yG.load xak rfl (fun _ _ => rfl) (v := yR 2073) rfl rfl ?_
          refine yG.getR T_hq (yF_product W) rfl rfl ?_
          refine yG.load xik rfl (fun _ _ => rfl) (v := yI ((i : Int))) rfl rfl ?_
          refine yG.load xik rfl (fun _ _ => rfl) (v := yI ((j : Int))) rfl rfl ?_
          refine yG.iadd rfl ?_
          refine yG.load xlk2 rfl (fun _ _ => rfl) (v := yJ (z93)) rfl rfl ?_
          refine yG.load xlk2 rfl (fun _ _ => rfl) (v := yJ (z94)) rfl rfl ?_
          refine yG.numl (c := 1000000000) rfl (fun _ _ => rfl) (by decide) ?_
          refine yG.lmul rfl ?_
          refine yG.lsub rfl ?_
          refine yG.l2i rfl ?_
          refine yG.iast T_hq (yA_product W) (by decide) rfl (by omega) (by omega) ⟨by omega, by omega⟩ (by omega) (by omega) (fun h95 T_h95 b_h95 f_h95 y_h95 => ?_)
          have N_h95 := N_hq.put T_h95 b_h95 (by decide) f_h95
          have D_h95 : ∀ s j, yD h95 s j = yD hq s j := fun s j => yput_ne y_h95 (by decide) _
          have L_h95 : ∀ s, yL h95 s = yL hq s := fun s => yput_ne y_h95 (by decide) _
          have S_h95 : ∀ s, yS h95 s = yS hq s := fun s => yput_ne y_h95 (by decide) _
          have yPd_h95 : ∀ t, yPd h95 t = if t = i + j then z93 - (z94 * 1000000000) else yPd hq t := yput_A (n := i + j) y_h95 (by omega)
          refine yG.iinc rfl (a := (j : Int)) rfl (L' := [(11, yI ((j : Int) + 1)), (9, yJ (z94)), (12, yJ (z93)), (7, yJ (yD hp a i)), (6, yI ((i : Int))), (5, yI ((m : Int))), (4, yI ((n : Int))), (0, yR 2073), (1, yI ((r : Int))), (2, yI ((a : Int))), (3, yI ((b : Int)))]) rfl ?_
          refine yG.goto rfl (t := 75) rfl ?_
          refine yG.mono ((ih8 (j + 1) z94 h95 (by omega) N_h95 (fun s => (L_h95 s).trans (I1 s)) (fun s => (S_h95 s).trans (I2 s)) (fun s j9 hj9 => (D_h95 s j9).trans (I3 s j9 hj9)) (by omega) (by omega) ?_ ?_).sub (ySub.cons rfl (ySub.cons rfl (ySub.cons rfl (ySub.cons rfl (ySub.cons rfl (ySub.cons rfl (ySub.cons rfl (ySub.cons rfl (ySub.cons rfl (ySub.cons rfl (ySub.nil)))))))))))) (by omega)
          · rw [ysum_upd (f := yPd hq) (t := i + j) (by omega) fun t h1 h2 => by rw [yPd_h95, if_neg h2], yPd_h95, if_pos rfl, show i + (j + 1) = (i + j) + 1 by omega, yB_succ, ysum_succ, Int.mul_add]
            have e8 : z93 = yD hp a i * yD hp b j + yPd hq (i + j) + cy := by omega
            rw [e8]
            rw [yB_add] at I5 ⊢
            clear e8
            generalize ysum (yPd hq) (i + m) = s1 at *
            generalize yPd hq (i + j) = s2 at *
            generalize z94 = c2 at *
            generalize ysum (yD hp a) i * ymag hp b = s3 at *
            generalize yD hp a i = x9 at *; generalize yB i = y9 at *; generalize ysum (yD hp b) j = z9 at *; generalize yD hp b j = w9 at *; generalize yB j = u9 at *
            grind
          · intro t h1 h2
            rw [yPd_h95, if_neg (by omega)]
            exact I6 t h1 h2
      refine yG.load xik rfl (fun _ _ => rfl) (v := yI (i : Int)) rfl rfl ?_
      refine yG.load xik rfl (fun _ _ => rfl) (v := yI (n : Int)) rfl rfl ?_
      refine yG.icmp rfl (t := 169) rfl ⟨by omega, by omega⟩ ⟨by omega, by omega⟩ (fun c => absurd (show (i : Int) ≥ n from c) (by omega)) (fun c => ?_)
      refine yG.load xak rfl (fun _ _ => rfl) (v := yR 2073) rfl rfl ?_
      refine yG.getR T_hq (yF_big W) rfl rfl ?_
      refine yG.num (c := 256) rfl (fun _ _ => rfl) (by decide) ?_
      refine yG.load xik rfl (fun _ _ => rfl) (v := yI ((a : Int))) rfl rfl ?_
      refine yG.imul rfl ?_
      refine yG.load xik rfl (fun _ _ => rfl) (v := yI ((i : Int))) rfl rfl ?_
      refine yG.iadd rfl ?_
      refine yG.iald T_hq (yA_big W) rfl (by omega) (by omega) (fun z121 e_z121 i_z121 l_z121 u_z121 => ?_)
      have q_z121 : z121 = yD hq a (i) := e_z121.trans (yBig (by omega))
      refine yG.i2l rfl ⟨by omega, by omega⟩ ?_
      refine yG.store2 xlk2 (L' := [(7, yJ (z121)), (6, yI ((i : Int))), (5, yI ((m : Int))), (4, yI ((n : Int))), (0, yR 2073), (1, yI ((r : Int))), (2, yI ((a : Int))), (3, yI ((b : Int)))]) rfl (fun _ _ => rfl) rfl rfl ?_
      refine yG.numl (c := 0) rfl (fun _ _ => rfl) (by decide) ?_
      refine yG.store2 xlk2 (L' := [(9, yJ (0)), (7, yJ (z121)), (6, yI ((i : Int))), (5, yI ((m : Int))), (4, yI ((n : Int))), (0, yR 2073), (1, yI ((r : Int))), (2, yI ((a : Int))), (3, yI ((b : Int)))]) rfl (fun _ _ => rfl) rfl rfl ?_
      refine yG.num (c := 0) rfl (fun _ _ => rfl) (by decide) ?_
      refine yG.store1 xik (L' := [(11, yI (0)), (9, yJ (0)), (7, yJ (z121)), (6, yI ((i : Int))), (5, yI ((m : Int))), (4, yI ((n : Int))), (0, yR 2073), (1, yI ((r : Int))), (2, yI ((a : Int))), (3, yI ((b : Int)))]) rfl (fun _ _ => rfl) rfl rfl ?_
      have ex : z121 = yD hp a i := by rw [q_z121]; exact I3 a i (by omega)
      rw [ex]
      exact yG.mono (HC m 0 0 hq rfl N_hq I1 I2 I3 (by omega) (by omega) (by rw [I5]; show _ = _ + _ * 0; rw [Int.zero_mul, Int.mul_zero]) I6) (by rw [Nat.mul_succ, hKF]; omega)
  obtain ⟨KA, hKA⟩ : ∃ K : Nat, K = (60 * m + 200) * n + 60 * (n + m) + 60 * 256 + 500 := ⟨_, rfl⟩
  have HA : ∀ m9 k : Nat, ∀ hq, m9 + k = n + m → yNx G [2074, 2075, 2076, 2077] hp hq → (∀ s, yL hq s = yL hp s) → (∀ s, yS hq s = yS hp s) → (∀ s j, j < 256 → yD hq s j = yD hp s j) → (∀ j, j < k → yPd hq j = 0) → yG 89 xfts (xcall 89 xfts xpools xms d) (xpool xp_RX13) [] xt_X13_times (yP 0 (yQ_val G [2074, 2075, 2076, 2077] hp r (yval hp a * yval hp b))) (KA + 60 * m9 + 100) 19 [(6, yI ((k : Int))), (5, yI ((m : Int))), (4, yI ((n : Int))), (0, yR 2073), (1, yI ((r : Int))), (2, yI ((a : Int))), (3, yI ((b : Int)))] [] hq := by
    intro m9
    induction m9 using Nat.strongRecOn with
    | _ m9 ih =>
      intro k hq hk N_hq I1 I2 I3 I4
      have T_hq := N_hq.1
      refine yG.load xik rfl (fun _ _ => rfl) (v := yI ((k : Int))) rfl rfl ?_
      refine yG.load xik rfl (fun _ _ => rfl) (v := yI ((n : Int))) rfl rfl ?_
      refine yG.load xik rfl (fun _ _ => rfl) (v := yI ((m : Int))) rfl rfl ?_
      refine yG.iadd rfl ?_
      refine yG.icmp rfl (t := 43) rfl ⟨by omega, by omega⟩ ⟨by omega, by omega⟩ (fun c141 => ?_) (fun c141 => ?_)
      · have c141 : (k : Int) ≥ (n : Int) + (m : Int) := c141
        refine yG.num (c := 0) rfl (fun _ _ => rfl) (by decide) ?_
        refine yG.store1 xik (L' := [(6, yI (0)), (5, yI ((m : Int))), (4, yI ((n : Int))), (0, yR 2073), (1, yI ((r : Int))), (2, yI ((a : Int))), (3, yI ((b : Int)))]) rfl (fun _ _ => rfl) rfl rfl ?_
        exact yG.mono (HB n 0 hq rfl N_hq I1 I2 I3 (by rw [ysum_congr (g := fun _ => 0) fun j hj => I4 j (by omega), ysum_nought (n := 0) (Nat.zero_le _) fun _ _ _ => rfl]; show (0 : Int) = 0 * _; rw [Int.zero_mul]) (fun j _ h2 => I4 j (by omega))) (by omega)
      · have c141 : (k : Int) < (n : Int) + (m : Int) := c141
        refine yG.load xak rfl (fun _ _ => rfl) (v := yR 2073) rfl rfl ?_
        refine yG.getR T_hq (yF_product W) rfl rfl ?_
        refine yG.load xik rfl (fun _ _ => rfl) (v := yI ((k : Int))) rfl rfl ?_
        refine yG.num (c := 0) rfl (fun _ _ => rfl) (by decide) ?_
        refine yG.iast T_hq (yA_product W) (by decide) rfl (by omega) (by omega) ⟨by omega, by omega⟩ (by omega) (by omega) (fun h142 T_h142 b_h142 f_h142 y_h142 => ?_)
        have N_h142 := N_hq.put T_h142 b_h142 (by decide) f_h142
        have D_h142 : ∀ s j, yD h142 s j = yD hq s j := fun s j => yput_ne y_h142 (by decide) _
        have L_h142 : ∀ s, yL h142 s = yL hq s := fun s => yput_ne y_h142 (by decide) _
        have S_h142 : ∀ s, yS h142 s = yS hq s := fun s => yput_ne y_h142 (by decide) _
        have yPd_h142 : ∀ t, yPd h142 t = if t = k then 0 else yPd hq t := yput_A (n := k) y_h142 (by omega)
        refine yG.iinc rfl (a := (k : Int)) rfl (L' := [(6, yI ((k : Int) + 1)), (5, yI ((m : Int))), (4, yI ((n : Int))), (0, yR 2073), (1, yI ((r : Int))), (2, yI ((a : Int))), (3, yI ((b : Int)))]) rfl ?_
        refine yG.goto rfl (t := 19) rfl ?_
        exact yG.mono (ih (m9 - 1) (by omega) (k + 1) h142 (by omega) N_h142 (fun s => (L_h142 s).trans (I1 s)) (fun s => (S_h142 s).trans (I2 s)) (fun s j9 hj9 => (D_h142 s j9).trans (I3 s j9 hj9)) (fun j hj => by
          rw [yPd_h142]
          by_cases e : j = k
          · rw [if_pos e]
          · rw [if_neg e]; exact I4 j (by omega))) (by omega)
  have fu : (60 * m + 200) * n ≤ 60 * 256 * 256 + 200 * 256 := by
    have h1 : m ≤ 256 := by omega
    have h2 : n ≤ 256 := by omega
    exact Nat.le_trans (Nat.mul_le_mul (show 60 * m + 200 ≤ 60 * 256 + 200 by omega) h2) (by decide)
  refine yC.of (M := (xt_X13_times, (14, (0, (14, []))))) rfl rfl (N := KA + 60 * (n + m) + 200) (yfuel (by omega)) ?_
  show yG 89 xfts (xcall 89 xfts xpools xms d) (xpool xp_RX13) [] xt_X13_times (yP 0 (yQ_val G [2074, 2075, 2076, 2077] hp r (yval hp a * yval hp b))) (KA + 60 * (n + m) + 200) 0 [(0, yR 2073), (1, yI ((r : Int))), (2, yI ((a : Int))), (3, yI ((b : Int)))] [] hp
  refine yG.load xak rfl (fun _ _ => rfl) (v := yR 2073) rfl rfl ?_
  refine yG.getR T_hp (yF_length W) rfl rfl ?_
  refine yG.load xik rfl (fun _ _ => rfl) (v := yI ((a : Int))) rfl rfl ?_
  refine yG.iald T_hp (yA_length W) rfl (by omega) (by omega) (fun z161 e_z161 i_z161 l_z161 u_z161 => ?_)
  have q_z161 : z161 = yL hp a := e_z161
  refine yG.store1 xik (L' := [(4, yI (z161)), (0, yR 2073), (1, yI ((r : Int))), (2, yI ((a : Int))), (3, yI ((b : Int)))]) rfl (fun _ _ => rfl) rfl rfl ?_
  refine yG.load xak rfl (fun _ _ => rfl) (v := yR 2073) rfl rfl ?_
  refine yG.getR T_hp (yF_length W) rfl rfl ?_
  refine yG.load xik rfl (fun _ _ => rfl) (v := yI ((b : Int))) rfl rfl ?_
  refine yG.iald T_hp (yA_length W) rfl (by omega) (by omega) (fun z162 e_z162 i_z162 l_z162 u_z162 => ?_)
  have q_z162 : z162 = yL hp b := e_z162
  refine yG.store1 xik (L' := [(5, yI (z162)), (4, yI (z161)), (0, yR 2073), (1, yI ((r : Int))), (2, yI ((a : Int))), (3, yI ((b : Int)))]) rfl (fun _ _ => rfl) rfl rfl ?_
  refine yG.num (c := 0) rfl (fun _ _ => rfl) (by decide) ?_
  refine yG.store1 xik (L' := [(6, yI (0)), (5, yI (z162)), (4, yI (z161)), (0, yR 2073), (1, yI ((r : Int))), (2, yI ((a : Int))), (3, yI ((b : Int)))]) rfl (fun _ _ => rfl) rfl rfl ?_
  have e4 : z161 = (n : Int) := by omega
  have e5 : z162 = (m : Int) := by omega
  rw [e4, e5]
  exact yG.mono (HA (n + m) 0 hp rfl (yNx.rf hT) (fun _ => rfl) (fun _ => rfl) (fun _ _ _ => rfl) (fun _ h => absurd h (by omega))) (by omega)
end YTimes
