/-! ===== the reference: a number put into a register ===== -/
section YPut9
variable {G : zW} {hp : xH} {r : Nat} {v : Int}
def ybd (n : Nat) : Int := match n with
  | 0 => 9223372036854775807
  | 1 => 9223372036
  | 2 => 9
  | _ => 0
theorem ybd_le (n : Nat) : ybd n ≤ 9223372036854775807 := by
  unfold ybd
  split <;> omega
theorem ybd_step {n : Nat} {x : Int} (h : 0 < x) (h2 : x ≤ ybd n) : n ≤ 2 ∧ x / 1000000000 ≤ ybd (n + 1) := by
  match n with
  | 0 => have h2 : x ≤ 9223372036854775807 := h2; exact ⟨by omega, by show _ ≤ (9223372036 : Int); omega⟩
  | 1 => have h2 : x ≤ 9223372036 := h2; exact ⟨by omega, by show _ ≤ (9 : Int); omega⟩
  | 2 => have h2 : x ≤ 9 := h2; exact ⟨by omega, by show _ ≤ (0 : Int); omega⟩
  | n + 3 => have h2 : x ≤ 0 := h2; omega
theorem y_put (W : yMW G) (d : Nat) (hT : zTy G hp) (hr : r < 3412) (hv1 : -9223372036854775807 ≤ v) (hv2 : v ≤ 9223372036854775807) : yC (xcall 89 xfts xpools xms (d + 1)) 485 [yR 2073, yI (r : Int), yJ v] hp (yQ_val G [2074, 2075, 2076] hp r v) := by
  have T_hp := hT
  have H : ∀ V : Int, (0 ≤ v ∧ V = v) ∨ (v < 0 ∧ V = -v) → ∀ m n : Nat, ∀ mm : Int, ∀ hq, m + n = 3 → yNx G [2074, 2075, 2076] hp hq → (∀ s, yL hq s = yL hp s) → (∀ s, yS hq s = yS hp s) → (∀ s j, j < 256 → s ≠ r → yD hq s j = yD hp s j) → V = mm * yB n + ysum (yD hq r) n → 0 ≤ mm → mm ≤ ybd n → (mm = 0 → 0 < n → yD hq r (n - 1) ≠ 0) → yG 89 xfts (xcall 89 xfts xpools xms d) (xpool xp_RX13) [] xt_X13_put (yP 0 (yQ_val G [2074, 2075, 2076] hp r v)) (60 * m + 100) 17 [(6, yI ((n : Int))), (4, yJ (mm)), (0, yR 2073), (1, yI ((r : Int))), (2, yJ (v))] [] hq := by
    intro V hV m
    induction m with
    | zero =>
      intro n mm hq hn N_hq I1 I2 I3 I4 I5 I6 I7
      have T_hq := N_hq.1
      have e3 : n = 3 := by omega
      subst e3
      have I6 : mm ≤ 0 := I6
      refine yG.load xlk2 rfl (fun _ _ => rfl) (v := yJ mm) rfl rfl ?_
      refine yG.numl (c := 0) rfl (fun _ _ => rfl) (by decide) ?_
      refine yG.lcmp rfl ⟨by omega, by omega⟩ ⟨by omega, by omega⟩ (fun z1 e_z1 => ?_)
      refine yG.ifz rfl (t := 58) rfl ⟨by omega, by omega⟩ (fun c => ?_) (fun c => absurd (show 0 < z1 from c) (by omega))
      refine yG.load xak rfl (fun _ _ => rfl) (v := yR 2073) rfl rfl ?_
      refine yG.getR T_hq (yF_length W) rfl rfl ?_
      refine yG.load xik rfl (fun _ _ => rfl) (v := yI ((r : Int))) rfl rfl ?_
      refine yG.load xik rfl (fun _ _ => rfl) (v := yI (((3 : Nat) : Int))) rfl rfl ?_
      refine yG.iast T_hq (yA_length W) (by decide) rfl (by omega) (by omega) ⟨by omega, by omega⟩ (by omega) (by omega) (fun h11 T_h11 b_h11 f_h11 y_h11 => ?_)
      have N_h11 := N_hq.put T_h11 b_h11 (by decide) f_h11
      have D_h11 : ∀ s j, yD h11 s j = yD hq s j := fun s j => yput_ne y_h11 (by decide) _
      have L_h11 : ∀ s, yL h11 s = if s = r then ((3 : Nat) : Int) else yL hq s := yput_L (r := r) y_h11
      have S_h11 : ∀ s, yS h11 s = yS hq s := fun s => yput_ne y_h11 (by decide) _
      refine yG.load xak rfl (fun _ _ => rfl) (v := yR 2073) rfl rfl ?_
      refine yG.getR T_h11 (yF_sign W) rfl rfl ?_
      refine yG.load xik rfl (fun _ _ => rfl) (v := yI ((r : Int))) rfl rfl ?_
      refine yG.load xlk2 rfl (fun _ _ => rfl) (v := yJ (v)) rfl rfl ?_
      refine yG.numl (c := 0) rfl (fun _ _ => rfl) (by decide) ?_
      refine yG.lcmp rfl ⟨by omega, by omega⟩ ⟨by omega, by omega⟩ (fun z12 e_z12 => ?_)
      refine yG.ifz rfl (t := 81) rfl ⟨by omega, by omega⟩ (fun c13 => ?_) (fun c13 => ?_)
      · have c13 : z12 ≤ 0 := c13
        refine yG.load xlk2 rfl (fun _ _ => rfl) (v := yJ (v)) rfl rfl ?_
        refine yG.numl (c := 0) rfl (fun _ _ => rfl) (by decide) ?_
        refine yG.lcmp rfl ⟨by omega, by omega⟩ ⟨by omega, by omega⟩ (fun z14 e_z14 => ?_)
        refine yG.ifz rfl (t := 91) rfl ⟨by omega, by omega⟩ (fun c15 => ?_) (fun c15 => ?_)
        · have c15 : z14 ≥ 0 := c15
          refine yG.num (c := 0) rfl (fun _ _ => rfl) (by decide) ?_
          refine yG.iast T_h11 (yA_sign W) (by decide) rfl (by omega) (by omega) ⟨by omega, by omega⟩ (by omega) (by omega) (fun h16 T_h16 b_h16 f_h16 y_h16 => ?_)
          have N_h16 := N_h11.put T_h16 b_h16 (by decide) f_h16
          have D_h16 : ∀ s j, yD h16 s j = yD h11 s j := fun s j => yput_ne y_h16 (by decide) _
          have L_h16 : ∀ s, yL h16 s = yL h11 s := fun s => yput_ne y_h16 (by decide) _
          have S_h16 : ∀ s, yS h16 s = if s = r then 0 else yS h11 s := yput_S (r := r) y_h16
          refine yG.ret rfl (fun _ _ => rfl) ?_
          have e0 : mm = 0 := by omega
          rw [e0, Int.zero_mul, Int.zero_add] at I4
          have mg : ymag h11 r = V := by
            show ysum (yD h11 r) (yL h11 r).toNat = V
            rw [L_h11, if_pos rfl, I4]
            exact ysum_congr fun j _ => D_h11 r j
          obtain ⟨f1, f2, f3⟩ := ysign_set W T_h16 hr (yL_bd W T_h11 hr).2 D_h16 L_h16 S_h16 (fun h0 => by
            rw [L_h11, if_pos rfl] at h0 ⊢
            rw [D_h11]
            exact I7 e0 (by omega)) (by rw [mg]; omega)
          exact yP.void ⟨rfl, N_h16, fun s hs => (show ySm hp h11 s from ⟨by rw [L_h11, if_neg hs, I1], by rw [S_h11, I2], fun j hj => by rw [D_h11, I3 s j hj hs]⟩).tr (f1 s hs), by rw [f2, mg]; omega, f3⟩
        · have c15 : z14 < 0 := c15
          refine yG.num (c := -1) rfl (fun _ _ => rfl) (by decide) ?_
          refine yG.goto rfl (t := 92) rfl ?_
          refine yG.iast T_h11 (yA_sign W) (by decide) rfl (by omega) (by omega) ⟨by omega, by omega⟩ (by omega) (by omega) (fun h17 T_h17 b_h17 f_h17 y_h17 => ?_)
          have N_h17 := N_h11.put T_h17 b_h17 (by decide) f_h17
          have D_h17 : ∀ s j, yD h17 s j = yD h11 s j := fun s j => yput_ne y_h17 (by decide) _
          have L_h17 : ∀ s, yL h17 s = yL h11 s := fun s => yput_ne y_h17 (by decide) _
          have S_h17 : ∀ s, yS h17 s = if s = r then (-1) else yS h11 s := yput_S (r := r) y_h17
          refine yG.ret rfl (fun _ _ => rfl) ?_
          have e0 : mm = 0 := by omega
          rw [e0, Int.zero_mul, Int.zero_add] at I4
          have mg : ymag h11 r = V := by
            show ysum (yD h11 r) (yL h11 r).toNat = V
            rw [L_h11, if_pos rfl, I4]
            exact ysum_congr fun j _ => D_h11 r j
          obtain ⟨f1, f2, f3⟩ := ysign_set W T_h17 hr (yL_bd W T_h11 hr).2 D_h17 L_h17 S_h17 (fun h0 => by
            rw [L_h11, if_pos rfl] at h0 ⊢
            rw [D_h11]
            exact I7 e0 (by omega)) (by rw [mg]; omega)
          exact yP.void ⟨rfl, N_h17, fun s hs => (show ySm hp h11 s from ⟨by rw [L_h11, if_neg hs, I1], by rw [S_h11, I2], fun j hj => by rw [D_h11, I3 s j hj hs]⟩).tr (f1 s hs), by rw [f2, mg]; omega, f3⟩
      · have c13 : z12 > 0 := c13
        refine yG.num (c := 1) rfl (fun _ _ => rfl) (by decide) ?_
        refine yG.goto rfl (t := 92) rfl ?_
        refine yG.iast T_h11 (yA_sign W) (by decide) rfl (by omega) (by omega) ⟨by omega, by omega⟩ (by omega) (by omega) (fun h18 T_h18 b_h18 f_h18 y_h18 => ?_)
        have N_h18 := N_h11.put T_h18 b_h18 (by decide) f_h18
        have D_h18 : ∀ s j, yD h18 s j = yD h11 s j := fun s j => yput_ne y_h18 (by decide) _
        have L_h18 : ∀ s, yL h18 s = yL h11 s := fun s => yput_ne y_h18 (by decide) _
        have S_h18 : ∀ s, yS h18 s = if s = r then 1 else yS h11 s := yput_S (r := r) y_h18
        refine yG.ret rfl (fun _ _ => rfl) ?_
        have e0 : mm = 0 := by omega
        rw [e0, Int.zero_mul, Int.zero_add] at I4
        have mg : ymag h11 r = V := by
          show ysum (yD h11 r) (yL h11 r).toNat = V
          rw [L_h11, if_pos rfl, I4]
          exact ysum_congr fun j _ => D_h11 r j
        obtain ⟨f1, f2, f3⟩ := ysign_set W T_h18 hr (yL_bd W T_h11 hr).2 D_h18 L_h18 S_h18 (fun h0 => by
          rw [L_h11, if_pos rfl] at h0 ⊢
          rw [D_h11]
          exact I7 e0 (by omega)) (by rw [mg]; omega)
        exact yP.void ⟨rfl, N_h18, fun s hs => (show ySm hp h11 s from ⟨by rw [L_h11, if_neg hs, I1], by rw [S_h11, I2], fun j hj => by rw [D_h11, I3 s j hj hs]⟩).tr (f1 s hs), by rw [f2, mg]; omega, f3⟩
    | succ m ih =>
      intro n mm hq hn N_hq I1 I2 I3 I4 I5 I6 I7
      have T_hq := N_hq.1
      have b0 := ybd_le n
      have STEP : 0 < mm → ∀ h, yNx G [2074, 2075, 2076] hp h → (∀ s j, j < 256 → yD h s j = if s = r ∧ j = n then mm % 1000000000 else yD hq s j) → (∀ s, yL h s = yL hq s) → (∀ s, yS h s = yS hq s) → yG 89 xfts (xcall 89 xfts xpools xms d) (xpool xp_RX13) [] xt_X13_put (yP 0 (yQ_val G [2074, 2075, 2076] hp r v)) (60 * m + 100) 17 [(6, yI ((n : Int) + 1)), (4, yJ (mm / 1000000000)), (0, yR 2073), (1, yI ((r : Int))), (2, yJ (v))] [] h := by
        intro h0 h Nh Dh Lh Sh
        obtain ⟨b1, b2⟩ := ybd_step h0 I6
        refine ih (n + 1) (mm / 1000000000) h (by omega) Nh (fun s => (Lh s).trans (I1 s)) (fun s => (Sh s).trans (I2 s)) (fun s j hj hs => ?_) ?_ (by omega) b2 (fun e0 _ => ?_)
        · rw [Dh s j hj, if_neg (fun e => hs e.1)]
          exact I3 s j hj hs
        · rw [ysum_succ, Dh r n (by omega), if_pos ⟨rfl, rfl⟩, yB_succ, show ysum (yD h r) n = ysum (yD hq r) n from ysum_congr fun j hj => by rw [Dh r j (by omega), if_neg (by omega)], I4]
          obtain ⟨q, w, hw⟩ : ∃ q w : Int, q = mm / 1000000000 ∧ w = mm % 1000000000 := ⟨_, _, rfl, rfl⟩
          have e : mm = 1000000000 * q + w := by omega
          rw [← hw.1, ← hw.2, e]
          generalize ysum (yD hq r) n = s1
          generalize yB n = p
          grind
        · rw [show n + 1 - 1 = n from rfl, Dh r n (by omega), if_pos ⟨rfl, rfl⟩]
          omega
      refine yG.load xlk2 rfl (fun _ _ => rfl) (v := yJ (mm)) rfl rfl ?_
      refine yG.numl (c := 0) rfl (fun _ _ => rfl) (by decide) ?_
      refine yG.lcmp rfl ⟨by omega, by omega⟩ ⟨by omega, by omega⟩ (fun z11 e_z11 => ?_)
      refine yG.ifz rfl (t := 58) rfl ⟨by omega, by omega⟩ (fun c12 => ?_) (fun c12 => ?_)
      · have c12 : z11 ≤ 0 := c12
        refine yG.load xak rfl (fun _ _ => rfl) (v := yR 2073) rfl rfl ?_
        refine yG.getR T_hq (yF_length W) rfl rfl ?_
        refine yG.load xik rfl (fun _ _ => rfl) (v := yI ((r : Int))) rfl rfl ?_
        refine yG.load xik rfl (fun _ _ => rfl) (v := yI ((n : Int))) rfl rfl ?_
        refine yG.iast T_hq (yA_length W) (by decide) rfl (by omega) (by omega) ⟨by omega, by omega⟩ (by omega) (by omega) (fun h13 T_h13 b_h13 f_h13 y_h13 => ?_)
        have N_h13 := N_hq.put T_h13 b_h13 (by decide) f_h13
        have D_h13 : ∀ s j, yD h13 s j = yD hq s j := fun s j => yput_ne y_h13 (by decide) _
        have L_h13 : ∀ s, yL h13 s = if s = r then (n : Int) else yL hq s := yput_L (r := r) y_h13
        have S_h13 : ∀ s, yS h13 s = yS hq s := fun s => yput_ne y_h13 (by decide) _
        refine yG.load xak rfl (fun _ _ => rfl) (v := yR 2073) rfl rfl ?_
        refine yG.getR T_h13 (yF_sign W) rfl rfl ?_
        refine yG.load xik rfl (fun _ _ => rfl) (v := yI ((r : Int))) rfl rfl ?_
        refine yG.load xlk2 rfl (fun _ _ => rfl) (v := yJ (v)) rfl rfl ?_
        refine yG.numl (c := 0) rfl (fun _ _ => rfl) (by decide) ?_
        refine yG.lcmp rfl ⟨by omega, by omega⟩ ⟨by omega, by omega⟩ (fun z14 e_z14 => ?_)
        refine yG.ifz rfl (t := 81) rfl ⟨by omega, by omega⟩ (fun c15 => ?_) (fun c15 => ?_)
        · have c15 : z14 ≤ 0 := c15
          refine yG.load xlk2 rfl (fun _ _ => rfl) (v := yJ (v)) rfl rfl ?_
          refine yG.numl (c := 0) rfl (fun _ _ => rfl) (by decide) ?_
          refine yG.lcmp rfl ⟨by omega, by omega⟩ ⟨by omega, by omega⟩ (fun z16 e_z16 => ?_)
          refine yG.ifz rfl (t := 91) rfl ⟨by omega, by omega⟩ (fun c17 => ?_) (fun c17 => ?_)
          · have c17 : z16 ≥ 0 := c17
            refine yG.num (c := 0) rfl (fun _ _ => rfl) (by decide) ?_
            refine yG.iast T_h13 (yA_sign W) (by decide) rfl (by omega) (by omega) ⟨by omega, by omega⟩ (by omega) (by omega) (fun h18 T_h18 b_h18 f_h18 y_h18 => ?_)
            have N_h18 := N_h13.put T_h18 b_h18 (by decide) f_h18
            have D_h18 : ∀ s j, yD h18 s j = yD h13 s j := fun s j => yput_ne y_h18 (by decide) _
            have L_h18 : ∀ s, yL h18 s = yL h13 s := fun s => yput_ne y_h18 (by decide) _
            have S_h18 : ∀ s, yS h18 s = if s = r then 0 else yS h13 s := yput_S (r := r) y_h18
            refine yG.ret rfl (fun _ _ => rfl) ?_
            have e0 : mm = 0 := by omega
            rw [e0, Int.zero_mul, Int.zero_add] at I4
            have mg : ymag h13 r = V := by
              show ysum (yD h13 r) (yL h13 r).toNat = V
              rw [L_h13, if_pos rfl, I4]
              exact ysum_congr fun j _ => D_h13 r j
            obtain ⟨f1, f2, f3⟩ := ysign_set W T_h18 hr (yL_bd W T_h13 hr).2 D_h18 L_h18 S_h18 (fun h0 => by
              rw [L_h13, if_pos rfl] at h0 ⊢
              rw [D_h13]
              exact I7 e0 (by omega)) (by rw [mg]; omega)
            exact yP.void ⟨rfl, N_h18, fun s hs => (show ySm hp h13 s from ⟨by rw [L_h13, if_neg hs, I1], by rw [S_h13, I2], fun j hj => by rw [D_h13, I3 s j hj hs]⟩).tr (f1 s hs), by rw [f2, mg]; omega, f3⟩
          · have c17 : z16 < 0 := c17
            refine yG.num (c := -1) rfl (fun _ _ => rfl) (by decide) ?_
            refine yG.goto rfl (t := 92) rfl ?_
            refine yG.iast T_h13 (yA_sign W) (by decide) rfl (by omega) (by omega) ⟨by omega, by omega⟩ (by omega) (by omega) (fun h19 T_h19 b_h19 f_h19 y_h19 => ?_)
            have N_h19 := N_h13.put T_h19 b_h19 (by decide) f_h19
            have D_h19 : ∀ s j, yD h19 s j = yD h13 s j := fun s j => yput_ne y_h19 (by decide) _
            have L_h19 : ∀ s, yL h19 s = yL h13 s := fun s => yput_ne y_h19 (by decide) _
            have S_h19 : ∀ s, yS h19 s = if s = r then (-1) else yS h13 s := yput_S (r := r) y_h19
            refine yG.ret rfl (fun _ _ => rfl) ?_
            have e0 : mm = 0 := by omega
            rw [e0, Int.zero_mul, Int.zero_add] at I4
            have mg : ymag h13 r = V := by
              show ysum (yD h13 r) (yL h13 r).toNat = V
              rw [L_h13, if_pos rfl, I4]
              exact ysum_congr fun j _ => D_h13 r j
            obtain ⟨f1, f2, f3⟩ := ysign_set W T_h19 hr (yL_bd W T_h13 hr).2 D_h19 L_h19 S_h19 (fun h0 => by
              rw [L_h13, if_pos rfl] at h0 ⊢
              rw [D_h13]
              exact I7 e0 (by omega)) (by rw [mg]; omega)
            exact yP.void ⟨rfl, N_h19, fun s hs => (show ySm hp h13 s from ⟨by rw [L_h13, if_neg hs, I1], by rw [S_h13, I2], fun j hj => by rw [D_h13, I3 s j hj hs]⟩).tr (f1 s hs), by rw [f2, mg]; omega, f3⟩
        · have c15 : z14 > 0 := c15
          refine yG.num (c := 1) rfl (fun _ _ => rfl) (by decide) ?_
          refine yG.goto rfl (t := 92) rfl ?_
          refine yG.iast T_h13 (yA_sign W) (by decide) rfl (by omega) (by omega) ⟨by omega, by omega⟩ (by omega) (by omega) (fun h20 T_h20 b_h20 f_h20 y_h20 => ?_)
          have N_h20 := N_h13.put T_h20 b_h20 (by decide) f_h20
          have D_h20 : ∀ s j, yD h20 s j = yD h13 s j := fun s j => yput_ne y_h20 (by decide) _
          have L_h20 : ∀ s, yL h20 s = yL h13 s := fun s => yput_ne y_h20 (by decide) _
          have S_h20 : ∀ s, yS h20 s = if s = r then 1 else yS h13 s := yput_S (r := r) y_h20
          refine yG.ret rfl (fun _ _ => rfl) ?_
          have e0 : mm = 0 := by omega
          rw [e0, Int.zero_mul, Int.zero_add] at I4
          have mg : ymag h13 r = V := by
            show ysum (yD h13 r) (yL h13 r).toNat = V
            rw [L_h13, if_pos rfl, I4]
            exact ysum_congr fun j _ => D_h13 r j
          obtain ⟨f1, f2, f3⟩ := ysign_set W T_h20 hr (yL_bd W T_h13 hr).2 D_h20 L_h20 S_h20 (fun h0 => by
            rw [L_h13, if_pos rfl] at h0 ⊢
            rw [D_h13]
            exact I7 e0 (by omega)) (by rw [mg]; omega)
          exact yP.void ⟨rfl, N_h20, fun s hs => (show ySm hp h13 s from ⟨by rw [L_h13, if_neg hs, I1], by rw [S_h13, I2], fun j hj => by rw [D_h13, I3 s j hj hs]⟩).tr (f1 s hs), by rw [f2, mg]; omega, f3⟩
      · have c12 : z11 > 0 := c12
        refine yG.load xak rfl (fun _ _ => rfl) (v := yR 2073) rfl rfl ?_
        refine yG.getR T_hq (yF_big W) rfl rfl ?_
        refine yG.num (c := 256) rfl (fun _ _ => rfl) (by decide) ?_
        refine yG.load xik rfl (fun _ _ => rfl) (v := yI ((r : Int))) rfl rfl ?_
        refine yG.imul rfl ?_
        refine yG.load xik rfl (fun _ _ => rfl) (v := yI ((n : Int))) rfl rfl ?_
        refine yG.iadd rfl ?_
        refine yG.load xlk2 rfl (fun _ _ => rfl) (v := yJ (mm)) rfl rfl ?_
        refine yG.numl (c := 1000000000) rfl (fun _ _ => rfl) (by decide) ?_
        refine yG.lrem rfl ⟨by omega, by omega⟩ ⟨by omega, by omega⟩ (by omega) (by omega) ?_
        refine yG.l2i rfl ?_
        refine yG.iast T_hq (yA_big W) (by decide) rfl (by omega) (by omega) ⟨by omega, by omega⟩ (by omega) (by omega) (fun h21 T_h21 b_h21 f_h21 y_h21 => ?_)
        have N_h21 := N_hq.put T_h21 b_h21 (by decide) f_h21
        have D_h21 : ∀ s j, j < 256 → yD h21 s j = if s = r ∧ j = n then (mm) % (1000000000) else yD hq s j := yput_D (r := r) (k := n) y_h21 (by omega) (by omega)
        have L_h21 : ∀ s, yL h21 s = yL hq s := fun s => yput_ne y_h21 (by decide) _
        have S_h21 : ∀ s, yS h21 s = yS hq s := fun s => yput_ne y_h21 (by decide) _
        refine yG.load xlk2 rfl (fun _ _ => rfl) (v := yJ (mm)) rfl rfl ?_
        refine yG.numl (c := 1000000000) rfl (fun _ _ => rfl) (by decide) ?_
        refine yG.ldiv rfl ⟨by omega, by omega⟩ ⟨by omega, by omega⟩ (by omega) (by omega) ?_
        obtain ⟨z22, e_z22⟩ : ∃ z : Int, z = (mm) / (1000000000) := ⟨_, rfl⟩
        rw [← e_z22]
        refine yG.store2 xlk2 (L' := [(4, yJ (z22)), (6, yI ((n : Int))), (0, yR 2073), (1, yI ((r : Int))), (2, yJ (v))]) rfl (fun _ _ => rfl) rfl rfl ?_
        refine yG.iinc rfl (a := (n : Int)) rfl (L' := [(6, yI ((n : Int) + 1)), (4, yJ (z22)), (0, yR 2073), (1, yI ((r : Int))), (2, yJ (v))]) rfl ?_
        refine yG.goto rfl (t := 17) rfl ?_
        rw [e_z22]
        exact yG.mono (STEP (by omega) h21 N_h21 D_h21 L_h21 S_h21) (by omega)
  refine yC.of (M := (xt_X13_put, (7, (0, (14, []))))) rfl rfl (N := 1000) (yfuel (by omega)) ?_
  show yG 89 xfts (xcall 89 xfts xpools xms d) (xpool xp_RX13) [] xt_X13_put (yP 0 (yQ_val G [2074, 2075, 2076] hp r v)) 1000 0 [(0, yR 2073), (1, yI ((r : Int))), (2, yJ (v))] [] hp
  refine yG.load xlk2 rfl (fun _ _ => rfl) (v := yJ (v)) rfl rfl ?_
  refine yG.numl (c := 0) rfl (fun _ _ => rfl) (by decide) ?_
  refine yG.lcmp rfl ⟨by omega, by omega⟩ ⟨by omega, by omega⟩ (fun z1 e_z1 => ?_)
  refine yG.ifz rfl (t := 11) rfl ⟨by omega, by omega⟩ (fun c2 => ?_) (fun c2 => ?_)
  · have c2 : z1 ≥ 0 := c2
    refine yG.load xlk2 rfl (fun _ _ => rfl) (v := yJ (v)) rfl rfl ?_
    refine yG.store2 xlk2 (L' := [(4, yJ (v)), (0, yR 2073), (1, yI ((r : Int))), (2, yJ (v))]) rfl (fun _ _ => rfl) rfl rfl ?_
    refine yG.num (c := 0) rfl (fun _ _ => rfl) (by decide) ?_
    refine yG.store1 xik (L' := [(6, yI (0)), (4, yJ (v)), (0, yR 2073), (1, yI ((r : Int))), (2, yJ (v))]) rfl (fun _ _ => rfl) rfl rfl ?_
    exact yG.mono (H (v) (by omega) 3 0 _ hp rfl (yNx.rf hT) (fun _ => rfl) (fun _ => rfl) (fun _ _ _ _ => rfl) (by show _ = _ * 1 + 0; omega) (by omega) (by show _ ≤ (9223372036854775807 : Int); omega) (fun _ h => absurd h (by omega))) (by omega)
  · have c2 : z1 < 0 := c2
    refine yG.load xlk2 rfl (fun _ _ => rfl) (v := yJ (v)) rfl rfl ?_
    refine yG.lneg rfl ?_
    refine yG.goto rfl (t := 12) rfl ?_
    obtain ⟨z3, e_z3⟩ : ∃ z : Int, z = -(v) := ⟨_, rfl⟩
    rw [← e_z3]
    refine yG.store2 xlk2 (L' := [(4, yJ (z3)), (0, yR 2073), (1, yI ((r : Int))), (2, yJ (v))]) rfl (fun _ _ => rfl) rfl rfl ?_
    refine yG.num (c := 0) rfl (fun _ _ => rfl) (by decide) ?_
    refine yG.store1 xik (L' := [(6, yI (0)), (4, yJ (z3)), (0, yR 2073), (1, yI ((r : Int))), (2, yJ (v))]) rfl (fun _ _ => rfl) rfl rfl ?_
    exact yG.mono (H (z3) (by omega) 3 0 _ hp rfl (yNx.rf hT) (fun _ => rfl) (fun _ => rfl) (fun _ _ _ _ => rfl) (by show _ = _ * 1 + 0; omega) (by omega) (by show _ ≤ (9223372036854775807 : Int); omega) (fun _ h => absurd h (by omega))) (by omega)
end YPut9
