/-! ===== the reference: lowest terms where the lower part is 0 ===== -/
section YLow0
variable {G : zW} {hp : xH} {n e : Nat}
def yQ_low0 (G : zW) (hp : xH) (n e : Nat) (rv : Option xA) (hp' : xH) : Prop := rv = none ∧ yNx G [2074, 2075, 2076, 2078, 2079] hp hp' ∧ (∀ s, s ≠ n → s ≠ e → yG5 s → ySm hp hp' s) ∧ yNorm hp' n ∧ yNorm hp' e ∧ ymag hp' n ≤ ymag hp n ∧ ymag hp' e ≤ 1 ∧ ∀ s, ¬ yG5 s → yNorm hp' s
theorem y_lowest0 (W : yMW G) (d : Nat) (hT : zTy G hp) (hn : n < 3412) (he : e < 3412) (hne : n ≠ e) (n5 : yG5 n) (e5 : yG5 e) (nn : yNorm hp n) (ne : yNorm hp e) (hez : yS hp e = 0) (ns : ∀ s, ¬ yG5 s → yNorm hp s) : yC (xcall 89 xfts xpools xms (d + 5)) 448 [yR 2073, yI (n : Int), yI (e : Int)] hp (yQ_low0 G hp n e) := by
  have T_hp := hT
  have N_hp : yNx G [2074, 2075, 2076, 2078, 2079] hp hp := yNx.rf hT
  have bn := yS_bd W hT hn
  have zn := nn.sg W hT hn
  have ze := ne.sg W hT he
  have mn0 := (ymag_bd W hT hn).1
  have me0 := (ymag_bd W hT he).1
  have ln := (yL_bd W hT hn).2
  have le := (yL_bd W hT he).2
  have me : ymag hp e = 0 := by omega
  have Z : ∀ h1, yNx G [2074, 2075, 2076, 2078, 2079] hp h1 → (∀ s, s ≠ 259 → yG3 s → ySm hp h1 s) → yNat h1 259 (ymag hp n).toNat → (∀ s, ¬ yG5 s → yNorm h1 s) → 0 < ymag hp n → yG 89 xfts (xcall 89 xfts xpools xms (d + 4)) (xpool xp_RX13) [] xt_X13_lowest (yP 0 (yQ_low0 G hp n e)) 500 77 [(0, yR 2073), (1, yI ((n : Int))), (2, yI ((e : Int)))] [] h1 := by
    intro h1 N_h1 O1 Q1 sc1 pn
    have T_h1 := N_h1.1
    have mg := Q1.mag W T_h1 (by omega)
    have mgn : ymag h1 259 = ymag hp n := by rw [mg]; omega
    have On := O1 n (by unfold yG5 at n5; omega) (by unfold yG3; unfold yG5 at n5; omega)
    have Oe := O1 e (by unfold yG5 at e5; omega) (by unfold yG3; unfold yG5 at e5; omega)
    have l9 := yL_bd W T_h1 (show 259 < 3412 by omega)
    have ln0 := ln
    have le0 := le
    refine yG.load xak rfl (fun _ _ => rfl) (v := yR 2073) rfl rfl ?_
    refine yG.num (c := 260) rfl (fun _ _ => rfl) (by decide) ?_
    refine yG.num (c := 259) rfl (fun _ _ => rfl) (by decide) ?_
    refine yG.invV (rest := []) T_h1 W.1 rfl rfl rfl rfl (y_copy (r := 260) (a := 259) W (d + 3) T_h1 (by omega) (by omega)) ?_
    intro rv h2 q2
    obtain ⟨m2, t2, v2⟩ := ycopy_mag l9.2 q2
    obtain ⟨e2, M2, O2, X2, Y2, -⟩ := q2
    subst e2
    have T_h2 := M2.1
    have N_h2 := N_h1.tr (show yNx G [2074, 2075, 2076, 2078, 2079] h1 h2 from ⟨M2.1, M2.2.1, M2.2.2.sub (by decide)⟩)
    have n260 : yNorm h2 260 := yNorm.mk W T_h2 (by omega) (t2 Q1.2.1) (by rw [Y2, m2]; exact Q1.2.sg W T_h1 (by omega))
    have On2 := On.tr (O2 n (by unfold yG5 at n5; omega))
    have Oe2 := Oe.tr (O2 e (by unfold yG5 at e5; omega))
    show yG _ _ _ _ _ _ _ _ _ _ [] _
    refine yG.load xak rfl (fun _ _ => rfl) (v := yR 2073) rfl rfl ?_
    refine yG.load xik rfl (fun _ _ => rfl) (v := yI ((n : Int))) rfl rfl ?_
    refine yG.load xik rfl (fun _ _ => rfl) (v := yI ((n : Int))) rfl rfl ?_
    refine yG.num (c := 260) rfl (fun _ _ => rfl) (by decide) ?_
    refine yG.invV (rest := []) T_h2 W.1 rfl rfl rfl rfl (y_parts (r := n) (a := n) (b := 260) (k := 1) W d T_h2 hn hn (by omega) (by unfold yG5 at n5; omega) (On2.norm ln0 nn) n260 (by rw [m2, mgn]; omega) (by rw [On2.mag ln0, m2, mgn, Int.mul_one])) ?_
    intro rv h3 q3
    obtain ⟨e3, M3, O3, V3, n3, s3⟩ := q3
    subst e3
    have T_h3 := M3.1
    have N_h3 := N_h2.tr M3
    have Oe3 := Oe2.tr (O3 e (by omega) (by unfold yG5 at e5; omega))
    have Og3 := O3 260 (by unfold yG5 at n5; omega) (by omega)
    have lg := (yL_bd W T_h2 (show 260 < 3412 by omega)).2
    show yG _ _ _ _ _ _ _ _ _ _ [] _
    refine yG.load xak rfl (fun _ _ => rfl) (v := yR 2073) rfl rfl ?_
    refine yG.load xik rfl (fun _ _ => rfl) (v := yI ((e : Int))) rfl rfl ?_
    refine yG.load xik rfl (fun _ _ => rfl) (v := yI ((e : Int))) rfl rfl ?_
    refine yG.num (c := 260) rfl (fun _ _ => rfl) (by decide) ?_
    refine yG.invV (rest := []) T_h3 W.1 rfl rfl rfl rfl (y_parts (r := e) (a := e) (b := 260) (k := 0) W d T_h3 he he (by omega) (by unfold yG5 at e5; omega) (Oe3.norm le0 ne) (Og3.norm lg n260) (by rw [Og3.mag lg, m2, mgn]; omega) (by rw [Oe3.mag le0, me, Int.mul_zero])) ?_
    intro rv h4 q4
    obtain ⟨e4, M4, O4, V4, n4, s4⟩ := q4
    subst e4
    have T_h4 := M4.1
    have N_h4 := N_h3.tr M4
    show yG _ _ _ _ _ _ _ _ _ _ [] _
    refine yG.ret rfl (fun _ _ => rfl) ?_
    have O4n := O4 n hne (by unfold yG5 at n5; omega)
    have l3 := (yL_bd W T_h3 hn).2
    rw [On2.2.1, Int.mul_one] at V3
    rw [Int.mul_zero] at V4
    have mk := (yval_abs W T_h4 he V4 n4).1 (by omega)
    have mkn := yval_abs W T_h3 hn V3 n3
    exact yP.void ⟨rfl, N_h4, fun s h1 h2 h3 => ((((O1 s (by unfold yG5 at h3; omega) (by unfold yG3; unfold yG5 at h3; omega))).tr (O2 s (by unfold yG5 at h3; omega))).tr (O3 s h1 (by unfold yG5 at h3; omega))).tr (O4 s h2 (by unfold yG5 at h3; omega)), O4n.norm l3 n3, n4, by
      rw [O4n.mag l3]
      omega, by rw [mk]; decide, yScr W T_h3 256 (yScr W T_h2 256 (yScr W T_h1 260 sc1 (fun s _ h => O2 s h) n260) (fun s g h => O3 s (by rintro rfl; exact g n5) h) s3) (fun s g h => O4 s (by rintro rfl; exact g e5) h) s4⟩
  refine yC.of (M := (xt_X13_lowest, (3, (0, (14, []))))) rfl rfl (N := 1000) (yfuel (by omega)) ?_
  show yG 89 xfts (xcall 89 xfts xpools xms (d + 4)) (xpool xp_RX13) [] xt_X13_lowest (yP 0 (yQ_low0 G hp n e)) 1000 0 [(0, yR 2073), (1, yI ((n : Int))), (2, yI ((e : Int)))] [] hp
  refine yG.load xak rfl (fun _ _ => rfl) (v := yR 2073) rfl rfl ?_
  refine yG.getR T_hp (yF_sign W) rfl rfl ?_
  refine yG.load xik rfl (fun _ _ => rfl) (v := yI ((e : Int))) rfl rfl ?_
  refine yG.iald T_hp (yA_sign W) rfl (by omega) (by omega) (fun z61 e_z61 i_z61 l_z61 u_z61 => ?_)
  have q_z61 : z61 = yS hp e := e_z61
  refine yG.ifz rfl (t := 29) rfl ⟨by omega, by omega⟩ (fun c62 => ?_) (fun c62 => ?_)
  · refine yG.load xak rfl (fun _ _ => rfl) (v := yR 2073) rfl rfl ?_
    refine yG.getR T_hp (yF_sign W) rfl rfl ?_
    refine yG.load xik rfl (fun _ _ => rfl) (v := yI ((n : Int))) rfl rfl ?_
    refine yG.iald T_hp (yA_sign W) rfl (by omega) (by omega) (fun z11 e_z11 i_z11 l_z11 u_z11 => ?_)
    have q_z11 : z11 = yS hp n := e_z11
    refine yG.ifz rfl (t := 45) rfl ⟨by omega, by omega⟩ (fun c12 => ?_) (fun c12 => ?_)
    · have c12 : z11 ≠ 0 := c12
      have pn : 0 < ymag hp n := by omega
      refine yG.load xak rfl (fun _ _ => rfl) (v := yR 2073) rfl rfl ?_
      refine yG.num (c := 259) rfl (fun _ _ => rfl) (by decide) ?_
      refine yG.load xik rfl (fun _ _ => rfl) (v := yI ((n : Int))) rfl rfl ?_
      refine yG.load xik rfl (fun _ _ => rfl) (v := yI ((e : Int))) rfl rfl ?_
      refine yG.invV (rest := []) T_hp W.1 rfl rfl rfl rfl (y_common (r := 259) (a := n) (b := e) W d T_hp (by omega) hn he (by unfold yG3; unfold yG5 at n5; omega) (by unfold yG3; unfold yG5 at e5; omega) nn ne (ns 258 (by unfold yG5; omega))) ?_
      intro rv h1 q1
      obtain ⟨e1, M1, O1, Q1, c6, c7, c8⟩ := q1
      subst e1
      have T_h1 := M1.1
      have N_h1 := N_hp.tr M1
      have sc1 : ∀ s, ¬ yG5 s → yNorm h1 s := fun s g => by
        have : s = 256 ∨ s = 257 ∨ s = 258 ∨ s = 259 ∨ s = 260 := by unfold yG5 at g; omega
        rcases this with rfl | rfl | rfl | rfl | rfl
        · exact c6
        · exact c7
        · exact c8
        · exact Q1.2
        · exact (O1 260 (by omega) (by unfold yG3; omega)).norm (yL_bd W hT (by omega)).2 (ns 260 g)
      rw [me, show (0 : Int).toNat = 0 from rfl, Nat.gcd_zero_right] at Q1
      have On := O1 n (by unfold yG5 at n5; omega) (by unfold yG3; unfold yG5 at n5; omega)
      have Oe := O1 e (by unfold yG5 at e5; omega) (by unfold yG3; unfold yG5 at e5; omega)
      have l9 := yL_bd W T_h1 (show 259 < 3412 by omega)
      show yG _ _ _ _ _ _ _ _ _ _ [] _
      refine yG.load xak rfl (fun _ _ => rfl) (v := yR 2073) rfl rfl ?_
      refine yG.getR T_h1 (yF_length W) rfl rfl ?_
      refine yG.num (c := 259) rfl (fun _ _ => rfl) (by decide) ?_
      refine yG.iald T_h1 (yA_length W) rfl (by omega) (by omega) (fun z13 e_z13 i_z13 l_z13 u_z13 => ?_)
      refine yG.num (c := 1) rfl (fun _ _ => rfl) (by decide) ?_
      refine yG.icmp rfl (t := 77) rfl ⟨by omega, by omega⟩ ⟨by omega, by omega⟩ (fun c14 => ?_) (fun c14 => ?_)
      · exact yG.mono (Z h1 N_h1 O1 Q1 sc1 pn) (by omega)
      · refine yG.load xak rfl (fun _ _ => rfl) (v := yR 2073) rfl rfl ?_
        refine yG.getR T_h1 (yF_big W) rfl rfl ?_
        refine yG.num (c := 66304) rfl (fun _ _ => rfl) (by decide) ?_
        refine yG.iald T_h1 (yA_big W) rfl (by omega) (by omega) (fun z15 e_z15 i_z15 l_z15 u_z15 => ?_)
        refine yG.num (c := 1) rfl (fun _ _ => rfl) (by decide) ?_
        refine yG.icmp rfl (t := 105) rfl ⟨by omega, by omega⟩ ⟨by omega, by omega⟩ (fun c16 => ?_) (fun c16 => ?_)
        · refine yG.ret rfl (fun _ _ => rfl) ?_
          exact yP.void ⟨rfl, N_h1, fun s h1 h2 h3 => O1 s (by unfold yG5 at h3; omega) (by unfold yG3; unfold yG5 at h3; omega), On.norm ln nn, Oe.norm le ne, by rw [On.mag ln]; exact Int.le_refl _, by rw [Oe.mag le, me]; decide, sc1⟩
        · exact yG.mono (Z h1 N_h1 O1 Q1 sc1 pn) (by omega)
    · have c12 : z11 = 0 := c12
      refine yG.load xak rfl (fun _ _ => rfl) (v := yR 2073) rfl rfl ?_
      refine yG.load xik rfl (fun _ _ => rfl) (v := yI ((e : Int))) rfl rfl ?_
      refine yG.numl (c := 1) rfl (fun _ _ => rfl) (by decide) ?_
      refine yG.invV (rest := []) T_hp W.1 rfl rfl rfl rfl (y_put (r := e) (v := 1) W (d + 3) T_hp he (by omega) (by omega)) ?_
      intro rv h1 q1
      obtain ⟨e1, M1, O1, V1, n1⟩ := q1
      subst e1
      have T_h1 := M1.1
      have N_h1 := N_hp.tr (show yNx G [2074, 2075, 2076, 2078, 2079] hp h1 from ⟨M1.1, M1.2.1, M1.2.2.sub (by decide)⟩)
      show yG _ _ _ _ _ _ _ _ _ _ [] _
      refine yG.ret rfl (fun _ _ => rfl) ?_
      have n1n := O1 n hne
      have m1 := (yval_abs W T_h1 he V1 n1).1 (by omega)
      exact yP.void ⟨rfl, N_h1, fun s h1 h2 _ => O1 s h2, n1n.norm ln nn, n1, by rw [n1n.mag ln]; exact Int.le_refl _, by rw [m1]; decide, fun s g => (O1 s (by rintro rfl; exact g e5)).norm (yL_bd W T_hp (by unfold yG5 at g; omega)).2 (ns s g)⟩
  · exfalso
    have c62 : z61 < 0 := c62
    omega
end YLow0
