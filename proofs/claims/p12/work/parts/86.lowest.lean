/-! ===== the reference: lowest terms ===== -/
section YLow
variable {G : zW} {hp : xH} {r a b n e : Nat}
def yQ_par (G : zW) (hp : xH) (r : Nat) (v : Int) (rv : Option xA) (hp' : xH) : Prop := rv = none ∧ yNx G [2074, 2075, 2076, 2078, 2079] hp hp' ∧ (∀ s, s ≠ r → s ≠ 256 → ySm hp hp' s) ∧ yval hp' r = v ∧ yNorm hp' r ∧ yNorm hp' 256
theorem y_parts (W : yMW G) (d : Nat) (hT : zTy G hp) (hr : r < 3412) (ha : a < 3412) (hb : b < 3412) (r6 : r ≠ 256) (na : yNorm hp a) (nb : yNorm hp b) (hb0 : 0 < ymag hp b) {k : Int} (hk : ymag hp a = ymag hp b * k) : yC (xcall 89 xfts xpools xms (d + 4)) 479 [yR 2073, yI (r : Int), yI (a : Int), yI (b : Int)] hp (yQ_par G hp r (yS hp a * k)) := by
  have T_hp := hT
  have N_hp : yNx G [2074, 2075, 2076, 2078, 2079] hp hp := yNx.rf hT
  have bs := yS_bd W hT ha
  have za := na.sg W hT ha
  have ma0 := (ymag_bd W hT ha).1
  have k0 : 0 ≤ k := by
    by_cases h : 0 ≤ k
    · exact h
    · have : ymag hp b * k ≤ ymag hp b * (-1) := Int.mul_le_mul_of_nonneg_left (by omega) (by omega)
      omega
  have kz : k = 0 ↔ ymag hp a = 0 := by
    rw [hk, Int.mul_eq_zero]
    omega
  refine yC.of (M := (xt_X13_parts, (5, (0, (14, []))))) rfl rfl (N := 200) (yfuel (by omega)) ?_
  show yG 89 xfts (xcall 89 xfts xpools xms (d + 3)) (xpool xp_RX13) [] xt_X13_parts (yP 0 (yQ_par G hp r (yS hp a * k))) 200 0 [(0, yR 2073), (1, yI ((r : Int))), (2, yI ((a : Int))), (3, yI ((b : Int)))] [] hp
  refine yG.load xak rfl (fun _ _ => rfl) (v := yR 2073) rfl rfl ?_
  refine yG.getR T_hp (yF_sign W) rfl rfl ?_
  refine yG.load xik rfl (fun _ _ => rfl) (v := yI ((a : Int))) rfl rfl ?_
  refine yG.iald T_hp (yA_sign W) rfl (by omega) (by omega) (fun z1 e_z1 i_z1 l_z1 u_z1 => ?_)
  have q_z1 : z1 = yS hp a := e_z1
  refine yG.store1 xik (L' := [(4, yI (z1)), (0, yR 2073), (1, yI ((r : Int))), (2, yI ((a : Int))), (3, yI ((b : Int)))]) rfl (fun _ _ => rfl) rfl rfl ?_
  refine yG.load xak rfl (fun _ _ => rfl) (v := yR 2073) rfl rfl ?_
  refine yG.load xik rfl (fun _ _ => rfl) (v := yI ((r : Int))) rfl rfl ?_
  refine yG.num (c := 256) rfl (fun _ _ => rfl) (by decide) ?_
  refine yG.load xik rfl (fun _ _ => rfl) (v := yI ((a : Int))) rfl rfl ?_
  refine yG.load xik rfl (fun _ _ => rfl) (v := yI ((b : Int))) rfl rfl ?_
  refine yG.invV (rest := []) T_hp W.1 rfl rfl rfl rfl (y_divide (qi := (r : Int)) (r := 256) (a := a) (b := b) W d T_hp (by omega) ha hb (by omega) (by omega) (by omega) na nb.1 (by have := ymag_eq0 W hT hb nb.1; have := yL_bd W hT hb; omega)) ?_
  intro rv h1 q1
  obtain ⟨e1, M1, O1, Q1, -, n6⟩ := q1
  subst e1
  have T_h1 := M1.1
  have N_h1 := N_hp.tr M1
  obtain ⟨V1, n1⟩ := Q1 r rfl
  rw [hk, Int.mul_ediv_cancel_left _ (by omega)] at V1
  have m1 := (yval_abs W T_h1 hr V1 n1).1 k0
  show yG _ _ _ _ _ _ _ _ _ _ [] _
  refine yG.load xak rfl (fun _ _ => rfl) (v := yR 2073) rfl rfl ?_
  refine yG.getR T_h1 (yF_sign W) rfl rfl ?_
  refine yG.load xik rfl (fun _ _ => rfl) (v := yI ((r : Int))) rfl rfl ?_
  refine yG.load xik rfl (fun _ _ => rfl) (v := yI (z1)) rfl rfl ?_
  refine yG.iast T_h1 (yA_sign W) (by decide) rfl (by omega) (by omega) ⟨by omega, by omega⟩ (by omega) (by omega) (fun h2 T_h2 b_h2 f_h2 y_h2 => ?_)
  have N_h2 := N_h1.put T_h2 b_h2 (by decide) f_h2
  have D_h2 : ∀ s j, yD h2 s j = yD h1 s j := fun s j => yput_ne y_h2 (by decide) _
  have L_h2 : ∀ s, yL h2 s = yL h1 s := fun s => yput_ne y_h2 (by decide) _
  have S_h2 : ∀ s, yS h2 s = if s = r then z1 else yS h1 s := yput_S (r := r) y_h2
  refine yG.ret rfl (fun _ _ => rfl) ?_
  obtain ⟨f1, f2, f3⟩ := ysign_set W T_h2 hr (yL_bd W T_h1 hr).2 D_h2 L_h2 S_h2 n1.1 (by rw [m1]; omega)
  exact yP.void ⟨rfl, N_h2, fun s h1 h2 => (O1 s h2 (by omega)).tr (f1 s h1), by rw [f2, m1, q_z1], f3, (f1 256 (by omega)).norm (yL_bd W T_h1 (by omega)).2 n6⟩
def yG5 (s : Nat) : Prop := s < 256 ∨ 260 < s
theorem yScr (W : yMW G) {ha hb : xH} (T : zTy G ha) (t : Nat) (h : ∀ s, ¬ yG5 s → yNorm ha s) (hs : ∀ s, ¬ yG5 s → s ≠ t → ySm ha hb s) (ht : yNorm hb t) : ∀ s, ¬ yG5 s → yNorm hb s := fun s g => by
  by_cases e : s = t
  · rw [e]; exact ht
  · exact (hs s g e).norm (yL_bd W T (by unfold yG5 at g; omega)).2 (h s g)
/-- lowest terms: both parts over what they have in common, the lower one above 0 -/
def yQ_low (G : zW) (hp : xH) (n e : Nat) (rv : Option xA) (hp' : xH) : Prop := rv = none ∧ yNx G [2074, 2075, 2076, 2078, 2079] hp hp' ∧ (∀ s, s ≠ n → s ≠ e → yG5 s → ySm hp hp' s) ∧ yNorm hp' n ∧ yNorm hp' e ∧ 0 < yval hp' e ∧ yval hp' n * yval hp e = yval hp n * yval hp' e ∧ ymag hp' n ≤ ymag hp n ∧ ymag hp' e ≤ ymag hp e ∧ Nat.gcd (ymag hp' n).toNat (ymag hp' e).toNat = 1 ∧ ∀ s, ¬ yG5 s → yNorm hp' s
theorem yalg12 {x y z w sn se : Int} (he : se = 1 ∨ se = -1) (hs : w = sn * se) (h : x * y = z * y) : True := trivial
theorem ysg_mul {sn se A D : Int} (he : se = 1 ∨ se = -1) : (sn * se * A) * (se * D) = (sn * A) * (1 * D) := by
  rcases he with rfl | rfl <;> grind
theorem y_lowest (W : yMW G) (d : Nat) (hT : zTy G hp) (hn : n < 3412) (he : e < 3412) (hne : n ≠ e) (n5 : yG5 n) (e5 : yG5 e) (nn : yNorm hp n) (ne : yNorm hp e) (hez : yS hp e ≠ 0) (ns : ∀ s, ¬ yG5 s → yNorm hp s) : yC (xcall 89 xfts xpools xms (d + 5)) 448 [yR 2073, yI (n : Int), yI (e : Int)] hp (yQ_low G hp n e) := by
  have T_hp := hT
  have N_hp : yNx G [2074, 2075, 2076, 2078, 2079] hp hp := yNx.rf hT
  have bn := yS_bd W hT hn
  have be := yS_bd W hT he
  have zn := nn.sg W hT hn
  have ze := ne.sg W hT he
  have mn0 := (ymag_bd W hT hn).1
  have me0 := (ymag_bd W hT he).1
  have hse : yS hp e = 1 ∨ yS hp e = -1 := by omega
  have ln := (yL_bd W hT hn).2
  have le := (yL_bd W hT he).2
  have K : ∀ h0, yNx G [2074, 2075, 2076, 2078, 2079] hp h0 → (∀ s, s ≠ n → s ≠ e → ySm hp h0 s) → ymag h0 n = ymag hp n → ymag h0 e = ymag hp e → yNorm h0 n → yNorm h0 e → yS h0 e = 1 → yS h0 n = yS hp n * yS hp e → yG 89 xfts (xcall 89 xfts xpools xms (d + 4)) (xpool xp_RX13) [] xt_X13_lowest (yP 0 (yQ_low G hp n e)) 900 29 [(0, yR 2073), (1, yI ((n : Int))), (2, yI ((e : Int)))] [] h0 := by
    intro h0 N_h0 O0 mn me no eo s1 s2
    have T_h0 := N_h0.1
    have ns0 : ∀ s, ¬ yG5 s → yNorm h0 s := fun s h => (O0 s (by rintro rfl; exact h n5) (by rintro rfl; exact h e5)).norm (yL_bd W hT (by unfold yG5 at h; omega)).2 (ns s h)
    have ln0 := (yL_bd W T_h0 hn).2
    have le0 := (yL_bd W T_h0 he).2
    have zz : yS hp n * yS hp e = 0 ↔ yS hp n = 0 := by rcases hse with h | h <;> rw [h] <;> omega
    refine yG.load xak rfl (fun _ _ => rfl) (v := yR 2073) rfl rfl ?_
    refine yG.getR T_h0 (yF_sign W) rfl rfl ?_
    refine yG.load xik rfl (fun _ _ => rfl) (v := yI ((n : Int))) rfl rfl ?_
    refine yG.iald T_h0 (yA_sign W) rfl (by omega) (by omega) (fun z11 e_z11 i_z11 l_z11 u_z11 => ?_)
    have q_z11 : z11 = yS h0 n := e_z11
    refine yG.ifz rfl (t := 45) rfl ⟨by omega, by omega⟩ (fun c12 => ?_) (fun c12 => ?_)
    · have c12 : z11 ≠ 0 := c12
      refine yG.load xak rfl (fun _ _ => rfl) (v := yR 2073) rfl rfl ?_
      refine yG.num (c := 259) rfl (fun _ _ => rfl) (by decide) ?_
      refine yG.load xik rfl (fun _ _ => rfl) (v := yI ((n : Int))) rfl rfl ?_
      refine yG.load xik rfl (fun _ _ => rfl) (v := yI ((e : Int))) rfl rfl ?_
      refine yG.invV (rest := []) T_h0 W.1 rfl rfl rfl rfl (y_common (r := 259) (a := n) (b := e) W d T_h0 (by omega) hn he (by unfold yG3; unfold yG5 at n5; omega) (by unfold yG3; unfold yG5 at e5; omega) no eo (ns0 258 (by unfold yG5; omega))) ?_
      intro rv h1 q1
      obtain ⟨e1, M1, O1, Q1, c6, c7, c8⟩ := q1
      subst e1
      have T_h1 := M1.1
      have sc1 : ∀ s, ¬ yG5 s → yNorm h1 s := fun s g => by
        have : s = 256 ∨ s = 257 ∨ s = 258 ∨ s = 259 ∨ s = 260 := by unfold yG5 at g; omega
        rcases this with rfl | rfl | rfl | rfl | rfl
        · exact c6
        · exact c7
        · exact c8
        · exact Q1.2
        · exact (O1 260 (by omega) (by unfold yG3; omega)).norm (yL_bd W T_h0 (by omega)).2 (ns0 260 g)
      have N_h1 := N_h0.tr M1
      rw [mn, me] at Q1
      obtain ⟨g, hg⟩ : ∃ g : Nat, g = Nat.gcd (ymag hp n).toNat (ymag hp e).toNat := ⟨_, rfl⟩
      rw [← hg] at Q1
      have mg := Q1.mag W T_h1 (by omega)
      have g0 : 0 < g := by rw [hg]; exact Nat.gcd_pos_of_pos_right _ (by omega)
      have On := O1 n (by unfold yG5 at n5; omega) (by unfold yG3; unfold yG5 at n5; omega)
      have Oe := O1 e (by unfold yG5 at e5; omega) (by unfold yG3; unfold yG5 at e5; omega)
      have l9 := yL_bd W T_h1 (show 259 < 3412 by omega)
      show yG _ _ _ _ _ _ _ _ _ _ [] _
      refine yG.load xak rfl (fun _ _ => rfl) (v := yR 2073) rfl rfl ?_
      refine yG.getR T_h1 (yF_length W) rfl rfl ?_
      refine yG.num (c := 259) rfl (fun _ _ => rfl) (by decide) ?_
      refine yG.iald T_h1 (yA_length W) rfl (by omega) (by omega) (fun z13 e_z13 i_z13 l_z13 u_z13 => ?_)
      have q_z13 : z13 = yL h1 259 := e_z13
      refine yG.num (c := 1) rfl (fun _ _ => rfl) (by decide) ?_
      refine yG.icmp rfl (t := 77) rfl ⟨by omega, by omega⟩ ⟨by omega, by omega⟩ (fun c14 => ?_) (fun c14 => ?_)
      · have c14 : z13 > 1 := c14
        refine yG.load xak rfl (fun _ _ => rfl) (v := yR 2073) rfl rfl ?_
        refine yG.num (c := 260) rfl (fun _ _ => rfl) (by decide) ?_
        refine yG.num (c := 259) rfl (fun _ _ => rfl) (by decide) ?_
        refine yG.invV (rest := []) T_h1 W.1 rfl rfl rfl rfl (y_copy (r := 260) (a := 259) W (d + 3) T_h1 (by omega) (by omega)) ?_
        intro rv h2 q2
        obtain ⟨m2, t2, v2⟩ := ycopy_mag l9.2 q2
        obtain ⟨e2, M2, O2, X2, Y2, -⟩ := q2
        subst e2
        have T_h2 := M2.1
        have N_h2 := N_h1.tr (show yNx G [2074, 2075, 2076, 2078, 2079] h1 h2 from ⟨M2.1, M2.2.1, M2.2.2.sub (by decide)⟩)
        have n260 : yNorm h2 260 := yNorm.mk W T_h2 (by omega) (t2 Q1.2.1) (by rw [Y2, m2]; exact Q1.2.sg W T_h1 (by omega))
        have On2 := On.tr (O2 n (by unfold yG5 at n5; omega))
        have Oe2 := Oe.tr (O2 e (by unfold yG5 at e5; omega))
        obtain ⟨kn, hkn⟩ : ∃ k : Nat, (ymag hp n).toNat = g * k := by rw [hg]; exact Nat.gcd_dvd_left _ _
        obtain ⟨ke, hke⟩ : ∃ k : Nat, (ymag hp e).toNat = g * k := by rw [hg]; exact Nat.gcd_dvd_right _ _
        have hkn2 : ymag hp n = (g : Int) * (kn : Int) := by rw [← Int.natCast_mul, ← hkn]; omega
        have hke2 : ymag hp e = (g : Int) * (ke : Int) := by rw [← Int.natCast_mul, ← hke]; omega
        show yG _ _ _ _ _ _ _ _ _ _ [] _
        refine yG.load xak rfl (fun _ _ => rfl) (v := yR 2073) rfl rfl ?_
        refine yG.load xik rfl (fun _ _ => rfl) (v := yI ((n : Int))) rfl rfl ?_
        refine yG.load xik rfl (fun _ _ => rfl) (v := yI ((n : Int))) rfl rfl ?_
        refine yG.num (c := 260) rfl (fun _ _ => rfl) (by decide) ?_
        refine yG.invV (rest := []) T_h2 W.1 rfl rfl rfl rfl (y_parts (r := n) (a := n) (b := 260) (k := (kn : Int)) W d T_h2 hn hn (by omega) (by unfold yG5 at n5; omega) (On2.norm ln0 no) n260 (by rw [m2, mg]; omega) (by rw [On2.mag ln0, mn, m2, mg]; exact hkn2)) ?_
        intro rv h3 q3
        obtain ⟨e3, M3, O3, V3, n3, s3⟩ := q3
        subst e3
        have T_h3 := M3.1
        have N_h3 := N_h2.tr M3
        have Oe3 := Oe2.tr (O3 e (by omega) (by unfold yG5 at e5; omega))
        have Og3 := O3 260 (by unfold yG5 at n5; omega) (by omega)
        have lg := (yL_bd W T_h2 (show 260 < 3412 by omega)).2
        show yG _ _ _ _ _ _ _ _ _ _ [] _
        refine yG.load xak rfl (fun _ _ => rfl) (v := yR 2073) rfl rfl ?_
        refine yG.load xik rfl (fun _ _ => rfl) (v := yI ((e : Int))) rfl rfl ?_
        refine yG.load xik rfl (fun _ _ => rfl) (v := yI ((e : Int))) rfl rfl ?_
        refine yG.num (c := 260) rfl (fun _ _ => rfl) (by decide) ?_
        refine yG.invV (rest := []) T_h3 W.1 rfl rfl rfl rfl (y_parts (r := e) (a := e) (b := 260) (k := (ke : Int)) W d T_h3 he he (by omega) (by unfold yG5 at e5; omega) (Oe3.norm le0 eo) (Og3.norm lg n260) (by rw [Og3.mag lg, m2, mg]; omega) (by rw [Oe3.mag le0, me, Og3.mag lg, m2, mg]; exact hke2)) ?_
        intro rv h4 q4
        obtain ⟨e4, M4, O4, V4, n4, s4⟩ := q4
        subst e4
        have T_h4 := M4.1
        have N_h4 := N_h3.tr M4
        show yG _ _ _ _ _ _ _ _ _ _ [] _
        refine yG.ret rfl (fun _ _ => rfl) ?_
        have O4n := O4 n hne (by unfold yG5 at n5; omega)
        have l3 := (yL_bd W T_h3 hn).2
        rw [On2.2.1, s2] at V3
        rw [Oe3.2.1, s1, Int.one_mul] at V4
        have mk := (yval_abs W T_h4 he V4 n4).1 (by omega)
        have ke0 : 0 < ke := by
          rcases Nat.eq_zero_or_pos ke with h | h
          · rw [h] at hke2
            omega
          · exact h
        have g1 : (1 : Int) ≤ g := by omega
        have mkn : ymag h4 n = (kn : Int) := by
          rw [O4n.mag l3]
          have z1 := n3.sg W T_h3 hn
          have b3 := yS_bd W T_h3 hn
          have m30 := (ymag_bd W T_h3 hn).1
          have V3 : yS h3 n * ymag h3 n = yS hp n * yS hp e * kn := V3
          have knz : yS hp n = 0 → kn = 0 := fun h => by
            have : (g : Int) * kn = 0 := by omega
            rcases Int.mul_eq_zero.mp this with h | h <;> omega
          have hsn : yS hp n = -1 ∨ yS hp n = 0 ∨ yS hp n = 1 := by omega
          have hs3 : yS h3 n = -1 ∨ yS h3 n = 0 ∨ yS h3 n = 1 := by omega
          rcases hsn with h | h | h <;> rcases hse with h9 | h9 <;> rw [h, h9] at V3 <;> rcases hs3 with h8 | h8 | h8 <;> rw [h8] at V3 z1 <;> omega
        have le1 : ∀ k : Nat, (k : Int) ≤ g * k := fun k => by
          have : 1 * (k : Int) ≤ g * k := Int.mul_le_mul_of_nonneg_right g1 (by omega)
          omega
        exact yP.void ⟨rfl, N_h4, fun s h1 h2 h3 => ((((O0 s h1 h2).tr (O1 s (by unfold yG5 at h3; omega) (by unfold yG3; unfold yG5 at h3; omega))).tr (O2 s (by unfold yG5 at h3; omega))).tr (O3 s h1 (by unfold yG5 at h3; omega))).tr (O4 s h2 (by unfold yG5 at h3; omega)), O4n.norm l3 n3, n4, by rw [V4]; omega, by
          rw [O4n.val l3, V3, V4]
          show yS hp n * yS hp e * kn * (yS hp e * ymag hp e) = yS hp n * ymag hp n * ke
          rw [hkn2, hke2]
          rcases hse with h | h <;> rw [h] <;> grind, by rw [mkn, hkn2]; exact le1 kn, by rw [mk, hke2]; exact le1 ke, by
          rw [mkn, mk]
          show Nat.gcd kn ke = 1
          have h9 : g = g * Nat.gcd kn ke := by rw [← Nat.gcd_mul_left, ← hkn, ← hke]; exact hg
          have h8 : g * Nat.gcd kn ke = g * 1 := by omega
          exact Nat.eq_of_mul_eq_mul_left g0 h8, yScr W T_h3 256 (yScr W T_h2 256 (yScr W T_h1 260 sc1 (fun s _ h => O2 s h) n260) (fun s g h => O3 s (by rintro rfl; exact g n5) h) s3) (fun s g h => O4 s (by rintro rfl; exact g e5) h) s4⟩
      · have c14 : z13 ≤ 1 := c14
        refine yG.load xak rfl (fun _ _ => rfl) (v := yR 2073) rfl rfl ?_
        refine yG.getR T_h1 (yF_big W) rfl rfl ?_
        refine yG.num (c := 66304) rfl (fun _ _ => rfl) (by decide) ?_
        refine yG.iald T_h1 (yA_big W) rfl (by omega) (by omega) (fun z15 e_z15 i_z15 l_z15 u_z15 => ?_)
        have q_z15 : z15 = yD h1 259 (0) := e_z15.trans (yBig (by omega))
        refine yG.num (c := 1) rfl (fun _ _ => rfl) (by decide) ?_
        refine yG.icmp rfl (t := 105) rfl ⟨by omega, by omega⟩ ⟨by omega, by omega⟩ (fun c16 => ?_) (fun c16 => ?_)
        · have c16 : z15 ≤ 1 := c16
          refine yG.ret rfl (fun _ _ => rfl) ?_
          have g1 : g = 1 := by
            have e9 : (g : Int) = ymag h1 259 := mg.symm
            have l1 : yL h1 259 = 1 ∨ yL h1 259 = 0 := by omega
            have e8 : ymag h1 259 = ysum (yD h1 259) (yL h1 259).toNat := rfl
            rcases l1 with l1 | l1
            · rw [l1, show (1 : Int).toNat = 1 from rfl] at e8
              have e7 : ysum (yD h1 259) 1 = 0 + yD h1 259 0 * 1 := rfl
              omega
            · rw [l1] at e8
              have e7 : ysum (yD h1 259) 0 = 0 := rfl
              have : (0 : Int).toNat = 0 := rfl
              rw [this] at e8
              omega
          have ve : yval h1 e = ymag hp e := by rw [Oe.val le0]; show yS h0 e * ymag h0 e = _; rw [s1, me, Int.one_mul]
          have vn : yval h1 n = yS hp n * yS hp e * ymag hp n := by rw [On.val ln0]; show yS h0 n * ymag h0 n = _; rw [s2, mn]
          exact yP.void ⟨rfl, N_h1, fun s h1 h2 h3 => (O0 s h1 h2).tr (O1 s (by unfold yG5 at h3; omega) (by unfold yG3; unfold yG5 at h3; omega)), On.norm ln0 no, Oe.norm le0 eo, by rw [ve]; omega, by
            rw [ve, vn]
            have := ysg_mul (sn := yS hp n) (A := ymag hp n) (D := ymag hp e) hse
            rw [Int.one_mul] at this
            exact this, by rw [On.mag ln0, mn]; exact Int.le_refl _, by rw [Oe.mag le0, me]; exact Int.le_refl _, by rw [On.mag ln0, mn, Oe.mag le0, me, ← hg, g1], sc1⟩
        · have c16 : z15 > 1 := c16
          refine yG.load xak rfl (fun _ _ => rfl) (v := yR 2073) rfl rfl ?_
          refine yG.num (c := 260) rfl (fun _ _ => rfl) (by decide) ?_
          refine yG.num (c := 259) rfl (fun _ _ => rfl) (by decide) ?_
          refine yG.invV (rest := []) T_h1 W.1 rfl rfl rfl rfl (y_copy (r := 260) (a := 259) W (d + 3) T_h1 (by omega) (by omega)) ?_
          intro rv h2 q2
          obtain ⟨m2, t2, v2⟩ := ycopy_mag l9.2 q2
          obtain ⟨e2, M2, O2, X2, Y2, -⟩ := q2
          subst e2
          have T_h2 := M2.1
          have N_h2 := N_h1.tr (show yNx G [2074, 2075, 2076, 2078, 2079] h1 h2 from ⟨M2.1, M2.2.1, M2.2.2.sub (by decide)⟩)
          have n260 : yNorm h2 260 := yNorm.mk W T_h2 (by omega) (t2 Q1.2.1) (by rw [Y2, m2]; exact Q1.2.sg W T_h1 (by omega))
          have On2 := On.tr (O2 n (by unfold yG5 at n5; omega))
          have Oe2 := Oe.tr (O2 e (by unfold yG5 at e5; omega))
          obtain ⟨kn, hkn⟩ : ∃ k : Nat, (ymag hp n).toNat = g * k := by rw [hg]; exact Nat.gcd_dvd_left _ _
          obtain ⟨ke, hke⟩ : ∃ k : Nat, (ymag hp e).toNat = g * k := by rw [hg]; exact Nat.gcd_dvd_right _ _
          have hkn2 : ymag hp n = (g : Int) * (kn : Int) := by rw [← Int.natCast_mul, ← hkn]; omega
          have hke2 : ymag hp e = (g : Int) * (ke : Int) := by rw [← Int.natCast_mul, ← hke]; omega
          show yG _ _ _ _ _ _ _ _ _ _ [] _
          refine yG.load xak rfl (fun _ _ => rfl) (v := yR 2073) rfl rfl ?_
          refine yG.load xik rfl (fun _ _ => rfl) (v := yI ((n : Int))) rfl rfl ?_
          refine yG.load xik rfl (fun _ _ => rfl) (v := yI ((n : Int))) rfl rfl ?_
          refine yG.num (c := 260) rfl (fun _ _ => rfl) (by decide) ?_
          refine yG.invV (rest := []) T_h2 W.1 rfl rfl rfl rfl (y_parts (r := n) (a := n) (b := 260) (k := (kn : Int)) W d T_h2 hn hn (by omega) (by unfold yG5 at n5; omega) (On2.norm ln0 no) n260 (by rw [m2, mg]; omega) (by rw [On2.mag ln0, mn, m2, mg]; exact hkn2)) ?_
          intro rv h3 q3
          obtain ⟨e3, M3, O3, V3, n3, s3⟩ := q3
          subst e3
          have T_h3 := M3.1
          have N_h3 := N_h2.tr M3
          have Oe3 := Oe2.tr (O3 e (by omega) (by unfold yG5 at e5; omega))
          have Og3 := O3 260 (by unfold yG5 at n5; omega) (by omega)
          have lg := (yL_bd W T_h2 (show 260 < 3412 by omega)).2
          show yG _ _ _ _ _ _ _ _ _ _ [] _
          refine yG.load xak rfl (fun _ _ => rfl) (v := yR 2073) rfl rfl ?_
          refine yG.load xik rfl (fun _ _ => rfl) (v := yI ((e : Int))) rfl rfl ?_
          refine yG.load xik rfl (fun _ _ => rfl) (v := yI ((e : Int))) rfl rfl ?_
          refine yG.num (c := 260) rfl (fun _ _ => rfl) (by decide) ?_
          refine yG.invV (rest := []) T_h3 W.1 rfl rfl rfl rfl (y_parts (r := e) (a := e) (b := 260) (k := (ke : Int)) W d T_h3 he he (by omega) (by unfold yG5 at e5; omega) (Oe3.norm le0 eo) (Og3.norm lg n260) (by rw [Og3.mag lg, m2, mg]; omega) (by rw [Oe3.mag le0, me, Og3.mag lg, m2, mg]; exact hke2)) ?_
          intro rv h4 q4
          obtain ⟨e4, M4, O4, V4, n4, s4⟩ := q4
          subst e4
          have T_h4 := M4.1
          have N_h4 := N_h3.tr M4
          show yG _ _ _ _ _ _ _ _ _ _ [] _
          refine yG.ret rfl (fun _ _ => rfl) ?_
          have O4n := O4 n hne (by unfold yG5 at n5; omega)
          have l3 := (yL_bd W T_h3 hn).2
          rw [On2.2.1, s2] at V3
          rw [Oe3.2.1, s1, Int.one_mul] at V4
          have mk := (yval_abs W T_h4 he V4 n4).1 (by omega)
          have ke0 : 0 < ke := by
            rcases Nat.eq_zero_or_pos ke with h | h
            · rw [h] at hke2
              omega
            · exact h
          have g1 : (1 : Int) ≤ g := by omega
          have mkn : ymag h4 n = (kn : Int) := by
            rw [O4n.mag l3]
            have z1 := n3.sg W T_h3 hn
            have b3 := yS_bd W T_h3 hn
            have m30 := (ymag_bd W T_h3 hn).1
            have V3 : yS h3 n * ymag h3 n = yS hp n * yS hp e * kn := V3
            have knz : yS hp n = 0 → kn = 0 := fun h => by
              have : (g : Int) * kn = 0 := by omega
              rcases Int.mul_eq_zero.mp this with h | h <;> omega
            have hsn : yS hp n = -1 ∨ yS hp n = 0 ∨ yS hp n = 1 := by omega
            have hs3 : yS h3 n = -1 ∨ yS h3 n = 0 ∨ yS h3 n = 1 := by omega
            rcases hsn with h | h | h <;> rcases hse with h9 | h9 <;> rw [h, h9] at V3 <;> rcases hs3 with h8 | h8 | h8 <;> rw [h8] at V3 z1 <;> omega
          have le1 : ∀ k : Nat, (k : Int) ≤ g * k := fun k => by
            have : 1 * (k : Int) ≤ g * k := Int.mul_le_mul_of_nonneg_right g1 (by omega)
            omega
          exact yP.void ⟨rfl, N_h4, fun s h1 h2 h3 => ((((O0 s h1 h2).tr (O1 s (by unfold yG5 at h3; omega) (by unfold yG3; unfold yG5 at h3; omega))).tr (O2 s (by unfold yG5 at h3; omega))).tr (O3 s h1 (by unfold yG5 at h3; omega))).tr (O4 s h2 (by unfold yG5 at h3; omega)), O4n.norm l3 n3, n4, by rw [V4]; omega, by
            rw [O4n.val l3, V3, V4]
            show yS hp n * yS hp e * kn * (yS hp e * ymag hp e) = yS hp n * ymag hp n * ke
            rw [hkn2, hke2]
            rcases hse with h | h <;> rw [h] <;> grind, by rw [mkn, hkn2]; exact le1 kn, by rw [mk, hke2]; exact le1 ke, by
            rw [mkn, mk]
            show Nat.gcd kn ke = 1
            have h9 : g = g * Nat.gcd kn ke := by rw [← Nat.gcd_mul_left, ← hkn, ← hke]; exact hg
            have h8 : g * Nat.gcd kn ke = g * 1 := by omega
            exact Nat.eq_of_mul_eq_mul_left g0 h8, yScr W T_h3 256 (yScr W T_h2 256 (yScr W T_h1 260 sc1 (fun s _ h => O2 s h) n260) (fun s g h => O3 s (by rintro rfl; exact g n5) h) s3) (fun s g h => O4 s (by rintro rfl; exact g e5) h) s4⟩
    · have c12 : z11 = 0 := c12
      refine yG.load xak rfl (fun _ _ => rfl) (v := yR 2073) rfl rfl ?_
      refine yG.load xik rfl (fun _ _ => rfl) (v := yI ((e : Int))) rfl rfl ?_
      refine yG.numl (c := 1) rfl (fun _ _ => rfl) (by decide) ?_
      refine yG.invV (rest := []) T_h0 W.1 rfl rfl rfl rfl (y_put (r := e) (v := 1) W (d + 3) T_h0 he (by omega) (by omega)) ?_
      intro rv h1 q1
      obtain ⟨e1, M1, O1, V1, n1⟩ := q1
      subst e1
      have T_h1 := M1.1
      have N_h1 := N_h0.tr (show yNx G [2074, 2075, 2076, 2078, 2079] h0 h1 from ⟨M1.1, M1.2.1, M1.2.2.sub (by decide)⟩)
      show yG _ _ _ _ _ _ _ _ _ _ [] _
      refine yG.ret rfl (fun _ _ => rfl) ?_
      have sn0 : yS hp n = 0 := by omega
      have n1n := O1 n hne
      have vn : yval h1 n = 0 := by rw [n1n.val ln0]; show yS h0 n * _ = 0; rw [s2, sn0, Int.zero_mul, Int.zero_mul]
      have vn0 : yval hp n = 0 := by show yS hp n * _ = 0; rw [sn0, Int.zero_mul]
      have m1 := (yval_abs W T_h1 he V1 n1).1 (by omega)
      exact yP.void ⟨rfl, N_h1, fun s h1 h2 _ => (O0 s h1 h2).tr (O1 s h2), n1n.norm ln0 no, n1, by rw [V1]; decide, by rw [vn, vn0, Int.zero_mul, Int.zero_mul], by rw [n1n.mag ln0, mn]; exact Int.le_refl _, by rw [m1]; omega, by rw [m1]; exact Nat.gcd_one_right _, fun s g => (O1 s (by rintro rfl; exact g e5)).norm (yL_bd W T_h0 (by unfold yG5 at g; omega)).2 (ns0 s g)⟩
  refine yC.of (M := (xt_X13_lowest, (3, (0, (14, []))))) rfl rfl (N := 1000) (yfuel (by omega)) ?_
  show yG 89 xfts (xcall 89 xfts xpools xms (d + 4)) (xpool xp_RX13) [] xt_X13_lowest (yP 0 (yQ_low G hp n e)) 1000 0 [(0, yR 2073), (1, yI ((n : Int))), (2, yI ((e : Int)))] [] hp
  refine yG.load xak rfl (fun _ _ => rfl) (v := yR 2073) rfl rfl ?_
  refine yG.getR T_hp (yF_sign W) rfl rfl ?_
  refine yG.load xik rfl (fun _ _ => rfl) (v := yI ((e : Int))) rfl rfl ?_
  refine yG.iald T_hp (yA_sign W) rfl (by omega) (by omega) (fun z61 e_z61 i_z61 l_z61 u_z61 => ?_)
  have q_z61 : z61 = yS hp e := e_z61
  refine yG.ifz rfl (t := 29) rfl ⟨by omega, by omega⟩ (fun c62 => ?_) (fun c62 => ?_)
  · have c62 : z61 ≥ 0 := c62
    exact yG.mono (K hp (yNx.rf hT) (fun s _ _ => ySm.rf hp s) rfl rfl nn ne (by omega) (by rw [show yS hp e = 1 by omega, Int.mul_one])) (by omega)
  · have c62 : z61 < 0 := c62
    refine yG.load xak rfl (fun _ _ => rfl) (v := yR 2073) rfl rfl ?_
    refine yG.getR T_hp (yF_sign W) rfl rfl ?_
    refine yG.load xik rfl (fun _ _ => rfl) (v := yI ((e : Int))) rfl rfl ?_
    refine yG.num (c := 1) rfl (fun _ _ => rfl) (by decide) ?_
    refine yG.iast T_hp (yA_sign W) (by decide) rfl (by omega) (by omega) ⟨by omega, by omega⟩ (by omega) (by omega) (fun h63 T_h63 b_h63 f_h63 y_h63 => ?_)
    have N_h63 := N_hp.put T_h63 b_h63 (by decide) f_h63
    have D_h63 : ∀ s j, yD h63 s j = yD hp s j := fun s j => yput_ne y_h63 (by decide) _
    have L_h63 : ∀ s, yL h63 s = yL hp s := fun s => yput_ne y_h63 (by decide) _
    have S_h63 : ∀ s, yS h63 s = if s = e then 1 else yS hp s := yput_S (r := e) y_h63
    refine yG.load xak rfl (fun _ _ => rfl) (v := yR 2073) rfl rfl ?_
    refine yG.getR T_h63 (yF_sign W) rfl rfl ?_
    refine yG.load xik rfl (fun _ _ => rfl) (v := yI ((n : Int))) rfl rfl ?_
    refine yG.load xak rfl (fun _ _ => rfl) (v := yR 2073) rfl rfl ?_
    refine yG.getR T_h63 (yF_sign W) rfl rfl ?_
    refine yG.load xik rfl (fun _ _ => rfl) (v := yI ((n : Int))) rfl rfl ?_
    refine yG.iald T_h63 (yA_sign W) rfl (by omega) (by omega) (fun z64 e_z64 i_z64 l_z64 u_z64 => ?_)
    have q_z64 : z64 = yS h63 n := e_z64
    refine yG.ineg rfl ?_
    refine yG.iast T_h63 (yA_sign W) (by decide) rfl (by omega) (by omega) ⟨by omega, by omega⟩ (by omega) (by omega) (fun h65 T_h65 b_h65 f_h65 y_h65 => ?_)
    have N_h65 := N_h63.put T_h65 b_h65 (by decide) f_h65
    have D_h65 : ∀ s j, yD h65 s j = yD h63 s j := fun s j => yput_ne y_h65 (by decide) _
    have L_h65 : ∀ s, yL h65 s = yL h63 s := fun s => yput_ne y_h65 (by decide) _
    have S_h65 : ∀ s, yS h65 s = if s = n then -(z64) else yS h63 s := yput_S (r := n) y_h65
    have S3 := S_h63 n
    rw [if_neg hne] at S3
    have SE : yS hp e = -1 := by omega
    obtain ⟨f1, f2, f3⟩ := ysign_set W T_h63 he le D_h63 L_h63 S_h63 ne.1 (by omega)
    have sn := f1 n hne
    obtain ⟨f4, f5, f6⟩ := ysign_set W T_h65 hn (yL_bd W T_h63 hn).2 D_h65 L_h65 S_h65 (sn.top ln nn.1) (by rw [sn.mag ln]; omega)
    have se := f4 e (by omega)
    have le1 := (yL_bd W T_h63 he).2
    exact yG.mono (K h65 N_h65 (fun s h1 h2 => (f1 s h2).tr (f4 s h1)) (by
      show ysum (yD h65 n) (yL h65 n).toNat = ysum (yD hp n) (yL hp n).toNat
      rw [L_h65, L_h63]; exact ysum_congr fun j _ => by rw [D_h65, D_h63]) (by
      show ysum (yD h65 e) (yL h65 e).toNat = ysum (yD hp e) (yL hp e).toNat
      rw [L_h65, L_h63]; exact ysum_congr fun j _ => by rw [D_h65, D_h63]) f6 (se.norm le1 f3) (by rw [S_h65 e, if_neg (by omega), S_h63 e, if_pos rfl]) (by rw [S_h65 n, if_pos rfl, SE]; omega)) (by omega)
end YLow
