/-! ===== the reference: often taken away ===== -/
theorem yalg4 {s1 s2 s3 mo p x y c : Int} (h : s1 + mo * p = s2 + s3) : s1 + (x + y + mo - c * 1000000000) * p + c * (1000000000 * p) = s2 + x * p + (s3 + y * p) := by grind
theorem yalg5 {s1 s2 s3 cy p x o y c : Int} (h : s1 - cy * p = s2 - o * s3) : s1 + (x - (o * y + cy) + c * 1000000000) * p - c * (1000000000 * p) = s2 + x * p - o * (s3 + y * p) := by grind
section YTk
variable {G : zW} {hp : xH} {j n : Nat} {of9 : Int}
noncomputable def yLw (hp : xH) (n t : Nat) : Int := if t < n then yLo hp t else 0
def yQ_take (G : zW) (hp : xH) (j n : Nat) (of9 : Int) (rv : Option xA) (hp' : xH) : Prop := ∃ z : Int, rv = some (yJ z) ∧ yNx G [2078] hp hp' ∧ (∀ t, t < j ∨ j + n < t → yUp hp' t = yUp hp t) ∧ ysum (fun t => yUp hp' (j + t)) (n + 1) = ysum (fun t => yUp hp (j + t)) (n + 1) - z * ysum (yLo hp) n ∧ 0 ≤ ysum (fun t => yUp hp' (j + t)) (n + 1) ∧ ysum (fun t => yUp hp' (j + t)) (n + 1) < ysum (yLo hp) n ∧ (z = of9 ∨ z = of9 - 1)
theorem y_takeAway (W : yMW G) (d : Nat) (hT : zTy G hp) (hj : j + n ≤ 257) (hn : n ≤ 256) (h0 : 0 ≤ of9) (h1 : of9 ≤ 999999999) (hA : of9 * ysum (yLo hp) n ≤ ysum (fun t => yUp hp (j + t)) (n + 1) + ysum (yLo hp) n) (hB : ysum (fun t => yUp hp (j + t)) (n + 1) < of9 * ysum (yLo hp) n + ysum (yLo hp) n) : yC (xcall 89 xfts xpools xms (d + 1)) 525 [yR 2073, yI (j : Int), yI (n : Int), yJ of9] hp (yQ_take G hp j n of9) := by
  have T_hp := hT
  have gl : yFig (yLo hp) 258 := fun t ht => yLo_bd W hT ht
  have Lb := ysum_bd (gl.sub (show n ≤ 258 by omega))
  have LwS : ysum (yLw hp n) (n + 1) = ysum (yLo hp) n := by
    rw [ysum_succ, show yLw hp n n = 0 from if_neg (by omega), Int.zero_mul, Int.add_zero]
    exact ysum_congr fun t ht => if_pos ht
  have Pp := yB_pos n
  have PS := yB_succ n
  obtain ⟨Lw, hLw⟩ : ∃ x : Int, x = ysum (yLo hp) n := ⟨_, rfl⟩
  rw [← hLw] at hA hB Lb LwS
  have H2 : ∀ h1, yNx G [2078] hp h1 → (∀ t, t < j ∨ j + n < t → yUp h1 t = yUp hp t) → ysum (fun t => yUp h1 (j + t)) (n + 1) = ysum (fun t => yUp hp (j + t)) (n + 1) - of9 * Lw + yB (n + 1) → ∀ m i : Nat, ∀ mo cy : Int, ∀ hq, m + i = n + 1 → mo = 0 ∨ mo = 1 → yNx G [2078] h1 hq → (∀ t, t < j ∨ j + i ≤ t → yUp hq t = yUp h1 t) → ysum (fun t => yUp hq (j + t)) i + mo * yB i = ysum (fun t => yUp h1 (j + t)) i + ysum (yLw hp n) i → yG 89 xfts (xcall 89 xfts xpools xms d) (xpool xp_RX13) [] xt_X13_takeAway (yP 2 (yQ_take G hp j n of9)) (100 * m + 100) 121 [(8, yI ((i : Int))), (7, yI (mo)), (5, yJ (cy)), (0, yR 2073), (1, yI ((j : Int))), (2, yI ((n : Int))), (3, yJ (of9))] [] hq := by
    intro hx Nx Ux Sx m
    induction m with
    | zero =>
      intro i mo cy hq hi hmo Nq I4 I5
      have N_hq := Nx.tr Nq
      have T_hq := N_hq.1
      have ei : i = n + 1 := by omega
      rw [ei] at I5
      refine yG.load xik rfl (fun _ _ => rfl) (v := yI ((i : Int))) rfl rfl ?_
      refine yG.load xik rfl (fun _ _ => rfl) (v := yI ((n : Int))) rfl rfl ?_
      refine yG.icmp rfl (t := 204) rfl ⟨by omega, by omega⟩ ⟨by omega, by omega⟩ (fun c11 => ?_) (fun c11 => ?_)
      · have c11 : (i : Int) > (n : Int) := c11
        refine yG.load xlk2 rfl (fun _ _ => rfl) (v := yJ (of9)) rfl rfl ?_
        refine yG.numl (c := 1) rfl (fun _ _ => rfl) (by decide) ?_
        refine yG.lsub rfl ?_
        refine yG.ret rfl (fun _ _ => rfl) ?_
        rw [LwS] at I5
        have gq : yFig (fun t => yUp hq (j + t)) (n + 1) := fun t ht => yUp_bd W T_hq (by omega)
        have bq := ysum_bd gq
        have bx := ysum_bd (show yFig (fun t => yUp hx (j + t)) (n + 1) from fun t ht => yUp_bd W Nx.1 (by omega))
        have e1 : mo = 1 := by
          rcases hmo with e | e
          · rw [e] at I5; omega
          · exact e
        rw [e1, Int.one_mul] at I5
        exact yP.long ⟨by omega, by omega⟩ ⟨_, rfl, N_hq, fun t ht => (I4 t (by omega)).trans (Ux t ht), by rw [← hLw, Int.sub_mul, Int.one_mul]; omega, bq.1, by rw [← hLw]; omega, Or.inr rfl⟩
      · have c11 : (i : Int) ≤ (n : Int) := c11
        exfalso; omega
    | succ m ih =>
      intro i mo cy hq hi hmo Nq I4 I5
      have N_hq := Nq
      have T_hq := N_hq.1
      have ll : yLo hq i = yLo hp i := (Nx.tr Nq).2.2.same (by decide) i
      have uu : yUp hq (j + i) = yUp hx (j + i) := I4 _ (Or.inr (Nat.le_refl _))
      have lw1 : i < n → yLw hp n i = yLo hp i := fun h => if_pos h
      have lw2 : ¬ i < n → yLw hp n i = 0 := fun h => if_neg h
      have STEP : ∀ v c w : Int, ∀ h, v = yUp hx (j + i) + yLw hp n i + mo → (v < 1000000000 ∧ c = 0 ∧ w = v ∨ 1000000000 ≤ v ∧ c = 1 ∧ w = v - 1000000000) → yNx G [2078] hx h → (∀ t, yUp h t = if t = i + j then w else yUp hq t) → yG 89 xfts (xcall 89 xfts xpools xms d) (xpool xp_RX13) [] xt_X13_takeAway (yP 2 (yQ_take G hp j n of9)) (100 * m + 100) 121 [(8, yI ((i : Int) + 1)), (7, yI (c)), (5, yJ (cy)), (0, yR 2073), (1, yI ((j : Int))), (2, yI ((n : Int))), (3, yJ (of9))] [] h := by
        intro v c w h e1 e2 Nh Uh
        refine ih (i + 1) c cy h (by omega) (by omega) Nh (fun t ht => ?_) ?_
        · rw [Uh, if_neg (by omega)]
          exact I4 t (by omega)
        · rw [ysum_succ, ysum_succ, ysum_succ, Uh, if_pos (Nat.add_comm j i), yB_succ, show ysum (fun t => yUp h (j + t)) i = ysum (fun t => yUp hq (j + t)) i from ysum_congr fun t ht => by rw [Uh, if_neg (by omega)]]
          have e3 : w = v - c * 1000000000 := by omega
          rw [e3, e1]
          generalize ysum (fun t => yUp hq (j + t)) i = s1 at *
          generalize ysum (fun t => yUp hx (j + t)) i = s2 at *
          generalize ysum (yLw hp n) i = s3 at *
          generalize yB i = p at *
          generalize yUp hx (j + i) = x at *
          generalize yLw hp n i = y at *
          exact yalg4 I5
      refine yG.load xik rfl (fun _ _ => rfl) (v := yI ((i : Int))) rfl rfl ?_
      refine yG.load xik rfl (fun _ _ => rfl) (v := yI ((n : Int))) rfl rfl ?_
      refine yG.icmp rfl (t := 204) rfl ⟨by omega, by omega⟩ ⟨by omega, by omega⟩ (fun c31 => ?_) (fun c31 => ?_)
      · have c31 : (i : Int) > (n : Int) := c31
        exfalso; omega
      · have c31 : (i : Int) ≤ (n : Int) := c31
        refine yG.load xak rfl (fun _ _ => rfl) (v := yR 2073) rfl rfl ?_
        refine yG.getR T_hq (yF_upper W) rfl rfl ?_
        refine yG.load xik rfl (fun _ _ => rfl) (v := yI ((i : Int))) rfl rfl ?_
        refine yG.load xik rfl (fun _ _ => rfl) (v := yI ((j : Int))) rfl rfl ?_
        refine yG.iadd rfl ?_
        refine yG.iald T_hq (yA_upper W) rfl (by omega) (by omega) (fun z32 e_z32 i_z32 l_z32 u_z32 => ?_)
        have q_z32 : z32 = yUp hq (j + i) := e_z32.trans (by show ys _ 2078 _ = ys _ 2078 _; rw [show ((i : Int) + (j : Int)).toNat = j + i by omega])
        refine yG.load xik rfl (fun _ _ => rfl) (v := yI ((i : Int))) rfl rfl ?_
        refine yG.load xik rfl (fun _ _ => rfl) (v := yI ((n : Int))) rfl rfl ?_
        refine yG.icmp rfl (t := 152) rfl ⟨by omega, by omega⟩ ⟨by omega, by omega⟩ (fun c33 => ?_) (fun c33 => ?_)
        · have c33 : (i : Int) ≥ (n : Int) := c33
          refine yG.num (c := 0) rfl (fun _ _ => rfl) (by decide) ?_
          refine yG.iadd rfl ?_
          refine yG.load xik rfl (fun _ _ => rfl) (v := yI (mo)) rfl rfl ?_
          refine yG.iadd rfl ?_
          obtain ⟨z34, e_z34⟩ : ∃ z : Int, z = (z32 + 0) + mo := ⟨_, rfl⟩
          rw [← e_z34]
          refine yG.store1 xik (L' := [(9, yI (z34)), (8, yI ((i : Int))), (7, yI (mo)), (5, yJ (cy)), (0, yR 2073), (1, yI ((j : Int))), (2, yI ((n : Int))), (3, yJ (of9))]) rfl (fun _ _ => rfl) rfl rfl ?_
          refine yG.load xik rfl (fun _ _ => rfl) (v := yI (z34)) rfl rfl ?_
          refine yG.num (c := 1000000000) rfl (fun _ _ => rfl) (by decide) ?_
          refine yG.icmp rfl (t := 170) rfl ⟨by omega, by omega⟩ ⟨by omega, by omega⟩ (fun c35 => ?_) (fun c35 => ?_)
          · have c35 : z34 < 1000000000 := c35
            refine yG.num (c := 0) rfl (fun _ _ => rfl) (by decide) ?_
            refine yG.store1 xik (L' := [(7, yI (0)), (9, yI (z34)), (8, yI ((i : Int))), (5, yJ (cy)), (0, yR 2073), (1, yI ((j : Int))), (2, yI ((n : Int))), (3, yJ (of9))]) rfl (fun _ _ => rfl) rfl rfl ?_
            refine yG.load xak rfl (fun _ _ => rfl) (v := yR 2073) rfl rfl ?_
            refine yG.getR T_hq (yF_upper W) rfl rfl ?_
            refine yG.load xik rfl (fun _ _ => rfl) (v := yI ((i : Int))) rfl rfl ?_
            refine yG.load xik rfl (fun _ _ => rfl) (v := yI ((j : Int))) rfl rfl ?_
            refine yG.iadd rfl ?_
            refine yG.load xik rfl (fun _ _ => rfl) (v := yI (z34)) rfl rfl ?_
            refine yG.load xik rfl (fun _ _ => rfl) (v := yI (z34)) rfl rfl ?_
            refine yG.num (c := 1000000000) rfl (fun _ _ => rfl) (by decide) ?_
            refine yG.icmp rfl (t := 195) rfl ⟨by omega, by omega⟩ ⟨by omega, by omega⟩ (fun c36 => ?_) (fun c36 => ?_)
            · have c36 : z34 < 1000000000 := c36
              refine yG.num (c := 0) rfl (fun _ _ => rfl) (by decide) ?_
              refine yG.isub rfl ?_
              refine yG.iast T_hq (yA_upper W) (by decide) rfl (by omega) (by omega) ⟨by omega, by omega⟩ (by omega) (by omega) (fun h37 T_h37 b_h37 f_h37 y_h37 => ?_)
              have N_h37 := N_hq.put T_h37 b_h37 (by decide) f_h37
              have D_h37 : ∀ s j, yD h37 s j = yD hq s j := fun s j => yput_ne y_h37 (by decide) _
              have L_h37 : ∀ s, yL h37 s = yL hq s := fun s => yput_ne y_h37 (by decide) _
              have S_h37 : ∀ s, yS h37 s = yS hq s := fun s => yput_ne y_h37 (by decide) _
              have yUp_h37 : ∀ t, yUp h37 t = if t = i + j then z34 - 0 else yUp hq t := yput_A (n := i + j) y_h37 (by omega)
              have yLo_h37 : ∀ t, yLo h37 t = yLo hq t := fun t => yput_ne y_h37 (by decide) _
              refine yG.iinc rfl (a := (i : Int)) rfl (L' := [(8, yI ((i : Int) + 1)), (7, yI (0)), (9, yI (z34)), (5, yJ (cy)), (0, yR 2073), (1, yI ((j : Int))), (2, yI ((n : Int))), (3, yJ (of9))]) rfl ?_
              refine yG.goto rfl (t := 121) rfl ?_
              exact yG.mono ((STEP z34 0 _ h37 (by omega) (by omega) N_h37 yUp_h37).sub (ySub.cons rfl (ySub.cons rfl (ySub.cons rfl (ySub.cons rfl (ySub.cons rfl (ySub.cons rfl (ySub.cons rfl (ySub.nil))))))))) (by omega)
            · have c36 : z34 ≥ 1000000000 := c36
              refine yG.num (c := 1000000000) rfl (fun _ _ => rfl) (by decide) ?_
              refine yG.goto rfl (t := 196) rfl ?_
              refine yG.isub rfl ?_
              refine yG.iast T_hq (yA_upper W) (by decide) rfl (by omega) (by omega) ⟨by omega, by omega⟩ (by omega) (by omega) (fun h38 T_h38 b_h38 f_h38 y_h38 => ?_)
              have N_h38 := N_hq.put T_h38 b_h38 (by decide) f_h38
              have D_h38 : ∀ s j, yD h38 s j = yD hq s j := fun s j => yput_ne y_h38 (by decide) _
              have L_h38 : ∀ s, yL h38 s = yL hq s := fun s => yput_ne y_h38 (by decide) _
              have S_h38 : ∀ s, yS h38 s = yS hq s := fun s => yput_ne y_h38 (by decide) _
              have yUp_h38 : ∀ t, yUp h38 t = if t = i + j then z34 - 1000000000 else yUp hq t := yput_A (n := i + j) y_h38 (by omega)
              have yLo_h38 : ∀ t, yLo h38 t = yLo hq t := fun t => yput_ne y_h38 (by decide) _
              refine yG.iinc rfl (a := (i : Int)) rfl (L' := [(8, yI ((i : Int) + 1)), (7, yI (0)), (9, yI (z34)), (5, yJ (cy)), (0, yR 2073), (1, yI ((j : Int))), (2, yI ((n : Int))), (3, yJ (of9))]) rfl ?_
              refine yG.goto rfl (t := 121) rfl ?_
              exact yG.mono ((STEP z34 0 _ h38 (by omega) (by omega) N_h38 yUp_h38).sub (ySub.cons rfl (ySub.cons rfl (ySub.cons rfl (ySub.cons rfl (ySub.cons rfl (ySub.cons rfl (ySub.cons rfl (ySub.nil))))))))) (by omega)
          · have c35 : z34 ≥ 1000000000 := c35
            refine yG.num (c := 1) rfl (fun _ _ => rfl) (by decide) ?_
            refine yG.goto rfl (t := 171) rfl ?_
            refine yG.store1 xik (L' := [(7, yI (1)), (9, yI (z34)), (8, yI ((i : Int))), (5, yJ (cy)), (0, yR 2073), (1, yI ((j : Int))), (2, yI ((n : Int))), (3, yJ (of9))]) rfl (fun _ _ => rfl) rfl rfl ?_
            refine yG.load xak rfl (fun _ _ => rfl) (v := yR 2073) rfl rfl ?_
            refine yG.getR T_hq (yF_upper W) rfl rfl ?_
            refine yG.load xik rfl (fun _ _ => rfl) (v := yI ((i : Int))) rfl rfl ?_
            refine yG.load xik rfl (fun _ _ => rfl) (v := yI ((j : Int))) rfl rfl ?_
            refine yG.iadd rfl ?_
            refine yG.load xik rfl (fun _ _ => rfl) (v := yI (z34)) rfl rfl ?_
            refine yG.load xik rfl (fun _ _ => rfl) (v := yI (z34)) rfl rfl ?_
            refine yG.num (c := 1000000000) rfl (fun _ _ => rfl) (by decide) ?_
            refine yG.icmp rfl (t := 195) rfl ⟨by omega, by omega⟩ ⟨by omega, by omega⟩ (fun c39 => ?_) (fun c39 => ?_)
            · have c39 : z34 < 1000000000 := c39
              refine yG.num (c := 0) rfl (fun _ _ => rfl) (by decide) ?_
              refine yG.isub rfl ?_
              refine yG.iast T_hq (yA_upper W) (by decide) rfl (by omega) (by omega) ⟨by omega, by omega⟩ (by omega) (by omega) (fun h40 T_h40 b_h40 f_h40 y_h40 => ?_)
              have N_h40 := N_hq.put T_h40 b_h40 (by decide) f_h40
              have D_h40 : ∀ s j, yD h40 s j = yD hq s j := fun s j => yput_ne y_h40 (by decide) _
              have L_h40 : ∀ s, yL h40 s = yL hq s := fun s => yput_ne y_h40 (by decide) _
              have S_h40 : ∀ s, yS h40 s = yS hq s := fun s => yput_ne y_h40 (by decide) _
              have yUp_h40 : ∀ t, yUp h40 t = if t = i + j then z34 - 0 else yUp hq t := yput_A (n := i + j) y_h40 (by omega)
              have yLo_h40 : ∀ t, yLo h40 t = yLo hq t := fun t => yput_ne y_h40 (by decide) _
              refine yG.iinc rfl (a := (i : Int)) rfl (L' := [(8, yI ((i : Int) + 1)), (7, yI (1)), (9, yI (z34)), (5, yJ (cy)), (0, yR 2073), (1, yI ((j : Int))), (2, yI ((n : Int))), (3, yJ (of9))]) rfl ?_
              refine yG.goto rfl (t := 121) rfl ?_
              exact yG.mono ((STEP z34 1 _ h40 (by omega) (by omega) N_h40 yUp_h40).sub (ySub.cons rfl (ySub.cons rfl (ySub.cons rfl (ySub.cons rfl (ySub.cons rfl (ySub.cons rfl (ySub.cons rfl (ySub.nil))))))))) (by omega)
            · have c39 : z34 ≥ 1000000000 := c39
              refine yG.num (c := 1000000000) rfl (fun _ _ => rfl) (by decide) ?_
              refine yG.goto rfl (t := 196) rfl ?_
              refine yG.isub rfl ?_
              refine yG.iast T_hq (yA_upper W) (by decide) rfl (by omega) (by omega) ⟨by omega, by omega⟩ (by omega) (by omega) (fun h41 T_h41 b_h41 f_h41 y_h41 => ?_)
              have N_h41 := N_hq.put T_h41 b_h41 (by decide) f_h41
              have D_h41 : ∀ s j, yD h41 s j = yD hq s j := fun s j => yput_ne y_h41 (by decide) _
              have L_h41 : ∀ s, yL h41 s = yL hq s := fun s => yput_ne y_h41 (by decide) _
              have S_h41 : ∀ s, yS h41 s = yS hq s := fun s => yput_ne y_h41 (by decide) _
              have yUp_h41 : ∀ t, yUp h41 t = if t = i + j then z34 - 1000000000 else yUp hq t := yput_A (n := i + j) y_h41 (by omega)
              have yLo_h41 : ∀ t, yLo h41 t = yLo hq t := fun t => yput_ne y_h41 (by decide) _
              refine yG.iinc rfl (a := (i : Int)) rfl (L' := [(8, yI ((i : Int) + 1)), (7, yI (1)), (9, yI (z34)), (5, yJ (cy)), (0, yR 2073), (1, yI ((j : Int))), (2, yI ((n : Int))), (3, yJ (of9))]) rfl ?_
              refine yG.goto rfl (t := 121) rfl ?_
              exact yG.mono ((STEP z34 1 _ h41 (by omega) (by omega) N_h41 yUp_h41).sub (ySub.cons rfl (ySub.cons rfl (ySub.cons rfl (ySub.cons rfl (ySub.cons rfl (ySub.cons rfl (ySub.cons rfl (ySub.nil))))))))) (by omega)
        · have c33 : (i : Int) < (n : Int) := c33
          refine yG.load xak rfl (fun _ _ => rfl) (v := yR 2073) rfl rfl ?_
          refine yG.getR T_hq (yF_lower W) rfl rfl ?_
          refine yG.load xik rfl (fun _ _ => rfl) (v := yI ((i : Int))) rfl rfl ?_
          refine yG.iald T_hq (yA_lower W) rfl (by omega) (by omega) (fun z42 e_z42 i_z42 l_z42 u_z42 => ?_)
          have q_z42 : z42 = yLo hq (i) := e_z42.trans (by show ys _ 2079 _ = ys _ 2079 _; rw [show ((i : Int)).toNat = i by omega])
          refine yG.goto rfl (t := 153) rfl ?_
          refine yG.iadd rfl ?_
          refine yG.load xik rfl (fun _ _ => rfl) (v := yI (mo)) rfl rfl ?_
          refine yG.iadd rfl ?_
          obtain ⟨z43, e_z43⟩ : ∃ z : Int, z = (z32 + z42) + mo := ⟨_, rfl⟩
          rw [← e_z43]
          refine yG.store1 xik (L' := [(9, yI (z43)), (8, yI ((i : Int))), (7, yI (mo)), (5, yJ (cy)), (0, yR 2073), (1, yI ((j : Int))), (2, yI ((n : Int))), (3, yJ (of9))]) rfl (fun _ _ => rfl) rfl rfl ?_
          refine yG.load xik rfl (fun _ _ => rfl) (v := yI (z43)) rfl rfl ?_
          refine yG.num (c := 1000000000) rfl (fun _ _ => rfl) (by decide) ?_
          refine yG.icmp rfl (t := 170) rfl ⟨by omega, by omega⟩ ⟨by omega, by omega⟩ (fun c44 => ?_) (fun c44 => ?_)
          · have c44 : z43 < 1000000000 := c44
            refine yG.num (c := 0) rfl (fun _ _ => rfl) (by decide) ?_
            refine yG.store1 xik (L' := [(7, yI (0)), (9, yI (z43)), (8, yI ((i : Int))), (5, yJ (cy)), (0, yR 2073), (1, yI ((j : Int))), (2, yI ((n : Int))), (3, yJ (of9))]) rfl (fun _ _ => rfl) rfl rfl ?_
            refine yG.load xak rfl (fun _ _ => rfl) (v := yR 2073) rfl rfl ?_
            refine yG.getR T_hq (yF_upper W) rfl rfl ?_
            refine yG.load xik rfl (fun _ _ => rfl) (v := yI ((i : Int))) rfl rfl ?_
            refine yG.load xik rfl (fun _ _ => rfl) (v := yI ((j : Int))) rfl rfl ?_
            refine yG.iadd rfl ?_
            refine yG.load xik rfl (fun _ _ => rfl) (v := yI (z43)) rfl rfl ?_
            refine yG.load xik rfl (fun _ _ => rfl) (v := yI (z43)) rfl rfl ?_
            refine yG.num (c := 1000000000) rfl (fun _ _ => rfl) (by decide) ?_
            refine yG.icmp rfl (t := 195) rfl ⟨by omega, by omega⟩ ⟨by omega, by omega⟩ (fun c45 => ?_) (fun c45 => ?_)
            · have c45 : z43 < 1000000000 := c45
              refine yG.num (c := 0) rfl (fun _ _ => rfl) (by decide) ?_
              refine yG.isub rfl ?_
              refine yG.iast T_hq (yA_upper W) (by decide) rfl (by omega) (by omega) ⟨by omega, by omega⟩ (by omega) (by omega) (fun h46 T_h46 b_h46 f_h46 y_h46 => ?_)
              have N_h46 := N_hq.put T_h46 b_h46 (by decide) f_h46
              have D_h46 : ∀ s j, yD h46 s j = yD hq s j := fun s j => yput_ne y_h46 (by decide) _
              have L_h46 : ∀ s, yL h46 s = yL hq s := fun s => yput_ne y_h46 (by decide) _
              have S_h46 : ∀ s, yS h46 s = yS hq s := fun s => yput_ne y_h46 (by decide) _
              have yUp_h46 : ∀ t, yUp h46 t = if t = i + j then z43 - 0 else yUp hq t := yput_A (n := i + j) y_h46 (by omega)
              have yLo_h46 : ∀ t, yLo h46 t = yLo hq t := fun t => yput_ne y_h46 (by decide) _
              refine yG.iinc rfl (a := (i : Int)) rfl (L' := [(8, yI ((i : Int) + 1)), (7, yI (0)), (9, yI (z43)), (5, yJ (cy)), (0, yR 2073), (1, yI ((j : Int))), (2, yI ((n : Int))), (3, yJ (of9))]) rfl ?_
              refine yG.goto rfl (t := 121) rfl ?_
              exact yG.mono ((STEP z43 0 _ h46 (by omega) (by omega) N_h46 yUp_h46).sub (ySub.cons rfl (ySub.cons rfl (ySub.cons rfl (ySub.cons rfl (ySub.cons rfl (ySub.cons rfl (ySub.cons rfl (ySub.nil))))))))) (by omega)
            · have c45 : z43 ≥ 1000000000 := c45
              refine yG.num (c := 1000000000) rfl (fun _ _ => rfl) (by decide) ?_
              refine yG.goto rfl (t := 196) rfl ?_
              refine yG.isub rfl ?_
              refine yG.iast T_hq (yA_upper W) (by decide) rfl (by omega) (by omega) ⟨by omega, by omega⟩ (by omega) (by omega) (fun h47 T_h47 b_h47 f_h47 y_h47 => ?_)
              have N_h47 := N_hq.put T_h47 b_h47 (by decide) f_h47
              have D_h47 : ∀ s j, yD h47 s j = yD hq s j := fun s j => yput_ne y_h47 (by decide) _
              have L_h47 : ∀ s, yL h47 s = yL hq s := fun s => yput_ne y_h47 (by decide) _
              have S_h47 : ∀ s, yS h47 s = yS hq s := fun s => yput_ne y_h47 (by decide) _
              have yUp_h47 : ∀ t, yUp h47 t = if t = i + j then z43 - 1000000000 else yUp hq t := yput_A (n := i + j) y_h47 (by omega)
              have yLo_h47 : ∀ t, yLo h47 t = yLo hq t := fun t => yput_ne y_h47 (by decide) _
              refine yG.iinc rfl (a := (i : Int)) rfl (L' := [(8, yI ((i : Int) + 1)), (7, yI (0)), (9, yI (z43)), (5, yJ (cy)), (0, yR 2073), (1, yI ((j : Int))), (2, yI ((n : Int))), (3, yJ (of9))]) rfl ?_
              refine yG.goto rfl (t := 121) rfl ?_
              exact yG.mono ((STEP z43 0 _ h47 (by omega) (by omega) N_h47 yUp_h47).sub (ySub.cons rfl (ySub.cons rfl (ySub.cons rfl (ySub.cons rfl (ySub.cons rfl (ySub.cons rfl (ySub.cons rfl (ySub.nil))))))))) (by omega)
          · have c44 : z43 ≥ 1000000000 := c44
            refine yG.num (c := 1) rfl (fun _ _ => rfl) (by decide) ?_
            refine yG.goto rfl (t := 171) rfl ?_
            refine yG.store1 xik (L' := [(7, yI (1)), (9, yI (z43)), (8, yI ((i : Int))), (5, yJ (cy)), (0, yR 2073), (1, yI ((j : Int))), (2, yI ((n : Int))), (3, yJ (of9))]) rfl (fun _ _ => rfl) rfl rfl ?_
            refine yG.load xak rfl (fun _ _ => rfl) (v := yR 2073) rfl rfl ?_
            refine yG.getR T_hq (yF_upper W) rfl rfl ?_
            refine yG.load xik rfl (fun _ _ => rfl) (v := yI ((i : Int))) rfl rfl ?_
            refine yG.load xik rfl (fun _ _ => rfl) (v := yI ((j : Int))) rfl rfl ?_
            refine yG.iadd rfl ?_
            refine yG.load xik rfl (fun _ _ => rfl) (v := yI (z43)) rfl rfl ?_
            refine yG.load xik rfl (fun _ _ => rfl) (v := yI (z43)) rfl rfl ?_
            refine yG.num (c := 1000000000) rfl (fun _ _ => rfl) (by decide) ?_
            refine yG.icmp rfl (t := 195) rfl ⟨by omega, by omega⟩ ⟨by omega, by omega⟩ (fun c48 => ?_) (fun c48 => ?_)
            · have c48 : z43 < 1000000000 := c48
              refine yG.num (c := 0) rfl (fun _ _ => rfl) (by decide) ?_
              refine yG.isub rfl ?_
              refine yG.iast T_hq (yA_upper W) (by decide) rfl (by omega) (by omega) ⟨by omega, by omega⟩ (by omega) (by omega) (fun h49 T_h49 b_h49 f_h49 y_h49 => ?_)
              have N_h49 := N_hq.put T_h49 b_h49 (by decide) f_h49
              have D_h49 : ∀ s j, yD h49 s j = yD hq s j := fun s j => yput_ne y_h49 (by decide) _
              have L_h49 : ∀ s, yL h49 s = yL hq s := fun s => yput_ne y_h49 (by decide) _
              have S_h49 : ∀ s, yS h49 s = yS hq s := fun s => yput_ne y_h49 (by decide) _
              have yUp_h49 : ∀ t, yUp h49 t = if t = i + j then z43 - 0 else yUp hq t := yput_A (n := i + j) y_h49 (by omega)
              have yLo_h49 : ∀ t, yLo h49 t = yLo hq t := fun t => yput_ne y_h49 (by decide) _
              refine yG.iinc rfl (a := (i : Int)) rfl (L' := [(8, yI ((i : Int) + 1)), (7, yI (1)), (9, yI (z43)), (5, yJ (cy)), (0, yR 2073), (1, yI ((j : Int))), (2, yI ((n : Int))), (3, yJ (of9))]) rfl ?_
              refine yG.goto rfl (t := 121) rfl ?_
              exact yG.mono ((STEP z43 1 _ h49 (by omega) (by omega) N_h49 yUp_h49).sub (ySub.cons rfl (ySub.cons rfl (ySub.cons rfl (ySub.cons rfl (ySub.cons rfl (ySub.cons rfl (ySub.cons rfl (ySub.nil))))))))) (by omega)
            · have c48 : z43 ≥ 1000000000 := c48
              refine yG.num (c := 1000000000) rfl (fun _ _ => rfl) (by decide) ?_
              refine yG.goto rfl (t := 196) rfl ?_
              refine yG.isub rfl ?_
              refine yG.iast T_hq (yA_upper W) (by decide) rfl (by omega) (by omega) ⟨by omega, by omega⟩ (by omega) (by omega) (fun h50 T_h50 b_h50 f_h50 y_h50 => ?_)
              have N_h50 := N_hq.put T_h50 b_h50 (by decide) f_h50
              have D_h50 : ∀ s j, yD h50 s j = yD hq s j := fun s j => yput_ne y_h50 (by decide) _
              have L_h50 : ∀ s, yL h50 s = yL hq s := fun s => yput_ne y_h50 (by decide) _
              have S_h50 : ∀ s, yS h50 s = yS hq s := fun s => yput_ne y_h50 (by decide) _
              have yUp_h50 : ∀ t, yUp h50 t = if t = i + j then z43 - 1000000000 else yUp hq t := yput_A (n := i + j) y_h50 (by omega)
              have yLo_h50 : ∀ t, yLo h50 t = yLo hq t := fun t => yput_ne y_h50 (by decide) _
              refine yG.iinc rfl (a := (i : Int)) rfl (L' := [(8, yI ((i : Int) + 1)), (7, yI (1)), (9, yI (z43)), (5, yJ (cy)), (0, yR 2073), (1, yI ((j : Int))), (2, yI ((n : Int))), (3, yJ (of9))]) rfl ?_
              refine yG.goto rfl (t := 121) rfl ?_
              exact yG.mono ((STEP z43 1 _ h50 (by omega) (by omega) N_h50 yUp_h50).sub (ySub.cons rfl (ySub.cons rfl (ySub.cons rfl (ySub.cons rfl (ySub.cons rfl (ySub.cons rfl (ySub.cons rfl (ySub.nil))))))))) (by omega)
  have H : ∀ m i : Nat, ∀ cy : Int, ∀ hq, m + i = n + 1 → 0 ≤ cy → cy ≤ 1000000000 → yNx G [2078] hp hq → (∀ t, t < j ∨ j + i ≤ t → yUp hq t = yUp hp t) → ysum (fun t => yUp hq (j + t)) i - cy * yB i = ysum (fun t => yUp hp (j + t)) i - of9 * ysum (yLw hp n) i → yG 89 xfts (xcall 89 xfts xpools xms d) (xpool xp_RX13) [] xt_X13_takeAway (yP 2 (yQ_take G hp j n of9)) (100 * m + 100 * 260 + 200) 6 [(7, yI ((i : Int))), (5, yJ (cy)), (0, yR 2073), (1, yI ((j : Int))), (2, yI ((n : Int))), (3, yJ (of9))] [] hq := by
    intro m
    induction m with
    | zero =>
      intro i cy hq hi hc0 hc1 N_hq I4 I5
      have T_hq := N_hq.1
      have ei : i = n + 1 := by omega
      rw [ei] at I5
      rw [LwS] at I5
      have gq : yFig (fun t => yUp hq (j + t)) (n + 1) := fun t ht => yUp_bd W T_hq (by omega)
      have bq := ysum_bd gq
      refine yG.load xik rfl (fun _ _ => rfl) (v := yI ((i : Int))) rfl rfl ?_
      refine yG.load xik rfl (fun _ _ => rfl) (v := yI ((n : Int))) rfl rfl ?_
      refine yG.icmp rfl (t := 106) rfl ⟨by omega, by omega⟩ ⟨by omega, by omega⟩ (fun c61 => ?_) (fun c61 => ?_)
      · have c61 : (i : Int) > (n : Int) := c61
        refine yG.load xlk2 rfl (fun _ _ => rfl) (v := yJ (cy)) rfl rfl ?_
        refine yG.numl (c := 0) rfl (fun _ _ => rfl) (by decide) ?_
        refine yG.lcmp rfl ⟨by omega, by omega⟩ ⟨by omega, by omega⟩ (fun z62 e_z62 => ?_)
        refine yG.ifz rfl (t := 115) rfl ⟨by omega, by omega⟩ (fun c63 => ?_) (fun c63 => ?_)
        · have c63 : z62 ≠ 0 := c63
          refine yG.num (c := 0) rfl (fun _ _ => rfl) (by decide) ?_
          refine yG.store1 xik (L' := [(7, yI (0)), (5, yJ (cy)), (0, yR 2073), (1, yI ((j : Int))), (2, yI ((n : Int))), (3, yJ (of9))]) rfl (fun _ _ => rfl) rfl rfl ?_
          refine yG.num (c := 0) rfl (fun _ _ => rfl) (by decide) ?_
          refine yG.store1 xik (L' := [(8, yI (0)), (7, yI (0)), (5, yJ (cy)), (0, yR 2073), (1, yI ((j : Int))), (2, yI ((n : Int))), (3, yJ (of9))]) rfl (fun _ _ => rfl) rfl rfl ?_
          have e1 : cy = 1 := by
            by_cases e : cy ≤ 1
            · omega
            · have h9 : 2 * yB (n + 1) ≤ cy * yB (n + 1) := Int.mul_le_mul_of_nonneg_right (by omega) (by omega)
              omega
          rw [e1, Int.one_mul] at I5
          exact yG.mono (H2 hq N_hq (fun t ht => I4 t (by omega)) (by omega) (n + 1) 0 0 cy hq (by omega) (Or.inl rfl) (yNx.rf T_hq) (fun _ _ => rfl) (by show (0 : Int) + 0 * _ = 0 + 0; rw [Int.zero_mul])) (by omega)
        · have c63 : z62 = 0 := c63
          refine yG.load xlk2 rfl (fun _ _ => rfl) (v := yJ (of9)) rfl rfl ?_
          refine yG.ret rfl (fun _ _ => rfl) ?_
          have e0 : cy = 0 := by omega
          rw [e0, Int.zero_mul, Int.sub_zero] at I5
          exact yP.long ⟨by omega, by omega⟩ ⟨_, rfl, N_hq, fun t ht => I4 t (by omega), by rw [← hLw]; exact I5, bq.1, by rw [← hLw]; omega, Or.inl rfl⟩
      · have c61 : (i : Int) ≤ (n : Int) := c61
        exfalso; omega
    | succ m ih =>
      intro i cy hq hi hc0 hc1 N_hq I4 I5
      have T_hq := N_hq.1
      have ll : yLo hq i = yLo hp i := N_hq.2.2.same (by decide) i
      have uu : yUp hq (j + i) = yUp hp (j + i) := I4 _ (Or.inr (Nat.le_refl _))
      have ub := yUp_bd W hT (j := j + i) (by omega)
      have lb := gl i (by omega)
      have v1 : 0 ≤ of9 * yLo hp i := Int.mul_nonneg h0 lb.1
      have v2 : of9 * yLo hp i ≤ 999999999 * 999999999 := Int.mul_le_mul h1 lb.2 lb.1 (by omega)
      have lw1 : i < n → of9 * yLw hp n i = of9 * yLo hp i := fun h => by rw [show yLw hp n i = _ from if_pos h]
      have lw2 : ¬ i < n → of9 * yLw hp n i = 0 := fun h => by rw [show yLw hp n i = _ from if_neg h, Int.mul_zero]
      have STEP : ∀ c w : Int, ∀ h, 0 ≤ c → c ≤ 1000000000 → w = yUp hp (j + i) - (of9 * yLw hp n i + cy) + c * 1000000000 → yNx G [2078] hp h → (∀ t, yUp h t = if t = i + j then w else yUp hq t) → yG 89 xfts (xcall 89 xfts xpools xms d) (xpool xp_RX13) [] xt_X13_takeAway (yP 2 (yQ_take G hp j n of9)) (100 * m + 100 * 260 + 200) 6 [(7, yI ((i : Int) + 1)), (5, yJ (c)), (0, yR 2073), (1, yI ((j : Int))), (2, yI ((n : Int))), (3, yJ (of9))] [] h := by
        intro c w h c1 c2 e1 Nh Uh
        refine ih (i + 1) c h (by omega) c1 c2 Nh (fun t ht => ?_) ?_
        · rw [Uh, if_neg (by omega)]
          exact I4 t (by omega)
        · rw [ysum_succ, ysum_succ, ysum_succ, Uh, if_pos (Nat.add_comm j i), yB_succ, show ysum (fun t => yUp h (j + t)) i = ysum (fun t => yUp hq (j + t)) i from ysum_congr fun t ht => by rw [Uh, if_neg (by omega)], e1]
          exact yalg5 I5
      refine yG.load xik rfl (fun _ _ => rfl) (v := yI ((i : Int))) rfl rfl ?_
      refine yG.load xik rfl (fun _ _ => rfl) (v := yI ((n : Int))) rfl rfl ?_
      refine yG.icmp rfl (t := 106) rfl ⟨by omega, by omega⟩ ⟨by omega, by omega⟩ (fun c81 => ?_) (fun c81 => ?_)
      · have c81 : (i : Int) > (n : Int) := c81
        exfalso; omega
      · have c81 : (i : Int) ≤ (n : Int) := c81
        refine yG.load xik rfl (fun _ _ => rfl) (v := yI ((i : Int))) rfl rfl ?_
        refine yG.load xik rfl (fun _ _ => rfl) (v := yI ((n : Int))) rfl rfl ?_
        refine yG.icmp rfl (t := 31) rfl ⟨by omega, by omega⟩ ⟨by omega, by omega⟩ (fun c82 => ?_) (fun c82 => ?_)
        · have c82 : (i : Int) ≥ (n : Int) := c82
          refine yG.numl (c := 0) rfl (fun _ _ => rfl) (by decide) ?_
          refine yG.load xlk2 rfl (fun _ _ => rfl) (v := yJ (cy)) rfl rfl ?_
          refine yG.ladd rfl ?_
          obtain ⟨z83, e_z83⟩ : ∃ z : Int, z = 0 + cy := ⟨_, rfl⟩
          rw [← e_z83]
          refine yG.store2 xlk2 (L' := [(8, yJ (z83)), (7, yI ((i : Int))), (5, yJ (cy)), (0, yR 2073), (1, yI ((j : Int))), (2, yI ((n : Int))), (3, yJ (of9))]) rfl (fun _ _ => rfl) rfl rfl ?_
          refine yG.load xlk2 rfl (fun _ _ => rfl) (v := yJ (z83)) rfl rfl ?_
          refine yG.numl (c := 1000000000) rfl (fun _ _ => rfl) (by decide) ?_
          refine yG.ldiv rfl ⟨by omega, by omega⟩ ⟨by omega, by omega⟩ (by omega) (by omega) ?_
          obtain ⟨z84, e_z84⟩ : ∃ z : Int, z = (z83) / (1000000000) := ⟨_, rfl⟩
          rw [← e_z84]
          refine yG.store2 xlk2 (L' := [(5, yJ (z84)), (8, yJ (z83)), (7, yI ((i : Int))), (0, yR 2073), (1, yI ((j : Int))), (2, yI ((n : Int))), (3, yJ (of9))]) rfl (fun _ _ => rfl) rfl rfl ?_
          refine yG.load xak rfl (fun _ _ => rfl) (v := yR 2073) rfl rfl ?_
          refine yG.getR T_hq (yF_upper W) rfl rfl ?_
          refine yG.load xik rfl (fun _ _ => rfl) (v := yI ((i : Int))) rfl rfl ?_
          refine yG.load xik rfl (fun _ _ => rfl) (v := yI ((j : Int))) rfl rfl ?_
          refine yG.iadd rfl ?_
          refine yG.iald T_hq (yA_upper W) rfl (by omega) (by omega) (fun z85 e_z85 i_z85 l_z85 u_z85 => ?_)
          have q_z85 : z85 = yUp hq (j + i) := e_z85.trans (by show ys _ 2078 _ = ys _ 2078 _; rw [show ((i : Int) + (j : Int)).toNat = j + i by omega])
          refine yG.i2l rfl ⟨by omega, by omega⟩ ?_
          refine yG.load xlk2 rfl (fun _ _ => rfl) (v := yJ (z83)) rfl rfl ?_
          refine yG.load xlk2 rfl (fun _ _ => rfl) (v := yJ (z84)) rfl rfl ?_
          refine yG.numl (c := 1000000000) rfl (fun _ _ => rfl) (by decide) ?_
          refine yG.lmul rfl ?_
          refine yG.lsub rfl ?_
          refine yG.lsub rfl ?_
          obtain ⟨z86, e_z86⟩ : ∃ z : Int, z = z85 - (z83 - (z84 * 1000000000)) := ⟨_, rfl⟩
          rw [← e_z86]
          refine yG.store2 xlk2 (L' := [(10, yJ (z86)), (5, yJ (z84)), (8, yJ (z83)), (7, yI ((i : Int))), (0, yR 2073), (1, yI ((j : Int))), (2, yI ((n : Int))), (3, yJ (of9))]) rfl (fun _ _ => rfl) rfl rfl ?_
          refine yG.load xlk2 rfl (fun _ _ => rfl) (v := yJ (z86)) rfl rfl ?_
          refine yG.numl (c := 0) rfl (fun _ _ => rfl) (by decide) ?_
          refine yG.lcmp rfl ⟨by omega, by omega⟩ ⟨by omega, by omega⟩ (fun z87 e_z87 => ?_)
          refine yG.ifz rfl (t := 88) rfl ⟨by omega, by omega⟩ (fun c88 => ?_) (fun c88 => ?_)
          · have c88 : z87 ≥ 0 := c88
            refine yG.load xak rfl (fun _ _ => rfl) (v := yR 2073) rfl rfl ?_
            refine yG.getR T_hq (yF_upper W) rfl rfl ?_
            refine yG.load xik rfl (fun _ _ => rfl) (v := yI ((i : Int))) rfl rfl ?_
            refine yG.load xik rfl (fun _ _ => rfl) (v := yI ((j : Int))) rfl rfl ?_
            refine yG.iadd rfl ?_
            refine yG.load xlk2 rfl (fun _ _ => rfl) (v := yJ (z86)) rfl rfl ?_
            refine yG.l2i rfl ?_
            refine yG.iast T_hq (yA_upper W) (by decide) rfl (by omega) (by omega) ⟨by omega, by omega⟩ (by omega) (by omega) (fun h89 T_h89 b_h89 f_h89 y_h89 => ?_)
            have N_h89 := N_hq.put T_h89 b_h89 (by decide) f_h89
            have D_h89 : ∀ s j, yD h89 s j = yD hq s j := fun s j => yput_ne y_h89 (by decide) _
            have L_h89 : ∀ s, yL h89 s = yL hq s := fun s => yput_ne y_h89 (by decide) _
            have S_h89 : ∀ s, yS h89 s = yS hq s := fun s => yput_ne y_h89 (by decide) _
            have yUp_h89 : ∀ t, yUp h89 t = if t = i + j then z86 else yUp hq t := yput_A (n := i + j) y_h89 (by omega)
            have yLo_h89 : ∀ t, yLo h89 t = yLo hq t := fun t => yput_ne y_h89 (by decide) _
            refine yG.iinc rfl (a := (i : Int)) rfl (L' := [(7, yI ((i : Int) + 1)), (10, yJ (z86)), (5, yJ (z84)), (8, yJ (z83)), (0, yR 2073), (1, yI ((j : Int))), (2, yI ((n : Int))), (3, yJ (of9))]) rfl ?_
            refine yG.goto rfl (t := 6) rfl ?_
            exact yG.mono ((STEP z84 _ h89 (by omega) (by omega) (by omega) N_h89 yUp_h89).sub (ySub.cons rfl (ySub.cons rfl (ySub.cons rfl (ySub.cons rfl (ySub.cons rfl (ySub.cons rfl (ySub.nil)))))))) (by omega)
          · have c88 : z87 < 0 := c88
            refine yG.load xlk2 rfl (fun _ _ => rfl) (v := yJ (z86)) rfl rfl ?_
            refine yG.numl (c := 1000000000) rfl (fun _ _ => rfl) (by decide) ?_
            refine yG.ladd rfl ?_
            obtain ⟨z90, e_z90⟩ : ∃ z : Int, z = z86 + 1000000000 := ⟨_, rfl⟩
            rw [← e_z90]
            refine yG.store2 xlk2 (L' := [(10, yJ (z90)), (5, yJ (z84)), (8, yJ (z83)), (7, yI ((i : Int))), (0, yR 2073), (1, yI ((j : Int))), (2, yI ((n : Int))), (3, yJ (of9))]) rfl (fun _ _ => rfl) rfl rfl ?_
            refine yG.load xlk2 rfl (fun _ _ => rfl) (v := yJ (z84)) rfl rfl ?_
            refine yG.numl (c := 1) rfl (fun _ _ => rfl) (by decide) ?_
            refine yG.ladd rfl ?_
            obtain ⟨z91, e_z91⟩ : ∃ z : Int, z = z84 + 1 := ⟨_, rfl⟩
            rw [← e_z91]
            refine yG.store2 xlk2 (L' := [(5, yJ (z91)), (10, yJ (z90)), (8, yJ (z83)), (7, yI ((i : Int))), (0, yR 2073), (1, yI ((j : Int))), (2, yI ((n : Int))), (3, yJ (of9))]) rfl (fun _ _ => rfl) rfl rfl ?_
            refine yG.load xak rfl (fun _ _ => rfl) (v := yR 2073) rfl rfl ?_
            refine yG.getR T_hq (yF_upper W) rfl rfl ?_
            refine yG.load xik rfl (fun _ _ => rfl) (v := yI ((i : Int))) rfl rfl ?_
            refine yG.load xik rfl (fun _ _ => rfl) (v := yI ((j : Int))) rfl rfl ?_
            refine yG.iadd rfl ?_
            refine yG.load xlk2 rfl (fun _ _ => rfl) (v := yJ (z90)) rfl rfl ?_
            refine yG.l2i rfl ?_
            refine yG.iast T_hq (yA_upper W) (by decide) rfl (by omega) (by omega) ⟨by omega, by omega⟩ (by omega) (by omega) (fun h92 T_h92 b_h92 f_h92 y_h92 => ?_)
            have N_h92 := N_hq.put T_h92 b_h92 (by decide) f_h92
            have D_h92 : ∀ s j, yD h92 s j = yD hq s j := fun s j => yput_ne y_h92 (by decide) _
            have L_h92 : ∀ s, yL h92 s = yL hq s := fun s => yput_ne y_h92 (by decide) _
            have S_h92 : ∀ s, yS h92 s = yS hq s := fun s => yput_ne y_h92 (by decide) _
            have yUp_h92 : ∀ t, yUp h92 t = if t = i + j then z90 else yUp hq t := yput_A (n := i + j) y_h92 (by omega)
            have yLo_h92 : ∀ t, yLo h92 t = yLo hq t := fun t => yput_ne y_h92 (by decide) _
            refine yG.iinc rfl (a := (i : Int)) rfl (L' := [(7, yI ((i : Int) + 1)), (5, yJ (z91)), (10, yJ (z90)), (8, yJ (z83)), (0, yR 2073), (1, yI ((j : Int))), (2, yI ((n : Int))), (3, yJ (of9))]) rfl ?_
            refine yG.goto rfl (t := 6) rfl ?_
            exact yG.mono ((STEP z91 _ h92 (by omega) (by omega) (by omega) N_h92 yUp_h92).sub (ySub.cons rfl (ySub.cons rfl (ySub.cons rfl (ySub.cons rfl (ySub.cons rfl (ySub.cons rfl (ySub.nil)))))))) (by omega)
        · have c82 : (i : Int) < (n : Int) := c82
          refine yG.load xlk2 rfl (fun _ _ => rfl) (v := yJ (of9)) rfl rfl ?_
          refine yG.load xak rfl (fun _ _ => rfl) (v := yR 2073) rfl rfl ?_
          refine yG.getR T_hq (yF_lower W) rfl rfl ?_
          refine yG.load xik rfl (fun _ _ => rfl) (v := yI ((i : Int))) rfl rfl ?_
          refine yG.iald T_hq (yA_lower W) rfl (by omega) (by omega) (fun z93 e_z93 i_z93 l_z93 u_z93 => ?_)
          have q_z93 : z93 = yLo hq (i) := e_z93.trans (by show ys _ 2079 _ = ys _ 2079 _; rw [show ((i : Int)).toNat = i by omega])
          have r_z93 : z93 = yLo hp i := by rw [q_z93]; exact ll
          rw [r_z93]
          refine yG.i2l rfl ⟨by omega, by omega⟩ ?_
          refine yG.lmul rfl ?_
          refine yG.goto rfl (t := 32) rfl ?_
          refine yG.load xlk2 rfl (fun _ _ => rfl) (v := yJ (cy)) rfl rfl ?_
          refine yG.ladd rfl ?_
          obtain ⟨z94, e_z94⟩ : ∃ z : Int, z = (of9 * (yLo hp i)) + cy := ⟨_, rfl⟩
          rw [← e_z94]
          refine yG.store2 xlk2 (L' := [(8, yJ (z94)), (7, yI ((i : Int))), (5, yJ (cy)), (0, yR 2073), (1, yI ((j : Int))), (2, yI ((n : Int))), (3, yJ (of9))]) rfl (fun _ _ => rfl) rfl rfl ?_
          refine yG.load xlk2 rfl (fun _ _ => rfl) (v := yJ (z94)) rfl rfl ?_
          refine yG.numl (c := 1000000000) rfl (fun _ _ => rfl) (by decide) ?_
          refine yG.ldiv rfl ⟨by omega, by omega⟩ ⟨by omega, by omega⟩ (by omega) (by omega) ?_
          obtain ⟨z95, e_z95⟩ : ∃ z : Int, z = (z94) / (1000000000) := ⟨_, rfl⟩
          rw [← e_z95]
          refine yG.store2 xlk2 (L' := [(5, yJ (z95)), (8, yJ (z94)), (7, yI ((i : Int))), (0, yR 2073), (1, yI ((j : Int))), (2, yI ((n : Int))), (3, yJ (of9))]) rfl (fun _ _ => rfl) rfl rfl ?_
          refine yG.load xak rfl (fun _ _ => rfl) (v := yR 2073) rfl rfl ?_
          refine yG.getR T_hq (yF_upper W) rfl rfl ?_
          refine yG.load xik rfl (fun _ _ => rfl) (v := yI ((i : Int))) rfl rfl ?_
          refine yG.load xik rfl (fun _ _ => rfl) (v := yI ((j : Int))) rfl rfl ?_
          refine yG.iadd rfl ?_
          refine yG.iald T_hq (yA_upper W) rfl (by omega) (by omega) (fun z96 e_z96 i_z96 l_z96 u_z96 => ?_)
          have q_z96 : z96 = yUp hq (j + i) := e_z96.trans (by show ys _ 2078 _ = ys _ 2078 _; rw [show ((i : Int) + (j : Int)).toNat = j + i by omega])
          refine yG.i2l rfl ⟨by omega, by omega⟩ ?_
          refine yG.load xlk2 rfl (fun _ _ => rfl) (v := yJ (z94)) rfl rfl ?_
          refine yG.load xlk2 rfl (fun _ _ => rfl) (v := yJ (z95)) rfl rfl ?_
          refine yG.numl (c := 1000000000) rfl (fun _ _ => rfl) (by decide) ?_
          refine yG.lmul rfl ?_
          refine yG.lsub rfl ?_
          refine yG.lsub rfl ?_
          obtain ⟨z97, e_z97⟩ : ∃ z : Int, z = z96 - (z94 - (z95 * 1000000000)) := ⟨_, rfl⟩
          rw [← e_z97]
          refine yG.store2 xlk2 (L' := [(10, yJ (z97)), (5, yJ (z95)), (8, yJ (z94)), (7, yI ((i : Int))), (0, yR 2073), (1, yI ((j : Int))), (2, yI ((n : Int))), (3, yJ (of9))]) rfl (fun _ _ => rfl) rfl rfl ?_
          refine yG.load xlk2 rfl (fun _ _ => rfl) (v := yJ (z97)) rfl rfl ?_
          refine yG.numl (c := 0) rfl (fun _ _ => rfl) (by decide) ?_
          refine yG.lcmp rfl ⟨by omega, by omega⟩ ⟨by omega, by omega⟩ (fun z98 e_z98 => ?_)
          refine yG.ifz rfl (t := 88) rfl ⟨by omega, by omega⟩ (fun c99 => ?_) (fun c99 => ?_)
          · have c99 : z98 ≥ 0 := c99
            refine yG.load xak rfl (fun _ _ => rfl) (v := yR 2073) rfl rfl ?_
            refine yG.getR T_hq (yF_upper W) rfl rfl ?_
            refine yG.load xik rfl (fun _ _ => rfl) (v := yI ((i : Int))) rfl rfl ?_
            refine yG.load xik rfl (fun _ _ => rfl) (v := yI ((j : Int))) rfl rfl ?_
            refine yG.iadd rfl ?_
            refine yG.load xlk2 rfl (fun _ _ => rfl) (v := yJ (z97)) rfl rfl ?_
            refine yG.l2i rfl ?_
            refine yG.iast T_hq (yA_upper W) (by decide) rfl (by omega) (by omega) ⟨by omega, by omega⟩ (by omega) (by omega) (fun h100 T_h100 b_h100 f_h100 y_h100 => ?_)
            have N_h100 := N_hq.put T_h100 b_h100 (by decide) f_h100
            have D_h100 : ∀ s j, yD h100 s j = yD hq s j := fun s j => yput_ne y_h100 (by decide) _
            have L_h100 : ∀ s, yL h100 s = yL hq s := fun s => yput_ne y_h100 (by decide) _
            have S_h100 : ∀ s, yS h100 s = yS hq s := fun s => yput_ne y_h100 (by decide) _
            have yUp_h100 : ∀ t, yUp h100 t = if t = i + j then z97 else yUp hq t := yput_A (n := i + j) y_h100 (by omega)
            have yLo_h100 : ∀ t, yLo h100 t = yLo hq t := fun t => yput_ne y_h100 (by decide) _
            refine yG.iinc rfl (a := (i : Int)) rfl (L' := [(7, yI ((i : Int) + 1)), (10, yJ (z97)), (5, yJ (z95)), (8, yJ (z94)), (0, yR 2073), (1, yI ((j : Int))), (2, yI ((n : Int))), (3, yJ (of9))]) rfl ?_
            refine yG.goto rfl (t := 6) rfl ?_
            exact yG.mono ((STEP z95 _ h100 (by omega) (by omega) (by omega) N_h100 yUp_h100).sub (ySub.cons rfl (ySub.cons rfl (ySub.cons rfl (ySub.cons rfl (ySub.cons rfl (ySub.cons rfl (ySub.nil)))))))) (by omega)
          · have c99 : z98 < 0 := c99
            refine yG.load xlk2 rfl (fun _ _ => rfl) (v := yJ (z97)) rfl rfl ?_
            refine yG.numl (c := 1000000000) rfl (fun _ _ => rfl) (by decide) ?_
            refine yG.ladd rfl ?_
            obtain ⟨z101, e_z101⟩ : ∃ z : Int, z = z97 + 1000000000 := ⟨_, rfl⟩
            rw [← e_z101]
            refine yG.store2 xlk2 (L' := [(10, yJ (z101)), (5, yJ (z95)), (8, yJ (z94)), (7, yI ((i : Int))), (0, yR 2073), (1, yI ((j : Int))), (2, yI ((n : Int))), (3, yJ (of9))]) rfl (fun _ _ => rfl) rfl rfl ?_
            refine yG.load xlk2 rfl (fun _ _ => rfl) (v := yJ (z95)) rfl rfl ?_
            refine yG.numl (c := 1) rfl (fun _ _ => rfl) (by decide) ?_
            refine yG.ladd rfl ?_
            obtain ⟨z102, e_z102⟩ : ∃ z : Int, z = z95 + 1 := ⟨_, rfl⟩
            rw [← e_z102]
            refine yG.store2 xlk2 (L' := [(5, yJ (z102)), (10, yJ (z101)), (8, yJ (z94)), (7, yI ((i : Int))), (0, yR 2073), (1, yI ((j : Int))), (2, yI ((n : Int))), (3, yJ (of9))]) rfl (fun _ _ => rfl) rfl rfl ?_
            refine yG.load xak rfl (fun _ _ => rfl) (v := yR 2073) rfl rfl ?_
            refine yG.getR T_hq (yF_upper W) rfl rfl ?_
            refine yG.load xik rfl (fun _ _ => rfl) (v := yI ((i : Int))) rfl rfl ?_
            refine yG.load xik rfl (fun _ _ => rfl) (v := yI ((j : Int))) rfl rfl ?_
            refine yG.iadd rfl ?_
            refine yG.load xlk2 rfl (fun _ _ => rfl) (v := yJ (z101)) rfl rfl ?_
            refine yG.l2i rfl ?_
            refine yG.iast T_hq (yA_upper W) (by decide) rfl (by omega) (by omega) ⟨by omega, by omega⟩ (by omega) (by omega) (fun h103 T_h103 b_h103 f_h103 y_h103 => ?_)
            have N_h103 := N_hq.put T_h103 b_h103 (by decide) f_h103
            have D_h103 : ∀ s j, yD h103 s j = yD hq s j := fun s j => yput_ne y_h103 (by decide) _
            have L_h103 : ∀ s, yL h103 s = yL hq s := fun s => yput_ne y_h103 (by decide) _
            have S_h103 : ∀ s, yS h103 s = yS hq s := fun s => yput_ne y_h103 (by decide) _
            have yUp_h103 : ∀ t, yUp h103 t = if t = i + j then z101 else yUp hq t := yput_A (n := i + j) y_h103 (by omega)
            have yLo_h103 : ∀ t, yLo h103 t = yLo hq t := fun t => yput_ne y_h103 (by decide) _
            refine yG.iinc rfl (a := (i : Int)) rfl (L' := [(7, yI ((i : Int) + 1)), (5, yJ (z102)), (10, yJ (z101)), (8, yJ (z94)), (0, yR 2073), (1, yI ((j : Int))), (2, yI ((n : Int))), (3, yJ (of9))]) rfl ?_
            refine yG.goto rfl (t := 6) rfl ?_
            exact yG.mono ((STEP z102 _ h103 (by omega) (by omega) (by omega) N_h103 yUp_h103).sub (ySub.cons rfl (ySub.cons rfl (ySub.cons rfl (ySub.cons rfl (ySub.cons rfl (ySub.cons rfl (ySub.nil)))))))) (by omega)
  refine yC.of (M := (xt_X13_takeAway, (12, (2, (14, []))))) rfl rfl (N := 100 * (n + 1) + 100 * 260 + 300) (yfuel (by omega)) ?_
  show yG 89 xfts (xcall 89 xfts xpools xms d) (xpool xp_RX13) [] xt_X13_takeAway (yP 2 (yQ_take G hp j n of9)) (100 * (n + 1) + 100 * 260 + 300) 0 [(0, yR 2073), (1, yI ((j : Int))), (2, yI ((n : Int))), (3, yJ (of9))] [] hp
  refine yG.numl (c := 0) rfl (fun _ _ => rfl) (by decide) ?_
  refine yG.store2 xlk2 (L' := [(5, yJ (0)), (0, yR 2073), (1, yI ((j : Int))), (2, yI ((n : Int))), (3, yJ (of9))]) rfl (fun _ _ => rfl) rfl rfl ?_
  refine yG.num (c := 0) rfl (fun _ _ => rfl) (by decide) ?_
  refine yG.store1 xik (L' := [(7, yI (0)), (5, yJ (0)), (0, yR 2073), (1, yI ((j : Int))), (2, yI ((n : Int))), (3, yJ (of9))]) rfl (fun _ _ => rfl) rfl rfl ?_
  exact yG.mono (H (n + 1) 0 0 hp rfl (by omega) (by omega) (yNx.rf hT) (fun _ _ => rfl) (by show (0 : Int) - 0 * _ = 0 - _ * 0; rw [Int.zero_mul, Int.mul_zero])) (by omega)
end YTk
