/-! ===== the steps: references into arrays, arrays of arrays, constants ===== -/
section Steps6
variable {p : Program} {l : Launch} {e : Env} {R : Room} {s : State} {m : MethodId} {args : Array Value} {below : List Frame} {meth : Method} {c : Code} {cc : ByteArray} {nL : Nat} {own : String} {S : State} {o : Nat} {old : Nat → Nat} {D : va_G} {c0 s0 : Nat} {Q : State → Prop}
variable {pc nx : Nat} {K : xK} {out : xE} {loc : List (Nat × xA)} {stk : List xA} {hp : xH} {ft : Nat → List Nat} {call : xF} {pool : Nat → xP} {hs : List (Nat × (Nat × (Nat × Nat)))}

theorem xi_aastore (F : xFx p s m args meth c cc nL own S) {len : Nat} (B : xBs S o old D ft) (hd : decode cc pc = .ok (.aastore, len)) (hl0 : len = xlen (.aastore) len) (hx0 : nx = pc + len) (hst : xsto nL (.aastore) = true) (hK : xHyp p l e R s m args below meth c nL S o old D c0 s0 Q K out) (h : xstep o ft call pool hs K (.aastore) pc nx loc stk hp = some out) : xG p l e R s m args below meth c nL S o old D c0 s0 Q pc loc stk hp := by
  subst hx0
  have hl1 : len = 1 := hl0
  subst hl1
  intro H locs cells slots ls lv st hlv hl hs1 hh hlo hc hsl
  have h : xaast o K (pc + 1) loc stk hp = some out := h
  unfold xaast at h
  split at h
  next v n k rest _ =>
    split at h
    next c9 e hc9 he =>
      obtain ⟨h0, h⟩ := cond_some h
      obtain ⟨h1, h2⟩ := and_true' h0
      obtain ⟨h3, h4⟩ := and_true' h2
      obtain ⟨h5, h6⟩ := and_true' h4
      obtain ⟨h7, h8⟩ := and_true' h6
      have n1 : n < c9.2.1 := Nat.le_of_ble_eq_true h3
      have n2 : n < 2147483648 := Nat.le_of_ble_eq_true h5
      have n3 : o ≤ k := Nat.le_of_ble_eq_true h7
      have n4 : n < 2 ^ c9.2.2.1 := Nat.le_of_ble_eq_true h8
      obtain ⟨vv, st0, rfl, rv, hs2⟩ := xs2_cons hs1
      obtain ⟨vn, st1, rfl, rn, hs3⟩ := xs2_cons hs2
      obtain ⟨vk, st2, rfl, rk, hs4⟩ := xs2_cons hs3
      cases rv
      cases rn
      cases rk
      have hal := F.2.2.2.2.2.1.alike
      have hcr := hh.1 k
      rw [hc9] at hcr
      have hcr' := hcr
      obtain ⟨cell, g1, g2, g3, g4, g5, g6, g7, -, g8⟩ := hcr
      obtain ⟨y1, y2, y3⟩ := g4 n3
      have hv := hh.1 v
      rw [he] at hv
      -- the class of what is put in
      have key : 4 ≤ c9.1 ∧ ∃ cv : Cell, H[xad o S.heap.size old v]? = some cv ∧ (∀ q, cv.vm ≠ .statics q) ∧ S.vm.findClass (xtn c9.1) = some cv.cls := by
        match e, h1, hv with
        | .inl q, h1, hv =>
          have e1 : c9.1 = 4 + q.1 := Nat.eq_of_beq_eq_true h1
          obtain ⟨r, r1, r2, r3, V, ⟨cv, v1, v2, v3, v4⟩, v5⟩ := hv
          obtain ⟨hS, hfc, kC, hkC, hkind⟩ := B.2.1.1 q.1 _ r1
          have hq : q.1 < 60 := by
            have := (List.getElem?_eq_some_iff.mp r1).1
            have e : vwCl.length ≤ 60 := by decide
            omega
          refine ⟨by omega, cv, v1, fun z h => (by rw [v3] at h; cases h), ?_⟩
          rw [e1]
          unfold xtn
          rw [if_pos (by omega), Nat.add_sub_cancel_left]
          unfold xcn
          rw [r1, v2]
          exact hfc
        | .inr (.inl q), h1, hv =>
          obtain ⟨h11, h12⟩ := and_true' h1
          obtain ⟨h13, h14⟩ := and_true' h12
          have e1 : c9.1 = 64 + q.1 := Nat.eq_of_beq_eq_true h11
          obtain ⟨cv, v1, v2, v3, v4, -⟩ := hv
          have hov : o ≤ v := Nat.le_of_ble_eq_true h14
          obtain ⟨y4, y5, -⟩ := v4 hov
          have hq4 : q.1 < 4 := Nat.le_of_ble_eq_true h13
          refine ⟨by omega, cv, v1, fun z h => (by rw [y4] at h; cases h), ?_⟩
          rw [e1]
          unfold xtn
          rw [if_neg (by omega)]
          have ex : xty (64 + q.1) = .array (xty1 q.1) := by
            unfold xty
            rw [if_neg (by omega), if_neg (by omega), Nat.add_sub_cancel_left]
          have ex2 : xty q.1 = xty1 q.1 := by
            unfold xty
            rw [if_pos hq4]
          rw [ex, ← ex2]
          exact y5
        | .inr (.inr cs), h1, hv => cases h1
      obtain ⟨k4, cv, v1, v2, v3⟩ := key
      obtain ⟨kA, comp, kc, z1, z2, z3, z4⟩ := y3 k4
      cases Option.some.inj (z3.symm.trans v3)
      obtain ⟨kA', w1, w2⟩ := hal.2.2 _ _ z1
      obtain ⟨kc', w3, w4⟩ := hal.2.2 _ _ z4
      refine W.aast (j := Int32.ofNat n) F.1 F.2.1 g1 (fun q h => by rw [y1] at h; cases h) g3 w1 (by rw [w2]; exact z2) (xty_ref k4) w3 ⟨nI_pos n2, by rw [clamp_of rfl n2]; exact Nat.lt_of_lt_of_le n1 g5⟩ v1 v2 w3 (va_asg _ _) rfl rfl hd fun H' e1 e2 e3 => ?_
      rw [clamp_of rfl n2] at e1 ⊢
      refine hK _ _ _ _ h H' _ cells slots ls lv _ hlv hl hs4 (hh.put B.1 n3 (xcell_n hh hc9) e2 e3 (xcr_set hcr' g1 n1 n4 rfl e1)) (fun y hy => ?_) hc hsl
      rcases List.mem_append.mp hy with y1 | y1
      · exact hlo y y1
      · rw [List.mem_singleton] at y1
        subst y1
        show S.heap.size ≤ xad o S.heap.size old k
        unfold xad
        rw [if_neg (by omega)]
        omega
    next => cases h
  next => cases h
end Steps6
