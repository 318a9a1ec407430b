/-! ===== the checker's steps, sound: invokestatic, invokevirtual, invokespecial ===== -/
noncomputable def zinvS (S : Lean.RArray zSp) (W : zWr) (B : zB) (K : zKs) (ok : Nat → Bool) (thr : Nat) (PP : xP) (X : zQ) (nx : Nat) (loc : zLc) (stk : List zV) (os : List zO) : Option (List zO) := match ztake PP.2.2.1 [] stk, os with
  | some q, (30, (cs, (θ, t))) :: os' => cond (Nat.beq PP.1 2) (zcl2 W B K ok thr PP.2.1 X nx loc q.1 q.2 cs θ t.1 (xget S t.1) os') none
  | _, _ => none
noncomputable def zinvV (G : zW) (S : Lean.RArray zSp) (W : zWr) (B : zB) (K : zKs) (ok : Nat → Bool) (thr : Nat) (PP : xP) (X : zQ) (nx : Nat) (loc : zLc) (stk : List zV) (os : List zO) : Option (List zO) := match ztake PP.2.2.1 [] stk, os with
  | some (as, .inr (.inr x) :: rest), (30, (cs, (θ, t))) :: os' => match zinf X x with
    | some p => cond (Nat.beq PP.1 1 && zallr p.2.1 (zclsB G (0, (PP.2.2.2, (0, 0)))) B.1) (zcl2 W B K ok thr PP.2.1 X nx loc (.inr (.inr x) :: as) rest cs θ t.1 (xget S t.1) os') none
    | none => none
  | _, _ => none
noncomputable def zinvI (S : Lean.RArray zSp) (W : zWr) (B : zB) (K : zKs) (ok : Nat → Bool) (thr : Nat) (PP : xP) (X : zQ) (nx : Nat) (loc : zLc) (stk : List zV) (os : List zO) : Option (List zO) := match ztake PP.2.2.1 [] stk, os with
  | some (as, .inr (.inr x) :: rest), (30, (cs, (θ, t))) :: os' => cond (Nat.beq PP.1 3) (zcl2 W B K ok thr PP.2.1 X nx loc (.inr (.inr x) :: as) rest cs θ t.1 (xget S t.1) os') none
  | _, _ => none
section ZInvs
variable {G : zW} {W : zWr} {B : zB} {hp0 : xH} {ν0 : Nat → Int} {g : List zE} {o : Nat} {ft : Nat → List Nat} {call : xF} {pool : Nat → xP} {hs : List (Nat × (Nat × (Nat × Nat)))} {tab : Lean.RArray xI} {P : xE → Prop} {N : Nat}
variable {K : zKs} {pc nx len : Nat} {X : zQ} {loc : zLc} {stk rest : List zV} {os r : List zO} {ν : Nat → Int} {l : List (Nat × xA)} {s : List xA} {hp : xH} {i : Instr} {thr : Nat} {S : Lean.RArray zSp} {ok : Nat → Bool}
theorem zi_invS {kk : Nat} (hS : ∀ i, ok i = true → zSpOk G call (xget S i)) (hB : zBok G o B) (hK : zHK G W hp0 ν0 g o ft call pool hs tab P N K) (hn : ∀ pc E, xcatch hs pc E = none) (hP : zPx G W hp0 thr P) (ht : xget tab pc = (pc, (.invokestatic kk, (len, nx)))) (h : zinvS S W B K ok thr (pool kk) X nx loc stk os = some r) : zOk G W hp0 ν0 g o ft call pool hs tab P (N + 1) pc X loc stk := by
  intro ν l s hp hr hl hst
  unfold zinvS at h
  split at h
  · next q cs θ t os' h1 =>
    obtain ⟨b, h⟩ := cond_some h
    obtain ⟨q', c1, c2, c3⟩ := zSt.take (acc' := []) h1 trivial hst
    obtain ⟨d1, d2⟩ := zcl2_ok (pc := pc) hS hB hK hn hP hr hl c3 c2 h
    refine zG.stepP ht fun fuel hf => ?_
    obtain ⟨out, e1, e2⟩ := d2 fuel hf
    refine ⟨out, ?_, e2⟩
    show xinvS o call hs (pool kk) (xrun o ft call pool hs tab fuel) pc nx l s hp = some out
    unfold xinvS
    rw [b, cond_true, c1]
    show cond (Nat.ble (xcats q'.2) 8) (xback hs (xrun o ft call pool hs tab fuel) pc nx l q'.2 (call (pool kk).2.1 q'.1 hp)) none = some out
    rw [d1, cond_true]
    exact e1
  · cases h
theorem zi_invV {kk : Nat} (hS : ∀ i, ok i = true → zSpOk G call (xget S i)) (hB : zBok G o B) (hK : zHK G W hp0 ν0 g o ft call pool hs tab P N K) (hn : ∀ pc E, xcatch hs pc E = none) (hP : zPx G W hp0 thr P) (ht : xget tab pc = (pc, (.invokevirtual kk, (len, nx)))) (h : zinvV G S W B K ok thr (pool kk) X nx loc stk os = some r) : zOk G W hp0 ν0 g o ft call pool hs tab P (N + 1) pc X loc stk := by
  intro ν l s hp hr hl hst
  unfold zinvV at h
  split at h
  · next as x rest cs θ t os' h1 =>
    split at h
    · next p hp9 =>
      obtain ⟨b, h⟩ := cond_some h
      obtain ⟨b, b2⟩ := and_true' b
      obtain ⟨⟨us, s2⟩, c1, c2, c3⟩ := zSt.take (acc' := []) h1 trivial hst
      obtain ⟨u, s3, rfl, c4, c5⟩ := zSt.cons c3
      obtain ⟨x1, k, x2, rfl⟩ := c4
      obtain ⟨d1, d2⟩ := zcl2_ok (pc := pc) (args := .inr (.inr x) :: as) (us := .inr (.inr (.inl k)) :: us) hS hB hK hn hP hr hl c5 ⟨⟨x1, k, x2, rfl⟩, c2⟩ h
      obtain ⟨_, i2, k', i3, i4, i5, i6⟩ := hr.info hp9
      have ek : k' = k := by omega
      subst ek
      obtain ⟨qd, g1, g2⟩ := zclsB_ok (zallr_ok b2 _ (hB.1 k' i4).1 i5)
      obtain ⟨f, f1, _⟩ := hr.2.2.2.2.1.1.obj i4 g1
      refine zG.stepP ht fun fuel hf => ?_
      obtain ⟨out, e1, e2⟩ := d2 fuel hf
      refine ⟨out, ?_, e2⟩
      show xinvV call hs (pool kk) (xrun o ft call pool hs tab fuel) pc nx l s hp = some out
      unfold xinvV
      rw [b, cond_true, c1]
      show (match xcell hp k' with
        | some (.inl c) => cond (Nat.beq c.1 (pool kk).2.2.2 && Nat.ble (xcats s3) 8) (xback hs (xrun o ft call pool hs tab fuel) pc nx l s3 (call (pool kk).2.1 (.inr (.inr (.inl k')) :: us) hp)) none
        | _ => none) = some out
      rw [f1]
      show cond (Nat.beq qd.1 (pool kk).2.2.2 && Nat.ble (xcats s3) 8) _ none = some out
      rw [show qd.1 = (pool kk).2.2.2 from g2, Nat.beq_refl, d1]
      exact e1
    · cases h
  · cases h
theorem zi_invI {kk : Nat} (hS : ∀ i, ok i = true → zSpOk G call (xget S i)) (hB : zBok G o B) (hK : zHK G W hp0 ν0 g o ft call pool hs tab P N K) (hn : ∀ pc E, xcatch hs pc E = none) (hP : zPx G W hp0 thr P) (ht : xget tab pc = (pc, (.invokespecial kk, (len, nx)))) (h : zinvI S W B K ok thr (pool kk) X nx loc stk os = some r) : zOk G W hp0 ν0 g o ft call pool hs tab P (N + 1) pc X loc stk := by
  intro ν l s hp hr hl hst
  unfold zinvI at h
  split at h
  · next as x rest cs θ t os' h1 =>
    obtain ⟨b, h⟩ := cond_some h
    obtain ⟨⟨us, s2⟩, c1, c2, c3⟩ := zSt.take (acc' := []) h1 trivial hst
    obtain ⟨u, s3, rfl, c4, c5⟩ := zSt.cons c3
    obtain ⟨x1, k, x2, rfl⟩ := c4
    obtain ⟨d1, d2⟩ := zcl2_ok (pc := pc) (args := .inr (.inr x) :: as) (us := .inr (.inr (.inl k)) :: us) hS hB hK hn hP hr hl c5 ⟨⟨x1, k, x2, rfl⟩, c2⟩ h
    refine zG.stepP ht fun fuel hf => ?_
    obtain ⟨out, e1, e2⟩ := d2 fuel hf
    refine ⟨out, ?_, e2⟩
    show xinvI call hs (pool kk) (xrun o ft call pool hs tab fuel) pc nx l s hp = some out
    unfold xinvI
    rw [show Nat.beq (pool kk).1 4 = false by rw [Nat.eq_of_beq_eq_true b]; rfl, b, cond_false, cond_true, c1]
    show cond (Nat.ble (xcats s3) 8) (xback hs (xrun o ft call pool hs tab fuel) pc nx l s3 (call (pool kk).2.1 (.inr (.inr (.inl k)) :: us) hp)) none = some out
    rw [d1, cond_true]
    exact e1
  · cases h
end ZInvs
