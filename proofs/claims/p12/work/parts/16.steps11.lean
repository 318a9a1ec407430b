section Steps11
variable {p : Program} {l : Launch} {e : Env} {R : Room} {s : State} {m : MethodId} {args : Array Value} {below : List Frame} {meth : Method} {c : Code} {cc : ByteArray} {nL : Nat} {own : String} {S : State} {o : Nat} {old : Nat → Nat} {D : va_G} {c0 s0 : Nat} {Q : State → Prop}
variable {pc nx : Nat} {K : xK} {out : xE} {loc : List (Nat × xA)} {stk : List xA} {hp : xH} {ft : Nat → List Nat} {call : xF} {pool : Nat → xP} {hs : List (Nat × (Nat × (Nat × Nat)))}
variable {hh : List (Nat × (Nat × (Nat × Nat)))} {rk : Nat} {r0 : xO} {mt : Nat → xY} {d : Nat}
/-- from the abstract call to the machine's -/
theorem xcalled (F : xFx p s m args meth c cc nL own S) (X : xEx S) (hT : c.exceptionTable.toList = tableOf hh) (HH : xHs own hs hh) (hQ : xQh R below S o old D args s c0 s0 rk Q out) (Rm : xRm K out R c0 s0) (HC : xHC l S o old D mt call d)
    (hK : xHyp p l e R s m args below meth c nL S o old D c0 s0 Q K out) {mi : Nat} {as : List xA} {rest : List xA} {a : Array Value} {H : Heap} {locs : List Loc} {cells slots : Nat} {ls : Array Slot} {lv : List (Nat × Value)} {stv rv : List Value}
    (h : xback hs K pc (pc + 3) loc rest (call mi as hp) = some out)
    (run : ∀ r, xMet l S o old D (mt mi) as hp r d → cells + (r.2.2.1.2.2.2.1 - hp.2.2.2.1) ≤ R.cells ∧ slots + (r.2.2.1.2.2.2.2 - hp.2.2.2.2) ≤ R.slots → vx_Run p l e R s m args below meth c H locs cells slots (r.2.2.1.2.2.2.1 - hp.2.2.2.1) (r.2.2.1.2.2.2.2 - hp.2.2.2.2) (F0 m pc ls stv) rv (xPost S o old D r a) (xPex S o old D r) (fun q => S.heap.size ≤ q))
    (hlv : lv_has ls nL lv) (hl : xl2 (xad o S.heap.size old) loc lv) (hs2 : xs2 (xad o S.heap.size old) rest rv) (hlo : ∀ z ∈ locs, S.heap.size ≤ z.base) (hc : cells + c0 = hp.2.2.2.1) (hsl : slots + s0 = hp.2.2.2.2) :
    W p l e R s m args below meth c H locs cells slots Q (F0 m pc ls stv) := by
  cases hr : call mi as hp with
  | none => rw [hr] at h; cases h
  | some r =>
    rw [hr] at h
    obtain ⟨h1, h2⟩ := HC _ _ _ _ hr
    obtain ⟨h3, h4⟩ := xback_mono h Rm
    have h5 := Rm.2.1
    have h6 := Rm.2.2
    exact xback_ok F X hT HH hQ hK h (run r h2 ⟨by omega, by omega⟩) h1 hlv hl hs2 hlo hc hsl
theorem xi_invokestatic2 (F : xFx p s m args meth c cc nL own S) (X : xEx S) (hT : c.exceptionTable.toList = tableOf hh) (HH : xHs own hs hh) (hQ : xQh R below S o old D args s c0 s0 rk Q out) (Rm : xRm K out R c0 s0) (HC : xHC l S o old D mt call d) (hR : d + 11 ≤ R.frames ∧ 264 + 64 * d ≤ R.locals)
    (hK : xHyp p l e R s m args below meth c nL S o old D c0 s0 Q K out) {ix : Nat} {P : xP} (HP : xP2 mt own ix P) (hd : decode cc pc = .ok (.invokestatic ix, 3))
    (h : (xj (xtake P.2.2.1 [] stk) fun q => cond (Nat.ble (xcats q.2) 8) (xback hs K pc (pc + 3) loc q.2 (call P.2.1 q.1 hp)) none) = some out) :
    xG p l e R s m args below meth c nL S o old D c0 s0 Q pc loc stk hp := by
  intro H locs cells slots ls lv st hlv hl hs1 hx hlo hc hsl
  obtain ⟨q, hq, h⟩ := xj_some h
  obtain ⟨h8, h⟩ := cond_some h
  obtain ⟨As, rv, k1, rfl, k3, k4⟩ := xtake_ok _ [] _ [] _ _ trivial hs1 hq
  rw [List.append_nil] at k3
  have h8 : xcats q.2 ≤ 8 := Nat.le_of_ble_eq_true h8
  rw [← xs2_cats k4] at h8
  exact xcalled F X hT HH hQ Rm HC hK h (fun r hM hf => xrunS F hR HP.1 HP.2.1 HP.2.2 hM k1 k3 hx hlv h8 hd hf) hlv hl k4 hlo hc hsl
/-- a virtual call's pool entry: on an object of the program, on a text -/
def xP1 (mt : Nat → xY) (own : String) (ix : Nat) (P : xP) : Prop := xQw (mt P.2.1) P.2.2.1 ∧ (mt P.2.1).2.2.2.2 = none ∧ Cond.methodLink own ix (mt P.2.1).1 ∈ xW ∧ Cond.instanceMethod (mt P.2.1).1 ∈ xW ∧
  (P.1 = 1 → ∃ (C : String) (T : u_T) (N : Nat), vwCl[P.2.2.2]? = some (C, T, N) ∧ Cond.selects C (mt P.2.1).1 (mt P.2.1).1 ∈ xW) ∧ (P.1 = 28 → Cond.selects "java/lang/String" (mt P.2.1).1 (mt P.2.1).1 ∈ xW)
theorem xi_invokevirtual (F : xFx p s m args meth c cc nL own S) (B : xBs S o old D ft) (X : xEx S) (hT : c.exceptionTable.toList = tableOf hh) (HH : xHs own hs hh) (hQ : xQh R below S o old D args s c0 s0 rk Q out) (Rm : xRm K out R c0 s0) (HC : xHC l S o old D mt call d) (hR : d + 11 ≤ R.frames ∧ 264 + 64 * d ≤ R.locals)
    (hK : xHyp p l e R s m args below meth c nL S o old D c0 s0 Q K out) {ix : Nat} {P : xP} (HP : P.1 = 1 ∨ P.1 = 28 → xP1 mt own ix P) (hd : decode cc pc = .ok (.invokevirtual ix, 3))
    (h : xinvV call hs P K pc (pc + 3) loc stk hp = some out) :
    xG p l e R s m args below meth c nL S o old D c0 s0 Q pc loc stk hp := by
  intro H locs cells slots ls lv st hlv hl hs1 hx hlo hc hsl
  have hcr := hx.1
  unfold xinvV at h
  cases hb : Nat.beq P.1 1 with
  | true =>
    rw [hb, cond_true] at h
    have e1 := Nat.eq_of_beq_eq_true hb
    obtain ⟨q, hq, h⟩ := xj_some h
    obtain ⟨As, rv, k1, rfl, k3, k4⟩ := xtake_ok _ [] _ [] _ _ trivial hs1 hq
    rw [List.append_nil] at k3
    split at h
    next k rest he =>
      rw [he] at k4
      obtain ⟨b, rv, rfl, r1, k5⟩ := xs2_cons k4
      cases r1
      split at h
      next q9 hq9 =>
        obtain ⟨h7, h⟩ := cond_some h
        obtain ⟨h7, h8⟩ := and_true' h7
        have h7 := Nat.eq_of_beq_eq_true h7
        have h8 : xcats rest ≤ 8 := Nat.le_of_ble_eq_true h8
        rw [← xs2_cats k5] at h8
        obtain ⟨w1, w2, w3, w4, w5, -⟩ := HP (Or.inl e1)
        obtain ⟨C, T, N, f1, f2⟩ := w5 e1
        have hcr := hcr k
        rw [hq9] at hcr
        obtain ⟨r9, g1, g2, g3, V, ⟨cell, q1, q2, q3, q4⟩, g5⟩ := hcr
        rw [h7] at q2
        obtain ⟨-, hfc, -⟩ := (va_K.moved F.2.2.2.2.2.1.alike B.2.1).1 _ _ f1
        exact xcalled F X hT HH hQ Rm HC hK h (fun r hM hf => xrunV F hR w1 w2 w3 w4 f2 hM k1 ⟨rfl, k3⟩ hx hlv ⟨cell, q1, by rw [q3]; rfl, by rw [q2]; exact hfc⟩ h8 hd hf) hlv hl k5 hlo hc hsl
      next => cases h
    next => cases h
  | false =>
    rw [hb, cond_false] at h
    obtain ⟨hb2, h⟩ := cond_some h
    have e1 := Nat.eq_of_beq_eq_true hb2
    obtain ⟨q, hq, h⟩ := xj_some h
    obtain ⟨As, rv, k1, rfl, k3, k4⟩ := xtake_ok _ [] _ [] _ _ trivial hs1 hq
    rw [List.append_nil] at k3
    split at h
    next k rest he =>
      rw [he] at k4
      obtain ⟨b, rv, rfl, r1, k5⟩ := xs2_cons k4
      cases r1
      split at h
      next q9 hq9 =>
        obtain ⟨h8, h⟩ := cond_some h
        have h8 : xcats rest ≤ 8 := Nat.le_of_ble_eq_true h8
        rw [← xs2_cats k5] at h8
        obtain ⟨w1, w2, w3, w4, -, w5⟩ := HP (Or.inr e1)
        have hcr := hcr k
        rw [hq9] at hcr
        obtain ⟨ha, j', e0, o1, o2, o3⟩ := hcr
        have hH : ∀ q : Nat, q < S.heap.size → ¬ S.heap.size ≤ q → H[q]? = S.heap[q]? := fun q h1 _ => hx.2.2.2.2.2.2.2 q h1
        obtain ⟨cell, q1, q2, q3, -⟩ := va_O.moved F.2.2.2.2.2.1.alike (o1.kept hH)
        exact xcalled F X hT HH hQ Rm HC hK h (fun r hM hf => xrunV F hR w1 w2 w3 w4 (w5 e1) hM k1 ⟨rfl, k3⟩ hx hlv ⟨cell, q1, q2, q3⟩ h8 hd hf) hlv hl k5 hlo hc hsl
      next => cases h
    next => cases h
/-- a constructor call's pool entry -/
def xP3 (S : State) (mt : Nat → xY) (own : String) (ix : Nat) (P : xP) : Prop := xQw (mt P.2.1) P.2.2.1 ∧ (mt P.2.1).2.2.2.2 = none ∧ (mt P.2.1).2.2.2.1 = none ∧ (mt P.2.1).1.name = "<init>" ∧ (Cond.methodLink own ix (mt P.2.1).1 ∈ xW ∨ ∃ host, va_Nw (.methodLinkNest own ix (mt P.2.1).1 host) S) ∧ Cond.instanceMethod (mt P.2.1).1 ∈ xW
def xP4 (own : String) (ix : Nat) : Prop := Cond.methodLink own ix Lib.objectInit ∈ xW ∧ Cond.instanceMethod Lib.objectInit ∈ xW ∧ Cond.code Lib.objectInit { data := #[177] } 1 none ∈ xW
theorem xi_invokespecial (F : xFx p s m args meth c cc nL own S) (X : xEx S) (hT : c.exceptionTable.toList = tableOf hh) (HH : xHs own hs hh) (hQ : xQh R below S o old D args s c0 s0 rk Q out) (Rm : xRm K out R c0 s0) (HC : xHC l S o old D mt call d) (hR : d + 11 ≤ R.frames ∧ 264 + 64 * d ≤ R.locals)
    (hK : xHyp p l e R s m args below meth c nL S o old D c0 s0 Q K out) {ix : Nat} {P : xP} (HP : P.1 = 3 → xP3 S mt own ix P) (HP4 : P.1 = 4 → xP4 own ix) (hd : decode cc pc = .ok (.invokespecial ix, 3))
    (h : xinvI call hs P K pc (pc + 3) loc stk hp = some out) :
    xG p l e R s m args below meth c nL S o old D c0 s0 Q pc loc stk hp := by
  intro H locs cells slots ls lv st hlv hl hs1 hx hlo hc hsl
  unfold xinvI at h
  cases hb : Nat.beq P.1 4 with
  | true =>
    rw [hb, cond_true] at h
    obtain ⟨w1, w2, w3⟩ := HP4 (Nat.eq_of_beq_eq_true hb)
    split at h
    next k rest =>
      obtain ⟨h8, h⟩ := cond_some h
      have h8 : xcats rest ≤ 8 := Nat.le_of_ble_eq_true h8
      obtain ⟨b, rv, rfl, r1, k4⟩ := xs2_cons hs1
      cases r1
      rw [← xs2_cats k4] at h8
      exact W.objInit (g := F0 m pc ls (Value.ref (xad o S.heap.size old k) :: rv)) F.1 F.2.1 F.2.2.2.1 (F.2.2.2.2.1 _ w1) (F.2.2.2.2.1 _ w2) (F.2.2.2.2.1 _ w3) rfl (by rw [F.2.2.1]; exact hlv.1) rfl hd (by omega) (by show 2 * 0 + _ + 12 ≤ _; omega)
        (hK _ _ _ _ h H locs cells slots ls lv _ hlv hl k4 hx hlo hc hsl)
    next => cases h
  | false =>
    rw [hb, cond_false] at h
    obtain ⟨hb2, h⟩ := cond_some h
    obtain ⟨w1, w2, w3, w4, w5, w6⟩ := HP (Nat.eq_of_beq_eq_true hb2)
    obtain ⟨q, hq, h⟩ := xj_some h
    obtain ⟨As, rv, k1, rfl, k3, k4⟩ := xtake_ok _ [] _ [] _ _ trivial hs1 hq
    rw [List.append_nil] at k3
    split at h
    next k rest he =>
      rw [he] at k4
      obtain ⟨b, rv, rfl, r1, k5⟩ := xs2_cons k4
      cases r1
      obtain ⟨h8, h⟩ := cond_some h
      have h8 : xcats rest ≤ 8 := Nat.le_of_ble_eq_true h8
      rw [← xs2_cats k5] at h8
      exact xcalled F X hT HH hQ Rm HC hK h (fun r hM hf => xrunI F hR w1 w2 w3 w4 w5 w6 hM k1 ⟨rfl, k3⟩ hx hlv h8 hd hf) hlv hl k5 hlo hc hsl
    next => cases h
end Steps11
