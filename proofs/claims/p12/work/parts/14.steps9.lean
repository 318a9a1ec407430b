section Steps9
variable {p : Program} {l : Launch} {e : Env} {R : Room} {s : State} {m : MethodId} {args : Array Value} {below : List Frame} {meth : Method} {c : Code} {cc : ByteArray} {nL : Nat} {own : String} {S : State} {o : Nat} {old : Nat → Nat} {D : va_G} {c0 s0 : Nat} {Q : State → Prop}
variable {pc nx : Nat} {K : xK} {out : xE} {loc : List (Nat × xA)} {stk : List xA} {hp : xH} {ft : Nat → List Nat} {call : xF} {pool : Nat → xP} {hs : List (Nat × (Nat × (Nat × Nat)))}
variable {hh : List (Nat × (Nat × (Nat × Nat)))} {rk : Nat} {r0 : xO}
abbrev xQ (below : List Frame) (S : State) (o : Nat) (old : Nat → Nat) (D : va_G) (r0 : xO) (args : Array Value) (s : State) (c0 s0 : Nat) : State → Prop :=
  vx_MQ below (xPost S o old D r0) (xPex S o old D r0) args s (r0.2.2.1.2.2.2.1 - c0) (r0.2.2.1.2.2.2.2 - s0) (fun q => S.heap.size ≤ q)
/-- how a body's run may end: it went where it was to go (9), or it ended as its end says -/
def xQh (R : Room) (below : List Frame) (S : State) (o : Nat) (old : Nat → Nat) (D : va_G) (args : Array Value) (s : State) (c0 s0 rk : Nat) (Q : State → Prop) (out : xE) : Prop := out.1 = 9 ∨ ∃ r0, xend rk (some out) = some r0 ∧ Q = xQ below S o old D r0 args s c0 s0 ∧ r0.2.2.1.2.2.2.1 ≤ R.cells + c0 ∧ r0.2.2.1.2.2.2.2 ≤ R.slots + s0
/-- a word that warmer tables keep, though no list of good words has it -/
theorem xface (F : xFx p s m args meth c cc nL own S) {w : Cond} (h1 : w.faceAtom = true) (h2 : w.onTables = true) (h : w.before #[] S = true) : w.before args s = true := by
  have a := Cond.faceAtom_setVm (args := #[]) F.2.2.2.2.2.1.alike w h1 h
  exact va_tabs h2 (rfl : (S.setVm s.vm).vm = s.vm) a
theorem xps.use (F : xFx p s m args meth c cc nL own S) {E : Nat} {z : ExceptionTableEntry} (h : xps S own pc E z) : covers z pc = false ∨ (z.catchType ≠ 0 ∧ ∃ nm : String, (Cond.classLink own z.catchType nm).before args s = true ∧ va_Nc (xen E) nm s) := by
  rcases h with h | ⟨h1, E', h2, h3, h4⟩
  · exact Or.inl h
  · exact Or.inr ⟨h1, _, F.2.2.2.2.1 _ h3, va_Nc.moved F.2.2.2.2.2.1.alike h4⟩
/-- behind a call: it returned, it threw and is caught here, it threw and goes on -/
theorem xback_ok (F : xFx p s m args meth c cc nL own S) (X : xEx S) (hT : c.exceptionTable.toList = tableOf hh) (HH : xHs own hs hh) (hQ : xQh R below S o old D args s c0 s0 rk Q out)
    (hK : xHyp p l e R s m args below meth c nL S o old D c0 s0 Q K out) {r : xO} {a : Array Value} {H : Heap} {locs : List Loc} {cells slots : Nat} {ls : Array Slot} {lv : List (Nat × Value)} {stv rv : List Value} {rest : List xA}
    (h : xback hs K pc (pc + 3) loc rest (some r) = some out)
    (hrun : vx_Run p l e R s m args below meth c H locs cells slots (r.2.2.1.2.2.2.1 - hp.2.2.2.1) (r.2.2.1.2.2.2.2 - hp.2.2.2.2) (F0 m pc ls stv) rv (xPost S o old D r a) (xPex S o old D r) (fun q => S.heap.size ≤ q))
    (hm : hp.2.2.2.1 ≤ r.2.2.1.2.2.2.1 ∧ hp.2.2.2.2 ≤ r.2.2.1.2.2.2.2) (hlv : lv_has ls nL lv) (hl : xl2 (xad o S.heap.size old) loc lv) (hs2 : xs2 (xad o S.heap.size old) rest rv) (hlo : ∀ z ∈ locs, S.heap.size ≤ z.base) (hc : cells + c0 = hp.2.2.2.1) (hsl : slots + s0 = hp.2.2.2.2) :
    W p l e R s m args below meth c H locs cells slots Q (F0 m pc ls stv) := by
  intro T hT' Xs
  obtain ⟨tag, rvv, h', E0⟩ := r
  have hm1 : hp.2.2.2.1 ≤ h'.2.2.2.1 := hm.1
  have hm2 : hp.2.2.2.2 ≤ h'.2.2.2.2 := hm.2
  rcases hrun T hT' Xs with ⟨v, st₀, t, T', L, g0, X', hL, e1, e2, ⟨v', q1, q2, q3, q4⟩, st⟩ | ⟨q, st₀, t, T', L, E, ce, g0, X', hL, e1, e2, ⟨q2, q3, q4, q5⟩, hce, hcv, hcl, st⟩
  · have q2 : tag = 0 := q2
    subst q2
    cases q1
    have hlo' : ∀ z ∈ locs ++ L, S.heap.size ≤ z.base := fun z hz => (List.mem_append.mp hz).elim (hlo z) (hL z)
    have hx : xhr o old D S h' T'.heap := by rw [e1]; exact q4
    have kk : ∀ (u : List xA) (w : List Value), xs2 (xad o S.heap.size old) u w → K (pc + 3) loc u h' = some out → w = v.toList ++ rv → ∃ t, Steps p.tables e below (T.setTop (F0 m pc ls stv)) t ∧ Q t := by
      intro u w hu hk hw
      have hc' : (cells + (h'.2.2.2.1 - hp.2.2.2.1)) + c0 = h'.2.2.2.1 := by omega
      have hsl' : (slots + (h'.2.2.2.2 - hp.2.2.2.2)) + s0 = h'.2.2.2.2 := by omega
      obtain ⟨t2, a1, b1⟩ := hK _ _ _ _ hk T'.heap (locs ++ L) _ _ ls lv w hlv hl hu hx hlo' hc' hsl' T' rfl X'
      refine ⟨t2, st t2 ?_, b1⟩
      rw [hw] at a1
      exact a1
    cases rvv with
    | none =>
      cases v with
      | none => exact kk _ _ hs2 h rfl
      | some v => exact q3.elim
    | some b =>
      cases v with
      | none => exact q3.elim
      | some v => exact kk (b :: rest) (v :: rv) ⟨q3, hs2⟩ h rfl
  · have q2 : tag = 1 := q2
    subst q2
    have q3 : E = xen E0 := q3
    have q4 : E0 < 3 := q4
    subst q3
    have hlo' : ∀ z ∈ locs ++ L, S.heap.size ≤ z.base := fun z hz => (List.mem_append.mp hz).elim (hlo z) (hL z)
    have hx : xhr o old D S h' T'.heap := by rw [e1]; exact q5
    have hce' : T'.heap[q]? = some ce := by rw [e1]; exact hce
    have hc' : (cells + (h'.2.2.2.1 - hp.2.2.2.1)) + c0 = h'.2.2.2.1 := by omega
    have hsl' : (slots + (h'.2.2.2.2 - hp.2.2.2.2)) + s0 = h'.2.2.2.2 := by omega
    obtain ⟨i1, i2⟩ := xcatch_ok (S := S) (pc := pc) X q4 HH
    have h : (match xcatch hs pc E0 with
      | some t => K t loc [.inr (.inr (.inr (.inr (.inr (.inl true)))))] h'
      | none => some (2, (pc, (rest, (h', E0))))) = some out := h
    have done : vx_W p l e R s m args below meth c T'.heap (locs ++ L) (cells + (h'.2.2.2.1 - hp.2.2.2.1)) (slots + (h'.2.2.2.2 - hp.2.2.2.2)) Q (F0 m pc ls rv) q := by
      cases hx9 : xcatch hs pc E0 with
      | some tg =>
        rw [hx9] at h
        obtain ⟨pre, x, suf, j1, j2, j3, j4, j5, j6⟩ := i1 tg hx9
        refine vx_catch F.2.2.2.1 pre x suf (hT.trans j1) (fun z hz => (j2 z hz).use F) j3 j4 (F.2.2.2.2.1 _ j5) (xface F rfl rfl (X.1 _ q4)) hce' hcv hcl ?_
        rw [j6]
        exact hK _ _ _ _ h T'.heap (locs ++ L) _ _ ls lv [.ref q] hlv hl ⟨Or.inr ⟨q, rfl⟩, trivial⟩ hx hlo' hc' hsl'
      | none =>
        rw [hx9] at h
        have hj := i2 hx9
        cases h
        rcases hQ with h9 | ⟨r0, hend, rfl, -, -⟩
        · cases h9
        have hend' : some ((1, (none, (h', E0))) : xO) = some r0 := hend
        cases hend'
        refine vx_outP F.2.2.2.1 F.2.2.2.2.2.2 (fun z hz => (hj z (by rw [← hT]; exact hz)).use F) hce' hcv hcl (fun t ht _ => ⟨rfl, rfl, q4, by rw [ht]; exact hx⟩) hlo' ?_ ?_
        · show _ ≤ h'.2.2.2.1 - c0
          omega
        · show _ ≤ h'.2.2.2.2 - s0
          omega
    obtain ⟨t2, a1, b1⟩ := done T' rfl X'
    exact ⟨t2, st.trans a1, b1⟩
theorem xtake_ok {ad : Nat → Nat} : ∀ (n : Nat) (acc stk : List xA) (av st : List Value) (q : List xA × List xA), xs2 ad acc av → xs2 ad stk st → xtake n acc stk = some q → ∃ As rv : List Value, As.length = n ∧ st = As.reverse ++ rv ∧ xs2 ad q.1 (As ++ av) ∧ xs2 ad q.2 rv := by
  intro n
  induction n with
  | zero =>
    intro acc stk av st q h1 h2 h
    cases h
    exact ⟨[], st, rfl, rfl, h1, h2⟩
  | succ n ih =>
    intro acc stk av st q h1 h2 h
    cases stk with
    | nil => cases h
    | cons a t =>
      obtain ⟨b, bs, rfl, r1, r2⟩ := xs2_cons h2
      obtain ⟨As, rv, k1, k2, k3, k4⟩ := ih (a :: acc) t (b :: av) bs q ⟨r1, h1⟩ r2 h
      refine ⟨As ++ [b], rv, by simp [k1], ?_, ?_, k4⟩
      · rw [k2]
        simp
      · simpa using k3
end Steps9
