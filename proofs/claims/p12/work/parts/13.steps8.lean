/-! ===== the steps: calls, throws, ends ===== -/
/-- a method: its name, bytes, locals, what it returns, its handlers where its word tells them -/
abbrev xY : Type := MethodName × (ByteArray × (Nat × (Option FieldType × Option (List (Nat × (Nat × (Nat × Nat)))))))
def xcw (q : xY) : Cond := match q.2.2.2.2 with
  | none => Cond.code q.1 q.2.1 q.2.2.1 q.2.2.2.1
  | some hh => Cond.codeWith q.1 q.2.1 q.2.2.1 q.2.2.2.1 hh
def xhh (q : xY) : List (Nat × (Nat × (Nat × Nat))) := match q.2.2.2.2 with
  | none => []
  | some hh => hh
/-- the exceptions -/
def xen (E : Nat) : String := match E with
  | 0 => "java/lang/IllegalArgumentException"
  | 1 => "java/lang/IllegalStateException"
  | _ => "java/lang/IndexOutOfBoundsException"
def xrm (d c n : Nat) : Room := { frames := 10 + d, cells := c, slots := n, locals := 200 + 64 * d }
def xPre (S : State) (o : Nat) (old : Nat → Nat) (D : va_G) (as : List xA) (hp : xH) (a : Array Value) (st : State) : Prop := S.WarmedH st.vm ∧ xs2 (xad o S.heap.size old) as a.toList ∧ xhr o old D S hp st.heap
def xrv (ad : Nat → Nat) (a : Option xA) (v : Option Value) : Prop := match a, v with
  | none, none => True
  | some a, some v => xR ad a v
  | _, _ => False
def xPost (S : State) (o : Nat) (old : Nat → Nat) (D : va_G) (r : xO) (_ : Array Value) (_ : State) (oc : Outcome) (t : State) : Prop := ∃ v, oc = .returned v ∧ r.1 = 0 ∧ xrv (xad o S.heap.size old) r.2.1 v ∧ xhr o old D S r.2.2.1 t.heap
def xPex (S : State) (o : Nat) (old : Nat → Nat) (D : va_G) (r : xO) (E : String) (_ : State) (t : State) : Prop := r.1 = 1 ∧ E = xen r.2.2.2 ∧ r.2.2.2 < 3 ∧ xhr o old D S r.2.2.1 t.heap
def xMet (l : Launch) (S : State) (o : Nat) (old : Nat → Nat) (D : va_G) (q : xY) (as : List xA) (hp : xH) (r : xO) (d : Nat) : Prop :=
  vx_Met l q.1 (xcw q :: xW) (xrm d (r.2.2.1.2.2.2.1 - hp.2.2.2.1) (r.2.2.1.2.2.2.2 - hp.2.2.2.2)) (xPre S o old D as hp) (xPost S o old D r) (xPex S o old D r) (r.2.2.1.2.2.2.1 - hp.2.2.2.1) (r.2.2.1.2.2.2.2 - hp.2.2.2.2) (fun q => S.heap.size ≤ q)
/-- the runner's handlers and the machine's -/
def xHs (own : String) : List (Nat × (Nat × (Nat × Nat))) → List (Nat × (Nat × (Nat × Nat))) → Prop
  | [], [] => True
  | a :: as, b :: bs => (a.1 = b.1 ∧ a.2.1 = b.2.1 ∧ a.2.2.1 = b.2.2.1 ∧ b.2.2.2 ≠ 0 ∧ a.2.2.2 < 3 ∧ Cond.classLink own b.2.2.2 (xen a.2.2.2) ∈ xW) ∧ xHs own as bs
  | _, _ => False
/-- the exceptions: each is one of its own class, none is one of another's -/
def xEx (S : State) : Prop := (∀ E, E < 3 → (Cond.castable (xen E) (xen E)).before #[] S = true) ∧ ∀ E E', E < 3 → E' < 3 → E ≠ E' → va_Nc (xen E) (xen E') S
def xps (S : State) (own : String) (pc E : Nat) (z : ExceptionTableEntry) : Prop := covers z pc = false ∨ (z.catchType ≠ 0 ∧ ∃ E', E' < 3 ∧ Cond.classLink own z.catchType (xen E') ∈ xW ∧ va_Nc (xen E) (xen E') S)
theorem xps_one {S : State} {own : String} {pc E : Nat} (X : xEx S) (hE : E < 3) {a b : Nat × (Nat × (Nat × Nat))} (h1 : a.1 = b.1) (h2 : a.2.1 = b.2.1) (h4 : b.2.2.2 ≠ 0) (h5 : a.2.2.2 < 3) (h6 : Cond.classLink own b.2.2.2 (xen a.2.2.2) ∈ xW)
    (hn : (Nat.ble a.1 pc && (Nat.blt pc a.2.1 && Nat.beq a.2.2.2 E)) = false) : xps S own pc E { startPc := b.1, endPc := b.2.1, handlerPc := b.2.2.1, catchType := b.2.2.2 } := by
  by_cases hc : covers { startPc := b.1, endPc := b.2.1, handlerPc := b.2.2.1, catchType := b.2.2.2 : ExceptionTableEntry } pc = true
  · refine Or.inr ⟨h4, a.2.2.2, h5, h6, X.2 E _ hE h5 fun e => ?_⟩
    unfold covers at hc
    rw [Bool.and_eq_true, decide_eq_true_eq, decide_eq_true_eq] at hc
    obtain ⟨c1, c2⟩ := hc
    have c1 : b.1 ≤ pc := c1
    have c2 : pc < b.2.1 := c2
    rw [show Nat.ble a.1 pc = true from Nat.ble_eq_true_of_le (by omega), show Nat.blt pc a.2.1 = true from Nat.ble_eq_true_of_le (by omega), show Nat.beq a.2.2.2 E = true by rw [← e]; exact Nat.beq_refl _] at hn
    cases hn
  · exact Or.inl (by simpa using hc)
theorem xcatch_ok {S : State} {own : String} {pc E : Nat} (X : xEx S) (hE : E < 3) : ∀ {hs hh : List (Nat × (Nat × (Nat × Nat)))}, xHs own hs hh →
    (∀ t, xcatch hs pc E = some t → ∃ (pre : List ExceptionTableEntry) (x : ExceptionTableEntry) (suf : List ExceptionTableEntry), tableOf hh = pre ++ x :: suf ∧ (∀ z ∈ pre, xps S own pc E z) ∧ covers x pc = true ∧ x.catchType ≠ 0 ∧ Cond.classLink own x.catchType (xen E) ∈ xW ∧ x.handlerPc = t) ∧
    (xcatch hs pc E = none → ∀ z ∈ tableOf hh, xps S own pc E z) := by
  intro hs
  induction hs with
  | nil =>
    intro hh h
    cases hh with
    | nil => exact ⟨fun t h => (by cases h), fun _ z hz => (by cases hz)⟩
    | cons => exact h.elim
  | cons a hs ih =>
    intro hh h
    cases hh with
    | nil => exact h.elim
    | cons b hh =>
      obtain ⟨⟨h1, h2, h3, h4, h5, h6⟩, hr⟩ := h
      obtain ⟨i1, i2⟩ := ih hr
      have hx : xcatch (a :: hs) pc E = cond (Nat.ble a.1 pc && (Nat.blt pc a.2.1 && Nat.beq a.2.2.2 E)) (some a.2.2.1) (xcatch hs pc E) := rfl
      have ht : tableOf (b :: hh) = { startPc := b.1, endPc := b.2.1, handlerPc := b.2.2.1, catchType := b.2.2.2 } :: tableOf hh := rfl
      cases hb : (Nat.ble a.1 pc && (Nat.blt pc a.2.1 && Nat.beq a.2.2.2 E)) with
      | true =>
        rw [hb, cond_true] at hx
        obtain ⟨c1, c2⟩ := and_true' hb
        obtain ⟨c2, c3⟩ := and_true' c2
        have c1 := Nat.le_of_ble_eq_true c1
        have c2 : pc < a.2.1 := Nat.le_of_ble_eq_true c2
        have c3 := Nat.eq_of_beq_eq_true c3
        refine ⟨fun t h => ⟨[], _, tableOf hh, ht, fun z hz => (by cases hz), ?_, h4, by rw [← c3]; exact h6, ?_⟩, fun h => by rw [hx] at h; cases h⟩
        · unfold covers
          rw [Bool.and_eq_true, decide_eq_true_eq, decide_eq_true_eq]
          exact ⟨by show b.1 ≤ pc; omega, by show pc < b.2.1; omega⟩
        · rw [hx] at h
          rw [← Option.some.inj h]
          exact h3.symm
      | false =>
        have hp := xps_one (S := S) X hE h1 h2 h4 h5 h6 hb
        rw [hb, cond_false] at hx
        refine ⟨fun t h => ?_, fun h z hz => ?_⟩
        · obtain ⟨pre, x, suf, j1, j2⟩ := i1 t (by rw [← hx]; exact h)
          refine ⟨_ :: pre, x, suf, by rw [ht, j1]; rfl, fun z hz => ?_, j2.2⟩
          rcases List.mem_cons.mp hz with rfl | hz
          · exact hp
          · exact j2.1 z hz
        · rw [ht] at hz
          rcases List.mem_cons.mp hz with rfl | hz
          · exact hp
          · exact i2 (by rw [← hx]; exact h) z hz
