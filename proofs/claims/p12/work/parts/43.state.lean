/-! ===== a method's run, as pure numbers: enough fuel, an end of which something holds ===== -/
section Pure
variable {o : Nat} {ft : Nat → List Nat} {call : xF} {pool : Nat → xP} {hs : List (Nat × (Nat × (Nat × Nat)))} {tab : Lean.RArray xI} {P : xE → Prop}
def zG (o : Nat) (ft : Nat → List Nat) (call : xF) (pool : Nat → xP) (hs : List (Nat × (Nat × (Nat × Nat)))) (tab : Lean.RArray xI) (P : xE → Prop) (N pc : Nat) (loc : List (Nat × xA)) (stk : List xA) (hp : xH) : Prop := ∀ fuel, N ≤ fuel → ∃ out, xrun o ft call pool hs tab fuel pc loc stk hp = some out ∧ P out
theorem zG.mono {N N' pc : Nat} {loc : List (Nat × xA)} {stk : List xA} {hp : xH} (h : zG o ft call pool hs tab P N pc loc stk hp) (hN : N ≤ N') : zG o ft call pool hs tab P N' pc loc stk hp := fun fuel hf => h fuel (Nat.le_trans hN hf)
/-- one step -/
theorem zG.stepP {N pc len nx : Nat} {i : Instr} {loc : List (Nat × xA)} {stk : List xA} {hp : xH} (ht : xget tab pc = (pc, (i, (len, nx)))) (h : ∀ fuel, N ≤ fuel → ∃ out, xstep o ft call pool hs (xrun o ft call pool hs tab fuel) i pc nx loc stk hp = some out ∧ P out) : zG o ft call pool hs tab P (N + 1) pc loc stk hp := by
  intro fuel hf
  obtain ⟨f, rfl⟩ : ∃ f, fuel = f + 1 := ⟨fuel - 1, by omega⟩
  obtain ⟨out, h1, h2⟩ := h f (by omega)
  refine ⟨out, ?_, h2⟩
  show cond (Nat.beq (xget tab pc).1 pc) (xstep o ft call pool hs (xrun o ft call pool hs tab f) (xget tab pc).2.1 (xget tab pc).1 (xget tab pc).2.2.2 loc stk hp) none = some out
  rw [ht]
  show cond (Nat.beq pc pc) (xstep o ft call pool hs (xrun o ft call pool hs tab f) i pc nx loc stk hp) none = some out
  rw [Nat.beq_refl, cond_true]
  exact h1
theorem zG.step {N pc len nx pc' : Nat} {i : Instr} {loc loc' : List (Nat × xA)} {stk stk' : List xA} {hp hp' : xH} (ht : xget tab pc = (pc, (i, (len, nx)))) (hs9 : ∀ K : xK, xstep o ft call pool hs K i pc nx loc stk hp = K pc' loc' stk' hp') (h : zG o ft call pool hs tab P N pc' loc' stk' hp') : zG o ft call pool hs tab P (N + 1) pc loc stk hp :=
  zG.stepP ht fun fuel hf => by rw [hs9]; exact h fuel hf
theorem zG.done {N pc len nx : Nat} {i : Instr} {loc : List (Nat × xA)} {stk : List xA} {hp : xH} {out : xE} (ht : xget tab pc = (pc, (i, (len, nx)))) (hs9 : ∀ K : xK, xstep o ft call pool hs K i pc nx loc stk hp = some out) (h : P out) : zG o ft call pool hs tab P (N + 1) pc loc stk hp :=
  zG.stepP ht fun fuel hf => ⟨out, by rw [hs9], h⟩
end Pure
/-! ===== symbolic values and states ===== -/
/-- an int, a long: a linear number; a reference: a variable that is a cell's number -/
abbrev zV : Type := zE ⊕ (zE ⊕ Nat)
/-- the next variable; facts (0 or more); references (variable, set of roles, own number); fields known (variable, field, value) -/
abbrev zQ : Type := Nat × (List zE × (List (Nat × (Nat × zE)) × List ((Nat × Nat) × zV)))
def zR (n : Nat) (ν : Nat → Int) (v : zV) (u : xA) : Prop := match v with
  | .inl e => zlt n e ∧ zi32 (zv ν e) ∧ u = .inl (zc32 (zv ν e))
  | .inr (.inl e) => zlt n e ∧ zi64 (zv ν e) ∧ u = .inr (.inl (zc64 (zv ν e)))
  | .inr (.inr x) => x < n ∧ ∃ k : Nat, ν x = (k : Int) ∧ u = .inr (.inr (.inl k))
theorem zR.mono {n n' : Nat} {ν μ : Nat → Int} (hn : n ≤ n') (h : ∀ x, x < n → ν x = μ x) {v : zV} {u : xA} (hr : zR n ν v u) : zR n' μ v u := by
  match v, hr with
  | .inl e, ⟨h1, h2, h3⟩ =>
    have e1 := zv_same h h1
    exact ⟨h1.mono hn, by rw [← e1]; exact h2, by rw [← e1]; exact h3⟩
  | .inr (.inl e), ⟨h1, h2, h3⟩ =>
    have e1 := zv_same h h1
    exact ⟨h1.mono hn, by rw [← e1]; exact h2, by rw [← e1]; exact h3⟩
  | .inr (.inr x), ⟨h1, k, h2, h3⟩ => exact ⟨Nat.lt_of_lt_of_le h1 hn, k, by rw [← h x h1]; exact h2, h3⟩
def zcat (v : zV) : Nat := match v with
  | .inr (.inl _) => 2
  | _ => 1
theorem zR.cat {n : Nat} {ν : Nat → Int} {v : zV} {u : xA} (h : zR n ν v u) : xcat u = zcat v := by
  match v, h with
  | .inl e, ⟨_, _, h3⟩ => rw [h3]; rfl
  | .inr (.inl e), ⟨_, _, h3⟩ => rw [h3]; rfl
  | .inr (.inr x), ⟨_, k, _, h3⟩ => rw [h3]; rfl
def zSt (n : Nat) (ν : Nat → Int) : List zV → List xA → Prop
  | [], [] => True
  | a :: as, b :: bs => zR n ν a b ∧ zSt n ν as bs
  | _, _ => False
theorem zSt.cons {n : Nat} {ν : Nat → Int} {a : zV} {as : List zV} {st : List xA} (h : zSt n ν (a :: as) st) : ∃ b bs, st = b :: bs ∧ zR n ν a b ∧ zSt n ν as bs := by
  cases st with
  | nil => exact h.elim
  | cons b bs => exact ⟨b, bs, rfl, h.1, h.2⟩
theorem zSt.nil {n : Nat} {ν : Nat → Int} {st : List xA} (h : zSt n ν [] st) : st = [] := by
  cases st with
  | nil => rfl
  | cons b bs => exact h.elim
theorem zSt.mono {n n' : Nat} {ν μ : Nat → Int} (hn : n ≤ n') (h : ∀ x, x < n → ν x = μ x) : ∀ {as : List zV} {st : List xA}, zSt n ν as st → zSt n' μ as st := by
  intro as
  induction as with
  | nil => intro st hs; rw [hs.nil]; trivial
  | cons a as ih =>
    intro st hs
    obtain ⟨b, bs, rfl, h1, h2⟩ := hs.cons
    exact ⟨h1.mono hn h, ih h2⟩
/-- what a state says: facts, references, known fields; what the numbers at the start were (g); types, writes, counts -/
def zRel (G : zW) (W : zWr) (hp0 : xH) (ν0 : Nat → Int) (g : List zE) (ν : Nat → Int) (X : zQ) (hp : xH) : Prop :=
  (∀ f ∈ X.2.1, zlt X.1 f ∧ 0 ≤ zv ν f) ∧
  (∀ q ∈ X.2.2.1, q.1 < X.1 ∧ zlt X.1 q.2.2 ∧ ∃ k : Nat, ν q.1 = (k : Int) ∧ k < G.2.2.1 ∧ Nat.testBit q.2.1 (zro G k) = true ∧ ((zat G k : Nat) : Int) = zv ν q.2.2) ∧
  (∀ q ∈ X.2.2.2, q.1.1 < X.1 ∧ q.1.2 < 256 ∧ ∃ k : Nat, ν q.1.1 = (k : Int) ∧ ziO G k ∧ zR X.1 ν q.2 (zsl hp k q.1.2)) ∧
  (∀ i e, g[i]? = some e → zlt X.1 e ∧ zv ν e = ν0 i) ∧
  zTJ G hp ∧ zFr G W hp0 hp ∧ hp.2 = hp0.2
def zup (ν : Nat → Int) (n : Nat) (z : Int) : Nat → Int := fun x => if x = n then z else ν x
theorem zup_old {ν : Nat → Int} {n : Nat} {z : Int} : ∀ x, x < n → ν x = zup ν n z x := fun x hx => by
  unfold zup
  rw [if_neg (by omega)]
theorem zup_new {ν : Nat → Int} {n : Nat} {z : Int} : zup ν n z n = z := if_pos rfl
/-- a new variable, with facts of it -/
theorem zRel.fresh {G : zW} {W : zWr} {hp0 : xH} {ν0 : Nat → Int} {g : List zE} {ν : Nat → Int} {X : zQ} {hp : xH} (h : zRel G W hp0 ν0 g ν X hp) (z : Int) (Fs : List zE) (hF : ∀ f ∈ Fs, zlt (X.1 + 1) f ∧ 0 ≤ zv (zup ν X.1 z) f) : zRel G W hp0 ν0 g (zup ν X.1 z) (X.1 + 1, (Fs ++ X.2.1, X.2.2)) hp := by
  obtain ⟨h1, h2, h3, h4, h5⟩ := h
  have hs : ∀ x, x < X.1 → ν x = zup ν X.1 z x := zup_old
  refine ⟨fun f hf => ?_, fun q hq => ?_, fun q hq => ?_, fun i e he => ?_, h5⟩
  · rcases List.mem_append.mp hf with hf | hf
    · exact hF f hf
    · obtain ⟨a, b⟩ := h1 f hf
      exact ⟨a.mono (Nat.le_succ _), by rw [← zv_same hs a]; exact b⟩
  · obtain ⟨a, b, k, c, d, e, f⟩ := h2 q hq
    exact ⟨Nat.lt_succ_of_lt a, b.mono (Nat.le_succ _), k, by rw [← hs _ a]; exact c, d, e, by rw [← zv_same hs b]; exact f⟩
  · obtain ⟨a, b, k, c, c2, d⟩ := h3 q hq
    exact ⟨Nat.lt_succ_of_lt a, b, k, by rw [← hs _ a]; exact c, c2, d.mono (Nat.le_succ _) hs⟩
  · obtain ⟨a, b⟩ := h4 i e he
    exact ⟨a.mono (Nat.le_succ _), by rw [← zv_same hs a]; exact b⟩
/-- more facts -/
theorem zRel.fact {G : zW} {W : zWr} {hp0 : xH} {ν0 : Nat → Int} {g : List zE} {ν : Nat → Int} {X : zQ} {hp : xH} (h : zRel G W hp0 ν0 g ν X hp) (Fs : List zE) (hF : ∀ f ∈ Fs, zlt X.1 f ∧ 0 ≤ zv ν f) : zRel G W hp0 ν0 g ν (X.1, (Fs ++ X.2.1, X.2.2)) hp := by
  obtain ⟨h1, h5⟩ := h
  refine ⟨fun f hf => ?_, h5⟩
  rcases List.mem_append.mp hf with hf | hf
  · exact hF f hf
  · exact h1 f hf
theorem zRel.ent {G : zW} {W : zWr} {hp0 : xH} {ν0 : Nat → Int} {g : List zE} {ν : Nat → Int} {X : zQ} {hp : xH} (h : zRel G W hp0 ν0 g ν X hp) {e : zE} {c : zC} (hc : zent X.2.1 e c = true) : 0 ≤ zv ν e := zent_ok (fun f hf => (h.1 f hf).2) hc
