/-! ===== the rows of the tables ===== -/
noncomputable def xallB {α : Type} (f : α → Bool) : Lean.RArray α → Bool := Lean.RArray.rec (fun x => f x) (fun _ _ _ l r => l && r)
theorem xallB_ok {α : Type} {f : α → Bool} {P : α → Prop} (hf : ∀ x, f x = true → P x) : ∀ {t : Lean.RArray α}, xallB f t = true → xall P t := by
  intro t
  induction t with
  | leaf x => intro h; exact hf x h
  | branch p l r ihl ihr =>
    intro h
    obtain ⟨h1, h2⟩ := and_true' (show (xallB f l && xallB f r) = true from h)
    exact ⟨ihl h1, ihr h2⟩
/-- an instruction's use of the pool: its sort and its place -/
def xus (pool : Nat → xP) (i : Instr) : Option (Nat × Nat) := match i with
  | .getfield k => some (0, k)
  | .putfield k => some (1, k)
  | .new k => cond (Nat.beq (pool k).1 11) none (some (2, k))
  | .anewarray k => some (3, k)
  | .multianewarray k _ => some (4, k)
  | .ldc k => some (5, k)
  | .ldc_w k => some (6, k)
  | .ldc2_w k => some (7, k)
  | .getstatic k => some (8, k)
  | .invokevirtual k => some (9, k)
  | .invokestatic k => some (10, k)
  | .invokespecial k => some (11, k)
  | _ => none
def xusB (lst : Nat → Nat → Bool) (o : Option (Nat × Nat)) : Bool := match o with
  | some q => lst q.1 q.2
  | none => true
def xthB (pool : Nat → xP) (thr : List (Nat × (Nat × Nat))) (pc : Nat) (i : Instr) : Bool := match i with
  | .new k => !(Nat.beq (pool k).1 11) || thr.elem (pc, (k, (pool k).2.1))
  | .multianewarray _ d => Nat.beq d 2
  | _ => true
def xrowB (cc : ByteArray) (pool : Nat → xP) (nL : Nat) (ini : Bool) (rk : Nat) (lst : Nat → Nat → Bool) (thr : List (Nat × (Nat × Nat))) (x : xI) : Bool :=
  decide (decode cc x.1 = .ok (x.2.1, x.2.2.1)) && (Nat.beq x.2.2.1 (xlen x.2.1 x.2.2.1) && (Nat.beq x.2.2.2 (Nat.add x.1 x.2.2.1) && (xsto nL x.2.1 && (xpfo ini pool x.2.1 && (xro rk x.2.1 && (xusB lst (xus pool x.2.1) && xthB pool thr x.1 x.2.1))))))
theorem xIc_of {S : State} {ad : Nat → Nat} {mt : Nat → xY} {own : String} {cc : ByteArray} {hh : List (Nat × (Nat × (Nat × Nat)))} {pool : Nat → xP} {lst : Nat → Nat → Bool} {thr : List (Nat × (Nat × Nat))}
    (hu : ∀ u k, lst u k = true → xIu S ad mt own pool u k) (ht : ∀ t ∈ thr, xTh S own cc hh t.1 t.2.1 t.2.2) {pc : Nat} {i : Instr} (a7 : xusB lst (xus pool i) = true) (a8 : xthB pool thr pc i = true) : xIc S ad mt own cc hh pool pc i := by
  cases i
  case getfield k => exact hu 0 k a7
  case putfield k => exact hu 1 k a7
  case anewarray k => exact hu 3 k a7
  case ldc k => exact hu 5 k a7
  case ldc_w k => exact hu 6 k a7
  case ldc2_w k => exact hu 7 k a7
  case getstatic k => exact hu 8 k a7
  case invokevirtual k => exact hu 9 k a7
  case invokestatic k => exact hu 10 k a7
  case invokespecial k => exact hu 11 k a7
  case multianewarray k d => exact ⟨Nat.eq_of_beq_eq_true a8, hu 4 k a7⟩
  case new k =>
    have c7 : xusB lst (cond (Nat.beq (pool k).1 11) none (some (2, k))) = true := a7
    have c8 : (!(Nat.beq (pool k).1 11) || thr.elem (pc, (k, (pool k).2.1))) = true := a8
    refine ⟨fun e => ?_, fun e => ?_⟩
    · rw [e] at c7
      exact hu 2 k c7 e
    · rw [e] at c8
      exact ht _ (List.elem_iff.mp c8)
  all_goals trivial
theorem xrowB_ok {S : State} {ad : Nat → Nat} {mt : Nat → xY} {own : String} {cc : ByteArray} {hh : List (Nat × (Nat × (Nat × Nat)))} {pool : Nat → xP} {nL : Nat} {ini : Bool} {rk : Nat} {lst : Nat → Nat → Bool} {thr : List (Nat × (Nat × Nat))} {x : xI}
    (hu : ∀ u k, lst u k = true → xIu S ad mt own pool u k) (ht : ∀ t ∈ thr, xTh S own cc hh t.1 t.2.1 t.2.2) (h : xrowB cc pool nL ini rk lst thr x = true) : xOk S ad mt own cc hh pool nL ini rk x := by
  obtain ⟨a1, h⟩ := and_true' h
  obtain ⟨a2, h⟩ := and_true' h
  obtain ⟨a3, h⟩ := and_true' h
  obtain ⟨a4, h⟩ := and_true' h
  obtain ⟨a5, h⟩ := and_true' h
  obtain ⟨a6, h⟩ := and_true' h
  obtain ⟨b7, b8⟩ := and_true' h
  refine ⟨of_decide_eq_true a1, Nat.eq_of_beq_eq_true a2, Nat.eq_of_beq_eq_true a3, a4, a5, a6, ?_⟩
  exact xIc_of hu ht b7 b8
/-- pairs of tables of one shape -/
def xall2 {α β : Type} (P : α → β → Prop) : Lean.RArray α → Lean.RArray β → Prop :=
  Lean.RArray.rec (fun x u => Lean.RArray.casesOn u (fun y => P x y) (fun _ _ _ => False)) (fun p _ _ l r u => Lean.RArray.casesOn u (fun _ => False) (fun p' l' r' => p = p' ∧ l l' ∧ r r'))
theorem xall2_get {α β : Type} {P : α → β → Prop} : ∀ {t : Lean.RArray α} {u : Lean.RArray β}, xall2 P t u → ∀ n, P (xget t n) (xget u n) := by
  intro t
  induction t with
  | leaf x =>
    intro u h n
    cases u with
    | leaf y => exact h
    | branch p l r => exact h.elim
  | branch p l r ihl ihr =>
    intro u h n
    cases u with
    | leaf y => exact h.elim
    | branch p' l' r' =>
      obtain ⟨e, h1, h2⟩ := (show p = p' ∧ xall2 P l l' ∧ xall2 P r r' from h)
      rw [xget_branch, xget_branch, ← e]
      cases Nat.ble p n
      · exact ihl h1 n
      · exact ihr h2 n
