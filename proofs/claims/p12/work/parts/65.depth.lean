/-! ===== specs by depth: calls go to specs that lie deeper ===== -/
section ZDepth
variable {G : zW} {B : zB} {o : Nat} {ft : Nat → List Nat} {pools : Lean.RArray (Lean.RArray (Nat × xP))} {ms : Lean.RArray xM} {S : Lean.RArray zSp} {dep : Nat → Nat} {n : Nat}
/-- which specs a method may call -/
def zokD (n : Nat) (dep : Nat → Nat) (j i : Nat) : Bool := Nat.blt i n && Nat.blt (dep i) (dep j)
/-- what is to be checked of a spec -/
def zSpChk (G : zW) (o : Nat) (ft : Nat → List Nat) (pools : Lean.RArray (Lean.RArray (Nat × xP))) (ms : Lean.RArray xM) (S : Lean.RArray zSp) (dep : Nat → Nat) (n j : Nat) : Prop :=
  ∀ call : xF, (∀ i, zokD n dep j i = true → zSpOk G call (xget S i)) → ∀ (ν : Nat → Int) (us : List xA) (hp : xH), zTJ G hp → zFs (xget S j).2.1 ν (xget S j).2.2.2.1 → zIs G (xget S j).2.1 ν (xget S j).2.2.2.2.1 → zSt (xget S j).2.1 ν (xget S j).2.2.1 us →
    Nat.ble (xcats us) (xget ms (xget S j).1).2.1 = true ∧ ∃ r, xend (xget ms (xget S j).1).2.2.1 (xrun o ft call (xpool (xget pools (xget ms (xget S j).1).2.2.2.1)) (xget ms (xget S j).1).2.2.2.2 (xget ms (xget S j).1).1 xfuel 0 (xargs us 0) [] hp) = some r ∧ zEnd G (xget S j) ν hp r
theorem zspec_ind (h : ∀ j, j < n → zSpChk G o ft pools ms S dep n j) : ∀ d j, j < n → dep j < d → zSpOk G (xcall o ft pools ms d) (xget S j) := by
  intro d
  induction d with
  | zero => intro j _ hd; exact absurd hd (Nat.not_lt_zero _)
  | succ d ih =>
    intro j hj hd ν us hp h1 h2 h3 h4
    obtain ⟨g1, r, g2, g3⟩ := h j hj (xcall o ft pools ms d) (fun i hi => by
      obtain ⟨a, b⟩ := and_true' hi
      exact ih i (Nat.le_of_ble_eq_true a) (by have := Nat.le_of_ble_eq_true b; omega)) ν us hp h1 h2 h3 h4
    refine ⟨r, ?_, g3⟩
    show cond (Nat.ble (xcats us) (xget ms (xget S j).1).2.1) (xend (xget ms (xget S j).1).2.2.1 (xrun o ft (xcall o ft pools ms d) (xpool (xget pools (xget ms (xget S j).1).2.2.2.1)) (xget ms (xget S j).1).2.2.2.2 (xget ms (xget S j).1).1 xfuel 0 (xargs us 0) [] hp)) none = some r
    rw [g1, cond_true]
    exact g2
/-- a spec by the checker's finds -/
theorem zspec_of {j : Nat} (HB : zBok G o B) {T0 : zTm} {Ts : List zTm} {b L : Nat} {c1 c2 : zC}
    (h0 : ((xget ms (xget S j).1).2.2.2.2.isEmpty && Nat.ble (zcats (xget S j).2.2.1) (xget ms (xget S j).1).2.1) = true)
    (h : zmB G B (xpool (xget pools (xget ms (xget S j).1).2.2.2.1)) S (zokD n dep j) (xget ms (xget S j).1).2.2.1 (xget ms (xget S j).1).1 (xget S j) T0 Ts b L c1 c2 = true)
    (hbody : ∀ T ∈ T0 :: Ts, ∃ os, zbodyB G B (xpool (xget pools (xget ms (xget S j).1).2.2.2.1)) S (zokD n dep j) (xget ms (xget S j).1).2.2.1 (xget ms (xget S j).1).1 (xget S j) (T0 :: Ts) L T os = true) : zSpChk G o ft pools ms S dep n j := by
  intro call hS ν us hp h1 h2 h3 h4
  obtain ⟨e1, e2⟩ := and_true' h0
  have e1 := List.isEmpty_iff.mp e1
  refine ⟨by rw [h4.cats]; exact e2, ?_⟩
  exact zmeth_sound (call := call) hS HB (fun pc E => by rw [e1]; rfl) h hbody h1 h2 h3 h4
end ZDepth
