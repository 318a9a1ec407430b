/-! ===== specs of methods, and calls ===== -/
/-- how a call may end: new variables, the result, facts, new references -/
abbrev zAl : Type := Nat × (Option zV × (List zE × List (Nat × (Nat × zE))))
/-- a spec: the method, how many variables, arguments, facts, references, writes, ends, exceptions -/
abbrev zSp : Type := Nat × (Nat × (List zV × (List zE × (List (Nat × (Nat × zE)) × (zWr × (List zAl × Nat))))))
def zFs (n : Nat) (ν : Nat → Int) (l : List zE) : Prop := ∀ f ∈ l, zlt n f ∧ 0 ≤ zv ν f
def zIs (G : zW) (n : Nat) (ν : Nat → Int) (l : List (Nat × (Nat × zE))) : Prop := ∀ q ∈ l, q.1 < n ∧ zlt n q.2.2 ∧ ∃ k : Nat, ν q.1 = (k : Int) ∧ k < G.2.2.1 ∧ Nat.testBit q.2.1 (zro G k) = true ∧ ((zat G k : Nat) : Int) = zv ν q.2.2
def zrv (n : Nat) (ν : Nat → Int) (a : Option zV) (u : Option xA) : Prop := match a, u with
  | none, none => True
  | some a, some u => zR n ν a u
  | _, _ => False
def zbump (q : Nat × (Bool × (Nat × Nat))) : Nat × (Bool × (Nat × Nat)) := (q.1, (false, (Nat.add q.2.2.1 1, Nat.add q.2.2.2 6)))
def zEnd (G : zW) (sp : zSp) (ν : Nat → Int) (hp : xH) (r : xO) : Prop :=
  zTJ G r.2.2.1 ∧ zFr G sp.2.2.2.2.2.1 hp r.2.2.1 ∧
  ((r.1 = 0 ∧ r.2.2.1.2 = hp.2 ∧ ∃ al ∈ sp.2.2.2.2.2.2.1, ∃ μ : Nat → Int, (∀ x, x < sp.2.1 → ν x = μ x) ∧ zFs (sp.2.1 + al.1) μ al.2.2.1 ∧ zIs G (sp.2.1 + al.1) μ al.2.2.2 ∧ zrv (sp.2.1 + al.1) μ al.2.1 r.2.1) ∨
   (r.1 = 1 ∧ r.2.2.2 < 3 ∧ Nat.testBit sp.2.2.2.2.2.2.2 r.2.2.2 = true ∧ r.2.2.1.2 = zbump hp.2))
def zSpOk (G : zW) (call : xF) (sp : zSp) : Prop := ∀ (ν : Nat → Int) (as : List xA) (hp : xH), zTJ G hp → zFs sp.2.1 ν sp.2.2.2.1 → zIs G sp.2.1 ν sp.2.2.2.2.1 → zSt sp.2.1 ν sp.2.2.1 as → ∃ r, call sp.1 as hp = some r ∧ zEnd G sp ν hp r
/-! what a call checks -/
def zltB (n : Nat) (e : zE) : Bool := e.1.all fun q => Nat.blt q.1 n
theorem zltB_ok {n : Nat} {e : zE} (h : zltB n e = true) : zlt n e := fun q hq => Nat.le_of_ble_eq_true (List.all_eq_true.mp h q hq)
def zeqE (a b : zE) : Bool := decide (a = b)
def zmatV (θ : List zE) (t v : zV) : Bool := match t, v with
  | .inl e, .inl e' => decide (zsub θ e = e')
  | .inr (.inl e), .inr (.inl e') => decide (zsub θ e = e')
  | .inr (.inr x), .inr (.inr y) => decide (θ.getD x (zK 0) = zX y)
  | _, _ => false
def zmatA (θ : List zE) : List zV → List zV → Bool
  | [], [] => true
  | t :: ts, v :: vs => zmatV θ t v && zmatA θ ts vs
  | _, _ => false
noncomputable def zmatI (X : zQ) (θ : List zE) (q : Nat × (Nat × zE)) : Bool := match θ.getD q.1 (zK 0) with
  | ([(y, 1)], 0) => match zinf X y with
    | some p => Nat.beq (Nat.land p.2.1 q.2.1) p.2.1 && decide (p.2.2 = zsub θ q.2.2)
    | none => false
  | _ => false
def zmatF (Γ : List zE) (θ : List zE) : List zE → List zC → Bool
  | [], _ => true
  | f :: fs, c :: cs => zent Γ (zsub θ f) c && zmatF Γ θ fs cs
  | _ :: _, [] => false
section ZSpecs
variable {G : zW} {W : zWr} {B : zB} {hp0 : xH} {ν0 : Nat → Int} {g : List zE} {X : zQ} {ν : Nat → Int} {hp : xH}
theorem zmatV_ok {n n' : Nat} {θ : List zE} {t v : zV} {u : xA} (h : zmatV θ t v = true) (ht : ∀ e, (t = .inl e ∨ t = .inr (.inl e)) → zlt n' e) (hx : ∀ x, t = .inr (.inr x) → x < n') (hu : zR n ν v u) : zR n' (zval ν θ) t u := by
  match t, v, h, hu with
  | .inl e, .inl e', h, hu =>
    have h := of_decide_eq_true (show decide (zsub θ e = e') = true from h)
    obtain ⟨a1, a2, a3⟩ := hu
    rw [← h, zsub_ok] at a2 a3
    exact ⟨ht e (Or.inl rfl), a2, a3⟩
  | .inr (.inl e), .inr (.inl e'), h, hu =>
    have h := of_decide_eq_true (show decide (zsub θ e = e') = true from h)
    obtain ⟨a1, a2, a3⟩ := hu
    rw [← h, zsub_ok] at a2 a3
    exact ⟨ht e (Or.inr rfl), a2, a3⟩
  | .inr (.inr x), .inr (.inr y), h, hu =>
    have h := of_decide_eq_true (show decide (θ.getD x (zK 0) = zX y) = true from h)
    obtain ⟨a1, k, a2, a3⟩ := hu
    refine ⟨hx x rfl, k, ?_, a3⟩
    show zv ν (θ.getD x (zK 0)) = _
    rw [h, zX_ok]
    exact a2
/-- a spec's own variables are told -/
def zwsV (n : Nat) (v : zV) : Bool := match v with
  | .inl e => zltB n e
  | .inr (.inl e) => zltB n e
  | .inr (.inr x) => Nat.blt x n
theorem zmatA_ok {n n' : Nat} {θ : List zE} : ∀ {ts vs : List zV} {us : List xA}, zmatA θ ts vs = true → (ts.all fun t => zwsV n' t) = true → zSt n ν vs us → zSt n' (zval ν θ) ts us := by
  intro ts
  induction ts with
  | nil =>
    intro vs us h _ hs
    cases vs with
    | nil => rw [hs.nil]; trivial
    | cons => cases h
  | cons t ts ih =>
    intro vs us h hw hs
    cases vs with
    | nil => cases h
    | cons v vs =>
      obtain ⟨h1, h2⟩ := and_true' (show (zmatV θ t v && zmatA θ ts vs) = true from h)
      rw [List.all_cons] at hw
      obtain ⟨w1, w2⟩ := and_true' hw
      obtain ⟨u, us', rfl, h3, h4⟩ := hs.cons
      refine ⟨zmatV_ok h1 (fun e he => ?_) (fun x he => ?_) h3, ih h2 w2 h4⟩
      · rcases he with rfl | rfl
        · exact zltB_ok w1
        · exact zltB_ok w1
      · rw [he] at w1
        exact Nat.le_of_ble_eq_true w1
theorem zmatI_ok (hr : zRel G W hp0 ν0 g ν X hp) {θ : List zE} {q : Nat × (Nat × zE)} (h : zmatI X θ q = true) : ∃ k : Nat, zval ν θ q.1 = (k : Int) ∧ k < G.2.2.1 ∧ Nat.testBit q.2.1 (zro G k) = true ∧ ((zat G k : Nat) : Int) = zv (zval ν θ) q.2.2 := by
  unfold zmatI at h
  split at h
  · next y hy =>
    split at h
    · next p hp9 =>
      obtain ⟨h1, h2⟩ := and_true' h
      have h2 := of_decide_eq_true h2
      obtain ⟨i1, i2, k, i3, i4, i5, i6⟩ := hr.info hp9
      refine ⟨k, ?_, i4, zland h1 i5, ?_⟩
      · show zv ν (θ.getD q.1 (zK 0)) = _
        rw [hy]
        have : zv ν (([(y, 1)], 0) : zE) = ν y := zX_ok ν y
        rw [this]
        exact i3
      · rw [i6, h2, zsub_ok]
    · cases h
  · cases h
theorem zmatF_ok {Γ : List zE} {θ : List zE} (hF : ∀ f ∈ Γ, 0 ≤ zv ν f) : ∀ {fs : List zE} {cs : List zC}, zmatF Γ θ fs cs = true → ∀ f ∈ fs, 0 ≤ zv (zval ν θ) f := by
  intro fs
  induction fs with
  | nil => intro cs _ f hf; cases hf
  | cons a fs ih =>
    intro cs h f hf
    cases cs with
    | nil => cases h
    | cons c cs =>
      obtain ⟨h1, h2⟩ := and_true' (show (zent Γ (zsub θ a) c && zmatF Γ θ fs cs) = true from h)
      rcases List.mem_cons.mp hf with rfl | hf
      · have := zent_ok hF h1
        rw [zsub_ok] at this
        exact this
      · exact ih h2 f hf
/-- a spec is well told: its variables are its own -/
def zspB (sp : zSp) : Bool := (sp.2.2.1.all fun t => zwsV sp.2.1 t) && (sp.2.2.2.1.all (fun f => zltB sp.2.1 f) && (sp.2.2.2.2.1.all (fun q => Nat.blt q.1 sp.2.1 && zltB sp.2.1 q.2.2) && sp.2.2.2.2.2.2.1.all (fun al => al.2.2.2.all fun q => Nat.ble sp.2.1 q.1)))
/-- all that a spec asks holds here -/
noncomputable def zaskB (X : zQ) (sp : zSp) (θ : List zE) (args : List zV) (cs : List zC) : Bool := zspB sp && (Nat.beq θ.length sp.2.1 && (θ.all (fun e => zltB X.1 e) && (zmatA θ sp.2.2.1 args && (sp.2.2.2.2.1.all (fun q => zmatI X θ q) && zmatF X.2.1 θ sp.2.2.2.1 cs))))
theorem zask_ok (hr : zRel G W hp0 ν0 g ν X hp) {sp : zSp} {θ : List zE} {args : List zV} {us : List xA} {cs : List zC} (h : zaskB X sp θ args cs = true) (hs : zSt X.1 ν args us) : zFs sp.2.1 (zval ν θ) sp.2.2.2.1 ∧ zIs G sp.2.1 (zval ν θ) sp.2.2.2.2.1 ∧ zSt sp.2.1 (zval ν θ) sp.2.2.1 us ∧ θ.length = sp.2.1 ∧ (∀ e ∈ θ, zlt X.1 e) ∧ ∀ al ∈ sp.2.2.2.2.2.2.1, ∀ q ∈ al.2.2.2, sp.2.1 ≤ q.1 := by
  obtain ⟨h0, h⟩ := and_true' h
  obtain ⟨h1, h⟩ := and_true' h
  obtain ⟨h2, h⟩ := and_true' h
  obtain ⟨h3, h⟩ := and_true' h
  obtain ⟨h4, h5⟩ := and_true' h
  obtain ⟨g1, g2⟩ := and_true' h0
  obtain ⟨g2, g3⟩ := and_true' g2
  obtain ⟨g3, g4⟩ := and_true' g3
  refine ⟨fun f hf => ⟨zltB_ok (List.all_eq_true.mp g2 f hf), zmatF_ok (fun f hf => (hr.1 f hf).2) h5 f hf⟩, fun q hq => ?_, zmatA_ok h3 g1 hs, Nat.eq_of_beq_eq_true h1, fun e he => zltB_ok (List.all_eq_true.mp h2 e he), fun al hal q hq => Nat.le_of_ble_eq_true (List.all_eq_true.mp (List.all_eq_true.mp g4 al hal) q hq)⟩
  obtain ⟨a1, a2⟩ := and_true' (List.all_eq_true.mp g3 q hq)
  exact ⟨Nat.le_of_ble_eq_true a1, zltB_ok a2, zmatI_ok hr (List.all_eq_true.mp h4 q hq)⟩
end ZSpecs
