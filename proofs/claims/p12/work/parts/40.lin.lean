/-! ===== linear numbers: sums of variables times whole numbers, and a whole number ===== -/
abbrev zL : Type := List (Nat × Int)
abbrev zE : Type := zL × Int
def zvl (ν : Nat → Int) : zL → Int
  | [] => 0
  | q :: t => q.2 * ν q.1 + zvl ν t
def zv (ν : Nat → Int) (e : zE) : Int := zvl ν e.1 + e.2
def zins (x : Nat) (c : Int) : zL → zL
  | [] => [(x, c)]
  | q :: t => cond (Nat.blt x q.1) ((x, c) :: q :: t) (cond (Nat.beq x q.1) (cond (decide (c + q.2 = 0)) t ((x, c + q.2) :: t)) (q :: zins x c t))
theorem zins_ok (ν : Nat → Int) (x : Nat) (c : Int) : ∀ l : zL, zvl ν (zins x c l) = c * ν x + zvl ν l := by
  intro l
  induction l with
  | nil => rfl
  | cons q t ih =>
    unfold zins
    cases h1 : Nat.blt x q.1 with
    | true => rfl
    | false =>
      rw [cond_false]
      cases h2 : Nat.beq x q.1 with
      | true =>
        rw [cond_true]
        have e := Nat.eq_of_beq_eq_true h2
        cases h3 : decide (c + q.2 = 0) with
        | true =>
          rw [cond_true]
          have e3 := of_decide_eq_true h3
          show zvl ν t = c * ν x + (q.2 * ν q.1 + zvl ν t)
          rw [← e, ← Int.add_assoc, ← Int.add_mul, e3, Int.zero_mul, Int.zero_add]
        | false =>
          rw [cond_false]
          show (c + q.2) * ν x + zvl ν t = c * ν x + (q.2 * ν q.1 + zvl ν t)
          rw [← e, Int.add_mul, Int.add_assoc]
      | false =>
        rw [cond_false]
        show q.2 * ν q.1 + zvl ν (zins x c t) = c * ν x + (q.2 * ν q.1 + zvl ν t)
        rw [ih]
        omega
/-- a times the first, and the second -/
def zaddl (k : Int) : zL → zL → zL
  | [], m => m
  | q :: t, m => zins q.1 (k * q.2) (zaddl k t m)
theorem zaddl_ok (ν : Nat → Int) (k : Int) (m : zL) : ∀ l : zL, zvl ν (zaddl k l m) = k * zvl ν l + zvl ν m := by
  intro l
  induction l with
  | nil => show zvl ν m = k * 0 + zvl ν m; rw [Int.mul_zero, Int.zero_add]
  | cons q t ih =>
    show zvl ν (zins q.1 (k * q.2) (zaddl k t m)) = k * (q.2 * ν q.1 + zvl ν t) + zvl ν m
    rw [zins_ok, ih, Int.mul_add, Int.mul_assoc, Int.add_assoc]
/-- k a and b (k not 0) -/
def zmad (k : Int) (a b : zE) : zE := (zaddl k a.1 b.1, k * a.2 + b.2)
theorem zmad_ok (ν : Nat → Int) (k : Int) (a b : zE) : zv ν (zmad k a b) = k * zv ν a + zv ν b := by
  show zvl ν (zaddl k a.1 b.1) + (k * a.2 + b.2) = k * (zvl ν a.1 + a.2) + (zvl ν b.1 + b.2)
  rw [zaddl_ok, Int.mul_add]
  omega
abbrev zK (k : Int) : zE := ([], k)
abbrev zX (x : Nat) : zE := ([(x, 1)], 0)
theorem zK_ok (ν : Nat → Int) (k : Int) : zv ν (zK k) = k := Int.zero_add k
theorem zX_ok (ν : Nat → Int) (x : Nat) : zv ν (zX x) = ν x := by
  show 1 * ν x + 0 + 0 = ν x
  omega
def zscale (k : Int) (a : zE) : zE := cond (decide (k = 0)) (zK 0) (zmad k a (zK 0))
theorem zscale_ok (ν : Nat → Int) (k : Int) (a : zE) : zv ν (zscale k a) = k * zv ν a := by
  unfold zscale
  cases h : decide (k = 0) with
  | true => rw [cond_true, zK_ok, of_decide_eq_true h, Int.zero_mul]
  | false => rw [cond_false, zmad_ok, zK_ok, Int.add_zero]
/-- only variables below n -/
def zlt (n : Nat) (e : zE) : Prop := ∀ q ∈ e.1, q.1 < n
theorem zlt.mono {n n' : Nat} {e : zE} (h : zlt n e) (hn : n ≤ n') : zlt n' e := fun q hq => Nat.lt_of_lt_of_le (h q hq) hn
theorem zlt_K (n : Nat) (k : Int) : zlt n (zK k) := fun q hq => by cases hq
theorem zlt_X {n x : Nat} (h : x < n) : zlt n (zX x) := fun q hq => by
  rcases List.mem_cons.mp hq with e | e
  · rw [e]; exact h
  · cases e
theorem zins_lt {n x : Nat} {c : Int} (hx : x < n) : ∀ {l : zL}, (∀ q ∈ l, q.1 < n) → ∀ q ∈ zins x c l, q.1 < n := by
  intro l
  induction l with
  | nil =>
    intro _ q hq
    rcases List.mem_cons.mp hq with e | e
    · rw [e]; exact hx
    · cases e
  | cons a t ih =>
    intro h q hq
    unfold zins at hq
    have ht : ∀ q ∈ t, q.1 < n := fun q hq => h q (List.mem_cons_of_mem _ hq)
    cases h1 : Nat.blt x a.1 with
    | true =>
      rw [h1, cond_true] at hq
      rcases List.mem_cons.mp hq with e | e
      · rw [e]; exact hx
      · exact h q e
    | false =>
      rw [h1, cond_false] at hq
      cases h2 : Nat.beq x a.1 with
      | true =>
        rw [h2, cond_true] at hq
        cases h3 : decide (c + a.2 = 0) with
        | true => rw [h3, cond_true] at hq; exact ht q hq
        | false =>
          rw [h3, cond_false] at hq
          rcases List.mem_cons.mp hq with e | e
          · rw [e]; exact hx
          · exact ht q e
      | false =>
        rw [h2, cond_false] at hq
        rcases List.mem_cons.mp hq with e | e
        · rw [e]; exact h a List.mem_cons_self
        · exact ih ht q e
theorem zaddl_lt {n : Nat} {k : Int} {m : zL} (hm : ∀ q ∈ m, q.1 < n) : ∀ {l : zL}, (∀ q ∈ l, q.1 < n) → ∀ q ∈ zaddl k l m, q.1 < n := by
  intro l
  induction l with
  | nil => intro _ q hq; exact hm q hq
  | cons a t ih => intro h; exact zins_lt (h a List.mem_cons_self) (ih fun q hq => h q (List.mem_cons_of_mem _ hq))
theorem zmad_lt {n : Nat} {k : Int} {a b : zE} (ha : zlt n a) (hb : zlt n b) : zlt n (zmad k a b) := zaddl_lt hb ha
theorem zscale_lt {n : Nat} {k : Int} {a : zE} (ha : zlt n a) : zlt n (zscale k a) := by
  unfold zscale
  cases decide (k = 0)
  · exact zmad_lt ha (zlt_K n 0)
  · exact zlt_K n 0
theorem zvl_same {ν μ : Nat → Int} {n : Nat} (h : ∀ x, x < n → ν x = μ x) : ∀ {l : zL}, (∀ q ∈ l, q.1 < n) → zvl ν l = zvl μ l := by
  intro l
  induction l with
  | nil => intro _; rfl
  | cons a t ih =>
    intro hl
    show a.2 * ν a.1 + zvl ν t = a.2 * μ a.1 + zvl μ t
    rw [h a.1 (hl a List.mem_cons_self), ih fun q hq => hl q (List.mem_cons_of_mem _ hq)]
theorem zv_same {ν μ : Nat → Int} {n : Nat} (h : ∀ x, x < n → ν x = μ x) {e : zE} (he : zlt n e) : zv ν e = zv μ e := by
  unfold zv
  rw [zvl_same h he]
/-! facts, and what follows of them: k times the goal is a sum of facts and more than -k -/
abbrev zC : Type := Nat × List (Nat × Nat)
def zsum (Γ : List zE) : List (Nat × Nat) → zE
  | [] => zK 0
  | q :: t => match Γ[q.1]? with
    | some f => zmad (Int.ofNat q.2) f (zsum Γ t)
    | none => zsum Γ t
def zent (Γ : List zE) (g : zE) (c : zC) : Bool :=
  match zmad (-1) (zsum Γ c.2) (zscale (Int.ofNat c.1) g) with
  | ([], k) => Nat.blt 0 c.1 && decide (-(Int.ofNat c.1) < k)
  | _ => false
theorem zsum_ok {ν : Nat → Int} {Γ : List zE} (h : ∀ f ∈ Γ, 0 ≤ zv ν f) : ∀ c : List (Nat × Nat), 0 ≤ zv ν (zsum Γ c) := by
  intro c
  induction c with
  | nil => rw [show zsum Γ [] = zK 0 from rfl, zK_ok]; exact Int.le_refl 0
  | cons q t ih =>
    unfold zsum
    split
    · next f hf =>
      rw [zmad_ok]
      exact Int.add_nonneg (Int.mul_nonneg (Int.natCast_nonneg _) (h f (List.mem_of_getElem? hf))) ih
    · exact ih
theorem zent_ok {ν : Nat → Int} {Γ : List zE} (h : ∀ f ∈ Γ, 0 ≤ zv ν f) {g : zE} {c : zC} (hc : zent Γ g c = true) : 0 ≤ zv ν g := by
  unfold zent at hc
  split at hc
  · next k hk =>
    obtain ⟨h1, h2⟩ := and_true' hc
    have h1 : 0 < c.1 := Nat.le_of_ble_eq_true h1
    have h2 := of_decide_eq_true h2
    have h3 := zsum_ok h c.2
    have h4 := zmad_ok ν (-1) (zsum Γ c.2) (zscale (Int.ofNat c.1) g)
    rw [hk, zscale_ok] at h4
    have h5 : zv ν (([], k) : zE) = k := zK_ok ν k
    rw [h5] at h4
    have h6 : (Int.ofNat c.1) = (c.1 : Int) := rfl
    rw [h6] at h2 h4
    by_cases hg : 0 ≤ zv ν g
    · exact hg
    · have h7 : zv ν g ≤ -1 := by omega
      have h8 : (c.1 : Int) * zv ν g ≤ (c.1 : Int) * (-1) := Int.mul_le_mul_of_nonneg_left h7 (by omega)
      omega
  · cases hc
/-- variables become numbers -/
def zsubl (θ : List zE) : zL → zE
  | [] => zK 0
  | q :: t => zmad q.2 (θ.getD q.1 (zK 0)) (zsubl θ t)
def zsub (θ : List zE) (e : zE) : zE := zmad 1 (zsubl θ e.1) (zK e.2)
def zval (ν : Nat → Int) (θ : List zE) : Nat → Int := fun x => zv ν (θ.getD x (zK 0))
theorem zsubl_ok (ν : Nat → Int) (θ : List zE) : ∀ l : zL, zv ν (zsubl θ l) = zvl (zval ν θ) l := by
  intro l
  induction l with
  | nil => exact zK_ok ν 0
  | cons q t ih =>
    show zv ν (zmad q.2 (θ.getD q.1 (zK 0)) (zsubl θ t)) = q.2 * zval ν θ q.1 + zvl (zval ν θ) t
    rw [zmad_ok, ih]
    rfl
theorem zsub_ok (ν : Nat → Int) (θ : List zE) (e : zE) : zv ν (zsub θ e) = zv (zval ν θ) e := by
  unfold zsub
  rw [zmad_ok, zsubl_ok, zK_ok, Int.one_mul]
  rfl
theorem zsubl_lt {n : Nat} {θ : List zE} (h : ∀ t ∈ θ, zlt n t) : ∀ l : zL, zlt n (zsubl θ l) := by
  intro l
  induction l with
  | nil => exact zlt_K n 0
  | cons q t ih =>
    refine zmad_lt ?_ ih
    rw [List.getD_eq_getElem?_getD]
    cases hx : θ[q.1]? with
    | none => exact zlt_K n 0
    | some e => exact h e (List.mem_of_getElem? hx)
theorem zsub_lt {n : Nat} {θ : List zE} (h : ∀ t ∈ θ, zlt n t) (e : zE) : zlt n (zsub θ e) := zmad_lt (zsubl_lt h _) (zlt_K n _)
