/-! ===== the class: what is told of the dispatch's columns, of an order's steps ===== -/
section BInvs2
variable {G : zW} {a b hp : xH} {Wl : zWr}
/-- a column's variable is a part (up to the first turn) -/
def bCv (G : zW) (hp : xH) : Prop := ∀ q k, bRo G 104 q → bRo G 96 k → ∀ c : Nat, c < 13 → 1 ≤ (c : Int) → (c : Int) < ys hp k 11 → ys hp q c ≤ 11
theorem bCv.fr (h : bCv G a) (hA : bAx G Wl a b) (hw : (bNo Wl 104 && !(zwr Wl 96 11)) = true) : bCv G b := fun q k h1 h2 c hc => by
  obtain ⟨w1, w2⟩ := and_true' hw
  rw [Bool.not_eq_true'] at w2
  rw [hA.ys h1 (bNo_ok w1 c), hA.ys h2 w2]
  exact h q k h1 h2 c hc
/-- the steps of an order: an act and an object of its sort -/
def bSt (G : zW) (hp : xH) : Prop := ∀ q, bRo G 110 q → ∀ m, m < 24 → 0 ≤ ys hp q m ∧ ys hp q m ≤ 523 ∧ ys hp q m % 100 ≤ 23 ∧ (200 ≤ ys hp q m → ys hp q m < 400 → ys hp q m % 100 ≤ 15)
theorem bSt.fr (h : bSt G a) (hA : bAx G Wl a b) (hw : bNo Wl 110 = true) : bSt G b := fun q h1 m hm => by
  rw [hA.ys h1 (bNo_ok hw m)]
  exact h q h1 m hm
/-- the keepers among the first i parts are of machines of their own: r of them -/
def bPg (hp : xH) (n2 n3 n4 n5 : Nat) (i r : Int) : Prop := ∃ b : Nat → Int, (∀ m, 0 ≤ b m ∧ b m ≤ 1) ∧ r = b 0 + b 1 + b 2 + b 3 + b 4 + b 5 ∧ ∀ m : Nat, m < 6 → b m = 1 → ∃ j : Nat, (j : Int) < i ∧ ys hp n4 j = m ∧ ys hp n5 (ys hp n2 (ys hp n3 m).toNat).toNat = j
theorem bPg.le {n2 n3 n4 n5 : Nat} {i r : Int} (h : bPg hp n2 n3 n4 n5 i r) : 0 ≤ r ∧ r ≤ 6 := by
  obtain ⟨b, h1, h2, -⟩ := h
  have := h1 0; have := h1 1; have := h1 2; have := h1 3; have := h1 4; have := h1 5
  omega
theorem bPg.zero {n2 n3 n4 n5 : Nat} : bPg hp n2 n3 n4 n5 0 0 := ⟨fun _ => 0, fun _ => ⟨Int.le_refl 0, (by decide : (0 : Int) ≤ 1)⟩, by decide, fun m _ e => by cases e⟩
theorem bPg.skip {n2 n3 n4 n5 : Nat} {i r : Int} (h : bPg hp n2 n3 n4 n5 i r) : bPg hp n2 n3 n4 n5 (i + 1) r := by
  obtain ⟨b, h1, h2, h3⟩ := h
  refine ⟨b, h1, h2, fun m hm e => ?_⟩
  obtain ⟨j, j1, j2⟩ := h3 m hm e
  exact ⟨j, by omega, j2⟩
theorem bPg.take {n2 n3 n4 n5 : Nat} {i r m : Int} (h : bPg hp n2 n3 n4 n5 i r) (hi : 0 ≤ i) (m0 : 0 ≤ m) (m1 : m ≤ 5) (hm : ys hp n4 i.toNat = m) (hk : ys hp n5 (ys hp n2 (ys hp n3 m.toNat).toNat).toNat = i) : bPg hp n2 n3 n4 n5 (i + 1) (r + 1) := by
  obtain ⟨b, h1, h2, h3⟩ := h
  obtain ⟨x, rfl⟩ : ∃ x : Nat, m = (x : Int) := ⟨m.toNat, by omega⟩
  have hx : x < 6 := by omega
  have hk : ys hp n5 (ys hp n2 (ys hp n3 x).toNat).toNat = i := hk
  have e0 : b x = 0 := by
    have := h1 x
    by_cases e : b x = 1
    · obtain ⟨j, j1, j2, j3⟩ := h3 x hx e
      rw [hk] at j3
      omega
    · omega
  refine ⟨fun y => if y = x then 1 else b y, fun y => ?_, ?_, fun y hy e => ?_⟩
  · show 0 ≤ (if y = x then (1 : Int) else b y) ∧ (if y = x then (1 : Int) else b y) ≤ 1
    have := h1 y
    split <;> omega
  · show r + 1 = (if 0 = x then (1 : Int) else b 0) + (if 1 = x then (1 : Int) else b 1) + (if 2 = x then (1 : Int) else b 2) + (if 3 = x then (1 : Int) else b 3) + (if 4 = x then (1 : Int) else b 4) + (if 5 = x then (1 : Int) else b 5)
    have : x = 0 ∨ x = 1 ∨ x = 2 ∨ x = 3 ∨ x = 4 ∨ x = 5 := by omega
    rcases this with rfl | rfl | rfl | rfl | rfl | rfl <;> simp <;> omega
  · by_cases e9 : y = x
    · subst e9
      exact ⟨i.toNat, by omega, hm, by rw [hk]; omega⟩
    · have e : (if y = x then (1 : Int) else b y) = 1 := e
      rw [if_neg e9] at e
      obtain ⟨j, j1, j2⟩ := h3 y hy e
      exact ⟨j, by omega, j2⟩
/-- the code of rules: what a sign asks is of its sort -/
def bOb9 (act x : Int) : Prop := x ≠ -1 ∧ -4 ≤ x ∧ x ≤ 15 ∧ (x = -2 → 2 ≤ act ∧ act ≤ 3) ∧ (x < -2 → act < 2 ∨ 3 < act)
def bOs9 (act x : Int) : Prop := x ≠ -1 ∧ -2 ≤ x ∧ x ≤ 23 ∧ (x = -2 → act < 2 ∨ 3 < act)
def bGd (act a x y : Int) : Prop := (a ≤ 1 → bOs9 act x) ∧ (2 ≤ a → a ≤ 4 → bOb9 act x) ∧ (a = 4 → bOb9 act y)
def bSf (c : Nat → Int) (act to : Int) : Nat → Nat → Prop
  | 0, _ => True
  | f + 1, i => (i : Int) < to → i < 2048 → (c i < 16 → 0 ≤ c i ∧ (i + 2 < 2048 → bGd act (c i % 8) (c (i + 1)) (c (i + 2))) ∧ bSf c act to f (i + 3)) ∧ (16 ≤ c i → bSf c act to f (i + 1))
def bStt (c : Nat → Int) : Nat → Nat
  | 0 => 0
  | r + 1 => (max 0 (min (c (bStt c r + 1)) 2046)).toNat
def bCd (G : zW) (hp : xH) : Prop := ∀ k q, bRo G 107 k → bRo G 108 q → zsl hp k 1 = yR q → ∀ r : Nat, (r : Int) < ys hp k 6 → bSf (ys hp q) (ys hp q (bStt (ys hp q) r)) (ys hp q (bStt (ys hp q) r + 1)) 2048 (bStt (ys hp q) r + 2)
theorem bCd.fr (h : bCd G a) (hA : bAx G Wl a b) (hw : (bNo Wl 108 && (!(zwr Wl 107 1) && !(zwr Wl 107 6))) = true) : bCd G b := fun k q h1 h2 hz r hr => by
  obtain ⟨w1, w2⟩ := and_true' hw
  obtain ⟨w2, w3⟩ := and_true' w2
  rw [Bool.not_eq_true'] at w2 w3
  have e : ys b q = ys a q := funext fun j => hA.ys h2 (bNo_ok w1 j)
  rw [hA.sl h1 w2] at hz
  rw [hA.ys h1 w3] at hr
  rw [e]
  exact h k q h1 h2 hz r hr
theorem bGd.to {act a x y : Int} {d : Int} (h : bGd act a x y) (hd : (2 ≤ act ∧ act ≤ 3) ↔ (2 ≤ d ∧ d ≤ 3)) : bGd d a x y := by
  unfold bGd bOs9 bOb9 at *
  omega
theorem bSf.to {c : Nat → Int} {act t d : Int} (hd : (2 ≤ act ∧ act ≤ 3) ↔ (2 ≤ d ∧ d ≤ 3)) : ∀ (f i : Nat), bSf c act t f i → bSf c d t f i := by
  intro f
  induction f with
  | zero => intro i _; trivial
  | succ f ih =>
    intro i h h1 h2
    have h3 := h h1 h2
    refine ⟨fun h4 => ?_, fun h4 => ih _ (h3.2 h4)⟩
    obtain ⟨h5, h6, h7⟩ := h3.1 h4
    exact ⟨h5, fun h8 => (h6 h8).to hd, ih _ h7⟩
end BInvs2
