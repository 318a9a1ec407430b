/-! ===== the reference: all bars that things are at are there ===== -/
section MWf
variable {G : zW} {a b : xH} {Wl : zWr}
/-- a place of a row of fields that holds a bar's number -/
def mBp (j : Nat) : Prop := (j / 264 = 1 ∧ (j % 11 = 3 ∨ j % 11 = 4)) ∨ (j / 264 = 2 ∧ (j % 11 = 4 ∨ j % 11 = 5)) ∨ (j / 264 = 3 ∧ j % 11 = 10) ∨ (j / 264 = 4 ∧ j % 11 = 1)
def mWfA (hp : xH) (q o : Nat) : Prop := ∀ j : Nat, j < 1320 → mBp j → ((j % 264 / 11 : Nat) : Int) < ys hp 2088 (j / 264) → ys hp q (o + j) < ys hp 2088 0
def bWf (_ : zW) (hp : xH) : Prop := mWfA hp 2089 0 ∧ ∀ s : Nat, s < 3 → ys hp 2097 s ≠ 0 → mWfA hp 2096 (1320 * s)
theorem mWfA.cg {q o : Nat} (h : mWfA a q o) (hc : ∀ j, ys b 2088 j = ys a 2088 j) (hf : ∀ j, j < 1320 → mBp j → ys b q (o + j) = ys a q (o + j)) : mWfA b q o := fun j hj hb h2 => by
  rw [hc, hf j hj hb]
  rw [hc] at h2
  exact h j hj hb h2
theorem bWf.cg (h : bWf G a) (hc : ∀ j, ys b 2088 j = ys a 2088 j) (hf : ∀ j, j < 1320 → mBp j → ys b 2089 j = ys a 2089 j) (hk : ∀ j, ys b 2096 j = ys a 2096 j) (hi : ∀ j, ys b 2097 j = ys a 2097 j) : bWf G b :=
  ⟨h.1.cg hc fun j hj hb => by rw [Nat.zero_add]; exact hf j hj hb, fun s hs h2 => (h.2 s hs (by rw [← hi]; exact h2)).cg hc fun j _ _ => hk _⟩
end MWf
section MWf2
variable {G : zW} {a b : xH} {Wl : zWr}
theorem bWf.fr (h : bWf G a) (hA : bAx G Wl a b) (hw : (bNo Wl 131 && (bNo Wl 132 && (bNo Wl 139 && bNo Wl 140))) = true) (W : mW G := by assumption) : bWf G b := by
  obtain ⟨w1, w2⟩ := and_true' hw
  obtain ⟨w2, w3⟩ := and_true' w2
  obtain ⟨w3, w4⟩ := and_true' w3
  exact h.cg (fun j => hA.ys (s_M_count W) (bNo_ok w1 j)) (fun j _ _ => hA.ys (s_M_field W) (bNo_ok w2 j)) (fun j => hA.ys (s_M_kept W) (bNo_ok w3 j)) fun j => hA.ys (s_M_isKept W) (bNo_ok w4 j)
/-- a bar told of an object that is there, is there -/
theorem bWf.bar (h : bWf G a) {s k j : Nat} {i z : Int} (hb : (Nat.beq s 1 && (Nat.beq k 3 || Nat.beq k 4) || (Nat.beq s 2 && (Nat.beq k 4 || Nat.beq k 5) || (Nat.beq s 3 && Nat.beq k 10 || Nat.beq s 4 && Nat.beq k 1))) = true) (h0 : 0 ≤ i) (h1 : i < 24) (h2 : i < ys a 2088 s) (hz : z = ys a 2089 j) (hj : (j : Int) = 264 * (s : Int) + 11 * i + (k : Int)) : z < ys a 2088 (0 : Int).toNat := by
  obtain ⟨m, rfl⟩ : ∃ m : Nat, i = (m : Int) := ⟨i.toNat, by omega⟩
  have hs : (s = 1 ∧ (k = 3 ∨ k = 4)) ∨ (s = 2 ∧ (k = 4 ∨ k = 5)) ∨ (s = 3 ∧ k = 10) ∨ (s = 4 ∧ k = 1) := by
    simp only [Bool.or_eq_true, Bool.and_eq_true, Nat.beq_eq_true_eq] at hb
    omega
  have hj : j = 264 * s + 11 * m + k := by omega
  have e1 : j / 264 = s := by omega
  have e2 : j % 264 / 11 = m := by omega
  have := h.1 j (by omega) (by unfold mBp; omega) (by rw [e1, e2]; exact h2)
  rw [Nat.zero_add] at this
  rw [hz]
  exact this
end MWf2
