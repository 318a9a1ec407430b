/-! ===== the reference: all bars that things are at are there ===== -/
section MWf
variable {G : zW} {a b : xH} {Wl : zWr}
/-- a place of a row of fields that holds a bar's number -/
def mBp (j : Nat) : Prop := (j / 264 = 1 ∧ (j % 11 = 3 ∨ j % 11 = 4)) ∨ (j / 264 = 2 ∧ (j % 11 = 4 ∨ j % 11 = 5)) ∨ (j / 264 = 3 ∧ j % 11 = 10) ∨ (j / 264 = 4 ∧ j % 11 = 1)
def mWfA (hp : xH) (q o : Nat) : Prop := ∀ j : Nat, j < 1320 → mBp j → ((j % 264 / 11 : Nat) : Int) < ys hp 2088 (j / 264) → ys hp q (o + j) < ys hp 2088 0
def bWf (_ : zW) (hp : xH) : Prop := mWfA hp 2089 0 ∧ ∀ s : Nat, s < 3 → ys hp 2097 s ≠ 0 → mWfA hp 2096 (1320 * s)
theorem mWfA.cg {q o : Nat} (h : mWfA a q o) (hc : ∀ j, ys b 2088 j = ys a 2088 j) (hf : ∀ j, j < 1320 → mBp j → ys b q (o + j) = ys a q (o + j)) : mWfA b q o := fun j hj hb h2 => by
  rw [hc, hf j hj hb]
  rw [hc] at h2
  exact h j hj hb h2
theorem bWf.cg (h : bWf G a) (hc : ∀ j, ys b 2088 j = ys a 2088 j) (hf : ∀ j, j < 1320 → mBp j → ys b 2089 j = ys a 2089 j) (hk : ∀ j, ys b 2096 j = ys a 2096 j) (hi : ∀ j, ys b 2097 j = ys a 2097 j) : bWf G b :=
  ⟨h.1.cg hc fun j hj hb => by rw [Nat.zero_add]; exact hf j hj hb, fun s hs h2 => (h.2 s hs (by rw [← hi]; exact h2)).cg hc fun j _ _ => hk _⟩
end MWf
section MWf2
variable {G : zW} {a b : xH} {Wl : zWr}
theorem bWf.fr (h : bWf G a) (hA : bAx G Wl a b) (hw : (bNo Wl 131 && (bNo Wl 132 && (bNo Wl 139 && bNo Wl 140))) = true) (W : mW G := by assumption) : bWf G b := by
  obtain ⟨w1, w2⟩ := and_true' hw
  obtain ⟨w2, w3⟩ := and_true' w2
  obtain ⟨w3, w4⟩ := and_true' w3
  exact h.cg (fun j => hA.ys (s_M_count W) (bNo_ok w1 j)) (fun j _ _ => hA.ys (s_M_field W) (bNo_ok w2 j)) (fun j => hA.ys (s_M_kept W) (bNo_ok w3 j)) fun j => hA.ys (s_M_isKept W) (bNo_ok w4 j)
/-- a bar told of an object that is there, is there -/
theorem bWf.bar (h : bWf G a) {s k j : Nat} {i z : Int} (hs : (s = 1 ∧ (k = 3 ∨ k = 4)) ∨ (s = 2 ∧ (k = 4 ∨ k = 5)) ∨ (s = 3 ∧ k = 10) ∨ (s = 4 ∧ k = 1)) (h0 : 0 ≤ i) (h1 : i < 24) (h2 : i < ys a 2088 s) (hz : z = ys a 2089 j) (hj : (j : Int) = 264 * (s : Int) + 11 * i + (k : Int)) : z < ys a 2088 (0 : Int).toNat := by
  obtain ⟨m, rfl⟩ : ∃ m : Nat, i = (m : Int) := ⟨i.toNat, by omega⟩
  have hj : j = 264 * s + 11 * m + k := by omega
  have e1 : j / 264 = s := by omega
  have e2 : j % 264 / 11 = m := by omega
  have := h.1 j (by omega) (by unfold mBp; omega) (by rw [e1, e2]; exact h2)
  rw [Nat.zero_add] at this
  rw [hz]
  exact this
/-- all fields become those of another row that is well made -/
theorem bWf.set (h : bWf G a) {q o : Nat} (hq : mWfA a q o) (hf : ∀ j, j < 1320 → ys b 2089 j = ys a q (o + j)) (hc : ∀ j, ys b 2088 j = ys a 2088 j) (hk : ∀ j, ys b 2096 j = ys a 2096 j) (hi : ∀ j, ys b 2097 j = ys a 2097 j) : bWf G b :=
  ⟨fun j hj hb h2 => by
    rw [Nat.zero_add, hf j hj, hc]
    rw [hc] at h2
    exact hq j hj hb h2, fun s hs h2 => (h.2 s hs (by rw [← hi]; exact h2)).cg hc fun j _ _ => hk _⟩
/-- all fields are kept -/
theorem bWf.kp (h : bWf G a) {k : Nat} (hkk : ∀ j, j < 1320 → ys b 2096 (1320 * k + j) = ys a 2089 j) (ho : ∀ j, j < 1320 * k ∨ 1320 * k + 1320 ≤ j → ys b 2096 j = ys a 2096 j) (hf : ∀ j, ys b 2089 j = ys a 2089 j) (hc : ∀ j, ys b 2088 j = ys a 2088 j) (hi : ∀ s, s ≠ k → ys b 2097 s = ys a 2097 s) : bWf G b :=
  ⟨h.1.cg hc fun j _ _ => by rw [Nat.zero_add]; exact hf j, fun s hs h2 => by
    by_cases e : s = k
    · subst e
      intro j hj hb h3
      rw [hkk j hj, hc]
      rw [hc] at h3
      have := h.1 j hj hb h3
      rwa [Nat.zero_add] at this
    · exact (h.2 s hs (by rw [← hi s e]; exact h2)).cg hc fun j hj _ => ho _ (by
        rcases Nat.lt_or_ge s k with g | g <;> omega)⟩
/-- fields remembered -/
def bWb (_ : zW) (hp : xH) : Prop := mWfA hp 2165 0
theorem bWb.fr (h : bWb G a) (hA : bAx G Wl a b) (hw : (bNo Wl 131 && bNo Wl 208) = true) (W : mW G := by assumption) : bWb G b := by
  obtain ⟨w1, w2⟩ := and_true' hw
  exact mWfA.cg h (fun j => hA.ys (s_M_count W) (bNo_ok w1 j)) (fun j _ _ => hA.ys (s_M_fieldsBefore W) (bNo_ok w2 _))
end MWf2
