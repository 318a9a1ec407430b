/-! ===== the reference: all bars that things are at are there, no X is 0 ===== -/
section MWf
variable {G : zW} {a b : xH} {Wl : zWr}
/-- a place of a row of fields that holds a bar's number; one that is above 0 -/
def mBp (j : Nat) : Prop := (j / 264 = 1 ∧ (j % 11 = 3 ∨ j % 11 = 4)) ∨ (j / 264 = 2 ∧ (j % 11 = 4 ∨ j % 11 = 5)) ∨ (j / 264 = 3 ∧ j % 11 = 10) ∨ (j / 264 = 4 ∧ j % 11 = 1)
def mXp (j : Nat) : Prop := (j / 264 = 2 ∧ (j % 11 = 1 ∨ j % 11 = 2)) ∨ (j / 264 = 3 ∧ j % 11 = 2)
def mWfA (hp : xH) (q o : Nat) : Prop := ∀ j : Nat, j < 1320 → ((j % 264 / 11 : Nat) : Int) < ys hp 2088 (j / 264) → (mBp j → ys hp q (o + j) < ys hp 2088 0) ∧ (mXp j → 1 ≤ ys hp q (o + j))
def bWf (_ : zW) (hp : xH) : Prop := mWfA hp 2089 0 ∧ ∀ s : Nat, s < 3 → ys hp 2097 s ≠ 0 → mWfA hp 2096 (1320 * s)
theorem mWfA.cg {q o : Nat} (h : mWfA a q o) (hc : ∀ j, ys b 2088 j = ys a 2088 j) (hf : ∀ j, j < 1320 → mBp j ∨ mXp j → ys b q (o + j) = ys a q (o + j)) : mWfA b q o := fun j hj h2 => by
  rw [hc] at h2
  obtain ⟨h3, h4⟩ := h j hj h2
  exact ⟨fun g => by rw [hc, hf j hj (.inl g)]; exact h3 g, fun g => by rw [hf j hj (.inr g)]; exact h4 g⟩
theorem bWf.cg (h : bWf G a) (hc : ∀ j, ys b 2088 j = ys a 2088 j) (hf : ∀ j, j < 1320 → mBp j ∨ mXp j → ys b 2089 j = ys a 2089 j) (hk : ∀ j, ys b 2096 j = ys a 2096 j) (hi : ∀ j, ys b 2097 j = ys a 2097 j) : bWf G b :=
  ⟨h.1.cg hc fun j hj hb => by rw [Nat.zero_add]; exact hf j hj hb, fun s hs h2 => (h.2 s hs (by rw [← hi]; exact h2)).cg hc fun j _ _ => hk _⟩
/-- a field that isn't a bar's number becomes another one -/
theorem bWf.putx {i v : Int} (h : bWf G a) (hy : ∀ x t, ys b x t = if x = 2089 ∧ t = i.toNat then v else ys a x t) (hb : ∀ j, j = i.toNat → j < 1320 → ¬ mBp j) (hx : ∀ j, j = i.toNat → j < 1320 → mXp j → 1 ≤ v) : bWf G b := by
  have hc : ∀ j, ys b 2088 j = ys a 2088 j := fun j => (hy _ _).trans (if_neg (by omega))
  refine ⟨fun j hj h2 => ?_, fun s hs h2 => (h.2 s hs (by rw [← (hy 2097 s).trans (if_neg (by omega))]; exact h2)).cg hc fun j _ _ => (hy _ _).trans (if_neg (by omega))⟩
  rw [hc] at h2
  obtain ⟨h3, h4⟩ := h.1 j hj h2
  rw [Nat.zero_add] at h3 h4 ⊢
  rw [hc, hy]
  by_cases e : j = i.toNat
  · rw [if_pos ⟨rfl, e⟩]
    exact ⟨fun g => absurd g (hb j e hj), fun g => hx j e hj g⟩
  · rw [if_neg (fun x => e x.2)]
    exact ⟨h3, h4⟩
end MWf
section MWf2
variable {G : zW} {a b : xH} {Wl : zWr}
theorem bWf.fr (h : bWf G a) (hA : bAx G Wl a b) (hw : (bNo Wl 131 && (bNo Wl 132 && (bNo Wl 139 && bNo Wl 140))) = true) (W : mW G := by assumption) : bWf G b := by
  obtain ⟨w1, w2⟩ := and_true' hw
  obtain ⟨w2, w3⟩ := and_true' w2
  obtain ⟨w3, w4⟩ := and_true' w3
  exact h.cg (fun j => hA.ys (s_M_count W) (bNo_ok w1 j)) (fun j _ _ => hA.ys (s_M_field W) (bNo_ok w2 j)) (fun j => hA.ys (s_M_kept W) (bNo_ok w3 j)) fun j => hA.ys (s_M_isKept W) (bNo_ok w4 j)
/-- a bar told of an object that is there, is there -/
theorem bWf.bar (h : bWf G a) {s k j : Nat} {i z : Int} (hs : (s = 1 ∧ (k = 3 ∨ k = 4)) ∨ (s = 2 ∧ (k = 4 ∨ k = 5)) ∨ (s = 3 ∧ k = 10) ∨ (s = 4 ∧ k = 1)) (h0 : 0 ≤ i) (h1 : i < 24) (h2 : i < ys a 2088 s) (hz : z = ys a 2089 j) (hj : (j : Int) = 264 * (s : Int) + 11 * i + (k : Int)) : z < ys a 2088 (0 : Int).toNat := by
  obtain ⟨m, rfl⟩ : ∃ m : Nat, i = (m : Int) := ⟨i.toNat, by omega⟩
  have hj : j = 264 * s + 11 * m + k := by omega
  have e1 : j / 264 = s := by omega
  have e2 : j % 264 / 11 = m := by omega
  have := (h.1 j (by omega) (by rw [e1, e2]; exact h2)).1 (by unfold mBp; omega)
  rw [Nat.zero_add] at this
  rw [hz]
  exact this
/-- an X isn't 0 -/
theorem bWf.x (h : bWf G a) {s k j : Nat} {i z : Int} (hs : (s = 2 ∧ (k = 1 ∨ k = 2)) ∨ (s = 3 ∧ k = 2)) (h0 : 0 ≤ i) (h1 : i < 24) (h2 : i < ys a 2088 s) (hz : z = ys a 2089 j) (hj : (j : Int) = 264 * (s : Int) + 11 * i + (k : Int)) : 1 ≤ z := by
  obtain ⟨m, rfl⟩ : ∃ m : Nat, i = (m : Int) := ⟨i.toNat, by omega⟩
  have hj : j = 264 * s + 11 * m + k := by omega
  have e1 : j / 264 = s := by omega
  have e2 : j % 264 / 11 = m := by omega
  have := (h.1 j (by omega) (by rw [e1, e2]; exact h2)).2 (by unfold mXp; omega)
  rw [Nat.zero_add] at this
  rw [hz]
  exact this
/-- all fields become those of another row that is well made -/
theorem bWf.set (h : bWf G a) {q o : Nat} (hq : mWfA a q o) (hf : ∀ j, j < 1320 → ys b 2089 j = ys a q (o + j)) (hc : ∀ j, ys b 2088 j = ys a 2088 j) (hk : ∀ j, ys b 2096 j = ys a 2096 j) (hi : ∀ j, ys b 2097 j = ys a 2097 j) : bWf G b :=
  ⟨fun j hj h2 => by
    rw [Nat.zero_add, hf j hj, hc]
    rw [hc] at h2
    exact hq j hj h2, fun s hs h2 => (h.2 s hs (by rw [← hi]; exact h2)).cg hc fun j _ _ => hk _⟩
/-- all fields are kept -/
theorem bWf.kp (h : bWf G a) {k : Nat} (hkk : ∀ j, j < 1320 → ys b 2096 (1320 * k + j) = ys a 2089 j) (ho : ∀ j, j < 1320 * k ∨ 1320 * k + 1320 ≤ j → ys b 2096 j = ys a 2096 j) (hf : ∀ j, ys b 2089 j = ys a 2089 j) (hc : ∀ j, ys b 2088 j = ys a 2088 j) (hi : ∀ s, s ≠ k → ys b 2097 s = ys a 2097 s) : bWf G b :=
  ⟨h.1.cg hc fun j _ _ => by rw [Nat.zero_add]; exact hf j, fun s hs h2 => by
    by_cases e : s = k
    · subst e
      intro j hj h3
      rw [hkk j hj, hc]
      rw [hc] at h3
      have := h.1 j hj h3
      rwa [Nat.zero_add] at this
    · exact (h.2 s hs (by rw [← hi s e]; exact h2)).cg hc fun j hj _ => ho _ (by
        rcases Nat.lt_or_ge s k with g | g <;> omega)⟩
/-- fields remembered -/
def bWb (_ : zW) (hp : xH) : Prop := mWfA hp 2165 0
theorem bWb.fr (h : bWb G a) (hA : bAx G Wl a b) (hw : (bNo Wl 131 && bNo Wl 208) = true) (W : mW G := by assumption) : bWb G b := by
  obtain ⟨w1, w2⟩ := and_true' hw
  exact mWfA.cg h (fun j => hA.ys (s_M_count W) (bNo_ok w1 j)) (fun j _ _ => hA.ys (s_M_fieldsBefore W) (bNo_ok w2 _))
end MWf2
