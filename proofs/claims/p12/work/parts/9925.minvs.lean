/-! ===== the reference: what is told of meters and of the short ===== -/
section MInvs
variable {G : zW} {a b : xH} {Wl : zWr}
def bMm (G : zW) (hp : xH) : Prop := ∀ q1 q2, bRo G 158 q1 → bRo G 159 q2 → ∀ m, m < 32 → 1 ≤ ys hp q1 m → ys hp q2 m ≤ 15
theorem bMm.fr (h : bMm G a) (hA : bAx G Wl a b) (hw : (bNo Wl 158 && bNo Wl 159) = true) : bMm G b := fun q1 q2 h1 h2 m hm => by
  obtain ⟨w1, w2⟩ := and_true' hw
  rw [hA.ys h1 (bNo_ok w1 m), hA.ys h2 (bNo_ok w2 m)]
  exact h q1 q2 h1 h2 m hm
def bSm (G : zW) (hp : xH) : Prop := ∀ q, bRo G 116 q → ys hp q 70 = 0 → ys hp q 71 ≤ 15
theorem bSm.fr (h : bSm G a) (hA : bAx G Wl a b) (hw : (!(zwr Wl 116 70) && !(zwr Wl 116 71)) = true) : bSm G b := fun q h1 => by
  obtain ⟨w1, w2⟩ := and_true' hw
  rw [Bool.not_eq_true'] at w1 w2
  rw [hA.ys h1 w1, hA.ys h1 w2]
  exact h q h1
end MInvs
