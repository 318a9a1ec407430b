/-! ===== the reference: rules' codes are well made, an order's steps ===== -/
section MRules
variable {G : zW} {a b hp : xH} {Wl : zWr}
/-- how many answers lie on the pile behind n codes -/
def mH (w : Nat → Int) : Nat → Int
  | 0 => 0
  | n + 1 => if w n = 1 then mH w n else if w n = 2 ∨ w n = 3 then mH w n - 1 else mH w n + 1
def mOb (act x : Int) : Prop := x ≤ 15 ∧ (x = -1 → 2 ≤ act ∧ act ≤ 3)
/-- codes from a place on: what is asked of the pile, and of objects -/
def mOk (c : Nat → Int) (act : Int) (o n : Nat) : Prop := ∀ m : Nat, m < n → (c (4 * (o + m)) = 1 → 1 ≤ mH (fun i => c (4 * (o + i))) m) ∧ (c (4 * (o + m)) = 2 ∨ c (4 * (o + m)) = 3 → 2 ≤ mH (fun i => c (4 * (o + i))) m) ∧ (6 ≤ c (4 * (o + m)) → c (4 * (o + m)) ≤ 8 → mOb act (c (4 * (o + m) + 2))) ∧ (c (4 * (o + m)) = 8 → mOb act (c (4 * (o + m) + 3)))
theorem mOk.bd {c : Nat → Int} {act : Int} {o n : Nat} (h : mOk c act o n) : ∀ m : Nat, m ≤ n → 0 ≤ mH (fun i => c (4 * (o + i))) m ∧ mH (fun i => c (4 * (o + i))) m ≤ m
  | 0, _ => ⟨Int.le_refl 0, Int.le_refl 0⟩
  | m + 1, hm => by
    have ih := mOk.bd h m (by omega)
    obtain ⟨h1, h2, -⟩ := h m (by omega)
    show 0 ≤ (if c (4 * (o + m)) = 1 then mH (fun i => c (4 * (o + i))) m else if c (4 * (o + m)) = 2 ∨ c (4 * (o + m)) = 3 then mH (fun i => c (4 * (o + i))) m - 1 else mH (fun i => c (4 * (o + i))) m + 1) ∧ (if c (4 * (o + m)) = 1 then mH (fun i => c (4 * (o + i))) m else if c (4 * (o + m)) = 2 ∨ c (4 * (o + m)) = 3 then mH (fun i => c (4 * (o + i))) m - 1 else mH (fun i => c (4 * (o + i))) m + 1) ≤ ((m + 1 : Nat) : Int)
    generalize mH (fun i => c (4 * (o + i))) m = x at *
    generalize c (4 * (o + m)) = w at *
    split
    · omega
    · split
      · rename_i g
        have := h2 g
        omega
      · omega
theorem mH_same {w : Nat → Int} {n : Nat} (h : w n = 1) : mH w (n + 1) = mH w n := by
  show (if w n = 1 then mH w n else _) = _
  rw [if_pos h]
theorem mH_less {w : Nat → Int} {n : Nat} (h : w n = 2 ∨ w n = 3) : mH w (n + 1) = mH w n - 1 := by
  show (if w n = 1 then mH w n else if w n = 2 ∨ w n = 3 then mH w n - 1 else mH w n + 1) = _
  rw [if_neg (by omega), if_pos h]
theorem mH_more {w : Nat → Int} {n : Nat} (h : w n ≠ 1 ∧ w n ≠ 2 ∧ w n ≠ 3) : mH w (n + 1) = mH w n + 1 := by
  show (if w n = 1 then mH w n else if w n = 2 ∨ w n = 3 then mH w n - 1 else mH w n + 1) = _
  rw [if_neg h.1, if_neg (by omega)]
def bRc (_ : zW) (hp : xH) : Prop := ∀ r : Nat, (r : Int) < ys hp 2073 114 → r < 12 → ys hp 2149 r ≤ ys hp 2149 (r + 1) ∧ mOk (ys hp 2150) (ys hp 2148 r) (ys hp 2149 r).toNat (ys hp 2149 (r + 1) - ys hp 2149 r).toNat
theorem bRc.cg (h : bRc G a) (h1 : ys b 2073 114 = ys a 2073 114) (h2 : ∀ j, ys b 2149 j = ys a 2149 j) (h3 : ∀ j, ys b 2150 j = ys a 2150 j) (h4 : ∀ j, ys b 2148 j = ys a 2148 j) : bRc G b := fun r hr h9 => by
  have e : ys b 2150 = ys a 2150 := funext h3
  rw [h2, h2, e, h4]
  exact h r (by rw [← h1]; exact hr) h9
theorem bRc.fr (h : bRc G a) (hA : bAx G Wl a b) (hw : (bNo Wl 193 && (bNo Wl 192 && (bNo Wl 191 && !(zwr Wl 116 114)))) = true) (W : mW G := by assumption) : bRc G b := by
  obtain ⟨w1, w2⟩ := and_true' hw
  obtain ⟨w2, w3⟩ := and_true' w2
  obtain ⟨w3, w4⟩ := and_true' w3
  rw [Bool.not_eq_true'] at w4
  exact h.cg (hA.ys (s_M W) w4) (fun j => hA.ys (s_M_ruleFrom W) (bNo_ok w2 j)) (fun j => hA.ys (s_M_code W) (bNo_ok w1 j)) fun j => hA.ys (s_M_ruleAct W) (bNo_ok w3 j)
/-- what an order's step is of -/
def bSr (_ : zW) (hp : xH) : Prop := ∀ m : Nat, m < 24 → 2 ≤ ys hp 2154 m → ys hp 2154 m ≤ 3 → ys hp 2155 m ≤ 15
theorem bSr.fr (h : bSr G a) (hA : bAx G Wl a b) (hw : (bNo Wl 197 && bNo Wl 198) = true) (W : mW G := by assumption) : bSr G b := fun m hm => by
  obtain ⟨w1, w2⟩ := and_true' hw
  rw [hA.ys (s_M_stepAct W) (bNo_ok w1 m), hA.ys (s_M_stepOf W) (bNo_ok w2 m)]
  exact h m hm
end MRules
