/-! ===== a net that is singular by each of forty primes has potentials that are alike along its lines ===== -/
section MNet
def gx (x : Nat → Int) (p : Int) : Int := if 0 ≤ p then x p.toNat else 0
theorem gx_add (x y : Nat → Int) (p : Int) : gx (fun j => x j + y j) p = gx x p + gx y p := by
  unfold gx
  split
  · rfl
  · rfl
theorem gx_mul (c : Int) (x : Nat → Int) (p : Int) : gx (fun j => c * x j) p = c * gx x p := by
  unfold gx
  split
  · rfl
  · rw [Int.mul_zero]
theorem gx_sum {x : Nat → Int} {p : Int} {n : Nat} (h1 : -1 ≤ p) (h2 : p < n) : mSi (fun r => x r * (if p = (r : Int) then 1 else 0)) n = gx x p := by
  unfold gx
  by_cases h : 0 ≤ p
  · rw [if_pos h, mSi_one (c := p.toNat) n (by omega) fun r _ hr => by rw [if_neg (by omega), Int.mul_zero], if_pos (by omega), Int.mul_one]
  · rw [if_neg h, mSi_zero n fun r _ => by rw [if_neg (by omega), Int.mul_zero]]
/-- what flows away from a row -/
def gNet (cnt : Nat → Bool) (pa pb : Nat → Int) (y : Nat → Int) (m r : Nat) : Int := mSi (fun k => if cnt k = true then ((if pa k = (r : Int) then 1 else 0) - (if pb k = (r : Int) then 1 else 0)) * y k else 0) m
section NetLin
variable {cnt : Nat → Bool} {pa pb X N9 : Nat → Int} {n m : Nat}
theorem gNet_add (x y : Nat → Int) (r : Nat) : gNet cnt pa pb (fun k => x k + y k) m r = gNet cnt pa pb x m r + gNet cnt pa pb y m r := by
  unfold gNet
  rw [← mSi_add]
  refine mSi_congr m fun k _ => ?_
  show (if cnt k = true then _ * (x k + y k) else 0) = (if cnt k = true then _ * x k else 0) + (if cnt k = true then _ * y k else 0)
  split
  · rw [Int.mul_add]
  · rfl
theorem gNet_mul (c : Int) (x : Nat → Int) (r : Nat) : gNet cnt pa pb (fun k => c * x k) m r = c * gNet cnt pa pb x m r := by
  unfold gNet
  rw [← mSi_mul]
  refine mSi_congr m fun k _ => ?_
  show (if cnt k = true then _ * (c * x k) else 0) = c * (if cnt k = true then _ * x k else 0)
  split
  · rw [Int.mul_left_comm]
  · rw [Int.mul_zero]
theorem gNet_cg {x y : Nat → Int} {r : Nat} (h : ∀ k, k < m → cnt k = true → x k = y k) : gNet cnt pa pb x m r = gNet cnt pa pb y m r := mSi_congr m fun k hk => by
  by_cases g : cnt k = true
  · rw [if_pos g, if_pos g, h k hk g]
  · rw [if_neg g, if_neg g]
/-- the equations -/
def gEq (cnt : Nat → Bool) (pa pb X N9 : Nat → Int) (n m : Nat) (i : Nat) (w : Nat → Int) : Int :=
  if i < 64 then (if (i < 17 ∧ n ≤ i) ∨ (17 ≤ i ∧ (m ≤ i - 17 ∨ cnt (i - 17) = false)) then w i else 0)
  else if i < 81 then (if i - 64 < n then gNet cnt pa pb (fun k => w (17 + k)) m (i - 64) else 0)
  else if i - 81 < m ∧ cnt (i - 81) = true then X (i - 81) * w (17 + (i - 81)) - N9 (i - 81) * (gx w (pa (i - 81)) - gx w (pb (i - 81))) else 0
theorem gEq_lin (i : Nat) : mLin (gEq cnt pa pb X N9 n m i) := by
  refine ⟨fun x y => ?_, fun c x => ?_⟩
  · unfold gEq
    split
    · split
      · rfl
      · rfl
    · split
      · split
        · exact gNet_add (fun k => x (17 + k)) (fun k => y (17 + k)) _
        · rfl
      · split
        · rw [gx_add, gx_add]
          grind
        · rfl
  · unfold gEq
    split
    · split
      · rfl
      · rw [Int.mul_zero]
    · split
      · split
        · exact gNet_mul c (fun k => x (17 + k)) _
        · rw [Int.mul_zero]
      · split
        · rw [gx_mul, gx_mul]
          grind
        · rw [Int.mul_zero]
theorem gNet_bd {y : Nat → Int} {B : Int} {r : Nat} (hB : 0 ≤ B) (h : ∀ k, k < m → -B ≤ y k ∧ y k ≤ B) : -((m : Int) * B) ≤ gNet cnt pa pb y m r ∧ gNet cnt pa pb y m r ≤ (m : Int) * B := mSi_abs m fun k hk => by
  have := h k hk
  split
  · have e : (if pa k = (r : Int) then (1 : Int) else 0) - (if pb k = (r : Int) then 1 else 0) = -1 ∨ (if pa k = (r : Int) then (1 : Int) else 0) - (if pb k = (r : Int) then 1 else 0) = 0 ∨ (if pa k = (r : Int) then (1 : Int) else 0) - (if pb k = (r : Int) then 1 else 0) = 1 := by
      split <;> split <;> omega
    rcases e with e | e | e <;> rw [e] <;> omega
  · omega
theorem gEq_bd (hn : n ≤ 17) (hm : m ≤ 27) (hpa : ∀ k, k < m → cnt k = true → -1 ≤ pa k ∧ pa k < n) (hpb : ∀ k, k < m → cnt k = true → -1 ≤ pb k ∧ pb k < n) (hX : ∀ k, k < m → cnt k = true → 1 ≤ X k ∧ X k ≤ 4500) (hN : ∀ k, k < m → cnt k = true → 1 ≤ N9 k ∧ N9 k ≤ 16) (i : Nat) (x : Nat → Int) (B : Int) (hB : 0 ≤ B) (h : ∀ j, j < 64 → -B ≤ x j ∧ x j ≤ B) : -((8192 : Int) * B) ≤ gEq cnt pa pb X N9 n m i x ∧ gEq cnt pa pb X N9 n m i x ≤ (8192 : Int) * B := by
  unfold gEq
  split
  · split
    · have := h i (by omega)
      omega
    · omega
  · split
    · split
      · have h1 := gNet_bd (cnt := cnt) (pa := pa) (pb := pb) (m := m) (r := i - 64) hB (y := fun k => x (17 + k)) fun k hk => h (17 + k) (by omega)
        have h2 : (m : Int) * B ≤ 27 * B := Int.mul_le_mul_of_nonneg_right (by omega) hB
        omega
      · omega
    · split
      · rename_i g
        obtain ⟨g1, g2⟩ := g
        generalize i - 81 = k at *
        have a := hpa k g1 g2
        have b := hpb k g1 g2
        have c := hX k g1 g2
        have d := hN k g1 g2
        have bx : ∀ p : Int, -1 ≤ p → p < n → -B ≤ gx x p ∧ gx x p ≤ B := fun p p1 p2 => by
          unfold gx
          split
          · exact h p.toNat (by omega)
          · omega
        have y9 := h (17 + k) (by omega)
        have ga := bx _ a.1 a.2
        have gb := bx _ b.1 b.2
        have key : ∀ u v c : Int, 0 ≤ c → -v ≤ u → u ≤ v → -(c * v) ≤ c * u ∧ c * u ≤ c * v := fun u v c hc h1 h2 => by
          have e1 := Int.mul_le_mul_of_nonneg_left h2 hc
          have e2 := Int.mul_le_mul_of_nonneg_left h1 hc
          rw [Int.mul_neg] at e2
          omega
        have k1 := key (x (17 + k)) B (X k) (by omega) y9.1 y9.2
        have k2 := key (gx x (pa k) - gx x (pb k)) (2 * B) (N9 k) (by omega) (by omega) (by omega)
        have k3 : X k * B ≤ 4500 * B := Int.mul_le_mul_of_nonneg_right c.2 hB
        have k4 : N9 k * (2 * B) ≤ 16 * (2 * B) := Int.mul_le_mul_of_nonneg_right d.2 (by omega)
        omega
      · omega
theorem gNet_energy {x y : Nat → Int} (hpa : ∀ k, k < m → cnt k = true → -1 ≤ pa k ∧ pa k < n) (hpb : ∀ k, k < m → cnt k = true → -1 ≤ pb k ∧ pb k < n) : mSi (fun k => if cnt k = true then y k * (gx x (pa k) - gx x (pb k)) else 0) m = mSi (fun r => x r * gNet cnt pa pb y m r) n := by
  have e : mSi (fun r => x r * gNet cnt pa pb y m r) n = mSi (fun r => mSi (fun k => x r * (if cnt k = true then ((if pa k = (r : Int) then 1 else 0) - (if pb k = (r : Int) then 1 else 0)) * y k else 0)) m) n := mSi_congr n fun r _ => by
    unfold gNet
    rw [mSi_mul]
  rw [e, mSi_comm]
  refine mSi_congr m fun k hk => ?_
  by_cases g : cnt k = true
  · rw [if_pos g]
    have a := hpa k hk g
    have b := hpb k hk g
    rw [← gx_sum a.1 a.2, ← gx_sum b.1 b.2, ← mSi_sub, ← mSi_mul]
    refine mSi_congr n fun r _ => ?_
    show y k * (x r * (if pa k = (r : Int) then 1 else 0) - x r * (if pb k = (r : Int) then 1 else 0)) = x r * (if cnt k = true then ((if pa k = (r : Int) then 1 else 0) - (if pb k = (r : Int) then 1 else 0)) * y k else 0)
    rw [if_pos g, ← Int.mul_sub, Int.mul_left_comm (y k), Int.mul_comm (y k)]
  · rw [if_neg g, mSi_zero n fun r _ => by rw [if_neg g, Int.mul_zero]]
theorem mNet (hn : n ≤ 17) (hm : m ≤ 27) (hpa : ∀ k, k < m → cnt k = true → -1 ≤ pa k ∧ pa k < n) (hpb : ∀ k, k < m → cnt k = true → -1 ≤ pb k ∧ pb k < n) (hX : ∀ k, k < m → cnt k = true → 1 ≤ X k ∧ X k ≤ 4500) (hN : ∀ k, k < m → cnt k = true → 1 ≤ N9 k ∧ N9 k ≤ 16)
    (h : ∀ p, p ∈ mPs → ∃ w z : Nat → Int, (∀ k, k < m → cnt k = true → (p : Int) ∣ X k * z k - N9 k) ∧ (∃ c, c < n ∧ w c = 1) ∧ ∀ r, r < n → (p : Int) ∣ gNet cnt pa pb (fun k => z k * (gx w (pa k) - gx w (pb k))) m r) : ∃ x : Nat → Int, (∃ c, c < n ∧ x c ≠ 0) ∧ ∀ k, k < m → cnt k = true → gx x (pa k) = gx x (pb k) := by
  obtain ⟨x, h0, j0, hj0, hj1⟩ := mForty (E := gEq cnt pa pb X N9 n m) gEq_lin (fun p hp => by
    obtain ⟨w, z, h1, ⟨c, hc, hw⟩, h2⟩ := h p hp
    have hp2 := (mPs_pr hp).1
    let v : Nat → Int := fun j => if j < 17 then (if j < n then w j else 0) else if j - 17 < m ∧ cnt (j - 17) = true then z (j - 17) * (gx w (pa (j - 17)) - gx w (pb (j - 17))) else 0
    have vg : ∀ q : Int, -1 ≤ q → q < n → gx v q = gx w q := fun q q1 q2 => by
      unfold gx
      split
      · show (if q.toNat < 17 then (if q.toNat < n then w q.toNat else 0) else _) = _
        rw [if_pos (by omega), if_pos (by omega)]
      · rfl
    have vy : ∀ k, k < m → cnt k = true → v (17 + k) = z k * (gx w (pa k) - gx w (pb k)) := fun k hk hc9 => by
      show (if 17 + k < 17 then _ else if 17 + k - 17 < m ∧ cnt (17 + k - 17) = true then z (17 + k - 17) * (gx w (pa (17 + k - 17)) - gx w (pb (17 + k - 17))) else 0) = _
      rw [if_neg (by omega), show 17 + k - 17 = k by omega, if_pos ⟨hk, hc9⟩]
    refine ⟨v, fun i => ?_, c, by omega, fun hd => ?_⟩
    · unfold gEq
      split
      · split
        · rename_i g
          have : v i = 0 := by
            show (if i < 17 then (if i < n then w i else 0) else if i - 17 < m ∧ cnt (i - 17) = true then z (i - 17) * (gx w (pa (i - 17)) - gx w (pb (i - 17))) else 0) = 0
            rcases g with g | g
            · rw [if_pos g.1, if_neg (by omega)]
            · rw [if_neg (by omega), if_neg]
              rintro ⟨g1, g2⟩
              rcases g.2 with g3 | g3
              · omega
              · rw [g3] at g2; cases g2
          rw [this]
          exact Int.dvd_zero _
        · exact Int.dvd_zero _
      · split
        · split
          · rename_i g
            rw [gNet_cg (y := fun k => z k * (gx w (pa k) - gx w (pb k))) fun k hk hc9 => vy k hk hc9]
            exact h2 _ g
          · exact Int.dvd_zero _
        · split
          · rename_i g
            obtain ⟨g1, g2⟩ := g
            generalize i - 81 = k at *
            rw [vy k g1 g2, vg _ (hpa k g1 g2).1 (hpa k g1 g2).2, vg _ (hpb k g1 g2).1 (hpb k g1 g2).2, ← Int.mul_assoc, ← Int.sub_mul]
            exact Int.dvd_trans (h1 k g1 g2) (Int.dvd_mul_right _ _)
          · exact Int.dvd_zero _
    · have e : v c = 1 := by
        show (if c < 17 then (if c < n then w c else 0) else _) = 1
        rw [if_pos (by omega), if_pos hc, hw]
      rw [e] at hd
      have := Int.le_of_dvd (by decide) hd
      omega) fun i x B hB hx => gEq_bd hn hm hpa hpb hX hN i x B hB hx
  -- what holds of it
  have q1 : ∀ i, i < 64 → ((i < 17 ∧ n ≤ i) ∨ (17 ≤ i ∧ (m ≤ i - 17 ∨ cnt (i - 17) = false))) → x i = 0 := fun i hi g => by
    have := h0 i
    unfold gEq at this
    rwa [if_pos hi, if_pos g] at this
  have q2 : ∀ r, r < n → gNet cnt pa pb (fun k => x (17 + k)) m r = 0 := fun r hr => by
    have := h0 (64 + r)
    unfold gEq at this
    rwa [if_neg (by omega), if_pos (by omega), show 64 + r - 64 = r by omega, if_pos hr] at this
  have q3 : ∀ k, k < m → cnt k = true → X k * x (17 + k) = N9 k * (gx x (pa k) - gx x (pb k)) := fun k hk hc => by
    have := h0 (81 + k)
    unfold gEq at this
    rw [if_neg (by omega), if_neg (by omega), show 81 + k - 81 = k by omega, if_pos ⟨hk, hc⟩] at this
    omega
  have en := gNet_energy (x := x) (y := fun k => x (17 + k)) hpa hpb
  rw [mSi_zero n fun r hr => by rw [q2 r hr, Int.mul_zero]] at en
  have pos : ∀ k, k < m → 0 ≤ (if cnt k = true then x (17 + k) * (gx x (pa k) - gx x (pb k)) else 0) := fun k hk => by
    split
    · rename_i g
      have e := q3 k hk g
      have c := hX k hk g
      have d := hN k hk g
      have f : N9 k * (x (17 + k) * (gx x (pa k) - gx x (pb k))) = X k * (x (17 + k) * x (17 + k)) := by
        rw [Int.mul_left_comm, ← e, Int.mul_left_comm]
      have sq : 0 ≤ x (17 + k) * x (17 + k) := by
        rcases Int.le_total 0 (x (17 + k)) with g9 | g9
        · exact Int.mul_nonneg g9 g9
        · have := Int.mul_nonneg (show 0 ≤ -x (17 + k) by omega) (show 0 ≤ -x (17 + k) by omega)
          rwa [Int.neg_mul_neg] at this
      have f2 := Int.mul_nonneg (show 0 ≤ X k by omega) sq
      rcases Int.lt_or_le (x (17 + k) * (gx x (pa k) - gx x (pb k))) 0 with g9 | g9
      · have := Int.mul_le_mul_of_nonneg_left (show x (17 + k) * (gx x (pa k) - gx x (pb k)) ≤ -1 by omega) (show 0 ≤ N9 k by omega)
        omega
      · exact g9
    · exact Int.le_refl 0
  have z := mSi_pos m pos en
  have yz : ∀ k, k < m → cnt k = true → x (17 + k) = 0 ∧ gx x (pa k) = gx x (pb k) := fun k hk g => by
    have e := q3 k hk g
    have c := hX k hk g
    have d := hN k hk g
    have z9 := z k hk
    rw [if_pos g] at z9
    have y0 : x (17 + k) = 0 := by
      rcases Int.mul_eq_zero.mp z9 with g9 | g9
      · exact g9
      · rw [g9, Int.mul_zero] at e
        rcases Int.mul_eq_zero.mp e with g8 | g8
        · omega
        · exact g8
    refine ⟨y0, ?_⟩
    rw [y0, Int.mul_zero] at e
    rcases Int.mul_eq_zero.mp e.symm with g8 | g8 <;> omega
  refine ⟨x, ?_, fun k hk g => (yz k hk g).2⟩
  apply Decidable.byContradiction
  intro hno
  have all0 : ∀ c, c < n → x c = 0 := fun c hc => Decidable.byContradiction fun g => hno ⟨c, hc, g⟩
  apply hj1
  by_cases g1 : j0 < 17
  · by_cases g2 : j0 < n
    · exact all0 j0 g2
    · exact q1 j0 hj0 (.inl ⟨g1, by omega⟩)
  · by_cases g2 : j0 - 17 < m ∧ cnt (j0 - 17) = true
    · have := (yz (j0 - 17) g2.1 g2.2).1
      rwa [show 17 + (j0 - 17) = j0 by omega] at this
    · refine q1 j0 hj0 (.inr ⟨by omega, ?_⟩)
      by_cases g3 : j0 - 17 < m
      · right
        cases g4 : cnt (j0 - 17) with
        | true => exact absurd ⟨g3, g4⟩ g2
        | false => rfl
      · left; omega
end NetLin
end MNet
