/-! ===== sums of figures to the base 10^9 ===== -/
def yB : Nat → Int
  | 0 => 1
  | n + 1 => 1000000000 * yB n
def ysum (f : Nat → Int) : Nat → Int
  | 0 => 0
  | n + 1 => ysum f n + f n * yB n
theorem yB_succ (n : Nat) : yB (n + 1) = 1000000000 * yB n := rfl
theorem ysum_succ (f : Nat → Int) (n : Nat) : ysum f (n + 1) = ysum f n + f n * yB n := rfl
theorem yB_pos (n : Nat) : 1 ≤ yB n := by
  induction n with
  | zero => decide
  | succ n ih => rw [yB_succ]; omega
theorem yB_mono {a b : Nat} (h : a ≤ b) : yB a ≤ yB b := by
  induction b with
  | zero => rw [show a = 0 by omega]; exact Int.le_refl _
  | succ b ih =>
    by_cases e : a = b + 1
    · rw [e]; exact Int.le_refl _
    · have := ih (by omega)
      have := yB_pos b
      rw [yB_succ]
      omega
theorem yB_add (a b : Nat) : yB (a + b) = yB a * yB b := by
  induction b with
  | zero => show yB a = yB a * 1; rw [Int.mul_one]
  | succ b ih => rw [← Nat.add_assoc, yB_succ, yB_succ, ih, Int.mul_left_comm]
theorem ysum_congr {f g : Nat → Int} {n : Nat} (h : ∀ k, k < n → f k = g k) : ysum f n = ysum g n := by
  induction n with
  | zero => rfl
  | succ n ih => rw [ysum_succ, ysum_succ, ih fun k hk => h k (by omega), h n (by omega)]
def yFig (f : Nat → Int) (n : Nat) : Prop := ∀ k, k < n → 0 ≤ f k ∧ f k ≤ 999999999
theorem yFig.sub {f : Nat → Int} {n m : Nat} (h : yFig f n) (hm : m ≤ n) : yFig f m := fun k hk => h k (by omega)
theorem ysum_bd {f : Nat → Int} {n : Nat} (h : yFig f n) : 0 ≤ ysum f n ∧ ysum f n + 1 ≤ yB n := by
  induction n with
  | zero => exact ⟨Int.le_refl 0, Int.le_refl 1⟩
  | succ n ih =>
    obtain ⟨a, b⟩ := ih (h.sub (by omega))
    obtain ⟨c, d⟩ := h n (by omega)
    have hp := yB_pos n
    have e1 : 0 ≤ f n * yB n := Int.mul_nonneg c (by omega)
    have e2 : f n * yB n ≤ 999999999 * yB n := Int.mul_le_mul_of_nonneg_right d (by omega)
    rw [ysum_succ, yB_succ]
    omega
/-- with a first figure -/
theorem ysum_top {f : Nat → Int} {n : Nat} (h : yFig f (n + 1)) (ht : f n ≠ 0) : yB n ≤ ysum f (n + 1) := by
  obtain ⟨a, b⟩ := ysum_bd (h.sub (Nat.le_succ n))
  obtain ⟨c, d⟩ := h n (by omega)
  have e : 1 * yB n ≤ f n * yB n := Int.mul_le_mul_of_nonneg_right (by omega) (by have := yB_pos n; omega)
  rw [ysum_succ]
  omega
theorem ysum_pos {f : Nat → Int} {n : Nat} (h : yFig f n) (hn : 0 < n) (ht : f (n - 1) ≠ 0) : yB (n - 1) ≤ ysum f n ∧ 0 < ysum f n := by
  obtain ⟨m, rfl⟩ : ∃ m, n = m + 1 := ⟨n - 1, by omega⟩
  have h1 := ysum_top h ht
  have h2 := yB_pos m
  exact ⟨h1, by omega⟩
/-- a number with fewer figures is smaller -/
theorem ysum_short {f g : Nat → Int} {n m : Nat} (hf : yFig f n) (hg : yFig g m) (hn : n < m) (ht : g (m - 1) ≠ 0) : ysum f n < ysum g m := by
  obtain ⟨a, b⟩ := ysum_bd hf
  obtain ⟨c, -⟩ := ysum_pos hg (by omega) ht
  have := yB_mono (show n ≤ m - 1 by omega)
  omega
/-- the first figure that differs decides -/
theorem ysum_first {f g : Nat → Int} {n k : Nat} (hf : yFig f n) (hg : yFig g n) (hk : k < n) (hs : ∀ j, k < j → j < n → f j = g j) (h : f k < g k) : ysum f n < ysum g n := by
  induction n with
  | zero => omega
  | succ n ih =>
    rw [ysum_succ, ysum_succ]
    by_cases e : k = n
    · subst e
      obtain ⟨a, b⟩ := ysum_bd (hf.sub (Nat.le_succ k))
      obtain ⟨c, d⟩ := ysum_bd (hg.sub (Nat.le_succ k))
      have e : (f k + 1) * yB k ≤ g k * yB k := Int.mul_le_mul_of_nonneg_right (by omega) (by have := yB_pos k; omega)
      rw [Int.add_mul] at e
      omega
    · have := ih (hf.sub (Nat.le_succ n)) (hg.sub (Nat.le_succ n)) (by omega) fun j h1 h2 => hs j h1 (by omega)
      rw [hs n (by omega) (by omega)]
      omega
/-- noughts ahead -/
theorem ysum_nought {f : Nat → Int} {n m : Nat} (hn : n ≤ m) (h : ∀ k, n ≤ k → k < m → f k = 0) : ysum f m = ysum f n := by
  induction m with
  | zero => rw [show n = 0 by omega]
  | succ m ih =>
    by_cases e : n = m + 1
    · rw [e]
    · rw [ysum_succ, h m (by omega) (by omega), Int.zero_mul, Int.add_zero]
      exact ih (by omega) fun k h1 h2 => h k h1 (by omega)
theorem ygrind (s v c p : Int) : s + (v - c * 1000000000) * p + c * (1000000000 * p) = s + v * p := by grind
/-! registers' values -/
section YVal
variable {G : zW} {hp hp' : xH}
noncomputable def ymag (hp : xH) (r : Nat) : Int := ysum (yD hp r) (yL hp r).toNat
noncomputable def yval (hp : xH) (r : Nat) : Int := yS hp r * ymag hp r
/-- the first figure isn't 0 -/
def yTop (hp : xH) (r : Nat) : Prop := 0 < yL hp r → yD hp r ((yL hp r).toNat - 1) ≠ 0
def yNorm (hp : xH) (r : Nat) : Prop := yTop hp r ∧ (yL hp r = 0 ↔ yS hp r = 0)
theorem yFig_of (W : yMW G) (hT : zTy G hp) {r : Nat} (hr : r < 3412) : yFig (yD hp r) 256 := fun _ hk => yD_bd W hT hr hk
theorem yFig_len (W : yMW G) (hT : zTy G hp) {r : Nat} (hr : r < 3412) : yFig (yD hp r) (yL hp r).toNat := (yFig_of W hT hr).sub (by have := yL_bd W hT hr; omega)
theorem ymag_bd (W : yMW G) (hT : zTy G hp) {r : Nat} (hr : r < 3412) : 0 ≤ ymag hp r ∧ ymag hp r + 1 ≤ yB (yL hp r).toNat := ysum_bd (yFig_len W hT hr)
theorem ymag_zero {r : Nat} (h : yL hp r = 0) : ymag hp r = 0 := by
  unfold ymag
  rw [h]
  rfl
theorem ymag_pos (W : yMW G) (hT : zTy G hp) {r : Nat} (hr : r < 3412) (h : 0 < yL hp r) (ht : yTop hp r) : yB ((yL hp r).toNat - 1) ≤ ymag hp r ∧ 0 < ymag hp r := ysum_pos (yFig_len W hT hr) (by omega) (ht h)
theorem ySm.mag {s : Nat} (h : ySm hp hp' s) (hb : yL hp s ≤ 256) : ymag hp' s = ymag hp s := by
  unfold ymag
  rw [h.1]
  exact ysum_congr fun k hk => h.2.2 k (by omega)
theorem ySm.val {s : Nat} (h : ySm hp hp' s) (hb : yL hp s ≤ 256) : yval hp' s = yval hp s := by
  unfold yval
  rw [h.mag hb, h.2.1]
theorem ySm.top {s : Nat} (h : ySm hp hp' s) (hb : yL hp s ≤ 256) (ht : yTop hp s) : yTop hp' s := by
  intro h0
  rw [h.1] at h0 ⊢
  rw [h.2.2 _ (by omega)]
  exact ht h0
theorem ySm.norm {s : Nat} (h : ySm hp hp' s) (hb : yL hp s ≤ 256) (hn : yNorm hp s) : yNorm hp' s := ⟨h.top hb hn.1, by rw [h.1, h.2.1]; exact hn.2⟩
theorem ySm.rf (hp : xH) (s : Nat) : ySm hp hp s := ⟨rfl, rfl, fun _ _ => rfl⟩
theorem ySm.tr {a b c : xH} {s : Nat} (h1 : ySm a b s) (h2 : ySm b c s) : ySm a c s := ⟨h2.1.trans h1.1, h2.2.1.trans h1.2.1, fun k hk => (h2.2.2 k hk).trans (h1.2.2 k hk)⟩
end YVal
/-! what a store leaves, by registers -/
section YPut
variable {a b : xH} {K n : Nat} {z : Int}
theorem yput_ne (h : ∀ k' j', ys b k' j' = if k' = K ∧ j' = n then z else ys a k' j') {k : Nat} (hk : k ≠ K) (j : Nat) : ys b k j = ys a k j := by rw [h, if_neg fun e => hk e.1]
theorem yput_D {r k : Nat} {e : Int} (h : ∀ k' j', ys b k' j' = if k' = 2074 ∧ j' = e.toNat then z else ys a k' j') (he : e = 256 * (r : Int) + (k : Int)) (hk : k < 256) (s j : Nat) (hj : j < 256) : yD b s j = if s = r ∧ j = k then z else yD a s j := by
  unfold yD
  rw [h]
  by_cases e9 : s = r ∧ j = k
  · rw [if_pos e9, if_pos ⟨rfl, by omega⟩]
  · rw [if_neg e9, if_neg]
    rintro ⟨-, h9⟩
    apply e9
    omega
theorem yput_L {r : Nat} (h : ∀ k' j', ys b k' j' = if k' = 2075 ∧ j' = r then z else ys a k' j') (s : Nat) : yL b s = if s = r then z else yL a s := by
  unfold yL
  rw [h]
  by_cases e9 : s = r
  · rw [if_pos e9, if_pos ⟨rfl, e9⟩]
  · rw [if_neg e9, if_neg fun h => e9 h.2]
theorem yput_S {r : Nat} (h : ∀ k' j', ys b k' j' = if k' = 2076 ∧ j' = r then z else ys a k' j') (s : Nat) : yS b s = if s = r then z else yS a s := by
  unfold yS
  rw [h]
  by_cases e9 : s = r
  · rw [if_pos e9, if_pos ⟨rfl, e9⟩]
  · rw [if_neg e9, if_neg fun h => e9 h.2]
theorem yput_A {n : Nat} {e : Int} (h : ∀ k' j', ys b k' j' = if k' = K ∧ j' = e.toNat then z else ys a k' j') (he : e = (n : Int)) (t : Nat) : ys b K t = if t = n then z else ys a K t := by
  rw [h]
  by_cases e9 : t = n
  · rw [if_pos e9, if_pos ⟨rfl, by omega⟩]
  · rw [if_neg e9, if_neg]
    rintro ⟨-, h9⟩
    apply e9
    omega
end YPut
/-- one figure is another one -/
theorem ysum_upd {f g : Nat → Int} {n t : Nat} (ht : t < n) (h : ∀ j, j < n → j ≠ t → g j = f j) : ysum g n = ysum f n + (g t - f t) * yB t := by
  induction n with
  | zero => omega
  | succ n ih =>
    rw [ysum_succ, ysum_succ]
    by_cases e : t = n
    · subst e
      rw [ysum_congr fun j hj => h j (by omega) (by omega), Int.sub_mul]
      omega
    · rw [ih (by omega) fun j h1 h2 => h j (by omega) h2, h n (by omega) (by omega)]
      omega
