/-! ===== the reference's registers: all normed, their sizes by a table ===== -/
section MRegs
variable {G : zW} {hp hp' a b c : xH} {k : Nat}
theorem mR1 {k cls j r c : Nat} (hj : j < 256) (hF : yFd G k cls j (2, (((2 ^ r : Nat) : Int), 0))) (hu : ∀ q, bRo G r q → q = c) : yFR G k cls j c := ⟨hj, hF.ob, fun hp hT => by
  obtain ⟨k', h1, h2⟩ := bFdO (own := 0) hF hT
  rw [h2, hu k' h1]⟩
theorem mW.y (W : mW G) : yMW G := by
  refine ⟨bOb (d_M W) (s_M W), fun q hq => ?_⟩
  have hq : q = (1, (2074, (873472, (0, (0, 999999999))))) ∨ q = (2, (2075, (3412, (0, (0, 256))))) ∨ q = (3, (2076, (3412, (0, (-1, 1))))) ∨ q = (4, (2077, (512, (0, (0, 999999999))))) ∨ q = (5, (2078, (258, (0, (0, 999999999))))) ∨ q = (6, (2079, (258, (0, (0, 999999999))))) := by
    unfold yML at hq
    simp only [List.mem_cons, List.not_mem_nil, or_false] at hq
    exact hq
  rcases hq with rfl | rfl | rfl | rfl | rfl | rfl
  · exact ⟨mR1 (by decide) (w_M_big W (s_M W)) fun q h => u_M_big W h, v_M_big W (s_M_big W)⟩
  · exact ⟨mR1 (by decide) (w_M_length W (s_M W)) fun q h => u_M_length W h, v_M_length W (s_M_length W)⟩
  · exact ⟨mR1 (by decide) (w_M_sign W (s_M W)) fun q h => u_M_sign W h, v_M_sign W (s_M_sign W)⟩
  · exact ⟨mR1 (by decide) (w_M_product W (s_M W)) fun q h => u_M_product W h, v_M_product W (s_M_product W)⟩
  · exact ⟨mR1 (by decide) (w_M_upper W (s_M W)) fun q h => u_M_upper W h, v_M_upper W (s_M_upper W)⟩
  · exact ⟨mR1 (by decide) (w_M_lower W (s_M W)) fun q h => u_M_lower W h, v_M_lower W (s_M_lower W)⟩
/-- what a register's method leaves, by roles -/
abbrev bRW : zWr := [(10467670466806212499117480599707713536, 256)]
theorem bRW_of (W : mW G) {Ks : List Nat} (hK : ∀ q ∈ Ks, q = 2074 ∨ q = 2075 ∨ q = 2076 ∨ q = 2077 ∨ q = 2078 ∨ q = 2079) (h : yNx G Ks a b) : bAx G bRW a b := ⟨h.1, h.2.1, fun k j hk hw => h.2.2 k j fun hm => by
  have key : ∀ c r, bRo G r c → bAll bRW r = true → k ≠ c := fun c r h1 h2 e => by
    subst e
    rw [h1.2, bAll_ok h2] at hw
    cases hw
  rcases hK k hm with rfl | rfl | rfl | rfl | rfl | rfl
  · exact key _ _ (s_M_big W) (by decide) rfl
  · exact key _ _ (s_M_length W) (by decide) rfl
  · exact key _ _ (s_M_sign W) (by decide) rfl
  · exact key _ _ (s_M_product W) (by decide) rfl
  · exact key _ _ (s_M_upper W) (by decide) rfl
  · exact key _ _ (s_M_lower W) (by decide) rfl⟩
noncomputable def yE (b : Nat) : Int := ((2 ^ b : Nat) : Int)
theorem yE_pos (b : Nat) : 1 ≤ yE b := by
  have := Nat.two_pow_pos b
  unfold yE
  omega
theorem yE_mono {x y : Nat} (h : x ≤ y) : yE x ≤ yE y := by
  have := Nat.pow_le_pow_right (n := 2) (by decide) h
  unfold yE
  omega
theorem yE_add (x y : Nat) : yE (x + y) = yE x * yE y := by
  unfold yE
  rw [Nat.pow_add, Int.natCast_mul]
theorem yE_succ (x : Nat) : yE (x + 1) = 2 * yE x := by
  rw [yE_add, Int.mul_comm]
  rfl
theorem yE_top : yE 7653 ≤ yB 256 := by
  rw [yB256]
  have : (2 ^ 7653 : Nat) ≤ yBM := by decide +kernel
  unfold yE
  omega
theorem yE_all : yB 256 ≤ yE 7654 := by
  rw [yB256]
  have : yBM ≤ (2 ^ 7654 : Nat) := by decide +kernel
  unfold yE
  omega
/-- sizes of registers, by groups -/
def bTb (r : Nat) : Nat := cond (Nat.blt r 52) 217 (cond (Nat.blt r 148) 558 (cond (Nat.blt r 184) 310 (cond (Nat.blt r 188) 960 (cond (Nat.blt r 204) 7654 (cond (Nat.blt r 208) 1610 (cond (Nat.blt r 212) 3230 (cond (Nat.blt r 232) 7654 (cond (Nat.blt r 256) 3230 7654))))))))
def yBd (hp : xH) (r b : Nat) : Prop := yNorm hp r ∧ ymag hp r < yE b
def bRg (G : zW) (hp : xH) : Prop := mW G ∧ zTy G hp ∧ ∀ r, r < 3412 → yBd hp r (bTb r)
theorem yBd.mono {r x y : Nat} (h : yBd hp r x) (e : x ≤ y) : yBd hp r y := ⟨h.1, Int.lt_of_lt_of_le h.2 (yE_mono e)⟩
theorem yBd.all (W : yMW G) (hT : zTy G hp) {r : Nat} (hr : r < 3412) (h : yNorm hp r) : yBd hp r 7654 := ⟨h, Int.lt_of_lt_of_le (by rw [yB256]; exact ymag_top W hT hr) yE_all⟩
theorem yBd.same (W : yMW G) (hT : zTy G hp) {r x : Nat} (hr : r < 3412) (h : yBd hp r x) (s : ySm hp hp' r) : yBd hp' r x := ⟨s.norm (yL_bd W hT hr).2 h.1, by rw [s.mag (yL_bd W hT hr).2]; exact h.2⟩
/-- registers are not touched -/
theorem bRg_same {Wl : zWr} (hA : bAx G Wl a b) (W : mW G) (hw : (bNo Wl 117 && (bNo Wl 118 && bNo Wl 119)) = true) (r : Nat) : ySm a b r := by
  obtain ⟨w1, w2⟩ := and_true' hw
  obtain ⟨w2, w3⟩ := and_true' w2
  exact ⟨hA.ys (s_M_length W) (bNo_ok w2 _), hA.ys (s_M_sign W) (bNo_ok w3 _), fun k _ => hA.ys (s_M_big W) (bNo_ok w1 _)⟩
theorem bRg.fr {Wl : zWr} (h : bRg G a) (hA : bAx G Wl a b) (hw : (bNo Wl 117 && (bNo Wl 118 && bNo Wl 119)) = true) : bRg G b := ⟨h.1, hA.1, fun r hr => (h.2.2 r hr).same h.1.y h.2.1 hr (bRg_same hA h.1 hw r)⟩
/-- what an operation on registers leaves: r has at most b bits, others (but some scratch) are the same -/
def bQg (G : zW) (hp : xH) (r b : Nat) (X : Nat → Prop) (rv : Option xA) (hp' : xH) : Prop := rv = none ∧ bAx G bRW hp hp' ∧ bRg G hp' ∧ yBd hp' r b ∧ ∀ s, s ≠ r → X s → ySm hp hp' s
theorem bQg_of (W : mW G) (hT : zTy G hp) (M : bRg G hp) {Ks : List Nat} {r x : Nat} {v : Int} {X : Nat → Prop} (hK : ∀ q ∈ Ks, q = 2074 ∨ q = 2075 ∨ q = 2076 ∨ q = 2077 ∨ q = 2078 ∨ q = 2079) (hr : r < 3412) (h1 : yNx G Ks hp hp') (h2 : ∀ s, s ≠ r → X s → ySm hp hp' s) (hX : ∀ s, s < 3412 → ¬ X s → s ≠ r → bTb s = 7654 ∧ yNorm hp' s) (h3 : yval hp' r = v) (h4 : yNorm hp' r) (h5 : -(yE x) < v) (h6 : v < yE x) (h7 : x ≤ bTb r) : bQg G hp r x X none hp' := by
  have hv := yval_abs W.y h1.1 hr h3 h4
  have hb : yBd hp' r x := ⟨h4, by
    rcases Int.lt_or_le v 0 with e | e
    · rw [hv.2 e]; omega
    · rw [hv.1 e]; exact h6⟩
  refine ⟨rfl, bRW_of W hK h1, ⟨W, h1.1, fun s hs => ?_⟩, hb, h2⟩
  by_cases e : s = r
  · rw [e]; exact hb.mono h7
  · by_cases e2 : X s
    · exact (M.2.2 s hs).same W.y hT hs (h2 s e e2)
    · obtain ⟨e3, e4⟩ := hX s hs e2 e
      rw [e3]
      exact yBd.all W.y h1.1 hs e4
theorem yval_lt (W : yMW G) (hT : zTy G hp) {r x : Nat} (hr : r < 3412) (h : yBd hp r x) : -(yE x) < yval hp r ∧ yval hp r < yE x := by
  have h1 := yS_bd W hT hr
  have h2 := (ymag_bd W hT hr).1
  have h3 := h.2
  have hs : yS hp r = -1 ∨ yS hp r = 0 ∨ yS hp r = 1 := by omega
  unfold yval
  rcases hs with e | e | e <;> rw [e] <;> omega
theorem yMulLt {u v A B : Int} (hu : -A < u ∧ u < A) (hv : -B < v ∧ v < B) (hA : 1 ≤ A) (hB : 1 ≤ B) : -(A * B) < u * v ∧ u * v < A * B := by
  have key : ∀ x y : Int, 0 ≤ x → x < A → 0 ≤ y → y < B → x * y < A * B := fun x y hx hx2 hy hy2 => by
    have h1 : x * y ≤ x * (B - 1) := Int.mul_le_mul_of_nonneg_left (by omega) hx
    have h2 : x * (B - 1) ≤ (A - 1) * (B - 1) := Int.mul_le_mul_of_nonneg_right (by omega) (by omega)
    have h3 : (A - 1) * (B - 1) = A * B - A - B + 1 := by rw [Int.sub_mul, Int.mul_sub, Int.mul_sub]; omega
    omega
  rcases Int.le_total 0 u with h1 | h1 <;> rcases Int.le_total 0 v with h2 | h2
  · have := key u v h1 hu.2 h2 hv.2
    have := Int.mul_nonneg h1 h2
    omega
  · have := key u (-v) h1 hu.2 (by omega) (by omega)
    have := Int.mul_nonneg h1 (show 0 ≤ -v by omega)
    rw [Int.mul_neg] at *
    omega
  · have := key (-u) v (by omega) (by omega) h2 hv.2
    have := Int.mul_nonneg (show 0 ≤ -u by omega) h2
    rw [Int.neg_mul] at *
    omega
  · have := key (-u) (-v) (by omega) (by omega) (by omega) (by omega)
    have := Int.mul_nonneg (show 0 ≤ -u by omega) (show 0 ≤ -v by omega)
    rw [Int.neg_mul, Int.mul_neg, Int.neg_neg] at *
    omega
theorem r_times (W : mW G) (d : Nat) (hT : zTy G hp) (M : bRg G hp) {r p q : Int} {x y : Nat} (hr : 0 ≤ r ∧ r < 3412) (hp9 : 0 ≤ p ∧ p < 3412) (hq9 : 0 ≤ q ∧ q < 3412) (A : yBd hp p.toNat x) (B : yBd hp q.toNat y) (h : x + y ≤ 7653) (h2 : x + y ≤ bTb r.toNat) : yC (xcall 89 xfts xpools xms (d + 1)) 531 [yR 2073, yI r, yI p, yI q] hp (bQg G hp r.toNat (x + y) (fun _ => True)) := by
  obtain ⟨r, rfl⟩ : ∃ m : Nat, r = (m : Int) := ⟨r.toNat, by omega⟩
  obtain ⟨p, rfl⟩ : ∃ m : Nat, p = (m : Int) := ⟨p.toNat, by omega⟩
  obtain ⟨q, rfl⟩ : ∃ m : Nat, q = (m : Int) := ⟨q.toNat, by omega⟩
  have hr : r < 3412 := by omega
  have hp9 : p < 3412 := by omega
  have hq9 : q < 3412 := by omega
  have A : yBd hp p x := A
  have B : yBd hp q y := B
  have h2 : x + y ≤ bTb r := h2
  have b1 := (ymag_bd W.y hT hp9).1
  have b2 := (ymag_bd W.y hT hq9).1
  have hm : ymag hp p * ymag hp q < yB 256 := by
    have := (yMulLt ⟨show -(yE x) < ymag hp p by have := yE_pos x; omega, A.2⟩ ⟨show -(yE y) < ymag hp q by have := yE_pos y; omega, B.2⟩ (yE_pos x) (yE_pos y)).2
    rw [← yE_add] at this
    have e := yE_mono h
    have := yE_top
    omega
  obtain ⟨rv, hp', c1, rfl, c2, c3, c4, c5⟩ := y_times W.y d hT hr hp9 hq9 A.1 B.1 hm
  have e := yMulLt (yval_lt W.y hT hp9 A) (yval_lt W.y hT hq9 B) (yE_pos x) (yE_pos y)
  rw [← yE_add] at e
  exact ⟨none, hp', c1, bQg_of W hT M (by decide) hr c2 (fun s hs _ => c3 s hs) (fun s _ n => absurd trivial n) c4 c5 e.1 e.2 h2⟩
theorem r_put (W : mW G) (d : Nat) (hT : zTy G hp) (M : bRg G hp) {r v : Int} {x : Nat} (hr : 0 ≤ r ∧ r < 3412) (h1 : -(yE x) < v) (h2 : v < yE x) (h3 : x ≤ 63) (h4 : x ≤ bTb r.toNat) : yC (xcall 89 xfts xpools xms (d + 1)) 485 [yR 2073, yI r, yJ v] hp (bQg G hp r.toNat x (fun _ => True)) := by
  obtain ⟨r, rfl⟩ : ∃ m : Nat, r = (m : Int) := ⟨r.toNat, by omega⟩
  have hr : r < 3412 := by omega
  have e := yE_mono h3
  have e2 : yE 63 = 9223372036854775808 := by unfold yE; decide +kernel
  obtain ⟨rv, hp', c1, rfl, c2, c3, c4, c5⟩ := y_put W.y d hT hr (v := v) (by omega) (by omega)
  exact ⟨none, hp', c1, bQg_of W hT M (by decide) hr c2 (fun s hs _ => c3 s hs) (fun s _ n => absurd trivial n) c4 c5 h1 h2 h4⟩
theorem r_plus (W : mW G) (d : Nat) (hT : zTy G hp) (M : bRg G hp) {r p q t : Int} {x : Nat} (hr : 0 ≤ r ∧ r < 3412) (hp9 : 0 ≤ p ∧ p < 3412) (hq9 : 0 ≤ q ∧ q < 3412) (ht : t = 1 ∨ t = -1) (A : yBd hp p.toNat x) (B : yBd hp q.toNat x) (h : x + 1 ≤ 7653) (h2 : x + 1 ≤ bTb r.toNat) : yC (xcall 89 xfts xpools xms (d + 2)) 481 [yR 2073, yI r, yI p, yI q, yI t] hp (bQg G hp r.toNat (x + 1) (fun _ => True)) := by
  obtain ⟨r, rfl⟩ : ∃ m : Nat, r = (m : Int) := ⟨r.toNat, by omega⟩
  obtain ⟨p, rfl⟩ : ∃ m : Nat, p = (m : Int) := ⟨p.toNat, by omega⟩
  obtain ⟨q, rfl⟩ : ∃ m : Nat, q = (m : Int) := ⟨q.toNat, by omega⟩
  have hr : r < 3412 := by omega
  have hp9 : p < 3412 := by omega
  have hq9 : q < 3412 := by omega
  have A : yBd hp p x := A
  have B : yBd hp q x := B
  have e := yE_mono h
  have e1 := yE_succ x
  have e2 := yE_top
  have e3 := A.2
  have e4 := B.2
  obtain ⟨rv, hp', c1, rfl, c2, c3, c4, c5⟩ := y_plus W.y d hT hr hp9 hq9 ht A.1 B.1 (by omega)
  have f1 := yval_lt W.y hT hp9 A
  have f2 := yval_lt W.y hT hq9 B
  refine ⟨none, hp', c1, bQg_of W hT M (by decide) hr c2 (fun s hs _ => c3 s hs) (fun s _ n => absurd trivial n) c4 c5 ?_ ?_ h2⟩
  · rcases ht with rfl | rfl
    · rw [Int.one_mul]; omega
    · rw [Int.neg_mul, Int.one_mul]; omega
  · rcases ht with rfl | rfl
    · rw [Int.one_mul]; omega
    · rw [Int.neg_mul, Int.one_mul]; omega
theorem r_compare (W : mW G) (d : Nat) (hT : zTy G hp) (M : bRg G hp) {p q : Int} (hp9 : 0 ≤ p ∧ p < 3412) (hq9 : 0 ≤ q ∧ q < 3412) : yC (xcall 89 xfts xpools xms (d + 2)) 373 [yR 2073, yI p, yI q] hp (yQ_cmp hp p.toNat q.toNat) := by
  obtain ⟨p, rfl⟩ : ∃ m : Nat, p = (m : Int) := ⟨p.toNat, by omega⟩
  obtain ⟨q, rfl⟩ : ∃ m : Nat, q = (m : Int) := ⟨q.toNat, by omega⟩
  have hp9 : p < 3412 := by omega
  have hq9 : q < 3412 := by omega
  exact y_compare W.y d hT hp9 hq9 (M.2.2 p hp9).1 (M.2.2 q hq9).1
theorem r_copy (W : mW G) (d : Nat) (hT : zTy G hp) (M : bRg G hp) {r p : Int} {x : Nat} (hr : 0 ≤ r ∧ r < 3412) (hp9 : 0 ≤ p ∧ p < 3412) (A : yBd hp p.toNat x) (h2 : x ≤ bTb r.toNat) : yC (xcall 89 xfts xpools xms (d + 1)) 376 [yR 2073, yI r, yI p] hp (bQg G hp r.toNat x (fun _ => True)) := by
  obtain ⟨r, rfl⟩ : ∃ m : Nat, r = (m : Int) := ⟨r.toNat, by omega⟩
  obtain ⟨p, rfl⟩ : ∃ m : Nat, p = (m : Int) := ⟨p.toNat, by omega⟩
  have hr : r < 3412 := by omega
  have hp9 : p < 3412 := by omega
  have A : yBd hp p x := A
  obtain ⟨rv, hp', c1, c2⟩ := y_copy W.y d hT hr hp9
  obtain ⟨e1, e2, e3⟩ := ycopy_mag (yL_bd W.y hT hp9).2 c2
  obtain ⟨rfl, c3, c4, c5, c6, c7⟩ := c2
  have f1 := yval_lt W.y hT hp9 A
  have hn : yNorm hp' r := ⟨e2 A.1.1, by rw [c5, c6]; exact A.1.2⟩
  exact ⟨none, hp', c1, bQg_of W hT M (by decide) hr c3 (fun s hs _ => c4 s hs) (fun s _ n => absurd trivial n) e3 hn f1.1 f1.2 h2⟩
end MRegs
