/-! ===== the reference's registers: all normed, their sizes by a table ===== -/
section MRegs
variable {G : zW} {hp hp' a b c : xH} {k : Nat}
theorem mR1 {k cls j r c : Nat} (hj : j < 256) (hF : yFd G k cls j (2, (((2 ^ r : Nat) : Int), 0))) (hu : ∀ q, bRo G r q → q = c) : yFR G k cls j c := ⟨hj, hF.ob, fun hp hT => by
  obtain ⟨k', h1, h2⟩ := bFdO (own := 0) hF hT
  rw [h2, hu k' h1]⟩
theorem mW.y (W : mW G) : yMW G := by
  refine ⟨bOb (d_M W) (s_M W), fun q hq => ?_⟩
  have hq : q = (1, (2074, (873472, (0, (0, 999999999))))) ∨ q = (2, (2075, (3412, (0, (0, 256))))) ∨ q = (3, (2076, (3412, (0, (-1, 1))))) ∨ q = (4, (2077, (512, (0, (0, 999999999))))) ∨ q = (5, (2078, (258, (0, (0, 999999999))))) ∨ q = (6, (2079, (258, (0, (0, 999999999))))) := by
    unfold yML at hq
    simp only [List.mem_cons, List.not_mem_nil, or_false] at hq
    exact hq
  rcases hq with rfl | rfl | rfl | rfl | rfl | rfl
  · exact ⟨mR1 (by decide) (w_M_big W (s_M W)) fun q h => u_M_big W h, v_M_big W (s_M_big W)⟩
  · exact ⟨mR1 (by decide) (w_M_length W (s_M W)) fun q h => u_M_length W h, v_M_length W (s_M_length W)⟩
  · exact ⟨mR1 (by decide) (w_M_sign W (s_M W)) fun q h => u_M_sign W h, v_M_sign W (s_M_sign W)⟩
  · exact ⟨mR1 (by decide) (w_M_product W (s_M W)) fun q h => u_M_product W h, v_M_product W (s_M_product W)⟩
  · exact ⟨mR1 (by decide) (w_M_upper W (s_M W)) fun q h => u_M_upper W h, v_M_upper W (s_M_upper W)⟩
  · exact ⟨mR1 (by decide) (w_M_lower W (s_M W)) fun q h => u_M_lower W h, v_M_lower W (s_M_lower W)⟩
/-- what a register's method leaves, by roles -/
abbrev bRW : zWr := [(10467670466806212499117480599707713536, 256)]
theorem bRW_of (W : mW G) {Ks : List Nat} (hK : ∀ q ∈ Ks, q = 2074 ∨ q = 2075 ∨ q = 2076 ∨ q = 2077 ∨ q = 2078 ∨ q = 2079) (h : yNx G Ks a b) : bAx G bRW a b := ⟨h.1, h.2.1, fun k j hk hw => h.2.2 k j fun hm => by
  have key : ∀ c r, bRo G r c → bAll bRW r = true → k ≠ c := fun c r h1 h2 e => by
    subst e
    rw [h1.2, bAll_ok h2] at hw
    cases hw
  rcases hK k hm with rfl | rfl | rfl | rfl | rfl | rfl
  · exact key _ _ (s_M_big W) (by decide) rfl
  · exact key _ _ (s_M_length W) (by decide) rfl
  · exact key _ _ (s_M_sign W) (by decide) rfl
  · exact key _ _ (s_M_product W) (by decide) rfl
  · exact key _ _ (s_M_upper W) (by decide) rfl
  · exact key _ _ (s_M_lower W) (by decide) rfl⟩
noncomputable def yE (b : Nat) : Int := ((2 ^ b : Nat) : Int)
theorem yE_pos (b : Nat) : 1 ≤ yE b := by
  have := Nat.two_pow_pos b
  unfold yE
  omega
theorem yE_mono {x y : Nat} (h : x ≤ y) : yE x ≤ yE y := by
  have := Nat.pow_le_pow_right (n := 2) (by decide) h
  unfold yE
  omega
theorem yE_add (x y : Nat) : yE (x + y) = yE x * yE y := by
  unfold yE
  rw [Nat.pow_add, Int.natCast_mul]
theorem yE_succ (x : Nat) : yE (x + 1) = 2 * yE x := by
  rw [yE_add, Int.mul_comm]
  rfl
theorem yE_top : yE 7653 ≤ yB 256 := by
  rw [yB256]
  have : (2 ^ 7653 : Nat) ≤ yBM := by decide +kernel
  unfold yE
  omega
theorem yE_all : yB 256 ≤ yE 7654 := by
  rw [yB256]
  have : yBM ≤ (2 ^ 7654 : Nat) := by decide +kernel
  unfold yE
  omega
/-- sizes of registers, by groups -/
def bGrp : List (Nat × Nat) := [(52, 217), (148, 558), (184, 310), (188, 960), (190, 7654), (202, 3810), (204, 7654), (208, 1610), (212, 3230), (232, 7654), (248, 3810), (256, 3230), (264, 7654), (712, 236), (1160, 473), (1608, 947), (2056, 1895), (2504, 3791), (2952, 7583), (2994, 11), (3036, 248), (3078, 722), (3120, 1670), (3162, 3566), (3204, 7358), (3212, 7410), (3220, 7142), (3228, 6664), (3236, 5712), (3244, 3812), (3252, 15), (3412, 217)]
def bLook : List (Nat × Nat) → Nat → Nat
  | [], _ => 7654
  | q :: t, r => cond (Nat.blt r q.1) q.2 (bLook t r)
def bTb (r : Nat) : Nat := bLook bGrp r
/-- something of the sizes of all registers from a to b - 1 -/
def bOv (f : Nat → Bool) (a b : Nat) : List (Nat × Nat) → Nat → Bool
  | [], lo => !(Nat.blt lo b) || f 7654
  | q :: t, lo => (!(Nat.blt a q.1 && Nat.blt lo b) || f q.2) && bOv f a b t q.1
theorem bOv_ok {f : Nat → Bool} {a b r : Nat} (h1 : a ≤ r) (h2 : r < b) : ∀ (l : List (Nat × Nat)) (lo : Nat), bOv f a b l lo = true → lo ≤ r → f (bLook l r) = true
  | [], lo, h, hl => by
    have h5 : Nat.blt lo b = true := Nat.ble_eq_true_of_le (show lo + 1 ≤ b by omega)
    have h : (!(Nat.blt lo b) || f 7654) = true := h
    rw [h5] at h
    exact h
  | q :: t, lo, h, hl => by
    obtain ⟨e1, e2⟩ := and_true' h
    show f (cond (Nat.blt r q.1) q.2 (bLook t r)) = true
    cases hb : Nat.blt r q.1 with
    | true =>
      rw [cond_true]
      have h3 : r < q.1 := Nat.le_of_ble_eq_true hb
      have h4 : Nat.blt a q.1 = true := Nat.ble_eq_true_of_le (show a + 1 ≤ q.1 by omega)
      have h5 : Nat.blt lo b = true := Nat.ble_eq_true_of_le (show lo + 1 ≤ b by omega)
      rw [h4, h5] at e1
      exact e1
    | false =>
      rw [cond_false]
      refine bOv_ok h1 h2 t q.1 e2 ?_
      rcases Nat.lt_or_ge r q.1 with h3 | h3
      · have : Nat.blt r q.1 = true := Nat.ble_eq_true_of_le (show r + 1 ≤ q.1 by omega)
        rw [this] at hb
        cases hb
      · exact h3
theorem bTb_ge {a b x r : Nat} (h : bOv (fun y => Nat.ble x y) a b bGrp 0 = true) (h1 : a ≤ r) (h2 : r < b) : x ≤ bTb r := Nat.le_of_ble_eq_true (bOv_ok h1 h2 bGrp 0 h (Nat.zero_le _))
theorem bTb_le {a b x r : Nat} (h : bOv (fun y => Nat.ble y x) a b bGrp 0 = true) (h1 : a ≤ r) (h2 : r < b) : bTb r ≤ x := Nat.le_of_ble_eq_true (bOv_ok h1 h2 bGrp 0 h (Nat.zero_le _))
theorem bTb_all (r : Nat) : bTb r ≤ 7654 := bTb_le (a := 0) (b := r + 1) (by
  have : ∀ (l : List (Nat × Nat)) (lo : Nat), l.all (fun q => Nat.ble q.2 7654) = true → bOv (fun y => Nat.ble y 7654) 0 (r + 1) l lo = true := fun l => by
    induction l with
    | nil => intro lo _; exact Bool.or_true _
    | cons q t ih =>
      intro lo h
      obtain ⟨e1, e2⟩ := and_true' (show (Nat.ble q.2 7654 && t.all (fun q => Nat.ble q.2 7654)) = true from h)
      show ((!(Nat.blt 0 q.1 && Nat.blt lo (r + 1)) || Nat.ble q.2 7654) && bOv _ _ _ t q.1) = true
      rw [e1, ih q.1 e2, Bool.or_true]
      rfl
  exact this bGrp 0 (by decide)) (Nat.zero_le _) (Nat.lt_succ_self _)
def yBd (hp : xH) (r b : Nat) : Prop := yNorm hp r ∧ ymag hp r < yE b
def bRg (G : zW) (hp : xH) : Prop := mW G ∧ zTy G hp ∧ ∀ r, r < 3412 → yBd hp r (bTb r)
theorem yBd.mono {r x y : Nat} (h : yBd hp r x) (e : x ≤ y) : yBd hp r y := ⟨h.1, Int.lt_of_lt_of_le h.2 (yE_mono e)⟩
theorem yBd.all (W : yMW G) (hT : zTy G hp) {r : Nat} (hr : r < 3412) (h : yNorm hp r) : yBd hp r 7654 := ⟨h, Int.lt_of_lt_of_le (by rw [yB256]; exact ymag_top W hT hr) yE_all⟩
theorem yBd.same (W : yMW G) (hT : zTy G hp) {r x : Nat} (hr : r < 3412) (h : yBd hp r x) (s : ySm hp hp' r) : yBd hp' r x := ⟨s.norm (yL_bd W hT hr).2 h.1, by rw [s.mag (yL_bd W hT hr).2]; exact h.2⟩
/-- a register's size by the table -/
theorem bRg.at {a b x r : Nat} (M : bRg G hp) (h : bOv (fun y => Nat.ble y x) a b bGrp 0 = true) (h1 : a ≤ r) (h2 : r < b) (h3 : b ≤ 3412) : yBd hp r x := (M.2.2 r (by omega)).mono (bTb_le h h1 h2)
/-- registers are not touched -/
theorem bRg_same {Wl : zWr} (hA : bAx G Wl a b) (W : mW G) (hw : (bNo Wl 117 && (bNo Wl 118 && bNo Wl 119)) = true) (r : Nat) : ySm a b r := by
  obtain ⟨w1, w2⟩ := and_true' hw
  obtain ⟨w2, w3⟩ := and_true' w2
  exact ⟨hA.ys (s_M_length W) (bNo_ok w2 _), hA.ys (s_M_sign W) (bNo_ok w3 _), fun k _ => hA.ys (s_M_big W) (bNo_ok w1 _)⟩
theorem bRg.fr {Wl : zWr} (h : bRg G a) (hA : bAx G Wl a b) (hw : (bNo Wl 117 && (bNo Wl 118 && bNo Wl 119)) = true) : bRg G b := ⟨h.1, hA.1, fun r hr => (h.2.2 r hr).same h.1.y h.2.1 hr (bRg_same hA h.1 hw r)⟩
/-- what an operation on registers leaves: r has at most b bits and is v, others (but some scratch) are the same -/
def bQg (G : zW) (hp : xH) (r b : Nat) (v : Int) (X : Nat → Prop) (rv : Option xA) (hp' : xH) : Prop := rv = none ∧ bAx G bRW hp hp' ∧ bRg G hp' ∧ yBd hp' r b ∧ yval hp' r = v ∧ ∀ s, s ≠ r → X s → ySm hp hp' s
theorem bQg_of (W : mW G) (hT : zTy G hp) (M : bRg G hp) {Ks : List Nat} {r x : Nat} {v : Int} {X : Nat → Prop} (hK : ∀ q ∈ Ks, q = 2074 ∨ q = 2075 ∨ q = 2076 ∨ q = 2077 ∨ q = 2078 ∨ q = 2079) (hr : r < 3412) (h1 : yNx G Ks hp hp') (h2 : ∀ s, s ≠ r → X s → ySm hp hp' s) (hX : ∀ s, s < 3412 → ¬ X s → s ≠ r → bTb s = 7654 ∧ yNorm hp' s) (h3 : yval hp' r = v) (h4 : yNorm hp' r) (h5 : -(yE x) < v) (h6 : v < yE x) (h7 : x ≤ bTb r) : bQg G hp r x v X none hp' := by
  have hv := yval_abs W.y h1.1 hr h3 h4
  have hb : yBd hp' r x := ⟨h4, by
    rcases Int.lt_or_le v 0 with e | e
    · rw [hv.2 e]; omega
    · rw [hv.1 e]; exact h6⟩
  refine ⟨rfl, bRW_of W hK h1, ⟨W, h1.1, fun s hs => ?_⟩, hb, h3, h2⟩
  by_cases e : s = r
  · rw [e]; exact hb.mono h7
  · by_cases e2 : X s
    · exact (M.2.2 s hs).same W.y hT hs (h2 s e e2)
    · obtain ⟨e3, e4⟩ := hX s hs e2 e
      rw [e3]
      exact yBd.all W.y h1.1 hs e4
theorem yval_lt (W : yMW G) (hT : zTy G hp) {r x : Nat} (hr : r < 3412) (h : yBd hp r x) : -(yE x) < yval hp r ∧ yval hp r < yE x := by
  have h1 := yS_bd W hT hr
  have h2 := (ymag_bd W hT hr).1
  have h3 := h.2
  have hs : yS hp r = -1 ∨ yS hp r = 0 ∨ yS hp r = 1 := by omega
  unfold yval
  rcases hs with e | e | e <;> rw [e] <;> omega
theorem yEb {y : Nat} {c v : Int} (h : ((2 ^ y : Nat) : Int) = c) (h1 : -c < v) (h2 : v < c) : -(yE y) < v ∧ v < yE y := by
  unfold yE
  rw [h]
  exact ⟨h1, h2⟩
theorem yMulLt {u v A B : Int} (hu : -A < u ∧ u < A) (hv : -B < v ∧ v < B) (hA : 1 ≤ A) (hB : 1 ≤ B) : -(A * B) < u * v ∧ u * v < A * B := by
  have key : ∀ x y : Int, 0 ≤ x → x < A → 0 ≤ y → y < B → x * y < A * B := fun x y hx hx2 hy hy2 => by
    have h1 : x * y ≤ x * (B - 1) := Int.mul_le_mul_of_nonneg_left (by omega) hx
    have h2 : x * (B - 1) ≤ (A - 1) * (B - 1) := Int.mul_le_mul_of_nonneg_right (by omega) (by omega)
    have h3 : (A - 1) * (B - 1) = A * B - A - B + 1 := by rw [Int.sub_mul, Int.mul_sub, Int.mul_sub]; omega
    omega
  rcases Int.le_total 0 u with h1 | h1 <;> rcases Int.le_total 0 v with h2 | h2
  · have := key u v h1 hu.2 h2 hv.2
    have := Int.mul_nonneg h1 h2
    omega
  · have := key u (-v) h1 hu.2 (by omega) (by omega)
    have := Int.mul_nonneg h1 (show 0 ≤ -v by omega)
    rw [Int.mul_neg] at *
    omega
  · have := key (-u) v (by omega) (by omega) h2 hv.2
    have := Int.mul_nonneg (show 0 ≤ -u by omega) h2
    rw [Int.neg_mul] at *
    omega
  · have := key (-u) (-v) (by omega) (by omega) (by omega) (by omega)
    have := Int.mul_nonneg (show 0 ≤ -u by omega) (show 0 ≤ -v by omega)
    rw [Int.neg_mul, Int.mul_neg, Int.neg_neg] at *
    omega
theorem r_times (W : mW G) (d : Nat) (hT : zTy G hp) (M : bRg G hp) {k0 : Nat} (H0 : bRo G 116 k0) {r p q : Int} {x y : Nat} (hr : 0 ≤ r ∧ r < 3412) (hp9 : 0 ≤ p ∧ p < 3412) (hq9 : 0 ≤ q ∧ q < 3412) (A : yBd hp p.toNat x) (B : yBd hp q.toNat y) (h : x + y ≤ 7653) (h2 : x + y ≤ bTb r.toNat) : yC (xcall 89 xfts xpools xms (d + 1)) 531 [yR k0, yI r, yI p, yI q] hp (bQg G hp r.toNat (x + y) (yval hp p.toNat * yval hp q.toNat) (fun _ => True)) := by
  obtain rfl : k0 = 2073 := u_M W H0
  obtain ⟨r, rfl⟩ : ∃ m : Nat, r = (m : Int) := ⟨r.toNat, by omega⟩
  obtain ⟨p, rfl⟩ : ∃ m : Nat, p = (m : Int) := ⟨p.toNat, by omega⟩
  obtain ⟨q, rfl⟩ : ∃ m : Nat, q = (m : Int) := ⟨q.toNat, by omega⟩
  simp only [Int.toNat_natCast] at *
  have hr : r < 3412 := by omega
  have hp9 : p < 3412 := by omega
  have hq9 : q < 3412 := by omega
  have A : yBd hp p x := A
  have B : yBd hp q y := B
  have h2 : x + y ≤ bTb r := h2
  have b1 := (ymag_bd W.y hT hp9).1
  have b2 := (ymag_bd W.y hT hq9).1
  have hm : ymag hp p * ymag hp q < yB 256 := by
    have := (yMulLt ⟨show -(yE x) < ymag hp p by have := yE_pos x; omega, A.2⟩ ⟨show -(yE y) < ymag hp q by have := yE_pos y; omega, B.2⟩ (yE_pos x) (yE_pos y)).2
    rw [← yE_add] at this
    have e := yE_mono h
    have := yE_top
    omega
  obtain ⟨rv, hp', c1, rfl, c2, c3, c4, c5⟩ := y_times W.y d hT hr hp9 hq9 A.1 B.1 hm
  have e := yMulLt (yval_lt W.y hT hp9 A) (yval_lt W.y hT hq9 B) (yE_pos x) (yE_pos y)
  rw [← yE_add] at e
  exact ⟨none, hp', c1, bQg_of W hT M (by decide) hr c2 (fun s hs _ => c3 s hs) (fun s _ n => absurd trivial n) c4 c5 e.1 e.2 h2⟩
theorem r_put (W : mW G) (d : Nat) (hT : zTy G hp) (M : bRg G hp) {k0 : Nat} (H0 : bRo G 116 k0) {r v : Int} {x : Nat} (hr : 0 ≤ r ∧ r < 3412) (hv : -(yE x) < v ∧ v < yE x) (h3 : x ≤ 63) (h4 : x ≤ bTb r.toNat) : yC (xcall 89 xfts xpools xms (d + 1)) 485 [yR k0, yI r, yJ v] hp (bQg G hp r.toNat x v (fun _ => True)) := by
  obtain rfl : k0 = 2073 := u_M W H0
  obtain ⟨r, rfl⟩ : ∃ m : Nat, r = (m : Int) := ⟨r.toNat, by omega⟩
  simp only [Int.toNat_natCast] at *
  have hr : r < 3412 := by omega
  have e := yE_mono h3
  have e2 : yE 63 = 9223372036854775808 := by unfold yE; decide +kernel
  obtain ⟨h1, h2⟩ := hv
  obtain ⟨rv, hp', c1, rfl, c2, c3, c4, c5⟩ := y_put W.y d hT hr (v := v) (by omega) (by omega)
  exact ⟨none, hp', c1, bQg_of W hT M (by decide) hr c2 (fun s hs _ => c3 s hs) (fun s _ n => absurd trivial n) c4 c5 h1 h2 h4⟩
theorem r_plus (W : mW G) (d : Nat) (hT : zTy G hp) (M : bRg G hp) {k0 : Nat} (H0 : bRo G 116 k0) {r p q t : Int} {x : Nat} (hr : 0 ≤ r ∧ r < 3412) (hp9 : 0 ≤ p ∧ p < 3412) (hq9 : 0 ≤ q ∧ q < 3412) (ht : t = 1 ∨ t = -1) (A : yBd hp p.toNat x) (B : yBd hp q.toNat x) (h : x + 1 ≤ 7653) (h2 : x + 1 ≤ bTb r.toNat) : yC (xcall 89 xfts xpools xms (d + 2)) 481 [yR k0, yI r, yI p, yI q, yI t] hp (bQg G hp r.toNat (x + 1) (yval hp p.toNat + t * yval hp q.toNat) (fun _ => True)) := by
  obtain rfl : k0 = 2073 := u_M W H0
  obtain ⟨r, rfl⟩ : ∃ m : Nat, r = (m : Int) := ⟨r.toNat, by omega⟩
  obtain ⟨p, rfl⟩ : ∃ m : Nat, p = (m : Int) := ⟨p.toNat, by omega⟩
  obtain ⟨q, rfl⟩ : ∃ m : Nat, q = (m : Int) := ⟨q.toNat, by omega⟩
  simp only [Int.toNat_natCast] at *
  have hr : r < 3412 := by omega
  have hp9 : p < 3412 := by omega
  have hq9 : q < 3412 := by omega
  have A : yBd hp p x := A
  have B : yBd hp q x := B
  have e := yE_mono h
  have e1 := yE_succ x
  have e2 := yE_top
  have e3 := A.2
  have e4 := B.2
  obtain ⟨rv, hp', c1, rfl, c2, c3, c4, c5⟩ := y_plus W.y d hT hr hp9 hq9 ht A.1 B.1 (by omega)
  have f1 := yval_lt W.y hT hp9 A
  have f2 := yval_lt W.y hT hq9 B
  refine ⟨none, hp', c1, bQg_of W hT M (by decide) hr c2 (fun s hs _ => c3 s hs) (fun s _ n => absurd trivial n) c4 c5 ?_ ?_ h2⟩
  · rcases ht with rfl | rfl
    · rw [Int.one_mul]; omega
    · rw [Int.neg_mul, Int.one_mul]; omega
  · rcases ht with rfl | rfl
    · rw [Int.one_mul]; omega
    · rw [Int.neg_mul, Int.one_mul]; omega
theorem r_compare (W : mW G) (d : Nat) (hT : zTy G hp) (M : bRg G hp) {k0 : Nat} (H0 : bRo G 116 k0) {p q : Int} (hp9 : 0 ≤ p ∧ p < 3412) (hq9 : 0 ≤ q ∧ q < 3412) : yC (xcall 89 xfts xpools xms (d + 2)) 373 [yR k0, yI p, yI q] hp (yQ_cmp hp p.toNat q.toNat) := by
  obtain rfl : k0 = 2073 := u_M W H0
  obtain ⟨p, rfl⟩ : ∃ m : Nat, p = (m : Int) := ⟨p.toNat, by omega⟩
  obtain ⟨q, rfl⟩ : ∃ m : Nat, q = (m : Int) := ⟨q.toNat, by omega⟩
  simp only [Int.toNat_natCast] at *
  have hp9 : p < 3412 := by omega
  have hq9 : q < 3412 := by omega
  exact y_compare W.y d hT hp9 hq9 (M.2.2 p hp9).1 (M.2.2 q hq9).1
theorem r_compareSizes (W : mW G) (d : Nat) (hT : zTy G hp) (M : bRg G hp) {k0 : Nat} (H0 : bRo G 116 k0) {p q : Int} (hp9 : 0 ≤ p ∧ p < 3412) (hq9 : 0 ≤ q ∧ q < 3412) : yC (xcall 89 xfts xpools xms (d + 1)) 374 [yR k0, yI p, yI q] hp (yQ_cmps hp p.toNat q.toNat) := by
  obtain rfl : k0 = 2073 := u_M W H0
  obtain ⟨p, rfl⟩ : ∃ m : Nat, p = (m : Int) := ⟨p.toNat, by omega⟩
  obtain ⟨q, rfl⟩ : ∃ m : Nat, q = (m : Int) := ⟨q.toNat, by omega⟩
  simp only [Int.toNat_natCast] at *
  have hp9 : p < 3412 := by omega
  have hq9 : q < 3412 := by omega
  exact y_compareSizes W.y d hT hp9 hq9 (M.2.2 p hp9).1.1 (M.2.2 q hq9).1.1
theorem r_copy (W : mW G) (d : Nat) (hT : zTy G hp) (M : bRg G hp) {k0 : Nat} (H0 : bRo G 116 k0) {r p : Int} {x : Nat} (hr : 0 ≤ r ∧ r < 3412) (hp9 : 0 ≤ p ∧ p < 3412) (A : yBd hp p.toNat x) (h2 : x ≤ bTb r.toNat) : yC (xcall 89 xfts xpools xms (d + 1)) 376 [yR k0, yI r, yI p] hp (bQg G hp r.toNat x (yval hp p.toNat) (fun _ => True)) := by
  obtain rfl : k0 = 2073 := u_M W H0
  obtain ⟨r, rfl⟩ : ∃ m : Nat, r = (m : Int) := ⟨r.toNat, by omega⟩
  obtain ⟨p, rfl⟩ : ∃ m : Nat, p = (m : Int) := ⟨p.toNat, by omega⟩
  simp only [Int.toNat_natCast] at *
  have hr : r < 3412 := by omega
  have hp9 : p < 3412 := by omega
  have A : yBd hp p x := A
  obtain ⟨rv, hp', c1, c2⟩ := y_copy W.y d hT hr hp9
  obtain ⟨e1, e2, e3⟩ := ycopy_mag (yL_bd W.y hT hp9).2 c2
  obtain ⟨rfl, c3, c4, c5, c6, c7⟩ := c2
  have f1 := yval_lt W.y hT hp9 A
  have hn : yNorm hp' r := ⟨e2 A.1.1, by rw [c5, c6]; exact A.1.2⟩
  exact ⟨none, hp', c1, bQg_of W hT M (by decide) hr c3 (fun s hs _ => c4 s hs) (fun s _ n => absurd trivial n) e3 hn f1.1 f1.2 h2⟩
theorem bTb_scr {s : Nat} (h : 256 ≤ s ∧ s < 264) : bTb s = 7654 := Nat.le_antisymm (bTb_all s) (bTb_ge (a := 256) (b := 264) (by decide) h.1 h.2)
theorem r_scale (W : mW G) (d : Nat) (hT : zTy G hp) (M : bRg G hp) {k0 : Nat} (H0 : bRo G 116 k0) {r p v : Int} {x y : Nat} (hr : 0 ≤ r ∧ r < 3412) (hp9 : 0 ≤ p ∧ p < 3412) (h9 : p ≠ 259) (A : yBd hp p.toNat x) (hv : -(yE y) < v ∧ v < yE y) (h3 : y ≤ 63) (h : x + y ≤ 7653) (h4 : x + y ≤ bTb r.toNat) : yC (xcall 89 xfts xpools xms (d + 2)) 499 [yR k0, yI r, yI p, yJ v] hp (bQg G hp r.toNat (x + y) (yval hp p.toNat * v) (fun s => s ≠ 259)) := by
  obtain rfl : k0 = 2073 := u_M W H0
  obtain ⟨r, rfl⟩ : ∃ m : Nat, r = (m : Int) := ⟨r.toNat, by omega⟩
  obtain ⟨p, rfl⟩ : ∃ m : Nat, p = (m : Int) := ⟨p.toNat, by omega⟩
  simp only [Int.toNat_natCast] at *
  have hr : r < 3412 := by omega
  have hp9 : p < 3412 := by omega
  have A : yBd hp p x := A
  have h4 : x + y ≤ bTb r := h4
  obtain ⟨h1, h2⟩ := hv
  have e := yE_mono h3
  have e2 : yE 63 = 9223372036854775808 := by unfold yE; decide +kernel
  have b1 := (ymag_bd W.y hT hp9).1
  have hm : ∀ u : Int, 0 ≤ u → u < yE y → ymag hp p * u < yB 256 := fun u h0 h1 => by
    have := (yMulLt ⟨show -(yE x) < ymag hp p by have := yE_pos x; omega, A.2⟩ ⟨show -(yE y) < u by have := yE_pos y; omega, h1⟩ (yE_pos x) (yE_pos y)).2
    rw [← yE_add] at this
    have e := yE_mono h
    have := yE_top
    omega
  obtain ⟨rv, hp', c1, rfl, c2, c3, c4, c5, c6⟩ := y_scale W.y d hT hr hp9 (by omega) A.1 (v := v) (by omega) (by omega) ⟨fun g => hm (-v) (by omega) (by omega), fun g => hm v g h2⟩
  have e := yMulLt (yval_lt W.y hT hp9 A) ⟨h1, h2⟩ (yE_pos x) (yE_pos y)
  rw [← yE_add] at e
  exact ⟨none, hp', c1, bQg_of W hT M (by decide) hr c2 c3 (fun s _ n _ => by
    have : s = 259 := Decidable.byContradiction n
    subst this
    exact ⟨bTb_scr (by omega), c6⟩) c4 c5 e.1 e.2 h4⟩
theorem r_common (W : mW G) (d : Nat) (hT : zTy G hp) (M : bRg G hp) {k0 : Nat} (H0 : bRo G 116 k0) {r p q : Int} (hr : 0 ≤ r ∧ r < 3412) (hp9 : 0 ≤ p ∧ p < 3412) (hq9 : 0 ≤ q ∧ q < 3412) (g1 : p < 256 ∨ 259 ≤ p) (g2 : q < 256 ∨ 259 ≤ q) (h4 : 7654 ≤ bTb r.toNat) : yC (xcall 89 xfts xpools xms (d + 4)) 372 [yR k0, yI r, yI p, yI q] hp (bQg G hp r.toNat 7654 ((Nat.gcd (ymag hp p.toNat).toNat (ymag hp q.toNat).toNat : Nat) : Int) yG3) := by
  obtain rfl : k0 = 2073 := u_M W H0
  obtain ⟨r, rfl⟩ : ∃ m : Nat, r = (m : Int) := ⟨r.toNat, by omega⟩
  obtain ⟨p, rfl⟩ : ∃ m : Nat, p = (m : Int) := ⟨p.toNat, by omega⟩
  obtain ⟨q, rfl⟩ : ∃ m : Nat, q = (m : Int) := ⟨q.toNat, by omega⟩
  simp only [Int.toNat_natCast] at *
  have hr : r < 3412 := by omega
  have hp9 : p < 3412 := by omega
  have hq9 : q < 3412 := by omega
  obtain ⟨rv, hp', c1, rfl, c2, c3, c4, c5, c6, c7⟩ := y_common W.y d hT hr hp9 hq9 (by unfold yG3; omega) (by unfold yG3; omega) (M.2.2 p hp9).1 (M.2.2 q hq9).1 (M.2.2 258 (by omega)).1
  have hb := yval_lt W.y c2.1 hr (yBd.all W.y c2.1 hr c4.2)
  rw [c4.1] at hb
  exact ⟨none, hp', c1, bQg_of W hT M (by decide) hr c2 c3 (fun s _ n _ => by
    have : s = 256 ∨ s = 257 ∨ s = 258 := by unfold yG3 at n; omega
    rcases this with rfl | rfl | rfl
    · exact ⟨bTb_scr (by omega), c5⟩
    · exact ⟨bTb_scr (by omega), c6⟩
    · exact ⟨bTb_scr (by omega), c7⟩) c4.1 c4.2 hb.1 hb.2 h4⟩
theorem r_parts (W : mW G) (d : Nat) (hT : zTy G hp) (M : bRg G hp) {k0 : Nat} (H0 : bRo G 116 k0) {r p q k : Int} {x : Nat} (hr : 0 ≤ r ∧ r < 3412) (hp9 : 0 ≤ p ∧ p < 3412) (hq9 : 0 ≤ q ∧ q < 3412) (g1 : r ≠ 256) (A : yBd hp p.toNat x) (hq0 : 0 < ymag hp q.toNat) (hk : ymag hp p.toNat = ymag hp q.toNat * k) (h4 : x ≤ bTb r.toNat) : yC (xcall 89 xfts xpools xms (d + 4)) 479 [yR k0, yI r, yI p, yI q] hp (bQg G hp r.toNat x (yS hp p.toNat * k) (fun s => s ≠ 256)) := by
  obtain rfl : k0 = 2073 := u_M W H0
  obtain ⟨r, rfl⟩ : ∃ m : Nat, r = (m : Int) := ⟨r.toNat, by omega⟩
  obtain ⟨p, rfl⟩ : ∃ m : Nat, p = (m : Int) := ⟨p.toNat, by omega⟩
  obtain ⟨q, rfl⟩ : ∃ m : Nat, q = (m : Int) := ⟨q.toNat, by omega⟩
  simp only [Int.toNat_natCast] at *
  have hr : r < 3412 := by omega
  have hp9 : p < 3412 := by omega
  have hq9 : q < 3412 := by omega
  have A : yBd hp p x := A
  have hq0 : 0 < ymag hp q := hq0
  have hk : ymag hp p = ymag hp q * k := hk
  obtain ⟨rv, hp', c1, rfl, c2, c3, c4, c5, c6⟩ := y_parts W.y d hT hr hp9 hq9 (by omega) A.1 (M.2.2 q hq9).1 hq0 hk
  have b1 := (ymag_bd W.y hT hp9).1
  have k0 : 0 ≤ k := by
    by_cases h : 0 ≤ k
    · exact h
    · have : ymag hp q * k ≤ ymag hp q * (-1) := Int.mul_le_mul_of_nonneg_left (by omega) (by omega)
      omega
  have k1 : k ≤ ymag hp p := by
    have : 1 * k ≤ ymag hp q * k := Int.mul_le_mul_of_nonneg_right (by omega) k0
    omega
  have hs := yS_bd W.y hT hp9
  have h9 := A.2
  have hs : yS hp p = -1 ∨ yS hp p = 0 ∨ yS hp p = 1 := by omega
  have he := yE_pos x
  exact ⟨none, hp', c1, bQg_of W hT M (by decide) hr c2 c3 (fun s _ n _ => by
    have : s = 256 := Decidable.byContradiction n
    subst this
    exact ⟨bTb_scr (by omega), c6⟩) c4 c5 (by rcases hs with e | e | e <;> rw [e] <;> omega) (by rcases hs with e | e | e <;> rw [e] <;> omega) h4⟩
/-- a fraction in lowest terms: two registers change -/
def bQl (G : zW) (hp : xH) (n e x y : Nat) (rv : Option xA) (hp' : xH) : Prop := rv = none ∧ bAx G bRW hp hp' ∧ bRg G hp' ∧ yBd hp' n x ∧ yBd hp' e y ∧ ∀ s, s ≠ n → s ≠ e → yG5 s → ySm hp hp' s
theorem r_lowest (W : mW G) (d : Nat) (hT : zTy G hp) (M : bRg G hp) {k0 : Nat} (H0 : bRo G 116 k0) {n e : Int} {x y : Nat} (hr : 0 ≤ n ∧ n < 3412) (hq9 : 0 ≤ e ∧ e < 3412) (hne : n ≠ e) (g1 : n < 256 ∨ 260 < n) (g2 : e < 256 ∨ 260 < e) (A : yBd hp n.toNat x) (B : yBd hp e.toNat y) (hy : 1 ≤ y) (h4 : x ≤ bTb n.toNat) (h5 : y ≤ bTb e.toNat) : yC (xcall 89 xfts xpools xms (d + 5)) 448 [yR k0, yI n, yI e] hp (bQl G hp n.toNat e.toNat x y) := by
  obtain rfl : k0 = 2073 := u_M W H0
  obtain ⟨n, rfl⟩ : ∃ m : Nat, n = (m : Int) := ⟨n.toNat, by omega⟩
  obtain ⟨e, rfl⟩ : ∃ m : Nat, e = (m : Int) := ⟨e.toNat, by omega⟩
  simp only [Int.toNat_natCast] at *
  have hr : n < 3412 := by omega
  have hq9 : e < 3412 := by omega
  have A : yBd hp n x := A
  have B : yBd hp e y := B
  have h4 : x ≤ bTb n := h4
  have h5 : y ≤ bTb e := h5
  have g1 : yG5 n := by unfold yG5; omega
  have g2 : yG5 e := by unfold yG5; omega
  have ns : ∀ s, ¬ yG5 s → yNorm hp s := fun s g => (M.2.2 s (by unfold yG5 at g; omega)).1
  have hy2 : 1 < yE y := by
    have := yE_mono hy
    have : yE 1 = 2 := by decide
    omega
  have fin : ∀ hp', yNx G [2074, 2075, 2076, 2078, 2079] hp hp' → (∀ s, s ≠ n → s ≠ e → yG5 s → ySm hp hp' s) → yBd hp' n x → yBd hp' e y → (∀ s, ¬ yG5 s → yNorm hp' s) → bQl G hp n e x y none hp' := fun hp' c2 c3 a b c => by
    refine ⟨rfl, bRW_of W (by decide) c2, ⟨W, c2.1, fun s hs => ?_⟩, a, b, c3⟩
    by_cases e1 : s = n
    · rw [e1]; exact a.mono h4
    · by_cases e2 : s = e
      · rw [e2]; exact b.mono h5
      · by_cases e3 : yG5 s
        · exact (M.2.2 s hs).same W.y hT hs (c3 s e1 e2 e3)
        · rw [bTb_scr (show 256 ≤ s ∧ s < 264 by unfold yG5 at e3; omega)]
          exact yBd.all W.y c2.1 hs (c s e3)
  by_cases hz : yS hp e = 0
  · obtain ⟨rv, hp', c1, rfl, c2, c3, c4, c5, c6, c7, c8⟩ := y_lowest0 W.y d hT hr hq9 (by omega) g1 g2 A.1 B.1 hz ns
    exact ⟨none, hp', c1, fin hp' c2 c3 ⟨c4, Int.lt_of_le_of_lt c6 A.2⟩ ⟨c5, Int.lt_of_le_of_lt c7 hy2⟩ c8⟩
  · obtain ⟨rv, hp', c1, rfl, c2, c3, c4, c5, -, -, c6, c7, -, c8⟩ := y_lowest W.y d hT hr hq9 (by omega) g1 g2 A.1 B.1 hz ns
    exact ⟨none, hp', c1, fin hp' c2 c3 ⟨c4, Int.lt_of_le_of_lt c6 A.2⟩ ⟨c5, Int.lt_of_le_of_lt c7 B.2⟩ c8⟩
/-- a register's sign is turned, or stays -/
theorem r_sgn (W : mW G) (M : bRg G hp) (T : zTy G hp') {ks : Nat} (H : bRo G 119 ks) {i v : Int} (hi : 0 ≤ i ∧ i < 3412) (y : ∀ x j, ys hp' x j = if x = ks ∧ j = i.toNat then v else ys hp x j) (hv : v = ys hp ks i.toNat ∨ v = -ys hp ks i.toNat) : bRg G hp' ∧ (∀ s, s ≠ i.toNat → ySm hp hp' s) ∧ (∀ x, yBd hp i.toNat x → yBd hp' i.toNat x) ∧ yval hp' i.toNat = v * ymag hp i.toNat := by
  obtain rfl : ks = 2076 := u_M_sign W H
  obtain ⟨r, rfl⟩ : ∃ m : Nat, i = (m : Int) := ⟨i.toNat, by omega⟩
  simp only [Int.toNat_natCast] at *
  have hr : r < 3412 := by omega
  have y : ∀ x j, ys hp' x j = if x = 2076 ∧ j = r then v else ys hp x j := y
  have hv : v = yS hp r ∨ v = -yS hp r := hv
  have n := (M.2.2 r hr).1
  have zs := n.sg W.y M.2.1 hr
  obtain ⟨f1, f2, f3⟩ := ysign_set W.y T hr (yL_bd W.y M.2.1 hr).2 (fun s j => yput_ne y (by decide) _) (fun s => yput_ne y (by decide) _) (yput_S (r := r) y) n.1 (by omega)
  have hm : ymag hp' r = ymag hp r := by
    show ysum (yD hp' r) (yL hp' r).toNat = ysum (yD hp r) (yL hp r).toNat
    rw [show yL hp' r = yL hp r from yput_ne y (by decide) _]
    exact ysum_congr fun j _ => yput_ne y (by decide) _
  have key : ∀ x, yBd hp r x → yBd hp' r x := fun x h => ⟨f3, by rw [hm]; exact h.2⟩
  refine ⟨⟨W, T, fun s hs => ?_⟩, f1, key, f2⟩
  by_cases e : s = r
  · rw [e]; exact key _ (M.2.2 r hr)
  · exact (M.2.2 s hs).same W.y M.2.1 hs (f1 s e)
theorem r_stretch (W : mW G) (d : Nat) (hT : zTy G hp) (M : bRg G hp) {k0 : Nat} (H0 : bRo G 116 k0) {r b m : Int} {x : Nat} (hr : 0 ≤ r ∧ r < 3412) (A : yBd hp r.toNat x) (hb : 0 ≤ b ∧ b ≤ 2147483647) (hm : 0 ≤ m ∧ m ≤ 2147483647) (h : x + 31 ≤ 7653) (h2 : x + 31 ≤ bTb r.toNat) : yC (xcall 89 xfts xpools xms (d + 2)) 522 [yR k0, yI r, yJ b, yJ m] hp (bQg G hp r.toNat (x + 31) (ymag hp r.toNat * b + m) (fun _ => True)) := by
  obtain rfl : k0 = 2073 := u_M W H0
  obtain ⟨r, rfl⟩ : ∃ m : Nat, r = (m : Int) := ⟨r.toNat, by omega⟩
  simp only [Int.toNat_natCast] at *
  have hr : r < 3412 := by omega
  have A : yBd hp r x := A
  have h2 : x + 31 ≤ bTb r := h2
  have b1 := (ymag_bd W.y hT hr).1
  have e31 : yE 31 = 2147483648 := by unfold yE; decide
  have hlt : ymag hp r * b + m < yE (x + 31) := by
    have h1 : ymag hp r * b ≤ ymag hp r * (yE 31 - 1) := Int.mul_le_mul_of_nonneg_left (by omega) b1
    have h3 : (ymag hp r + 1) * (yE 31 - 1) ≤ yE x * (yE 31 - 1) := Int.mul_le_mul_of_nonneg_right (by have := A.2; omega) (by omega)
    have h4 := yE_pos x
    rw [yE_add]
    rw [Int.add_mul, Int.one_mul, Int.mul_sub (yE x), Int.mul_one] at h3
    omega
  have h0 := Int.mul_nonneg b1 hb.1
  have e := yE_mono h
  have e2 := yE_top
  obtain ⟨rv, hp', c1, rfl, c2, c3, c4, c5⟩ := y_stretch W.y d hT hr hb.1 hb.2 hm.1 hm.2 (by omega)
  have he := yE_pos (x + 31)
  exact ⟨none, hp', c1, bQg_of W hT M (by decide) hr c2 (fun s hs _ => c3 s hs) (fun s _ n => absurd trivial n) c4 c5 (by omega) hlt h2⟩
theorem r_strpos (W : mW G) (hT : zTy G hp) {r b m : Int} (hr : 0 ≤ r ∧ r < 3412) (hb : 0 ≤ b) (hm : 0 ≤ m) : 0 ≤ ymag hp r.toNat * b + m := by
  have b1 := (ymag_bd W.y hT (show r.toNat < 3412 by omega)).1
  have h0 := Int.mul_nonneg b1 hb
  omega
theorem yPos (W : mW G) (hT : zTy G hp) {r : Nat} (hr : r < 3412) (h : 0 ≤ yval hp r) (s : ySm hp hp' r) : 0 ≤ yval hp' r := by rw [s.val (yL_bd W.y hT hr).2]; exact h
/-- a difference of two that are not below 0 -/
theorem r_minus (W : mW G) (d : Nat) (hT : zTy G hp) (M : bRg G hp) {k0 : Nat} (H0 : bRo G 116 k0) {r p q : Int} {x : Nat} (hr : 0 ≤ r ∧ r < 3412) (hp9 : 0 ≤ p ∧ p < 3412) (hq9 : 0 ≤ q ∧ q < 3412) (A : yBd hp p.toNat x) (B : yBd hp q.toNat x) (P1 : 0 ≤ yval hp p.toNat) (P2 : 0 ≤ yval hp q.toNat) (h : x + 1 ≤ 7653) (h2 : x ≤ bTb r.toNat) : yC (xcall 89 xfts xpools xms (d + 2)) 481 [yR k0, yI r, yI p, yI q, yI (-1)] hp (bQg G hp r.toNat x (yval hp p.toNat + (-1) * yval hp q.toNat) (fun _ => True)) := by
  obtain rfl : k0 = 2073 := u_M W H0
  obtain ⟨r, rfl⟩ : ∃ m : Nat, r = (m : Int) := ⟨r.toNat, by omega⟩
  obtain ⟨p, rfl⟩ : ∃ m : Nat, p = (m : Int) := ⟨p.toNat, by omega⟩
  obtain ⟨q, rfl⟩ : ∃ m : Nat, q = (m : Int) := ⟨q.toNat, by omega⟩
  simp only [Int.toNat_natCast] at *
  have hr : r < 3412 := by omega
  have hp9 : p < 3412 := by omega
  have hq9 : q < 3412 := by omega
  have A : yBd hp p x := A
  have B : yBd hp q x := B
  have P1 : 0 ≤ yval hp p := P1
  have P2 : 0 ≤ yval hp q := P2
  have e := yE_mono h
  have e1 := yE_succ x
  have e2 := yE_top
  have e3 := A.2
  have e4 := B.2
  obtain ⟨rv, hp', c1, rfl, c2, c3, c4, c5⟩ := y_plus W.y d hT hr hp9 hq9 (.inr rfl) A.1 B.1 (by omega)
  have f1 := yval_lt W.y hT hp9 A
  have f2 := yval_lt W.y hT hq9 B
  exact ⟨none, hp', c1, bQg_of W hT M (by decide) hr c2 (fun s hs _ => c3 s hs) (fun s _ n => absurd trivial n) c4 c5 (by show -(yE x) < yval hp p + -1 * yval hp q; omega) (by show yval hp p + -1 * yval hp q < yE x; omega) h2⟩
end MRegs
