/-! ===== the checker's steps: numbers ===== -/
abbrev zKs : Type := Nat → zQ → zLc → List zV → List zO → Option (List zO)
def zsg32 (m : Nat) : Int := cond (Nat.blt m 2147483648) (Int.ofNat m) (Int.ofNat m - 4294967296)
def zsg64 (m : Nat) : Int := cond (Nat.blt m 9223372036854775808) (Int.ofNat m) (Int.ofNat m - 18446744073709551616)
theorem zsg32_ok {m : Nat} (h : m < 4294967296) : zi32 (zsg32 m) ∧ zc32 (zsg32 m) = m := by
  have e : (Int.ofNat m) = (m : Int) := rfl
  unfold zsg32 zi32 zc32
  by_cases h1 : m < 2147483648
  · rw [show Nat.blt m 2147483648 = true from Nat.ble_eq_true_of_le h1, cond_true, e]
    omega
  · rw [show Nat.blt m 2147483648 = false from Bool.eq_false_iff.mpr fun z => h1 (Nat.le_of_ble_eq_true z), cond_false, e]
    omega
theorem zsg64_ok {m : Nat} (h : m < 18446744073709551616) : zi64 (zsg64 m) ∧ zc64 (zsg64 m) = m := by
  have e : (Int.ofNat m) = (m : Int) := rfl
  unfold zsg64 zi64 zc64
  by_cases h1 : m < 9223372036854775808
  · rw [show Nat.blt m 9223372036854775808 = true from Nat.ble_eq_true_of_le h1, cond_true, e]
    omega
  · rw [show Nat.blt m 9223372036854775808 = false from Bool.eq_false_iff.mpr fun z => h1 (Nat.le_of_ble_eq_true z), cond_false, e]
    omega
theorem zx32_lt (v : Int32) : x32 v < 4294967296 := by
  rw [zx32_toInt]
  exact zc32_lt _
def zisK (e : zE) : Option Int := match e with
  | ([], k) => some k
  | _ => none
theorem zisK_ok {ν : Nat → Int} {e : zE} {k : Int} (h : zisK e = some k) : zv ν e = k := by
  unfold zisK at h
  split at h
  · next k9 =>
    cases h
    exact zK_ok ν _
  · cases h
/-- products: one is a number; both between 0 and something; any -/
def zprod32 (K : zKv) (X : zQ) (a b : zE) (os : List zO) : Option (List zO) := match zisK a with
  | some k => zput32 K X (zscale k b) os
  | none => match zisK b with
  | some k => zput32 K X (zscale k a) os
  | none => match os with
    | (6, _) :: r => K (X.1 + 1, ((zbtw X.1 (-2147483648) 2147483647 ++ []) ++ X.2.1, X.2.2)) (.inl (zX X.1)) r
    | (8, (c1 :: c2 :: c3 :: c4 :: _, (([], A) :: ([], B) :: _, _))) :: r =>
      cond (zent X.2.1 a c1 && (zent X.2.1 (zmad (-1) a (zK A)) c2 && (zent X.2.1 b c3 && (zent X.2.1 (zmad (-1) b (zK B)) c4 && decide (A * B < 2147483648)))))
        (K (X.1 + 1, ((zbtw X.1 0 (A * B) ++ []) ++ X.2.1, X.2.2)) (.inl (zX X.1)) r) none
    | _ => none
def zprod64 (K : zKv) (X : zQ) (a b : zE) (os : List zO) : Option (List zO) := match zisK a with
  | some k => zput64 K X (zscale k b) os
  | none => match zisK b with
  | some k => zput64 K X (zscale k a) os
  | none => match os with
    | (6, _) :: r => K (X.1 + 1, ((zbtw X.1 (-9223372036854775808) 9223372036854775807 ++ []) ++ X.2.1, X.2.2)) (.inr (.inl (zX X.1))) r
    | (8, (c1 :: c2 :: c3 :: c4 :: _, (([], A) :: ([], B) :: _, _))) :: r =>
      cond (zent X.2.1 a c1 && (zent X.2.1 (zmad (-1) a (zK A)) c2 && (zent X.2.1 b c3 && (zent X.2.1 (zmad (-1) b (zK B)) c4 && decide (A * B < 9223372036854775808)))))
        (K (X.1 + 1, ((zbtw X.1 0 (A * B) ++ []) ++ X.2.1, X.2.2)) (.inr (.inl (zX X.1))) r) none
    | _ => none
/-- a quotient (rem: what is left) of an int by one that is not 0; w: 32 or 64 bits; the greatest -/
def zdiv (top : Int) (mk : zE → zV) (rem : Bool) (K : zKv) (X : zQ) (a b : zE) (os : List zO) : Option (List zO) := match os with
  | (9, (c1 :: _, _)) :: r => match b with
    | ([], c) => cond (decide (0 < c) && (decide (c ≤ top) && zent X.2.1 a c1))
      (K (X.1 + 1, ((zbtw X.1 0 top ++ [zmad (-c) (zX X.1) a, zmad c (zX X.1) (zmad (-1) a (zK (c - 1)))]) ++ X.2.1, X.2.2)) (mk (cond rem (zmad (-c) (zX X.1) a) (zX X.1))) r) none
    | _ => none
  | (11, (c1 :: c2 :: _, _)) :: r => cond (zent X.2.1 a c1 && zent X.2.1 (zmad 1 b (zK (-1))) c2)
      (K (X.1 + 1, ((zbtw X.1 0 top ++ cond rem [zmad (-1) (zX X.1) (zmad 1 b (zK (-1))), zmad (-1) (zX X.1) a] [zmad (-1) (zX X.1) a]) ++ X.2.1, X.2.2)) (mk (zX X.1)) r) none
  | (10, (c2 :: _, _)) :: r => cond (zent X.2.1 (zmad 1 b (zK (-1))) c2)
      (K (X.1 + 1, ((zbtw X.1 (-top - 1) top ++ cond rem [zmad (-1) (zX X.1) (zmad 1 b (zK (-1))), zmad 1 (zX X.1) (zmad 1 b (zK (-1)))] []) ++ X.2.1, X.2.2)) (mk (zX X.1)) r) none
  | _ => none
/-- any int between two numbers that are known to hold -/
def zany32 (lo hi : Int) (K : zKv) (X : zQ) (os : List zO) : Option (List zO) := K (X.1 + 1, ((zbtw X.1 lo hi ++ []) ++ X.2.1, X.2.2)) (.inl (zX X.1)) os
def zany64 (lo hi : Int) (K : zKv) (X : zQ) (os : List zO) : Option (List zO) := K (X.1 + 1, ((zbtw X.1 lo hi ++ []) ++ X.2.1, X.2.2)) (.inr (.inl (zX X.1))) os
section Ops
variable {G : zW} {W : zWr} {hp0 : xH} {ν0 : Nat → Int} {g : List zE} {K : zKv} {r os : List zO} {ν : Nat → Int} {X : zQ} {hp : xH}
theorem zany32_ok (h : zRel G W hp0 ν0 g ν X hp) {lo hi z : Int} (hz : zi32 z) (h1 : lo ≤ z) (h2 : z ≤ hi) (hk : zany32 lo hi K X os = some r) : zRes G W hp0 ν0 g K r ν X hp (.inl (zc32 z)) := zres_new32 h hz h1 h2 [] (fun f hf => by cases hf) hk
theorem zany64_ok (h : zRel G W hp0 ν0 g ν X hp) {lo hi z : Int} (hz : zi64 z) (h1 : lo ≤ z) (h2 : z ≤ hi) (hk : zany64 lo hi K X os = some r) : zRes G W hp0 ν0 g K r ν X hp (.inr (.inl (zc64 z))) := zres_new64 h hz h1 h2 [] (fun f hf => by cases hf) hk
theorem zall32 (z : Int) : zi32 (z.bmod (2 ^ 32)) ∧ zc32 z = zc32 (z.bmod (2 ^ 32)) := by
  refine ⟨?_, (zc32_bmod z).symm⟩
  unfold zi32
  rw [Int.bmod_def]
  split <;> omega
theorem zall64 (z : Int) : zi64 (z.bmod (2 ^ 64)) ∧ zc64 z = zc64 (z.bmod (2 ^ 64)) := by
  refine ⟨?_, (zc64_bmod z).symm⟩
  unfold zi64
  rw [Int.bmod_def]
  split <;> omega
theorem zmul_bd {a b A B : Int} (h1 : 0 ≤ a) (h2 : a ≤ A) (h3 : 0 ≤ b) (h4 : b ≤ B) : 0 ≤ a * b ∧ a * b ≤ A * B := ⟨Int.mul_nonneg h1 h3, Int.mul_le_mul h2 h4 h3 (by omega)⟩
theorem zprod32_ok (h : zRel G W hp0 ν0 g ν X hp) {a b : zE} (ha : zlt X.1 a) (hb : zlt X.1 b) (hk : zprod32 K X a b os = some r) : zRes G W hp0 ν0 g K r ν X hp (.inl (zc32 (zv ν a * zv ν b))) := by
  have hF : ∀ f ∈ X.2.1, 0 ≤ zv ν f := fun f hf => (h.1 f hf).2
  unfold zprod32 at hk
  split at hk
  · next k hk9 =>
    have := zput32_ok h (zscale_lt hb) hk
    rw [zscale_ok] at this
    rw [zisK_ok hk9]
    exact this
  · split at hk
    · next k hk9 =>
      have := zput32_ok h (zscale_lt ha) hk
      rw [zscale_ok] at this
      rw [zisK_ok hk9, Int.mul_comm]
      exact this
    · split at hk
      · obtain ⟨e1, e2⟩ := zall32 (zv ν a * zv ν b)
        rw [e2]
        exact zres_new32 h e1 e1.1 (by have := e1.2; omega) [] (fun f hf => by cases hf) hk
      · next c1 c2 c3 c4 _ A B _ _ _ =>
        obtain ⟨q, hk⟩ := cond_some hk
        obtain ⟨q1, q⟩ := and_true' q
        obtain ⟨q2, q⟩ := and_true' q
        obtain ⟨q3, q⟩ := and_true' q
        obtain ⟨q4, q5⟩ := and_true' q
        have p1 := zent_ok hF q1
        have p2 := zent_ok hF q2
        have p3 := zent_ok hF q3
        have p4 := zent_ok hF q4
        have p5 := of_decide_eq_true q5
        rw [zmad_ok, zK_ok] at p2 p4
        obtain ⟨m1, m2⟩ := zmul_bd p1 (show zv ν a ≤ A by omega) p3 (show zv ν b ≤ B by omega)
        exact zres_new32 h ⟨by omega, by omega⟩ m1 m2 [] (fun f hf => by cases hf) hk
      · cases hk
theorem zprod64_ok (h : zRel G W hp0 ν0 g ν X hp) {a b : zE} (ha : zlt X.1 a) (hb : zlt X.1 b) (hk : zprod64 K X a b os = some r) : zRes G W hp0 ν0 g K r ν X hp (.inr (.inl (zc64 (zv ν a * zv ν b)))) := by
  have hF : ∀ f ∈ X.2.1, 0 ≤ zv ν f := fun f hf => (h.1 f hf).2
  unfold zprod64 at hk
  split at hk
  · next k hk9 =>
    have := zput64_ok h (zscale_lt hb) hk
    rw [zscale_ok] at this
    rw [zisK_ok hk9]
    exact this
  · split at hk
    · next k hk9 =>
      have := zput64_ok h (zscale_lt ha) hk
      rw [zscale_ok] at this
      rw [zisK_ok hk9, Int.mul_comm]
      exact this
    · split at hk
      · obtain ⟨e1, e2⟩ := zall64 (zv ν a * zv ν b)
        rw [e2]
        exact zres_new64 h e1 e1.1 (by have := e1.2; omega) [] (fun f hf => by cases hf) hk
      · next c1 c2 c3 c4 _ A B _ _ _ =>
        obtain ⟨q, hk⟩ := cond_some hk
        obtain ⟨q1, q⟩ := and_true' q
        obtain ⟨q2, q⟩ := and_true' q
        obtain ⟨q3, q⟩ := and_true' q
        obtain ⟨q4, q5⟩ := and_true' q
        have p1 := zent_ok hF q1
        have p2 := zent_ok hF q2
        have p3 := zent_ok hF q3
        have p4 := zent_ok hF q4
        have p5 := of_decide_eq_true q5
        rw [zmad_ok, zK_ok] at p2 p4
        obtain ⟨m1, m2⟩ := zmul_bd p1 (show zv ν a ≤ A by omega) p3 (show zv ν b ≤ B by omega)
        exact zres_new64 h ⟨by omega, by omega⟩ m1 m2 [] (fun f hf => by cases hf) hk
      · cases hk
end Ops
