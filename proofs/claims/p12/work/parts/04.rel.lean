/-! ===== what the runner's cells say of the machine's ===== -/
theorem xget_leaf {α : Type} (x : α) (n : Nat) : xget (.leaf x) n = x := rfl
theorem xget_branch {α : Type} (p : Nat) (l r : Lean.RArray α) (n : Nat) : xget (.branch p l r) n = cond (Nat.ble p n) (xget r n) (xget l n) := rfl
def xwf {α : Type} (k : Nat) : Nat → Lean.RArray α → Prop :=
  Nat.rec (fun _ t => ∃ y, t = .leaf y) (fun k ih lo t => (∃ y, t = .leaf y) ∨ ∃ l r, t = .branch (lo + 2 ^ k) l r ∧ ih lo l ∧ ih (lo + 2 ^ k) r) k
theorem xwf_leaf {α : Type} (k lo : Nat) (y : α) : xwf k lo (.leaf y) := by
  cases k with
  | zero => exact ⟨y, rfl⟩
  | succ k => exact Or.inl ⟨y, rfl⟩
theorem xset_zero {α : Type} (x : α) (n lo : Nat) (t : Lean.RArray α) : xset x n 0 lo t = .leaf x := rfl
theorem xset_leaf {α : Type} (x : α) (n k lo : Nat) (y : α) : xset x n (k + 1) lo (.leaf y) = cond (Nat.ble (lo + 2 ^ k) n) (.branch (lo + 2 ^ k) (.leaf y) (xset x n k (lo + 2 ^ k) (.leaf y))) (.branch (lo + 2 ^ k) (xset x n k lo (.leaf y)) (.leaf y)) := rfl
theorem xset_branch {α : Type} (x : α) (n k lo p : Nat) (l r : Lean.RArray α) : xset x n (k + 1) lo (.branch p l r) = cond (Nat.ble (lo + 2 ^ k) n) (.branch (lo + 2 ^ k) l (xset x n k (lo + 2 ^ k) r)) (.branch (lo + 2 ^ k) (xset x n k lo l) r) := rfl
theorem xset_wf {α : Type} (x : α) (n : Nat) : ∀ (k lo : Nat) (t : Lean.RArray α), xwf k lo t → xwf k lo (xset x n k lo t) := by
  intro k
  induction k with
  | zero => intro lo t _; exact ⟨x, rfl⟩
  | succ k ih =>
    intro lo t ht
    rcases ht with ⟨y, rfl⟩ | ⟨l, r, rfl, hl, hr⟩
    · rw [xset_leaf]
      cases Nat.ble (lo + 2 ^ k) n
      · exact Or.inr ⟨_, _, rfl, ih _ _ (xwf_leaf _ _ _), xwf_leaf _ _ _⟩
      · exact Or.inr ⟨_, _, rfl, xwf_leaf _ _ _, ih _ _ (xwf_leaf _ _ _)⟩
    · rw [xset_branch]
      cases Nat.ble (lo + 2 ^ k) n
      · exact Or.inr ⟨_, _, rfl, ih _ _ hl, hr⟩
      · exact Or.inr ⟨_, _, rfl, hl, ih _ _ hr⟩
theorem xget_xset {α : Type} (x : α) (n j : Nat) : ∀ (k lo : Nat) (t : Lean.RArray α), xwf k lo t → lo ≤ n → n < lo + 2 ^ k → lo ≤ j → j < lo + 2 ^ k → xget (xset x n k lo t) j = if j = n then x else xget t j := by
  intro k
  induction k with
  | zero =>
    intro lo t _ h1 h2 h3 h4
    have : j = n := by simp at h2 h4; omega
    rw [xset_zero, xget_leaf, if_pos this]
  | succ k ih =>
    intro lo t ht h1 h2 h3 h4
    have hp : 2 ^ (k + 1) = 2 ^ k + 2 ^ k := by rw [Nat.pow_succ]; omega
    rcases ht with ⟨y, rfl⟩ | ⟨l, r, rfl, hl, hr⟩
    · rw [xset_leaf, xget_leaf]
      by_cases hn : lo + 2 ^ k ≤ n
      · rw [show Nat.ble (lo + 2 ^ k) n = true from Nat.ble_eq_true_of_le hn, cond_true, xget_branch]
        by_cases hj : lo + 2 ^ k ≤ j
        · rw [show Nat.ble (lo + 2 ^ k) j = true from Nat.ble_eq_true_of_le hj, cond_true, ih _ _ (xwf_leaf _ _ _) hn (by omega) hj (by omega), xget_leaf]
        · rw [show Nat.ble (lo + 2 ^ k) j = false from Bool.eq_false_iff.mpr fun q => hj (Nat.le_of_ble_eq_true q), cond_false, xget_leaf, if_neg (by omega)]
      · rw [show Nat.ble (lo + 2 ^ k) n = false from Bool.eq_false_iff.mpr fun q => hn (Nat.le_of_ble_eq_true q), cond_false, xget_branch]
        by_cases hj : lo + 2 ^ k ≤ j
        · rw [show Nat.ble (lo + 2 ^ k) j = true from Nat.ble_eq_true_of_le hj, cond_true, xget_leaf, if_neg (by omega)]
        · rw [show Nat.ble (lo + 2 ^ k) j = false from Bool.eq_false_iff.mpr fun q => hj (Nat.le_of_ble_eq_true q), cond_false, ih _ _ (xwf_leaf _ _ _) h1 (by omega) h3 (by omega), xget_leaf]
    · rw [xset_branch, xget_branch]
      by_cases hn : lo + 2 ^ k ≤ n
      · rw [show Nat.ble (lo + 2 ^ k) n = true from Nat.ble_eq_true_of_le hn, cond_true, xget_branch]
        by_cases hj : lo + 2 ^ k ≤ j
        · rw [show Nat.ble (lo + 2 ^ k) j = true from Nat.ble_eq_true_of_le hj, cond_true, cond_true, ih _ _ hr hn (by omega) hj (by omega)]
        · rw [show Nat.ble (lo + 2 ^ k) j = false from Bool.eq_false_iff.mpr fun q => hj (Nat.le_of_ble_eq_true q), cond_false, cond_false, if_neg (by omega)]
      · rw [show Nat.ble (lo + 2 ^ k) n = false from Bool.eq_false_iff.mpr fun q => hn (Nat.le_of_ble_eq_true q), cond_false, xget_branch]
        by_cases hj : lo + 2 ^ k ≤ j
        · rw [show Nat.ble (lo + 2 ^ k) j = true from Nat.ble_eq_true_of_le hj, cond_true, cond_true, if_neg (by omega)]
        · rw [show Nat.ble (lo + 2 ^ k) j = false from Bool.eq_false_iff.mpr fun q => hj (Nat.le_of_ble_eq_true q), cond_false, cond_false, ih _ _ hl h1 (by omega) h3 (by omega)]
theorem xi32 (v : Int32) : Int32.ofNat v.toUInt32.toNat = v := by
  apply Int32.toBitVec_inj.mp
  simp [Int32.toBitVec_ofNat]
theorem xi64 (v : Int64) : Int64.ofNat v.toUInt64.toNat = v := by
  apply Int64.toBitVec_inj.mp
  simp [Int64.toBitVec_ofNat]
theorem xtb (n : Nat) : (Int32.ofNat n).toBitVec = BitVec.ofNat 32 n := rfl
theorem xtbL (n : Nat) : (Int64.ofNat n).toBitVec = BitVec.ofNat 64 n := rfl
theorem xi32m (n : Nat) : Int32.ofNat (xm32 n) = Int32.ofNat n := by
  apply Int32.toBitVec_inj.mp
  rw [xtb, xtb]
  apply BitVec.eq_of_toNat_eq
  rw [BitVec.toNat_ofNat, BitVec.toNat_ofNat]
  show n % 4294967296 % 4294967296 = n % 4294967296
  omega
theorem xi32add (a b : Nat) : Int32.ofNat (xm32 (Nat.add a b)) = Int32.ofNat a + Int32.ofNat b := by
  rw [xi32m]
  apply Int32.toBitVec_inj.mp
  simp [Int32.toBitVec_ofNat, BitVec.ofNat_add]
theorem xi32mul (a b : Nat) : Int32.ofNat (xm32 (Nat.mul a b)) = Int32.ofNat a * Int32.ofNat b := by
  rw [xi32m]
  apply Int32.toBitVec_inj.mp
  simp [Int32.toBitVec_ofNat, BitVec.ofNat_mul]
theorem xi32sub (a b : Nat) : Int32.ofNat (xm32 (Nat.add a (Nat.sub 4294967296 (xm32 b)))) = Int32.ofNat a - Int32.ofNat b := by
  rw [xi32m]
  apply Int32.toBitVec_inj.mp
  rw [Int32.toBitVec_sub, xtb, xtb, xtb]
  apply BitVec.eq_of_toNat_eq
  rw [BitVec.toNat_sub, BitVec.toNat_ofNat, BitVec.toNat_ofNat, BitVec.toNat_ofNat]
  show (a + (4294967296 - b % 4294967296)) % 4294967296 = (4294967296 - b % 4294967296 + a % 4294967296) % 4294967296
  omega
/-- an int, a long, each with 2^31, 2^63 more -/
def xb (x : Int32) : Nat := (x.toInt + 2147483648).toNat
def xbL (x : Int64) : Nat := (x.toInt + 9223372036854775808).toNat
theorem xb_lt {x y : Int32} : x < y ↔ xb x < xb y := by
  have h1 := Int32.le_toInt x
  have h2 := Int32.le_toInt y
  rw [Int32.lt_iff_toInt_lt]
  unfold xb
  omega
theorem xb_inj {x y : Int32} (h : xb x = xb y) : x = y := by
  have h1 := Int32.le_toInt x
  have h2 := Int32.le_toInt y
  apply Int32.toInt_inj.mp
  unfold xb at h
  omega
theorem xbL_lt {x y : Int64} : x < y ↔ xbL x < xbL y := by
  have h1 := Int64.le_toInt x
  have h2 := Int64.le_toInt y
  rw [Int64.lt_iff_toInt_lt]
  unfold xbL
  omega
theorem xbL_inj {x y : Int64} (h : xbL x = xbL y) : x = y := by
  have h1 := Int64.le_toInt x
  have h2 := Int64.le_toInt y
  apply Int64.toInt_inj.mp
  unfold xbL at h
  omega
theorem xb_le (x : Int32) : xb x ≤ 4294967295 := by
  have h1 := Int32.toInt_lt x
  unfold xb
  omega
theorem xbL_le (x : Int64) : xbL x ≤ 18446744073709551615 := by
  have h1 := Int64.toInt_lt x
  unfold xbL
  omega
theorem xb_of (n : Nat) : xb (Int32.ofNat n) = xm32 (Nat.add n 2147483648) := by
  unfold xb
  have e : (Int32.ofNat n).toInt = (BitVec.ofNat 32 n).toInt := rfl
  rw [e, BitVec.toInt_eq_toNat_cond]
  simp only [BitVec.toNat_ofNat]
  show _ = (n + 2147483648) % 4294967296
  split <;> omega
theorem xbL_of (n : Nat) : xbL (Int64.ofNat n) = xm64 (Nat.add n 9223372036854775808) := by
  unfold xbL
  have e : (Int64.ofNat n).toInt = (BitVec.ofNat 64 n).toInt := rfl
  rw [e, BitVec.toInt_eq_toNat_cond]
  simp only [BitVec.toNat_ofNat]
  show _ = (n + 9223372036854775808) % 18446744073709551616
  split <;> omega
/-- what an abstract value stands for -/
def xR (ad : Nat → Nat) (a : xA) (v : Value) : Prop := match a with
  | .inl n => v = .int (Int32.ofNat n)
  | .inr (.inl n) => v = .long (Int64.ofNat n)
  | .inr (.inr (.inl k)) => v = .ref (ad k)
  | .inr (.inr (.inr (.inl q))) => ∃ x : Int32, v = .int x ∧ q.1 ≤ xb x ∧ xb x ≤ q.2
  | .inr (.inr (.inr (.inr (.inl q)))) => ∃ x : Int64, v = .long x ∧ q.1 ≤ xbL x ∧ xbL x ≤ q.2
  | .inr (.inr (.inr (.inr (.inr (.inl false))))) => v = .null
  | .inr (.inr (.inr (.inr (.inr (.inl true))))) => v = .null ∨ ∃ a, v = .ref a
  | .inr (.inr (.inr (.inr (.inr (.inr k))))) => ∃ x : Int32, v = .int x ∧ x &&& 63 = Int32.ofNat k
theorem xR_cat {ad : Nat → Nat} {a : xA} {v : Value} (h : xR ad a v) : v.category = xcat a := by
  rcases a with n | n | n | q | q | (_ | _) | k
  · cases h; rfl
  · cases h; rfl
  · cases h; rfl
  · obtain ⟨x, rfl, -⟩ := h; rfl
  · obtain ⟨x, rfl, -⟩ := h; rfl
  · cases h; rfl
  · rcases h with rfl | ⟨x, rfl⟩ <;> rfl
  · obtain ⟨x, rfl, -⟩ := h; rfl
theorem xR_bd {ad : Nat → Nat} {a : xA} {v : Value} {q : Nat × Nat} (h : xR ad a v) (hb : xbd a = some q) : ∃ x : Int32, v = .int x ∧ q.1 ≤ xb x ∧ xb x ≤ q.2 := by
  rcases a with n | n | n | p | p | b | k
  · have e := Option.some.inj (show some (xm32 (Nat.add n 2147483648), xm32 (Nat.add n 2147483648)) = some q from hb)
    have e2 := xb_of n
    generalize xm32 (Nat.add n 2147483648) = z at e e2
    rw [← e]
    exact ⟨_, h, Nat.le_of_eq e2.symm, Nat.le_of_eq e2⟩
  · cases hb
  · cases hb
  · cases hb; exact h
  · cases hb
  · cases hb
  · cases hb; obtain ⟨x, rfl, -⟩ := h; exact ⟨x, rfl, Nat.zero_le _, xb_le x⟩
theorem xR_bdl {ad : Nat → Nat} {a : xA} {v : Value} {q : Nat × Nat} (h : xR ad a v) (hb : xbdl a = some q) : ∃ x : Int64, v = .long x ∧ q.1 ≤ xbL x ∧ xbL x ≤ q.2 := by
  rcases a with n | n | n | p | p | b | k
  · cases hb
  · have e := Option.some.inj (show some (xm64 (Nat.add n 9223372036854775808), xm64 (Nat.add n 9223372036854775808)) = some q from hb)
    have e2 := xbL_of n
    generalize xm64 (Nat.add n 9223372036854775808) = z at e e2
    rw [← e]
    exact ⟨_, h, Nat.le_of_eq e2.symm, Nat.le_of_eq e2⟩
  · cases hb
  · cases hb
  · cases hb; exact h
  · cases hb
  · cases hb
theorem xR_top (ad : Nat → Nat) (x : Int32) : xR ad xTop (.int x) := ⟨x, rfl, Nat.zero_le _, xb_le x⟩
theorem xR_topL (ad : Nat → Nat) (x : Int64) : xR ad xTopL (.long x) := ⟨x, rfl, Nat.zero_le _, xbL_le x⟩
theorem isSome_of {α : Type} {o : Option α} (h : o.isSome = true) : ∃ a, o = some a := by
  cases o with
  | none => cases h
  | some a => exact ⟨a, rfl⟩
theorem and_true' {a b : Bool} (h : (a && b) = true) : a = true ∧ b = true := by
  cases a <;> cases b <;> simp_all
theorem cond_some {α : Type} {b : Bool} {x : Option α} {y : α} (h : cond b x none = some y) : b = true ∧ x = some y := by
  cases b
  · cases h
  · exact ⟨rfl, h⟩
theorem xj_some {α β : Type} {a : Option α} {k : α → Option β} {y : β} (h : xj a k = some y) : ∃ x, a = some x ∧ k x = some y := by
  cases a with
  | none => cases h
  | some x => exact ⟨x, rfl, h⟩
theorem xbin_ok {ad : Nat → Nat} {f : Nat → Nat → Nat} {op : Int32 → Int32 → Int32} (hf : ∀ x y, Int32.ofNat (f x y) = op (Int32.ofNat x) (Int32.ofNat y)) {a b w : xA} {u v : Value} (ha : xR ad a u) (hb : xR ad b v) (h : xbin f a b = some w) :
    ∃ x y : Int32, u = .int x ∧ v = .int y ∧ xR ad w (.int (op x y)) := by
  have gen : ∀ (p q : Nat × Nat), xbd a = some p → xbd b = some q → w = xTop → ∃ x y : Int32, u = .int x ∧ v = .int y ∧ xR ad w (.int (op x y)) := by
    intro p q h1 h2 h3
    obtain ⟨x, rfl, -⟩ := xR_bd ha h1
    obtain ⟨y, rfl, -⟩ := xR_bd hb h2
    exact ⟨x, y, rfl, rfl, by rw [h3]; exact xR_top ad _⟩
  have rest : cond ((xbd a).isSome && (xbd b).isSome) (some xTop) none = some w → ∃ x y : Int32, u = .int x ∧ v = .int y ∧ xR ad w (.int (op x y)) := by
    intro h
    obtain ⟨h1, h2⟩ := cond_some h
    obtain ⟨h3, h4⟩ := and_true' h1
    obtain ⟨p, hp⟩ := isSome_of h3
    obtain ⟨q, hq⟩ := isSome_of h4
    exact gen p q hp hq (Option.some.inj h2).symm
  rcases a with n | n
  · rcases b with m | m
    · cases ha; cases hb; cases h
      exact ⟨_, _, rfl, rfl, by show Value.int _ = _; rw [hf]⟩
    · exact rest h
  · exact rest h
theorem xbinl_ok {ad : Nat → Nat} {f : Nat → Nat → Nat} {op : Int64 → Int64 → Int64} (hf : ∀ x y, Int64.ofNat (f x y) = op (Int64.ofNat x) (Int64.ofNat y)) {a b w : xA} {u v : Value} (ha : xR ad a u) (hb : xR ad b v) (h : xbinl f a b = some w) :
    ∃ x y : Int64, u = .long x ∧ v = .long y ∧ xR ad w (.long (op x y)) := by
  have rest : cond ((xbdl a).isSome && (xbdl b).isSome) (some xTopL) none = some w → ∃ x y : Int64, u = .long x ∧ v = .long y ∧ xR ad w (.long (op x y)) := by
    intro h
    obtain ⟨h1, h2⟩ := cond_some h
    obtain ⟨h3, h4⟩ := and_true' h1
    obtain ⟨p, hp⟩ := isSome_of h3
    obtain ⟨q, hq⟩ := isSome_of h4
    obtain ⟨x, rfl, -⟩ := xR_bdl ha hp
    obtain ⟨y, rfl, -⟩ := xR_bdl hb hq
    exact ⟨x, y, rfl, rfl, by rw [← Option.some.inj h2]; exact xR_topL ad _⟩
  rcases a with n | n | n
  · exact rest h
  · rcases b with m | m | m
    · exact rest h
    · cases ha; cases hb; cases h
      exact ⟨_, _, rfl, rfl, by show Value.long _ = _; rw [hf]⟩
    · exact rest h
  · exact rest h
