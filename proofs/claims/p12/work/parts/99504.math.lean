/-! ===== whole numbers: the forty primes, Fermat, a small solution that none of them hinders ===== -/
section MPrime
/-- the product of a .. a + 2^k - 1 -/
def mProd : Nat → Nat → Nat
  | 0, a => a
  | k + 1, a => mProd k a * mProd k (a + 2 ^ k)
theorem mProd_dvd : ∀ (k a d : Nat), a ≤ d → d < a + 2 ^ k → d ∣ mProd k a
  | 0, a, d, h1, h2 => by
    have : d = a := by have : (2 : Nat) ^ 0 = 1 := rfl; omega
    subst this
    exact Nat.dvd_refl _
  | k + 1, a, d, h1, h2 => by
    have e : (2 : Nat) ^ (k + 1) = 2 ^ k + 2 ^ k := by rw [Nat.pow_succ]; omega
    show d ∣ mProd k a * mProd k (a + 2 ^ k)
    rcases Nat.lt_or_ge d (a + 2 ^ k) with h | h
    · exact Nat.dvd_trans (mProd_dvd k a d h1 h) (Nat.dvd_mul_right _ _)
    · exact Nat.dvd_trans (mProd_dvd k (a + 2 ^ k) d h (by omega)) (Nat.dvd_mul_left _ _)
def mPr (p : Nat) : Prop := 2 ≤ p ∧ ∀ d, d ∣ p → d = 1 ∨ d = p
theorem mPr_of {p : Nat} (h1 : 65536 < p) (h2 : p < 65536 * 65536) (h : Nat.gcd (mProd 16 1) p = 1) : mPr p := by
  have key : ∀ d, d ∣ p → d ≤ 65536 → d = 1 := fun d hd hl => by
    have h0 : 1 ≤ d := by
      rcases Nat.eq_zero_or_pos d with e | e
      · subst e
        have := Nat.eq_zero_of_zero_dvd hd
        omega
      · exact e
    have := mProd_dvd 16 1 d h0 (by have : (2 : Nat) ^ 16 = 65536 := rfl; omega)
    have := Nat.dvd_gcd this hd
    rw [h] at this
    exact Nat.dvd_one.mp this
  refine ⟨by omega, fun d hd => ?_⟩
  obtain ⟨e, he⟩ := hd
  rcases Nat.lt_or_ge 65536 d with hl | hl
  · have : e = 1 := by
      refine key e ⟨d, by rw [he, Nat.mul_comm]⟩ ?_
      apply Decidable.byContradiction
      intro h9
      have := Nat.mul_le_mul (show 65536 ≤ d by omega) (show 65536 ≤ e by omega)
      omega
    subst this
    right
    omega
  · exact .inl (key d ⟨e, he⟩ hl)
def mPs : List Nat := [2147483647, 2147483629, 2147483587, 2147483579, 2147483563, 2147483549, 2147483543, 2147483497, 2147483489, 2147483477, 2147483423, 2147483399, 2147483353, 2147483323, 2147483269, 2147483249, 2147483237, 2147483179, 2147483171, 2147483137, 2147483123, 2147483077, 2147483069, 2147483059, 2147483053, 2147483033, 2147483029, 2147482951, 2147482949, 2147482943, 2147482937, 2147482921, 2147482877, 2147482873, 2147482867, 2147482859, 2147482819, 2147482817, 2147482811, 2147482801]
def mMul : List Nat → Nat
  | [] => 1
  | p :: ps => p * mMul ps
theorem mMul_dvd {p : Nat} : ∀ {ps : List Nat}, p ∈ ps → p ∣ mMul ps
  | q :: ps, h => by
    show p ∣ q * mMul ps
    rcases List.mem_cons.mp h with e | e
    · subst e
      exact Nat.dvd_mul_right _ _
    · exact Nat.dvd_trans (mMul_dvd e) (Nat.dvd_mul_left _ _)
theorem mGcd : Nat.gcd (mProd 16 1) (mMul mPs) = 1 := by decide +kernel
theorem mPs_pr {p : Nat} (h : p ∈ mPs) : mPr p := by
  have hb : mPs.all (fun p => decide (65536 < p) && decide (p < 65536 * 65536)) = true := by decide +kernel
  have hb := List.all_eq_true.mp hb p h
  have h1 : 65536 < p := of_decide_eq_true (by revert hb; cases decide (65536 < p) <;> simp)
  have h2 : p < 65536 * 65536 := of_decide_eq_true (by revert hb; cases decide (p < 65536 * 65536) <;> simp)
  refine mPr_of h1 h2 ?_
  have : Nat.gcd (mProd 16 1) p ∣ Nat.gcd (mProd 16 1) (mMul mPs) := Nat.dvd_gcd (Nat.gcd_dvd_left _ _) (Nat.dvd_trans (Nat.gcd_dvd_right _ _) (mMul_dvd h))
  rw [mGcd] at this
  exact Nat.dvd_one.mp this
theorem mPr.cop {p a : Nat} (hp : mPr p) (h : ¬ p ∣ a) : Nat.gcd p a = 1 := by
  rcases hp.2 _ (Nat.gcd_dvd_left p a) with e | e
  · exact e
  · exact absurd (e ▸ Nat.gcd_dvd_right p a) h
theorem mPr.mul {p a b : Nat} (hp : mPr p) (h : p ∣ a * b) : p ∣ a ∨ p ∣ b := by
  by_cases e : p ∣ a
  · exact .inl e
  · exact .inr (Nat.Coprime.dvd_of_dvd_mul_left (hp.cop e) h)
theorem mPr.imul {p : Nat} {a b : Int} (hp : mPr p) (h : (p : Int) ∣ a * b) : (p : Int) ∣ a ∨ (p : Int) ∣ b := by
  have h := Int.ofNat_dvd_left.mp h
  rw [Int.natAbs_mul] at h
  rcases hp.mul h with e | e
  · exact .inl (Int.ofNat_dvd_left.mpr e)
  · exact .inr (Int.ofNat_dvd_left.mpr e)
theorem mPr.ne {p q : Nat} (hp : mPr p) (hq : mPr q) (h : p ∣ q) : p = q := by
  have := hp.1
  rcases hq.2 p h with e | e
  · omega
  · exact e
/-- binomials -/
def mC : Nat → Nat → Nat
  | _, 0 => 1
  | 0, _ + 1 => 0
  | n + 1, k + 1 => mC n k + mC n (k + 1)
theorem mC_0 (n : Nat) : mC n 0 = 1 := by cases n <;> rfl
theorem mC_big : ∀ (n k : Nat), n < k → mC n k = 0
  | 0, k + 1, _ => rfl
  | n + 1, k + 1, h => by
    show mC n k + mC n (k + 1) = 0
    rw [mC_big n k (by omega), mC_big n (k + 1) (by omega)]
theorem mC_self : ∀ (n : Nat), mC n n = 1
  | 0 => rfl
  | n + 1 => by
    show mC n n + mC n (n + 1) = 1
    rw [mC_self n, mC_big n (n + 1) (by omega)]
theorem mC_abs : ∀ (n k : Nat), (k + 1) * mC (n + 1) (k + 1) = (n + 1) * mC n k
  | 0, 0 => rfl
  | 0, k + 1 => by
    show (k + 1 + 1) * (mC 0 (k + 1) + mC 0 (k + 1 + 1)) = (0 + 1) * 0
    show (k + 1 + 1) * (0 + 0) = (0 + 1) * 0
    omega
  | n + 1, 0 => by
    have h := mC_abs n 0
    rw [mC_0] at h ⊢
    show (0 + 1) * (mC (n + 1) 0 + mC (n + 1) (0 + 1)) = (n + 1 + 1) * 1
    rw [mC_0]
    omega
  | n + 1, k + 1 => by
    have h1 := mC_abs n k
    have h2 := mC_abs n (k + 1)
    show (k + 1 + 1) * (mC (n + 1) (k + 1) + mC (n + 1) (k + 1 + 1)) = (n + 1 + 1) * mC (n + 1) (k + 1)
    have h3 : mC (n + 1) (k + 1) = mC n k + mC n (k + 1) := rfl
    have e1 : (k + 1 + 1) * (mC (n + 1) (k + 1) + mC (n + 1) (k + 1 + 1)) = (k + 1) * mC (n + 1) (k + 1) + mC (n + 1) (k + 1) + (k + 1 + 1) * mC (n + 1) (k + 1 + 1) := by
      rw [Nat.mul_add, Nat.add_mul (k + 1) 1, Nat.one_mul]
    rw [e1, h1, h2, Nat.add_mul (n + 1) 1, Nat.one_mul, h3, Nat.mul_add]
    omega
def mSn (f : Nat → Nat) : Nat → Nat
  | 0 => 0
  | n + 1 => mSn f n + f n
theorem mSn_shift (f : Nat → Nat) : ∀ n, mSn f (n + 1) = f 0 + mSn (fun k => f (k + 1)) n
  | 0 => by show 0 + f 0 = f 0 + 0; omega
  | n + 1 => by
    show mSn f (n + 1) + f (n + 1) = f 0 + (mSn (fun k => f (k + 1)) n + f (n + 1))
    rw [mSn_shift f n]
    omega
theorem mSn_add (f g : Nat → Nat) : ∀ n, mSn (fun k => f k + g k) n = mSn f n + mSn g n
  | 0 => rfl
  | n + 1 => by
    show mSn (fun k => f k + g k) n + (f n + g n) = (mSn f n + f n) + (mSn g n + g n)
    rw [mSn_add f g n]
    omega
theorem mSn_mul (c : Nat) (f : Nat → Nat) : ∀ n, mSn (fun k => c * f k) n = c * mSn f n
  | 0 => rfl
  | n + 1 => by
    show mSn (fun k => c * f k) n + c * f n = c * (mSn f n + f n)
    rw [mSn_mul c f n, Nat.mul_add]
theorem mSn_dvd {p : Nat} {f : Nat → Nat} : ∀ n, (∀ k, k < n → p ∣ f k) → p ∣ mSn f n
  | 0, _ => Nat.dvd_zero _
  | n + 1, h => Nat.dvd_add (mSn_dvd n fun k hk => h k (by omega)) (h n (by omega))
theorem mBin (a : Nat) : ∀ n, (a + 1) ^ n = mSn (fun k => mC n k * a ^ k) (n + 1)
  | 0 => by show 1 = 0 + 1 * 1; rfl
  | n + 1 => by
    rw [Nat.pow_succ, mBin a n, mSn_shift _ (n + 1)]
    show _ = 1 * 1 + mSn (fun k => (mC n k + mC n (k + 1)) * a ^ (k + 1)) (n + 1)
    have e : (fun k => (mC n k + mC n (k + 1)) * a ^ (k + 1)) = fun k => (a * (mC n k * a ^ k) + mC n (k + 1) * a ^ (k + 1)) := by
      funext k
      rw [Nat.add_mul, Nat.pow_succ]
      congr 1
      rw [Nat.mul_left_comm a, Nat.mul_comm a, Nat.mul_comm (a ^ k)]
    rw [e, mSn_add, mSn_mul]
    have e2 : mSn (fun k => mC n k * a ^ k) (n + 1 + 1) = mSn (fun k => mC n k * a ^ k) (n + 1) := by
      show mSn (fun k => mC n k * a ^ k) (n + 1) + mC n (n + 1) * a ^ (n + 1) = _
      rw [mC_big n (n + 1) (by omega)]
      omega
    have e3 := mSn_shift (fun k => mC n k * a ^ k) (n + 1)
    rw [e2, mC_0] at e3
    have e4 : (1 : Nat) * a ^ 0 = 1 * 1 := rfl
    rw [e4] at e3
    rw [Nat.mul_add, Nat.mul_one, Nat.mul_comm _ a]
    omega
theorem mPr.pow1 {p : Nat} (hp : mPr p) (a : Nat) : ∃ t, (a + 1) ^ p = a ^ p + 1 + p * t := by
  obtain ⟨n, rfl⟩ : ∃ n, p = n + 1 := ⟨p - 1, by have := hp.1; omega⟩
  have h := mBin a (n + 1)
  have h1 : mSn (fun k => mC (n + 1) k * a ^ k) (n + 1 + 1) = mSn (fun k => mC (n + 1) k * a ^ k) (n + 1) + a ^ (n + 1) := by
    show _ + mC (n + 1) (n + 1) * a ^ (n + 1) = _
    rw [mC_self, Nat.one_mul]
  have h2 := mSn_shift (fun k => mC (n + 1) k * a ^ k) n
  have h3 : n + 1 ∣ mSn (fun k => mC (n + 1) (k + 1) * a ^ (k + 1)) n := mSn_dvd n fun k hk => by
    refine Nat.dvd_trans ?_ (Nat.dvd_mul_right _ _)
    have := mC_abs n k
    rcases hp.mul (a := k + 1) (b := mC (n + 1) (k + 1)) ⟨_, this⟩ with e | e
    · have := Nat.le_of_dvd (by omega) e
      omega
    · exact e
  obtain ⟨t, ht⟩ := h3
  refine ⟨t, ?_⟩
  rw [h, h1, h2, ht]
  show 1 * 1 + (n + 1) * t + a ^ (n + 1) = _
  omega
theorem mPr.powp {p : Nat} (hp : mPr p) : ∀ a, a ^ p % p = a % p
  | 0 => by
    rw [Nat.zero_pow (by have := hp.1; omega)]
  | a + 1 => by
    obtain ⟨t, ht⟩ := hp.pow1 a
    rw [ht, Nat.add_mul_mod_self_left, Nat.add_mod, hp.powp a, ← Nat.add_mod]
/-- Fermat -/
theorem mPr.inv {p : Nat} (hp : mPr p) {a : Nat} (ha : ¬ p ∣ a) : a * a ^ (p - 2) % p = 1 := by
  have h := hp.powp a
  obtain ⟨n, rfl⟩ : ∃ n, p = n + 2 := ⟨p - 2, by have := hp.1; omega⟩
  have e : a * a ^ (n + 2 - 2) = a ^ (n + 1) := by rw [Nat.pow_succ, Nat.mul_comm]; rfl
  rw [e]
  have h1 : n + 2 ∣ a ^ (n + 2) - a := Nat.dvd_of_mod_eq_zero (Nat.sub_mod_eq_zero_of_mod_eq h)
  have h2 : a ^ (n + 2) - a = a * (a ^ (n + 1) - 1) := by
    rw [Nat.mul_sub, Nat.mul_one, Nat.pow_succ a (n + 1), Nat.mul_comm]
  rw [h2] at h1
  rcases hp.mul h1 with e1 | ⟨t, ht⟩
  · exact absurd e1 ha
  · have h3 : 1 ≤ a ^ (n + 1) := by
      have h4 : 1 ≤ a := by
        rcases Nat.eq_zero_or_pos a with e | e
        · subst e; exact absurd (Nat.dvd_zero _) ha
        · exact e
      have := Nat.pow_le_pow_left h4 (n + 1)
      rwa [Nat.one_pow] at this
    have : a ^ (n + 1) = 1 + (n + 2) * t := by omega
    rw [this, Nat.add_mul_mod_self_left]
    exact Nat.mod_eq_of_lt (by omega)
/-- two of too many are alike -/
theorem mPigeon : ∀ (M N : Nat) (f : Nat → Nat), (∀ i, i < N → f i < M) → M < N → ∃ i j, i < j ∧ j < N ∧ f i = f j
  | 0, N, f, h, hn => absurd (h 0 hn) (by omega)
  | M + 1, N, f, h, hn => by
    by_cases e : ∃ i, i < N - 1 ∧ f i = f (N - 1)
    · obtain ⟨i, hi, e⟩ := e
      exact ⟨i, N - 1, hi, by omega, e⟩
    · have hv := h (N - 1) (by omega)
      have hne : ∀ i, i < N - 1 → f i ≠ f (N - 1) := fun i hi z => e ⟨i, hi, z⟩
      obtain ⟨i, j, h1, h2, h3⟩ := mPigeon M (N - 1) (fun i => if f (N - 1) < f i then f i - 1 else f i) (fun i hi => by
        have h4 := hne i hi
        have h5 := h i (by omega)
        show (if f (N - 1) < f i then f i - 1 else f i) < M
        split <;> omega) (by omega)
      refine ⟨i, j, h1, by omega, ?_⟩
      have h4 := hne i (by omega)
      have h5 := hne j h2
      have h3 : (if f (N - 1) < f i then f i - 1 else f i) = if f (N - 1) < f j then f j - 1 else f j := h3
      revert h3
      split <;> split <;> omega
def mCode (b : Nat → Nat) (K : Nat) : Nat → Nat
  | 0 => 0
  | n + 1 => mCode b K n * K + b n
theorem mCode_lt {b : Nat → Nat} {K : Nat} : ∀ n, (∀ j, j < n → b j < K) → mCode b K n < K ^ n
  | 0, _ => by show 0 < 1; omega
  | n + 1, h => by
    have h1 := mCode_lt n fun j hj => h j (by omega)
    have h2 := h n (by omega)
    show mCode b K n * K + b n < K ^ (n + 1)
    have h3 : (mCode b K n + 1) * K ≤ K ^ n * K := Nat.mul_le_mul_right _ h1
    rw [Nat.add_mul, Nat.one_mul] at h3
    rw [Nat.pow_succ]
    omega
theorem mCode_inj {b c : Nat → Nat} {K : Nat} : ∀ n, (∀ j, j < n → b j < K) → (∀ j, j < n → c j < K) → mCode b K n = mCode c K n → ∀ j, j < n → b j = c j
  | 0, _, _, _, j, hj => absurd hj (by omega)
  | n + 1, h1, h2, e, j, hj => by
    have a1 := h1 n (by omega)
    have a2 := h2 n (by omega)
    have e : mCode b K n * K + b n = mCode c K n * K + c n := e
    have hK : 0 < K := by omega
    have q1 : (mCode b K n * K + b n) / K = mCode b K n := by
      rw [Nat.add_comm, Nat.add_mul_div_right _ _ hK, Nat.div_eq_of_lt a1]
      omega
    have q2 : (mCode c K n * K + c n) / K = mCode c K n := by
      rw [Nat.add_comm, Nat.add_mul_div_right _ _ hK, Nat.div_eq_of_lt a2]
      omega
    have e1 : mCode b K n = mCode c K n := by rw [← q1, e, q2]
    rw [e1] at e
    rcases Nat.lt_or_ge j n with hl | hl
    · exact mCode_inj n (fun j hj => h1 j (by omega)) (fun j hj => h2 j (by omega)) e1 j hl
    · have : j = n := by omega
      subst this
      omega
def mLin (E : (Nat → Int) → Int) : Prop := (∀ x y, E (fun j => x j + y j) = E x + E y) ∧ ∀ c x, E (fun j => c * x j) = c * E x
theorem mLin.sub {E : (Nat → Int) → Int} (h : mLin E) (x y : Nat → Int) : E (fun j => x j - y j) = E x - E y := by
  have h1 := h.1 x fun j => (-1) * y j
  have h2 := h.2 (-1) y
  have h3 : (fun j => x j + -1 * y j) = fun j => x j - y j := by
    funext j
    omega
  rw [h3, h2] at h1
  omega
section Small
variable {n : Nat} {E : Nat → (Nat → Int) → Int}
/-- one vector for all primes together -/
theorem mAll (lin : ∀ i, mLin (E i)) : ∀ ps : List Nat, (∀ p, p ∈ ps → mPr p) → List.Nodup ps → (∀ p, p ∈ ps → ∃ w : Nat → Int, (∀ i, (p : Int) ∣ E i w) ∧ ∃ j, j < n ∧ ¬ (p : Int) ∣ w j) → ∃ w : Nat → Int, (∀ i, ((mMul ps : Nat) : Int) ∣ E i w) ∧ ∀ p, p ∈ ps → ∃ j, j < n ∧ ¬ (p : Int) ∣ w j
  | [], _, _, _ => ⟨fun _ => 0, fun i => ⟨E i fun _ => 0, by show E i (fun _ => 0) = ((1 : Nat) : Int) * E i fun _ => 0; omega⟩, fun p hp => by cases hp⟩
  | q :: ps, hp, hd, h => by
    obtain ⟨hd1, hd2⟩ := List.nodup_cons.mp hd
    obtain ⟨w, h1, h2⟩ := mAll lin ps (fun p m => hp p (List.mem_cons_of_mem _ m)) hd2 fun p m => h p (List.mem_cons_of_mem _ m)
    obtain ⟨v, h3, j, hj, h4⟩ := h q List.mem_cons_self
    have pq := hp q List.mem_cons_self
    have hnq : ¬ (q : Int) ∣ ((mMul ps : Nat) : Int) := fun z => by
      have z := Int.natCast_dvd_natCast.mp z
      have : ∀ l : List Nat, (∀ p, p ∈ l → mPr p) → q ∣ mMul l → q ∈ l := fun l => by
        induction l with
        | nil => exact fun _ z => absurd (Nat.dvd_one.mp z) (by have := pq.1; omega)
        | cons a l ih =>
          intro hl z
          rcases pq.mul z with e | e
          · have := pq.ne (hl a List.mem_cons_self) e
            subst this
            exact List.mem_cons_self
          · exact List.mem_cons_of_mem _ (ih (fun p m => hl p (List.mem_cons_of_mem _ m)) e)
      exact hd1 (this ps (fun p m => hp p (List.mem_cons_of_mem _ m)) z)
    refine ⟨fun j => (q : Int) * w j + ((mMul ps : Nat) : Int) * v j, fun i => ?_, fun p m => ?_⟩
    · rw [(lin i).1 (fun j => (q : Int) * w j) fun j => ((mMul ps : Nat) : Int) * v j, (lin i).2, (lin i).2]
      obtain ⟨a, ha⟩ := h1 i
      obtain ⟨b, hb⟩ := h3 i
      rw [ha, hb]
      refine ⟨a + b, ?_⟩
      show (q : Int) * (((mMul ps : Nat) : Int) * a) + ((mMul ps : Nat) : Int) * ((q : Int) * b) = ((q * mMul ps : Nat) : Int) * (a + b)
      rw [Int.natCast_mul, Int.mul_add, Int.mul_assoc, Int.mul_left_comm ((mMul ps : Nat) : Int) (q : Int) b, Int.mul_assoc]
    · rcases List.mem_cons.mp m with e | e
      · subst e
        refine ⟨j, hj, fun z => ?_⟩
        have z2 : (p : Int) ∣ ((mMul ps : Nat) : Int) * v j := by
          have := Int.dvd_sub z (Int.dvd_mul_right (p : Int) (w j))
          have e9 : (p : Int) * w j + ((mMul ps : Nat) : Int) * v j - (p : Int) * w j = ((mMul ps : Nat) : Int) * v j := by omega
          rwa [e9] at this
        rcases pq.imul z2 with e | e
        · exact hnq e
        · exact h4 e
      · obtain ⟨j2, hj2, h5⟩ := h2 p e
        refine ⟨j2, hj2, fun z => ?_⟩
        have pp := hp p m
        have z2 : (p : Int) ∣ (q : Int) * w j2 := by
          have hM : (p : Int) ∣ ((mMul ps : Nat) : Int) * v j2 := Int.dvd_trans (Int.natCast_dvd_natCast.mpr (mMul_dvd e)) (Int.dvd_mul_right _ _)
          have := Int.dvd_sub z hM
          have e9 : (q : Int) * w j2 + ((mMul ps : Nat) : Int) * v j2 - ((mMul ps : Nat) : Int) * v j2 = (q : Int) * w j2 := by omega
          rwa [e9] at this
        rcases pp.imul z2 with e2 | e2
        · have := pp.ne pq (Int.natCast_dvd_natCast.mp e2)
          subst this
          exact hd1 e
        · exact h5 e2
theorem mMul_all {d : Nat} : ∀ {ps : List Nat}, (∀ p, p ∈ ps → mPr p) → List.Nodup ps → (∀ p, p ∈ ps → p ∣ d) → mMul ps ∣ d
  | [], _, _, _ => Nat.one_dvd _
  | q :: ps, hp, hd, h => by
    obtain ⟨hd1, hd2⟩ := List.nodup_cons.mp hd
    have h1 := mMul_all (fun p m => hp p (List.mem_cons_of_mem _ m)) hd2 fun p m => h p (List.mem_cons_of_mem _ m)
    have pq := hp q List.mem_cons_self
    have hc : Nat.gcd q (mMul ps) = 1 := pq.cop fun z => by
      have : ∀ l : List Nat, (∀ p, p ∈ l → mPr p) → q ∣ mMul l → q ∈ l := fun l => by
        induction l with
        | nil => exact fun _ z => absurd (Nat.dvd_one.mp z) (by have := pq.1; omega)
        | cons a l ih =>
          intro hl z
          rcases pq.mul z with e | e
          · have := pq.ne (hl a List.mem_cons_self) e
            subst this
            exact List.mem_cons_self
          · exact List.mem_cons_of_mem _ (ih (fun p m => hl p (List.mem_cons_of_mem _ m)) e)
      exact hd1 (this ps (fun p m => hp p (List.mem_cons_of_mem _ m)) z)
    exact Nat.Coprime.mul_dvd_of_dvd_of_dvd hc (h q List.mem_cons_self) h1
/-- what is singular by each prime has a whole solution that is not nothing -/
theorem mSmall {ps : List Nat} (R : Nat) (lin : ∀ i, mLin (E i)) (hp : ∀ p, p ∈ ps → mPr p) (hd : List.Nodup ps) (h : ∀ p, p ∈ ps → ∃ w : Nat → Int, (∀ i, (p : Int) ∣ E i w) ∧ ∃ j, j < n ∧ ¬ (p : Int) ∣ w j)
    (hR : ∀ i (x : Nat → Int) (B : Int), 0 ≤ B → (∀ j, j < n → -B ≤ x j ∧ x j ≤ B) → -((R : Int) * B) ≤ E i x ∧ E i x ≤ (R : Int) * B) (hR1 : 1 ≤ R) (hM : R * R ≤ mMul ps) (hM2 : (R + 1) ^ n < mMul ps) : ∃ x : Nat → Int, (∀ i, E i x = 0) ∧ ∃ j, j < n ∧ x j ≠ 0 := by
  obtain ⟨w, h1, h2⟩ := mAll lin ps hp hd h
  generalize hMM : mMul ps = M at *
  have hM0 : 0 < M := by
    have := Nat.mul_le_mul hR1 hR1
    omega
  have hs : R ≤ M / R := (Nat.le_div_iff_mul_le hR1).mpr hM
  generalize hss : M / R = s at *
  have hs1 : s * R ≤ M := hss ▸ Nat.div_mul_le_self M R
  have hs2 : M < s * R + R := by
    have := Nat.lt_div_mul_add (a := M) hR1
    rwa [hss] at this
  have hs3 : M < s * (R + 1) := by rw [Nat.mul_add, Nat.mul_one]; omega
  -- a point of the way
  let c : Nat → Nat → Nat := fun t j => ((t : Int) * w j % (M : Int)).toNat
  have hc0 : ∀ t j, ((c t j : Nat) : Int) = (t : Int) * w j % (M : Int) := fun t j => Int.toNat_of_nonneg (Int.emod_nonneg _ (by omega))
  have hc1 : ∀ t j, c t j < M := fun t j => by
    have := Int.emod_lt_of_pos ((t : Int) * w j) (show 0 < (M : Int) by omega)
    have := hc0 t j
    omega
  have hb : ∀ t j, c t j / s < R + 1 := fun t j => by
    rw [Nat.div_lt_iff_lt_mul (by omega), Nat.mul_comm]
    have := hc1 t j
    omega
  obtain ⟨t, u, htu, hu, e⟩ := mPigeon ((R + 1) ^ n) M (fun t => mCode (fun j => c t j / s) (R + 1) n) (fun t _ => mCode_lt n fun j _ => hb t j) hM2
  have e := mCode_inj n (fun j _ => hb t j) (fun j _ => hb u j) e
  have hx : ∀ j, j < n → -((s : Int) - 1) ≤ (c u j : Int) - (c t j : Int) ∧ (c u j : Int) - (c t j : Int) ≤ (s : Int) - 1 := fun j hj => by
    have e := e j hj
    have a1 := Nat.div_add_mod (c t j) s
    have a2 := Nat.div_add_mod (c u j) s
    have a3 := Nat.mod_lt (c t j) (show 0 < s by omega)
    have a4 := Nat.mod_lt (c u j) (show 0 < s by omega)
    rw [e] at a1
    omega
  have hz : ∀ j, (c u j : Int) - (c t j : Int) = (((u - t : Nat) : Int)) * w j - (M : Int) * ((u : Int) * w j / (M : Int) - (t : Int) * w j / (M : Int)) := fun j => by
    have a1 := Int.emod_add_mul_ediv ((u : Int) * w j) (M : Int)
    have a2 := Int.emod_add_mul_ediv ((t : Int) * w j) (M : Int)
    have a3 := hc0 u j
    have a4 := hc0 t j
    have a5 : ((u - t : Nat) : Int) * w j = (u : Int) * w j - (t : Int) * w j := by
      rw [show ((u - t : Nat) : Int) = (u : Int) - (t : Int) by omega, Int.sub_mul]
    rw [a5, Int.mul_sub]
    omega
  refine ⟨fun j => (c u j : Int) - (c t j : Int), fun i => ?_, ?_⟩
  · have hb9 := hR i (fun j => (c u j : Int) - (c t j : Int)) ((s : Int) - 1) (by omega) hx
    have hdv : (M : Int) ∣ E i fun j => (c u j : Int) - (c t j : Int) := by
      have : (fun j => (c u j : Int) - (c t j : Int)) = fun j => ((u - t : Nat) : Int) * w j - (M : Int) * ((u : Int) * w j / (M : Int) - (t : Int) * w j / (M : Int)) := funext hz
      rw [this, (lin i).sub (fun j => ((u - t : Nat) : Int) * w j) (fun j => (M : Int) * ((u : Int) * w j / (M : Int) - (t : Int) * w j / (M : Int))), (lin i).2, (lin i).2]
      exact Int.dvd_sub (Int.dvd_trans (h1 i) (Int.dvd_mul_left _ _)) (Int.dvd_mul_right _ _)
    obtain ⟨k, hk⟩ := hdv
    have hlt : (R : Int) * ((s : Int) - 1) < (M : Int) := by
      have h9 : ((s * R : Nat) : Int) ≤ (M : Int) := by omega
      rw [Int.natCast_mul] at h9
      rw [Int.mul_sub, Int.mul_one, Int.mul_comm]
      omega
    rw [hk] at hb9 ⊢
    rcases Int.lt_trichotomy k 0 with e9 | e9 | e9
    · exfalso
      have := Int.mul_le_mul_of_nonneg_left (show k ≤ -1 by omega) (show 0 ≤ (M : Int) by omega)
      omega
    · rw [e9, Int.mul_zero]
    · exfalso
      have := Int.mul_le_mul_of_nonneg_left (show 1 ≤ k by omega) (show 0 ≤ (M : Int) by omega)
      omega
  · apply Decidable.byContradiction
    intro hno
    have h0 : ∀ j, j < n → (c u j : Int) - (c t j : Int) = 0 := fun j hj => Decidable.byContradiction fun z => hno ⟨j, hj, z⟩
    have : mMul ps ∣ u - t := mMul_all hp hd fun p m => by
      obtain ⟨j, hj, h5⟩ := h2 p m
      have h6 := hz j
      rw [h0 j hj] at h6
      have h7 : (p : Int) ∣ ((u - t : Nat) : Int) * w j := by
        have h8 : (p : Int) ∣ (M : Int) := Int.natCast_dvd_natCast.mpr (hMM ▸ mMul_dvd m)
        have h9 : ((u - t : Nat) : Int) * w j = (M : Int) * ((u : Int) * w j / (M : Int) - (t : Int) * w j / (M : Int)) := by omega
        rw [h9]
        exact Int.dvd_trans h8 (Int.dvd_mul_right _ _)
      rcases (hp p m).imul h7 with e9 | e9
      · exact Int.natCast_dvd_natCast.mp e9
      · exact absurd e9 h5
    rw [hMM] at this
    have := Nat.le_of_dvd (by omega) this
    omega
end Small
theorem mPs_nodup : List.Nodup mPs := by decide +kernel
theorem mPs_mul : (8193 : Nat) ^ 64 < mMul mPs ∧ 8192 * 8192 ≤ mMul mPs := by decide +kernel
/-- the forty primes: a system of at most 64 unknowns and small numbers that is singular by each has a solution -/
theorem mForty {E : Nat → (Nat → Int) → Int} (lin : ∀ i, mLin (E i)) (h : ∀ p, p ∈ mPs → ∃ w : Nat → Int, (∀ i, (p : Int) ∣ E i w) ∧ ∃ j, j < 64 ∧ ¬ (p : Int) ∣ w j)
    (hR : ∀ i (x : Nat → Int) (B : Int), 0 ≤ B → (∀ j, j < 64 → -B ≤ x j ∧ x j ≤ B) → -((8192 : Int) * B) ≤ E i x ∧ E i x ≤ (8192 : Int) * B) : ∃ x : Nat → Int, (∀ i, E i x = 0) ∧ ∃ j, j < 64 ∧ x j ≠ 0 :=
  mSmall (n := 64) (E := E) 8192 lin (fun _ => mPs_pr) mPs_nodup h hR (by decide) mPs_mul.2 mPs_mul.1
end MPrime
