/-! ===== the reference: equations by a prime ===== -/
section MSums
def mSi (f : Nat → Int) : Nat → Int
  | 0 => 0
  | n + 1 => mSi f n + f n
theorem mSi_congr {f g : Nat → Int} : ∀ n, (∀ k, k < n → f k = g k) → mSi f n = mSi g n
  | 0, _ => rfl
  | n + 1, h => by
    show mSi f n + f n = mSi g n + g n
    rw [mSi_congr n fun k hk => h k (by omega), h n (by omega)]
theorem mSi_add (f g : Nat → Int) : ∀ n, mSi (fun k => f k + g k) n = mSi f n + mSi g n
  | 0 => rfl
  | n + 1 => by
    show mSi (fun k => f k + g k) n + (f n + g n) = (mSi f n + f n) + (mSi g n + g n)
    rw [mSi_add f g n]
    omega
theorem mSi_sub (f g : Nat → Int) : ∀ n, mSi (fun k => f k - g k) n = mSi f n - mSi g n
  | 0 => rfl
  | n + 1 => by
    show mSi (fun k => f k - g k) n + (f n - g n) = (mSi f n + f n) - (mSi g n + g n)
    rw [mSi_sub f g n]
    omega
theorem mSi_mul (c : Int) (f : Nat → Int) : ∀ n, mSi (fun k => c * f k) n = c * mSi f n
  | 0 => by show (0 : Int) = c * 0; rw [Int.mul_zero]
  | n + 1 => by
    show mSi (fun k => c * f k) n + c * f n = c * (mSi f n + f n)
    rw [mSi_mul c f n, Int.mul_add]
theorem mSi_zero {f : Nat → Int} : ∀ n, (∀ k, k < n → f k = 0) → mSi f n = 0
  | 0, _ => rfl
  | n + 1, h => by
    show mSi f n + f n = 0
    rw [mSi_zero n fun k hk => h k (by omega), h n (by omega)]
    rfl
theorem mSi_one {f : Nat → Int} {c : Nat} : ∀ n, c < n → (∀ k, k < n → k ≠ c → f k = 0) → mSi f n = f c
  | 0, hc, _ => absurd hc (by omega)
  | n + 1, hc, h => by
    show mSi f n + f n = f c
    by_cases e : c = n
    · subst e
      rw [mSi_zero c fun k hk => h k (by omega) (by omega)]
      omega
    · rw [mSi_one n (by omega) fun k hk => h k (by omega), h n (by omega) (by omega)]
      omega
theorem mSi_dvd {P : Int} {f : Nat → Int} : ∀ n, (∀ k, k < n → P ∣ f k) → P ∣ mSi f n
  | 0, _ => Int.dvd_zero _
  | n + 1, h => Int.dvd_add (mSi_dvd n fun k hk => h k (by omega)) (h n (by omega))
theorem mSi_dvd_sub {P : Int} {f g : Nat → Int} (n : Nat) (h : ∀ k, k < n → P ∣ f k - g k) : P ∣ mSi f n - mSi g n := by
  rw [← mSi_sub]
  exact mSi_dvd n h
/-- a sum of two places -/
theorem mSi_abs {f : Nat → Int} {B : Int} : ∀ n, (∀ k, k < n → -B ≤ f k ∧ f k ≤ B) → -((n : Int) * B) ≤ mSi f n ∧ mSi f n ≤ (n : Int) * B
  | 0, _ => by
    show -((0 : Int) * B) ≤ 0 ∧ (0 : Int) ≤ 0 * B
    omega
  | n + 1, h => by
    have h1 := mSi_abs n fun k hk => h k (by omega)
    have h2 := h n (by omega)
    show -(((n + 1 : Nat) : Int) * B) ≤ mSi f n + f n ∧ mSi f n + f n ≤ ((n + 1 : Nat) : Int) * B
    rw [show ((n + 1 : Nat) : Int) = (n : Int) + 1 by omega, Int.add_mul, Int.one_mul]
    omega
theorem mSi_pos {f : Nat → Int} : ∀ n, (∀ k, k < n → 0 ≤ f k) → mSi f n = 0 → ∀ k, k < n → f k = 0
  | 0, _, _, k, hk => absurd hk (by omega)
  | n + 1, h, e, k, hk => by
    have hp : 0 ≤ mSi f n := by
      have : ∀ m, m ≤ n → 0 ≤ mSi f m := fun m => by
        induction m with
        | zero => intro _; exact Int.le_refl 0
        | succ m ih =>
          intro hm
          have := ih (by omega)
          have := h m (by omega)
          show 0 ≤ mSi f m + f m
          omega
      exact this n (Nat.le_refl n)
    have h2 := h n (by omega)
    have e : mSi f n + f n = 0 := e
    by_cases g : k = n
    · subst g; omega
    · exact mSi_pos n (fun k hk => h k (by omega)) (by omega) k (by omega)
theorem mSi_comm (f : Nat → Nat → Int) (m : Nat) : ∀ n, mSi (fun i => mSi (fun j => f i j) m) n = mSi (fun j => mSi (fun i => f i j) n) m
  | 0 => by
    show (0 : Int) = mSi (fun _ => 0) m
    rw [mSi_zero m fun _ _ => rfl]
  | n + 1 => by
    show mSi (fun i => mSi (fun j => f i j) m) n + mSi (fun j => f n j) m = mSi (fun j => mSi (fun i => f i j) n + f n j) m
    rw [mSi_comm f m n, mSi_add]
end MSums
section MRem
variable {o : Nat} {ft : Nat → List Nat} {call : xF} {pool : Nat → xP} {hs : List (Nat × (Nat × (Nat × Nat)))} {tab : Lean.RArray xI} {P : xE → Prop}
variable {N pc nx len : Nat} {L : List (Nat × xA)} {rest : List xA} {hp : xH}
/-- what a division leaves, and that the divisor divides the rest -/
theorem yG.lremX {a b : Int} (ht : xget tab pc = (pc, (.lrem, (len, nx)))) (ha : zi64 a) (hb : zi64 b) (h1 : 1 ≤ b) (h : ∀ r : Int, -b < r → r < b → b ∣ a - r → yG o ft call pool hs tab P N nx L (yJ r :: rest) hp) : yG o ft call pool hs tab P (N + 1) pc L (yJ b :: yJ a :: rest) hp := by
  have e : a - a.tdiv b * b = a.tmod b := by
    rw [Int.tmod_def, Int.mul_comm]
  have e1 := Int.tmod_lt_of_pos a (show 0 < b by omega)
  have e2 : -b < a.tmod b := by
    have := Int.lt_tmod_of_pos a (show 0 < b by omega)
    omega
  exact yG.step (pc' := nx) (stk' := yJ (a.tmod b) :: rest) ht (fun K l => by
    show xj (cond (Nat.beq (xm64 (zc64 b)) 0) none (some (.inr (.inl (x64 (Int64.ofNat (zc64 a) - (Int64.ofNat (zc64 a) / Int64.ofNat (zc64 b)) * Int64.ofNat (zc64 b))))))) (fun v => K nx l (v :: rest) hp) = _
    rw [zc64_ne hb h1, zrem64 ha hb, e]
    rfl) (h _ e2 e1 ⟨a.tdiv b, by rw [← e, Int.mul_comm]; omega⟩)
theorem yland1 {a : Int} (h0 : 0 ≤ a) (h1 : a ≤ 9223372036854775807) : (Int64.ofNat (zc64 a) &&& Int64.ofNat (zc64 1)).toInt = a % 2 := by
  rw [zc64_of]
  show ((Int64.ofInt a &&& Int64.ofNat (zc64 1)).toBitVec).toInt = _
  rw [Int64.toBitVec_and]
  have hx : (Int64.ofInt a).toBitVec.toInt = a := zof64 ⟨by omega, by omega⟩
  rw [BitVec.toInt_eq_toNat_cond] at hx
  have hl := (Int64.ofInt a).toBitVec.isLt
  have e : ((Int64.ofInt a).toBitVec.toNat : Int) = a := by
    split at hx <;> omega
  have e1 : (Int64.ofNat (zc64 1)).toBitVec.toNat = 1 := by decide
  rw [BitVec.toInt_eq_toNat_cond, BitVec.toNat_and, e1, Nat.and_one_is_mod]
  split <;> omega
end MRem
section MPow
theorem mdv_sub {p a b : Int} (h : p ∣ a) (h2 : p ∣ a - b) : p ∣ b := by
  have := Int.dvd_sub h h2
  rwa [show a - (a - b) = b by omega] at this
theorem mdv_tr {p a b c : Int} (h : p ∣ a - b) (h2 : p ∣ b - c) : p ∣ a - c := by
  have := Int.dvd_add h h2
  rwa [show a - b + (b - c) = a - c by omega] at this
theorem mdv_sy {p a b : Int} (h : p ∣ a - b) : p ∣ b - a := by
  have := Int.dvd_neg.mpr h
  rwa [show -(a - b) = b - a by omega] at this
theorem mdv_mul {p a b c d : Int} (h : p ∣ a - b) (h2 : p ∣ c - d) : p ∣ a * c - b * d := by
  have h3 : p ∣ (a - b) * c := Int.dvd_trans h (Int.dvd_mul_right _ _)
  have h4 : p ∣ b * (c - d) := Int.dvd_trans h2 (Int.dvd_mul_left _ _)
  have := Int.dvd_add h3 h4
  rwa [Int.sub_mul, Int.mul_sub, show a * c - b * c + (b * c - b * d) = a * c - b * d by omega] at this
theorem mdv_rf (p a : Int) : p ∣ a - a := by
  rw [Int.sub_self]
  exact Int.dvd_zero _
theorem mdv_pow {p a b : Int} (h : p ∣ a - b) : ∀ n : Nat, p ∣ a ^ n - b ^ n
  | 0 => by rw [Int.pow_zero, Int.pow_zero]; exact mdv_rf _ _
  | n + 1 => by
    rw [Int.pow_succ, Int.pow_succ]
    exact mdv_mul (mdv_pow h n) h
theorem mdv_mod {p a z : Int} (hp : 1 ≤ p) (h : z = a % p) : p ∣ z - a := by
  subst h
  refine ⟨-(a / p), ?_⟩
  have := Int.emod_add_mul_ediv a p
  rw [Int.mul_neg]
  omega
theorem mPow1 {p r x V r2 x2 : Int} {e f : Nat} (h : p ∣ r * x ^ e - V) (he : e = 2 * f + 1) (h1 : p ∣ r2 - r * x) (h2 : p ∣ x2 - x * x) : p ∣ r2 * x2 ^ f - V := by
  refine mdv_tr ?_ h
  have e1 : r * x ^ e = (r * x) * (x * x) ^ f := by
    subst he
    rw [Int.pow_succ, Int.pow_mul, Int.mul_assoc r x]
    congr 1
    rw [Int.mul_comm, show x ^ 2 = x * x from by rw [Int.pow_succ, Int.pow_succ, Int.pow_zero, Int.one_mul]]
  rw [e1]
  exact mdv_mul h1 (mdv_pow h2 f)
theorem mPow0 {p r x V x2 : Int} {e f : Nat} (h : p ∣ r * x ^ e - V) (he : e = 2 * f) (h2 : p ∣ x2 - x * x) : p ∣ r * x2 ^ f - V := by
  refine mdv_tr ?_ h
  have e1 : r * x ^ e = r * (x * x) ^ f := by
    subst he
    rw [Int.pow_mul, show x ^ 2 = x * x from by rw [Int.pow_succ, Int.pow_succ, Int.pow_zero, Int.one_mul]]
  rw [e1]
  exact mdv_mul (mdv_rf _ _) (mdv_pow h2 f)
/-- an inverse by a prime -/
theorem mInvOf {p v z : Int} (hp : mPr p.toNat) (h0 : 0 ≤ v) (hv : ¬ p ∣ v) (hz : p ∣ z - v ^ (p - 2).toNat) : p ∣ v * z - 1 := by
  have h2 := hp.1
  obtain ⟨q, rfl⟩ : ∃ q : Nat, p = (q : Int) := ⟨p.toNat, by omega⟩
  obtain ⟨a, rfl⟩ : ∃ a : Nat, v = (a : Int) := ⟨v.toNat, by omega⟩
  have hp : mPr q := hp
  have e : ((q : Int) - 2).toNat = q - 2 := by omega
  rw [e] at hz
  have h3 := hp.inv (a := a) fun h => hv (Int.natCast_dvd_natCast.mpr h)
  have h4 : (q : Int) ∣ (a : Int) * (a : Int) ^ (q - 2) - 1 := by
    have h5 := Nat.div_add_mod (a * a ^ (q - 2)) q
    rw [h3] at h5
    obtain ⟨k, hk⟩ : ∃ k, a * a ^ (q - 2) = q * k + 1 := ⟨_, h5.symm⟩
    have h6 : ((a * a ^ (q - 2) : Nat) : Int) = (q : Int) * (k : Int) + 1 := by rw [hk, Int.natCast_add, Int.natCast_mul]; rfl
    rw [Int.natCast_mul, Int.natCast_pow] at h6
    exact ⟨(k : Int), by omega⟩
  exact mdv_tr (mdv_mul (mdv_rf _ _) hz) h4
end MPow
section MMatrix
variable {hp hp' a b c9 : xH} {P : Int} {n C row c : Nat} {w : Nat → Int}
/-- the matrix; the prime at hand -/
noncomputable def mmM (hp : xH) (r k : Nat) : Int := ys hp 2083 (48 * r + k)
noncomputable def mmP (hp : xH) : Int := ys hp 2073 11
/-- a vector by which all rows are 0 -/
def mKer (hp : xH) (P : Int) (w : Nat → Int) (n C : Nat) : Prop := ∀ r, r < n → P ∣ mSi (fun k => mmM hp r k * w k) C
/-- a column is cleared -/
def mClr (hp hp' : xH) (P : Int) (row c n C : Nat) : Prop := ∃ y : Int, P ∣ y * mmM hp row c - 1 ∧ (∀ j, j < C → P ∣ mmM hp' row j - y * mmM hp row j) ∧ ∀ r, r < n → r ≠ row → ∀ j, j < C → P ∣ mmM hp' r j - (mmM hp r j - mmM hp r c * mmM hp' row j)
theorem mClr.ker (h : mClr hp hp' P row c n C) (hrow : row < n) (hk : mKer hp' P w n C) : mKer hp P w n C := by
  obtain ⟨y, h1, h2, h3⟩ := h
  have hr0 : P ∣ mSi (fun k => mmM hp row k * w k) C := by
    have e1 : P ∣ mSi (fun k => mmM hp' row k * w k) C - mSi (fun k => y * (mmM hp row k * w k)) C := mSi_dvd_sub C fun k hk9 => by
      rw [← Int.mul_assoc]
      exact mdv_mul (h2 k hk9) (mdv_rf _ _)
    rw [mSi_mul] at e1
    have e2 := mdv_sub (hk row hrow) e1
    have e3 : P ∣ mmM hp row c * (y * mSi (fun k => mmM hp row k * w k) C) := Int.dvd_trans e2 (Int.dvd_mul_left _ _)
    have e4 : P ∣ (y * mmM hp row c - 1) * mSi (fun k => mmM hp row k * w k) C := Int.dvd_trans h1 (Int.dvd_mul_right _ _)
    rw [Int.sub_mul, Int.one_mul, show y * mmM hp row c * mSi (fun k => mmM hp row k * w k) C = mmM hp row c * (y * mSi (fun k => mmM hp row k * w k) C) by rw [Int.mul_comm y, Int.mul_assoc]] at e4
    exact mdv_sub e3 e4
  intro r hr
  by_cases e : r = row
  · rw [e]; exact hr0
  · have e1 : P ∣ mSi (fun k => mmM hp' r k * w k) C - mSi (fun k => mmM hp r k * w k - mmM hp r c * (mmM hp' row k * w k)) C := mSi_dvd_sub C fun k hk9 => by
      rw [← Int.mul_assoc, ← Int.sub_mul]
      exact mdv_mul (h3 r hr e k hk9) (mdv_rf _ _)
    have e2 := mdv_sub (hk r hr) e1
    rw [mSi_sub, mSi_mul] at e2
    have e3 : P ∣ mmM hp r c * mSi (fun k => mmM hp' row k * w k) C := Int.dvd_trans (hk row hrow) (Int.dvd_mul_left _ _)
    have := Int.dvd_add e2 e3
    rwa [show mSi (fun k => mmM hp r k * w k) C - mmM hp r c * mSi (fun k => mmM hp' row k * w k) C + mmM hp r c * mSi (fun k => mmM hp' row k * w k) C = mSi (fun k => mmM hp r k * w k) C by omega] at this
/-- the first columns are those of one -/
def mUnit (hp : xH) (n c : Nat) : Prop := ∀ k, k < c → ∀ r, r < n → mmM hp r k = if r = k then 1 else 0
theorem mdv_rng {a b : Int} (h : P ∣ a - b) (ha : 0 ≤ a ∧ a < P) (hb : 0 ≤ b ∧ b < P) : a = b := by
  obtain ⟨t, ht⟩ := h
  rcases Int.lt_trichotomy t 0 with e | e | e
  · have := Int.mul_le_mul_of_nonneg_left (show t ≤ -1 by omega) (show 0 ≤ P by omega)
    omega
  · rw [e, Int.mul_zero] at ht; omega
  · have := Int.mul_le_mul_of_nonneg_left (show 1 ≤ t by omega) (show 0 ≤ P by omega)
    omega
theorem mClr.unit (h : mClr hp hp' P c c n C) (hu : mUnit hp n c) (hc : c < n) (hnC : n ≤ C) (hP : 2 ≤ P) (hr : ∀ r k, r < n → k < C → 0 ≤ mmM hp' r k ∧ mmM hp' r k < P) : mUnit hp' n (c + 1) := by
  obtain ⟨y, h1, h2, h3⟩ := h
  intro k hk r hr9
  by_cases ek : k = c
  · subst ek
    have hcc : mmM hp' k k = 1 := mdv_rng (P := P) (mdv_tr (h2 k (by omega)) h1) (hr k k hc (by omega)) (by omega)
    by_cases e : r = k
    · rw [if_pos e, e, hcc]
    · rw [if_neg e]
      have := h3 r hr9 e k (by omega)
      rw [hcc, Int.mul_one, Int.sub_self] at this
      exact mdv_rng this (hr r k hr9 (by omega)) (by omega)
  · have hkc : k < c := by omega
    have hz : mmM hp c k = 0 := by rw [hu k hkc c hc, if_neg (by omega)]
    have hz2 : mmM hp' c k = 0 := by
      have := h2 k (by omega)
      rw [hz, Int.mul_zero] at this
      exact mdv_rng this (hr c k hc (by omega)) (by omega)
    by_cases e : r = c
    · rw [e, if_neg (by omega), hz2]
    · have := h3 r hr9 e k (by omega)
      rw [hz2, Int.mul_zero, Int.sub_zero, hu k hkc r hr9] at this
      exact mdv_rng this (hr r k hr9 (by omega)) (by split <;> omega)
/-- rows are swapped -/
theorem mSwap_ker {r s : Nat} (hr : r < n) (hs : s < n) (h1 : ∀ k, k < C → mmM hp' r k = mmM hp s k) (h2 : ∀ k, k < C → mmM hp' s k = mmM hp r k) (h3 : ∀ t, t ≠ r → t ≠ s → ∀ k, k < C → mmM hp' t k = mmM hp t k) (hk : mKer hp' P w n C) : mKer hp P w n C := by
  have hc : ∀ t u, (∀ k, k < C → mmM hp' t k = mmM hp u k) → mSi (fun k => mmM hp' t k * w k) C = mSi (fun k => mmM hp u k * w k) C := fun t u h => mSi_congr C fun k hk9 => by rw [h k hk9]
  intro t ht
  by_cases e1 : t = r
  · subst e1
    rw [← hc s t h2]
    exact hk s hs
  · by_cases e2 : t = s
    · subst e2
      rw [← hc r t h1]
      exact hk r hr
    · rw [← hc t t (h3 t e1 e2)]
      exact hk t ht
theorem mSwap_unit {r : Nat} (hu : mUnit hp n c) (hc : c ≤ r) (hr : r < n) (hcn : c < n) (hcC : c ≤ C) (h1 : ∀ k, k < C → mmM hp' r k = mmM hp c k) (h2 : ∀ k, k < C → mmM hp' c k = mmM hp r k) (h3 : ∀ t, t ≠ r → t ≠ c → ∀ k, k < C → mmM hp' t k = mmM hp t k) : mUnit hp' n c := by
  intro k hk t ht
  by_cases e1 : t = r
  · subst e1
    rw [h1 k (by omega), hu k hk c hcn, if_neg (by omega), if_neg (by omega)]
  · by_cases e2 : t = c
    · subst e2
      rw [h2 k (by omega), hu k hk r hr, if_neg (by omega), if_neg (by omega)]
    · rw [h3 t e1 e2 k (by omega)]
      exact hu k hk t ht
/-- a column without a number to clear with: a vector by which all is 0 -/
theorem mStuck (hu : mUnit hp n c) (hc : c < n) (hnC : n ≤ C) (hz : ∀ r, c ≤ r → r < n → mmM hp r c = 0) : ∃ w : Nat → Int, w c = 1 ∧ (∀ k, n ≤ k → w k = 0) ∧ mKer hp P w n C := by
  refine ⟨fun k => if k = c then 1 else if k < c then -(mmM hp k c) else 0, if_pos rfl, fun k hk => ?_, fun r hr => ?_⟩
  · show (if k = c then (1 : Int) else if k < c then _ else 0) = 0
    rw [if_neg (by omega), if_neg (by omega)]
  · have e : mSi (fun k => mmM hp r k * (if k = c then 1 else if k < c then -(mmM hp k c) else 0)) C = mSi (fun k => if k = c then mmM hp r c else 0) C + mSi (fun k => if k = r then (if r < c then -(mmM hp r c) else 0) else 0) C := by
      rw [← mSi_add]
      refine mSi_congr C fun k hk => ?_
      show _ = (if k = c then mmM hp r c else 0) + (if k = r then (if r < c then -(mmM hp r c) else 0) else 0)
      by_cases e1 : k = c
      · subst e1
        rw [if_pos rfl, if_pos rfl]
        by_cases e2 : k = r
        · rw [if_pos e2, if_neg (by omega)]; omega
        · rw [if_neg e2]; omega
      · rw [if_neg e1, if_neg e1]
        by_cases e3 : k < c
        · rw [if_pos e3, hu k e3 r hr]
          by_cases e2 : k = r
          · subst e2
            rw [if_pos rfl, if_pos rfl, if_pos e3]; omega
          · rw [if_neg (fun z => e2 z.symm), if_neg e2]; omega
        · rw [if_neg e3, Int.mul_zero]
          by_cases e2 : k = r
          · rw [if_pos e2, if_neg (by omega)]; omega
          · rw [if_neg e2]; omega
    rw [e, mSi_one (c := c) C (by omega) fun k _ h => if_neg h, mSi_one (c := r) C (by omega) fun k _ h => if_neg h, if_pos rfl, if_pos rfl]
    by_cases e1 : r < c
    · rw [if_pos e1]
      rw [show mmM hp r c + -(mmM hp r c) = 0 by omega]
      exact Int.dvd_zero _
    · rw [if_neg e1, hz r (by omega) hr]
      exact Int.dvd_zero _
end MMatrix
section MMatrix2
variable {hp hq h1 h2 : xH} {P y z f : Int} {row c C r k n : Nat}
theorem mmM_put {i : Int} {r k : Nat} (hy : ∀ x t, ys h2 x t = if x = 2083 ∧ t = i.toNat then z else ys hq x t) (hi : i = 48 * (r : Int) + (k : Int)) (hk : k < 48) (s j : Nat) (hj : j < 48) : mmM h2 s j = if s = r ∧ j = k then z else mmM hq s j := by
  unfold mmM
  rw [hy]
  by_cases e : s = r ∧ j = k
  · rw [if_pos e, if_pos ⟨rfl, by omega⟩]
  · rw [if_neg e, if_neg (by omega)]
theorem mmM_at {i z : Int} {r k : Nat} (h : z = ys hq 2083 i.toNat) (hi : i = 48 * (r : Int) + (k : Int)) : z = mmM hq r k := by
  unfold mmM
  rw [h]
  congr 1
  omega
/-- numbers of a prime -/
def mRng (hp : xH) (P : Int) (n C : Nat) : Prop := ∀ r, r < n → ∀ k, k < C → 0 ≤ mmM hp r k ∧ mmM hp r k < P
/-- a row is multiplied, up to a column -/
def mAq (hp hq : xH) (P : Int) (row c n C : Nat) (y K : Int) : Prop := P ∣ y * mmM hp row c - 1 ∧ (∀ j : Nat, (j : Int) < K → j < 48 → (P ∣ mmM hq row j - y * mmM hp row j) ∧ 0 ≤ mmM hq row j ∧ mmM hq row j < P) ∧ (∀ j : Nat, K ≤ (j : Int) → j < 48 → mmM hq row j = mmM hp row j) ∧ ∀ r, r ≠ row → ∀ j, j < 48 → mmM hq r j = mmM hp r j
theorem mAq.start (h : P ∣ y * mmM hp row c - 1) : mAq hp hp P row c n C y 0 := ⟨h, fun j h1 _ => absurd h1 (by omega), fun _ _ _ => rfl, fun _ _ _ _ => rfl⟩
theorem mAq.cg {K : Int} (h : mAq hp h1 P row c n C y K) (e : ∀ t, ys h2 2083 t = ys h1 2083 t) : mAq hp h2 P row c n C y K := by
  have e2 : ∀ r k, mmM h2 r k = mmM h1 r k := fun r k => e _
  unfold mAq at *
  simp only [e2]
  exact h
theorem mAq.step {i m K : Int} (h : mAq hp hq P row c n C y K) (hK : K = (k : Int)) (hk : k < 48) (hy : ∀ x t, ys h2 x t = if x = 2083 ∧ t = i.toNat then z else ys hq x t) (hi : i = 48 * (row : Int) + (k : Int)) (hm : m = mmM hq row k) (hz : P ∣ z - m * y) (hz0 : 0 ≤ z) (hz1 : z < P) : mAq hp h2 P row c n C y (K + 1) := by
  subst hK
  obtain ⟨a1, a2, a3, a4⟩ := h
  have e := mmM_put hy hi hk
  refine ⟨a1, fun j j1 j2 => ?_, fun j j1 j2 => ?_, fun r hr j hj => ?_⟩
  · rw [e row j j2]
    by_cases g : j = k
    · rw [if_pos ⟨rfl, g⟩, g]
      refine ⟨?_, hz0, hz1⟩
      rw [hm, a3 k (by omega) hk, Int.mul_comm] at hz
      exact hz
    · rw [if_neg (fun x => g x.2)]
      exact a2 j (by omega) j2
  · rw [e row j j2, if_neg (by omega)]
    exact a3 j (by omega) j2
  · rw [e r j hj, if_neg (fun x => hr x.1)]
    exact a4 r hr j hj
/-- rows are cleared, up to one -/
def mBq (hp hq : xH) (P : Int) (row c n C : Nat) (R : Int) : Prop := ∃ y : Int, P ∣ y * mmM hp row c - 1 ∧ (∀ j, j < C → j < 48 → (P ∣ mmM hq row j - y * mmM hp row j) ∧ 0 ≤ mmM hq row j ∧ mmM hq row j < P) ∧ (∀ r : Nat, (r : Int) < R → r ≠ row → ∀ j, j < C → j < 48 → (P ∣ mmM hq r j - (mmM hp r j - mmM hp r c * mmM hq row j)) ∧ (0 ≤ mmM hp r j ∧ mmM hp r j < P → 0 ≤ mmM hq r j ∧ mmM hq r j < P)) ∧ ∀ r : Nat, R ≤ (r : Int) → r ≠ row → ∀ j, j < 48 → mmM hq r j = mmM hp r j
theorem mAq.done {K : Int} (h : mAq hp hq P row c n C y K) (hK : (C : Int) ≤ K) : mBq hp hq P row c n C 0 := by
  obtain ⟨a1, a2, a3, a4⟩ := h
  exact ⟨y, a1, fun j j1 j2 => a2 j (by omega) j2, fun r hr => absurd hr (by omega), fun r _ hr j hj => a4 r hr j hj⟩
/-- one more row is cleared, up to a column -/
def mCq (hp hq : xH) (P : Int) (row c n C : Nat) (R K f : Int) : Prop := ∃ y : Int, P ∣ y * mmM hp row c - 1 ∧ (∀ j, j < C → j < 48 → (P ∣ mmM hq row j - y * mmM hp row j) ∧ 0 ≤ mmM hq row j ∧ mmM hq row j < P) ∧ (∀ r : Nat, (r : Int) < R → r ≠ row → ∀ j, j < C → j < 48 → (P ∣ mmM hq r j - (mmM hp r j - mmM hp r c * mmM hq row j)) ∧ (0 ≤ mmM hp r j ∧ mmM hp r j < P → 0 ≤ mmM hq r j ∧ mmM hq r j < P)) ∧ (∀ r : Nat, R < (r : Int) → r ≠ row → ∀ j, j < 48 → mmM hq r j = mmM hp r j) ∧ ∀ r : Nat, R = (r : Int) → r ≠ row → f = mmM hp r c ∧ (∀ j : Nat, (j : Int) < K → j < 48 → (P ∣ mmM hq r j - (mmM hp r j - f * mmM hq row j)) ∧ 0 ≤ mmM hq r j ∧ mmM hq r j < P) ∧ ∀ j : Nat, K ≤ (j : Int) → j < 48 → mmM hq r j = mmM hp r j
theorem mBq.start {R : Int} (h : mBq hp hq P row c n C R) (hc : c < 48) (hf : ∀ r : Nat, R = (r : Int) → f = mmM hq r c) : mCq hp hq P row c n C R 0 f := by
  obtain ⟨y, a1, a2, a3, a4⟩ := h
  exact ⟨y, a1, a2, a3, fun r hr => a4 r (by omega), fun r hr hn => ⟨by rw [hf r hr, a4 r (by omega) hn c hc], fun j hj => absurd hj (by omega), fun j _ hj => a4 r (by omega) hn j hj⟩⟩
theorem mCq.step {i m s9 R K : Int} (h : mCq hp hq P row c n C R K f) (hR : R = (r : Int)) (hK : K = (k : Int)) (hk : k < 48) (hr : r ≠ row) (hy : ∀ x t, ys h2 x t = if x = 2083 ∧ t = i.toNat then z else ys hq x t) (hi : i = 48 * (r : Int) + (k : Int)) (hm : m = mmM hq r k) (hs : s9 = mmM hq row k) (hz : P ∣ z - (m - f * s9)) (hz0 : 0 ≤ z) (hz1 : z < P) : mCq hp h2 P row c n C R (K + 1) f := by
  subst hR
  subst hK
  obtain ⟨y, a1, a2, a3, a4, a5⟩ := h
  have e := mmM_put hy hi hk
  have er : ∀ j, j < 48 → mmM h2 row j = mmM hq row j := fun j hj => by rw [e row j hj, if_neg (fun x => hr x.1.symm)]
  refine ⟨y, a1, fun j j1 j2 => by rw [er j j2]; exact a2 j j1 j2, fun t ht hn j j1 j2 => ?_, fun t ht hn j hj => ?_, fun t ht hn => ?_⟩
  · rw [er j j2, e t j j2, if_neg (by omega)]
    exact a3 t ht hn j j1 j2
  · rw [e t j hj, if_neg (by omega)]
    exact a4 t ht hn j hj
  · have : t = r := by omega
    subst this
    obtain ⟨b1, b2, b3⟩ := a5 t rfl hn
    refine ⟨b1, fun j j1 j2 => ?_, fun j j1 j2 => ?_⟩
    · rw [er j j2, e t j j2]
      by_cases g : j = k
      · rw [if_pos ⟨rfl, g⟩, g]
        rw [hm, hs, b3 k (by omega) hk] at hz
        exact ⟨hz, hz0, hz1⟩
      · rw [if_neg (fun x => g x.2)]
        exact b2 j (by omega) j2
    · rw [e t j j2, if_neg (by omega)]
      exact b3 j (by omega) j2
theorem mCq.done {R K : Int} (h : mCq hp hq P row c n C R K f) (hR : 0 ≤ R) (he : (C : Int) ≤ K ∨ R = (row : Int) ∨ f = 0) : mBq hp hq P row c n C (R + 1) := by
  obtain ⟨y, a1, a2, a3, a4, a5⟩ := h
  refine ⟨y, a1, a2, fun r hr hn j j1 j2 => ?_, fun r hr hn j hj => a4 r (by omega) hn j hj⟩
  by_cases e : (r : Int) < R
  · exact a3 r e hn j j1 j2
  · obtain ⟨b1, b2, b3⟩ := a5 r (by omega) hn
    rw [← b1]
    rcases Int.lt_or_le (j : Int) K with g | g
    · exact ⟨(b2 j g j2).1, fun _ => (b2 j g j2).2⟩
    · have hf : f = 0 := by
        rcases he with h9 | h9 | h9
        · omega
        · omega
        · exact h9
      rw [b3 j g j2, hf, Int.zero_mul, Int.sub_zero]
      exact ⟨mdv_rf _ _, fun h => h⟩
theorem mBq.clr {R : Int} (h : mBq hp hq P row c n C R) (hC : C ≤ 48) (hR : (n : Int) ≤ R) : mClr hp hq P row c n C ∧ (mRng hp P n C → mRng hq P n C) := by
  obtain ⟨y, a1, a2, a3, a4⟩ := h
  refine ⟨⟨y, a1, fun j hj => (a2 j hj (by omega)).1, fun r hr hn j hj => (a3 r (by omega) hn j hj (by omega)).1⟩, fun g r hr j hj => ?_⟩
  by_cases e : r = row
  · rw [e]; exact (a2 j hj (by omega)).2
  · exact (a3 r (by omega) e j hj (by omega)).2 (g r hr j hj)
/-- two rows are swapped, up to a column -/
def mSw (hp hq : xH) (r s : Nat) (K : Int) : Prop := (∀ j : Nat, (j : Int) < K → j < 48 → mmM hq r j = mmM hp s j ∧ mmM hq s j = mmM hp r j) ∧ (∀ j : Nat, K ≤ (j : Int) → j < 48 → mmM hq r j = mmM hp r j ∧ mmM hq s j = mmM hp s j) ∧ ∀ t, t ≠ r → t ≠ s → ∀ j, j < 48 → mmM hq t j = mmM hp t j
theorem mSw.step {r s : Nat} {i i2 v v2 K : Int} (h : mSw hp hq r s K) (hK : K = (k : Int)) (hrs : r ≠ s) (hk : k < 48) (hv : v = mmM hq r k) (hv2 : v2 = mmM hq s k) (hy1 : ∀ x t, ys h1 x t = if x = 2083 ∧ t = i.toNat then v2 else ys hq x t) (hi1 : i = 48 * (r : Int) + (k : Int)) (hy2 : ∀ x t, ys h2 x t = if x = 2083 ∧ t = i2.toNat then v else ys h1 x t) (hi2 : i2 = 48 * (s : Int) + (k : Int)) : mSw hp h2 r s (K + 1) := by
  subst hK
  obtain ⟨a1, a2, a3⟩ := h
  have e : ∀ t j, j < 48 → mmM h2 t j = if t = s ∧ j = k then v else if t = r ∧ j = k then v2 else mmM hq t j := fun t j hj => by rw [mmM_put hy2 hi2 hk t j hj, mmM_put hy1 hi1 hk t j hj]
  have b := a2 k (by omega) hk
  refine ⟨fun j j1 j2 => ?_, fun j j1 j2 => ?_, fun t t1 t2 j hj => ?_⟩
  · rw [e r j j2, e s j j2, if_neg (fun x => hrs x.1)]
    by_cases g : j = k
    · rw [if_pos ⟨rfl, g⟩, if_pos ⟨rfl, g⟩, g, hv, hv2, b.1, b.2]
      exact ⟨rfl, rfl⟩
    · rw [if_neg (fun x => g x.2), if_neg (fun x => g x.2), if_neg (fun x => g x.2)]
      exact a1 j (by omega) j2
  · rw [e r j j2, e s j j2, if_neg (by omega), if_neg (by omega), if_neg (by omega), if_neg (by omega)]
    exact a2 j (by omega) j2
  · rw [e t j hj, if_neg (fun x => t2 x.1), if_neg (fun x => t1 x.1)]
    exact a3 t t1 t2 j hj
theorem mSw.start {r s : Nat} : mSw hp hp r s 0 := ⟨fun j h _ => absurd h (by omega), fun _ _ _ => ⟨rfl, rfl⟩, fun _ _ _ _ _ => rfl⟩
/-- two rows are swapped -/
def mSwD (hp hq : xH) (r s C : Nat) : Prop := (∀ j, j < C → j < 48 → mmM hq r j = mmM hp s j ∧ mmM hq s j = mmM hp r j) ∧ ∀ t, t ≠ r → t ≠ s → ∀ j, j < 48 → mmM hq t j = mmM hp t j
theorem mSw.dn {r s : Nat} {K : Int} (h : mSw hp hq r s K) (hK : (C : Int) ≤ K) : mSwD hp hq r s C := ⟨fun j j1 j2 => h.1 j (by omega) j2, h.2.2⟩
theorem mdv_pr {p a b : Int} (hp : mPr p.toNat) (h0 : 0 ≤ p) (ha : ¬ p ∣ a) (hb : ¬ p ∣ b) : ¬ p ∣ a * b := fun h => by
  obtain ⟨q, rfl⟩ : ∃ q : Nat, p = (q : Int) := ⟨p.toNat, by omega⟩
  rcases mPr.imul (p := q) hp h with e | e
  · exact ha e
  · exact hb e
/-- so far solved -/
def mSv (hp hq : xH) (P : Int) (n C c : Nat) (det : Int) : Prop := (∀ w, mKer hq P w n C → mKer hp P w n C) ∧ mUnit hq n c ∧ mRng hq P n C ∧ ¬ P ∣ det
theorem mSv.swap {det : Int} (h : mSv hp hq P n C c det) (hs : mSwD hq h1 r c C) (hc : c ≤ r) (hr : r < n) (hn : n ≤ C) (hC : C ≤ 48) : mSv hp h1 P n C c (P - det) := by
  obtain ⟨a1, a2, a3, a4⟩ := h
  obtain ⟨s1, s2⟩ := hs
  have e1 : ∀ k, k < C → mmM h1 r k = mmM hq c k := fun k hk => (s1 k hk (by omega)).1
  have e2 : ∀ k, k < C → mmM h1 c k = mmM hq r k := fun k hk => (s1 k hk (by omega)).2
  have e3 : ∀ t, t ≠ r → t ≠ c → ∀ k, k < C → mmM h1 t k = mmM hq t k := fun t t1 t2 k hk => s2 t t1 t2 k (by omega)
  refine ⟨fun w hw => a1 w (mSwap_ker hr (by omega) e1 e2 e3 hw), mSwap_unit a2 hc hr (by omega) (by omega) e1 e2 e3, fun t ht k hk => ?_, fun g => a4 ?_⟩
  · by_cases g1 : t = r
    · rw [g1, e1 k hk]; exact a3 c (by omega) k hk
    · by_cases g2 : t = c
      · rw [g2, e2 k hk]; exact a3 r hr k hk
      · rw [e3 t g1 g2 k hk]; exact a3 t ht k hk
  · have := Int.dvd_sub (Int.dvd_refl P) g
    rwa [show P - (P - det) = det by omega] at this
theorem mSv.clr {det d2 : Int} (h : mSv hp h1 P n C c det) (hc : mClr h1 h2 P c c n C ∧ (mRng h1 P n C → mRng h2 P n C)) (hp9 : mPr P.toNat) (hv : ¬ P ∣ mmM h1 c c) (hd : P ∣ d2 - det * mmM h1 c c) (hcn : c < n) (hn : n ≤ C) : mSv hp h2 P n C (c + 1) d2 := by
  obtain ⟨a1, a2, a3, a4⟩ := h
  have h2 := hp9.1
  have r2 := hc.2 a3
  exact ⟨fun w hw => a1 w (hc.1.ker hcn hw), hc.1.unit a2 hcn hn (by omega) fun r k hr hk => r2 r hr k hk, r2, fun g => mdv_pr hp9 (by omega) a4 hv (mdv_sub g hd)⟩
/-- a vector by which all is 0, and that isn't nothing -/
def mSgv (hp : xH) (P : Int) (n C : Nat) : Prop := ∃ (c : Nat) (w : Nat → Int), c < n ∧ w c = 1 ∧ (∀ k, n ≤ k → w k = 0) ∧ mKer hp P w n C
theorem mSubD {p w x m : Int} (h : p ∣ w - x) : p ∣ m - w - (m - x) := by
  have := mdv_sy h
  rwa [show m - w - (m - x) = x - w by omega]
theorem mMod2 {p v r : Int} (h : p ∣ v - r) : p ∣ r - v := mdv_sy h
theorem mMod3 {p v r : Int} (h : p ∣ v - r) : p ∣ r + p - v := by
  have := Int.dvd_add (mdv_sy h) (Int.dvd_refl p)
  rwa [show r - v + p = r + p - v by omega] at this
theorem mInv2 {p v m z : Int} (h : p ∣ m - v) (h2 : ¬ p ∣ m → p ∣ m * z - 1) (hb : ¬ p ∣ v) : p ∣ v * z - 1 := mdv_tr (mdv_mul (mdv_sy h) (mdv_rf _ _)) (h2 fun g => hb (mdv_sub g h))
theorem mNdvd {p v : Int} (h0 : 0 < v) (h1 : v < p) : ¬ p ∣ v := fun g => by
  have := Int.le_of_dvd h0 g
  omega
end MMatrix2
