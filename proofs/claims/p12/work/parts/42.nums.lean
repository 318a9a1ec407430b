/-! ===== the machine's numbers and whole numbers ===== -/
theorem zc32_lt (z : Int) : zc32 z < 4294967296 := by
  unfold zc32
  omega
theorem zc64_lt (z : Int) : zc64 z < 18446744073709551616 := by
  unfold zc64
  omega
theorem zc32_add (a b : Int) : xm32 (Nat.add (zc32 a) (zc32 b)) = zc32 (a + b) := by
  show (zc32 a + zc32 b) % 4294967296 = zc32 (a + b)
  unfold zc32
  omega
theorem zc32_sub (a b : Int) : xm32 (Nat.add (zc32 a) (Nat.sub 4294967296 (xm32 (zc32 b)))) = zc32 (a - b) := by
  show (zc32 a + (4294967296 - zc32 b % 4294967296)) % 4294967296 = zc32 (a - b)
  unfold zc32
  omega
theorem zc32_emod (z : Int) : ((zc32 z : Nat) : Int) = z % 4294967296 := by
  unfold zc32
  omega
theorem zc64_emod (z : Int) : ((zc64 z : Nat) : Int) = z % 18446744073709551616 := by
  unfold zc64
  omega
theorem zc32_mul (a b : Int) : xm32 (Nat.mul (zc32 a) (zc32 b)) = zc32 (a * b) := by
  show (zc32 a * zc32 b) % 4294967296 = zc32 (a * b)
  apply Int.ofNat.inj
  show (((zc32 a * zc32 b) % 4294967296 : Nat) : Int) = ((zc32 (a * b) : Nat) : Int)
  rw [Int.natCast_emod, Int.natCast_mul, zc32_emod, zc32_emod, zc32_emod]
  exact (Int.mul_emod a b 4294967296).symm
theorem zc32_of (z : Int) : Int32.ofNat (zc32 z) = Int32.ofInt z := by
  apply Int32.toBitVec_inj.mp
  rw [xtb]
  show _ = BitVec.ofInt 32 z
  apply BitVec.eq_of_toNat_eq
  rw [BitVec.toNat_ofNat, BitVec.toNat_ofInt]
  unfold zc32
  omega
theorem zc64_of (z : Int) : Int64.ofNat (zc64 z) = Int64.ofInt z := by
  apply Int64.toBitVec_inj.mp
  rw [xtbL]
  show _ = BitVec.ofInt 64 z
  apply BitVec.eq_of_toNat_eq
  rw [BitVec.toNat_ofNat, BitVec.toNat_ofInt]
  unfold zc64
  omega
theorem zx32_ofInt (z : Int) : x32 (Int32.ofInt z) = zc32 z := by
  show (BitVec.ofInt 32 z).toNat = zc32 z
  rw [BitVec.toNat_ofInt]
  unfold zc32
  omega
theorem zx64_ofInt (z : Int) : x64 (Int64.ofInt z) = zc64 z := by
  show (BitVec.ofInt 64 z).toNat = zc64 z
  rw [BitVec.toNat_ofInt]
  unfold zc64
  omega
theorem zx32_toInt (v : Int32) : x32 v = zc32 v.toInt := by
  rw [← zx32_ofInt, Int32.ofInt_toInt]
theorem zx64_toInt (v : Int64) : x64 v = zc64 v.toInt := by
  rw [← zx64_ofInt, Int64.ofInt_toInt]
theorem zof32 {z : Int} (h : zi32 z) : (Int32.ofInt z).toInt = z := by
  obtain ⟨h1, h2⟩ := h
  exact Int32.toInt_ofInt_of_le (by omega) (by omega)
theorem zof64 {z : Int} (h : zi64 z) : (Int64.ofInt z).toInt = z := by
  obtain ⟨h1, h2⟩ := h
  exact Int64.toInt_ofInt_of_le (by omega) (by omega)
/-- between what a known int lies -/
theorem zbd {z : Int} (h : zi32 z) : xbd (.inl (zc32 z)) = some ((z + 2147483648).toNat, (z + 2147483648).toNat) := by
  obtain ⟨h1, h2⟩ := h
  have e : xm32 (Nat.add (zc32 z) 2147483648) = (z + 2147483648).toNat := by
    show (zc32 z + 2147483648) % 4294967296 = _
    unfold zc32
    omega
  show some (xm32 (Nat.add (zc32 z) 2147483648), xm32 (Nat.add (zc32 z) 2147483648)) = _
  generalize xm32 (Nat.add (zc32 z) 2147483648) = y at e
  rw [e]
theorem zbdl {z : Int} (h : zi64 z) : xbdl (.inr (.inl (zc64 z))) = some ((z + 9223372036854775808).toNat, (z + 9223372036854775808).toNat) := by
  obtain ⟨h1, h2⟩ := h
  have e : xm64 (Nat.add (zc64 z) 9223372036854775808) = (z + 9223372036854775808).toNat := by
    show (zc64 z + 9223372036854775808) % 18446744073709551616 = _
    unfold zc64
    omega
  show some (xm64 (Nat.add (zc64 z) 9223372036854775808), xm64 (Nat.add (zc64 z) 9223372036854775808)) = _
  generalize xm64 (Nat.add (zc64 z) 9223372036854775808) = y at e
  rw [e]
theorem zxlt (p q : Nat) : xlt (p, p) (q, q) = some (decide (p < q)) := by
  unfold xlt
  show cond (Nat.blt p q) (some true) (cond (Nat.ble q p) (some false) none) = _
  by_cases h : p < q
  · rw [show Nat.blt p q = true from Nat.ble_eq_true_of_le h, cond_true, decide_eq_true h]
  · rw [show Nat.blt p q = false from Bool.eq_false_iff.mpr fun z => h (Nat.le_of_ble_eq_true z), cond_false, show Nat.ble q p = true from Nat.ble_eq_true_of_le (by omega), cond_true, decide_eq_false h]
theorem zxeq (p q : Nat) : xeq (p, p) (q, q) = some (decide (p = q)) := by
  unfold xeq
  show cond (Nat.blt p q || Nat.blt q p) (some false) (cond (Nat.beq p p && (Nat.beq q q && Nat.beq p q)) (some true) none) = _
  by_cases h : p = q
  · subst h
    rw [show Nat.blt p p = false from Bool.eq_false_iff.mpr fun z => absurd (Nat.le_of_ble_eq_true z) (by omega), Bool.or_self, cond_false, show Nat.beq p p = true from Nat.beq_refl p, decide_eq_true rfl]
    rfl
  · have : (Nat.blt p q || Nat.blt q p) = true := by
      rcases Nat.lt_or_gt_of_ne h with h1 | h1
      · rw [show Nat.blt p q = true from Nat.ble_eq_true_of_le h1, Bool.true_or]
      · rw [show Nat.blt q p = true from Nat.ble_eq_true_of_le h1, Bool.or_true]
    rw [this, cond_true, decide_eq_false h]
/-- a comparison, of whole numbers -/
def zcp (c : ClassFile.Cond) (a b : Int) : Bool := match c with
  | .eq => decide (a = b)
  | .ne => !decide (a = b)
  | .lt => decide (a < b)
  | .ge => !decide (a < b)
  | .gt => decide (b < a)
  | .le => !decide (b < a)
theorem zxcnd (c : ClassFile.Cond) {a b : Int} (ha : zi32 a) (hb : zi32 b) : xcnd c ((a + 2147483648).toNat, (a + 2147483648).toNat) ((b + 2147483648).toNat, (b + 2147483648).toNat) = some (zcp c a b) := by
  obtain ⟨a1, a2⟩ := ha
  obtain ⟨b1, b2⟩ := hb
  have e1 : ((a + 2147483648).toNat = (b + 2147483648).toNat) ↔ a = b := by omega
  have e2 : ((a + 2147483648).toNat < (b + 2147483648).toNat) ↔ a < b := by omega
  have e3 : ((b + 2147483648).toNat < (a + 2147483648).toNat) ↔ b < a := by omega
  cases c with
  | eq => show xeq _ _ = _; rw [zxeq, decide_eq_decide.mpr e1]; rfl
  | ne => show xnot (xeq _ _) = _; rw [zxeq, decide_eq_decide.mpr e1]; rfl
  | lt => show xlt _ _ = _; rw [zxlt, decide_eq_decide.mpr e2]; rfl
  | ge => show xnot (xlt _ _) = _; rw [zxlt, decide_eq_decide.mpr e2]; rfl
  | gt => show xlt _ _ = _; rw [zxlt, decide_eq_decide.mpr e3]; rfl
  | le => show xnot (xlt _ _) = _; rw [zxlt, decide_eq_decide.mpr e3]; rfl
theorem zneg32 (a : Int) : x32 (-Int32.ofNat (zc32 a)) = zc32 (-a) := by
  rw [zc32_of, ← zx32_ofInt, Int32.ofInt_neg]
theorem zneg64 (a : Int) : x64 (-Int64.ofNat (zc64 a)) = zc64 (-a) := by
  rw [zc64_of, ← zx64_ofInt, Int64.ofInt_neg]
theorem zadd64 (a b : Int) : x64 (Int64.ofNat (zc64 a) + Int64.ofNat (zc64 b)) = zc64 (a + b) := by
  rw [zc64_of, zc64_of, ← zx64_ofInt, Int64.ofInt_add]
theorem zsub64 (a b : Int) : x64 (Int64.ofNat (zc64 a) - Int64.ofNat (zc64 b)) = zc64 (a - b) := by
  rw [zc64_of, zc64_of, ← zx64_ofInt, Int64.ofInt_sub]
theorem zmul64 (a b : Int) : x64 (Int64.ofNat (zc64 a) * Int64.ofNat (zc64 b)) = zc64 (a * b) := by
  rw [zc64_of, zc64_of, ← zx64_ofInt, Int64.ofInt_mul]
theorem zi2l {a : Int} (h : zi32 a) : x64 (Int32.ofNat (zc32 a)).toInt64 = zc64 a := by
  rw [zc32_of, zx64_toInt, Int32.toInt_toInt64, zof32 h]
theorem zbm32 (x : Int) : x.bmod (2 ^ 32) % 4294967296 = x % 4294967296 := by
  rw [Int.bmod_def]
  split <;> omega
theorem zbm64 (x : Int) : x.bmod Int64.size % 18446744073709551616 = x % 18446744073709551616 := by
  rw [Int.bmod_def]
  show (if x % 18446744073709551616 < (18446744073709551616 + 1) / 2 then x % 18446744073709551616 else x % 18446744073709551616 - 18446744073709551616) % 18446744073709551616 = _
  split <;> omega
theorem zl2i {a : Int} : x32 (Int64.ofNat (zc64 a)).toInt32 = zc32 a := by
  rw [zc64_of, zx32_toInt, Int64.toInt_toInt32, Int64.toInt_ofInt]
  apply Int.ofNat.inj
  show ((zc32 _ : Nat) : Int) = ((zc32 _ : Nat) : Int)
  rw [zc32_emod, zc32_emod, zbm32]
  have h := zbm64 a
  generalize a.bmod Int64.size = y at h
  omega
theorem zc32_bmod (z : Int) : zc32 (z.bmod (2 ^ 32)) = zc32 z := by
  apply Int.ofNat.inj
  show ((zc32 _ : Nat) : Int) = ((zc32 _ : Nat) : Int)
  rw [zc32_emod, zc32_emod, zbm32]
theorem zc64_bmod (z : Int) : zc64 (z.bmod (2 ^ 64)) = zc64 z := by
  apply Int.ofNat.inj
  show ((zc64 _ : Nat) : Int) = ((zc64 _ : Nat) : Int)
  rw [zc64_emod, zc64_emod]
  exact zbm64 z
theorem zdiv32 {a b : Int} (ha : zi32 a) (hb : zi32 b) : x32 (Int32.ofNat (zc32 a) / Int32.ofNat (zc32 b)) = zc32 (a.tdiv b) := by
  rw [zc32_of, zc32_of, zx32_toInt, Int32.toInt_div, zof32 ha, zof32 hb]
  exact zc32_bmod _
theorem zdiv64 {a b : Int} (ha : zi64 a) (hb : zi64 b) : x64 (Int64.ofNat (zc64 a) / Int64.ofNat (zc64 b)) = zc64 (a.tdiv b) := by
  rw [zc64_of, zc64_of, zx64_toInt, Int64.toInt_div, zof64 ha, zof64 hb]
  exact zc64_bmod _
theorem zrem32 {a b : Int} (ha : zi32 a) (hb : zi32 b) : x32 (Int32.ofNat (zc32 a) - (Int32.ofNat (zc32 a) / Int32.ofNat (zc32 b)) * Int32.ofNat (zc32 b)) = zc32 (a - (a.tdiv b) * b) := by
  have h := zdiv32 ha hb
  rw [zc32_of, zc32_of] at h
  have e : Int32.ofInt a / Int32.ofInt b = Int32.ofInt (a.tdiv b) := by
    rw [← xi32 (Int32.ofInt a / Int32.ofInt b)]
    show Int32.ofNat (x32 (Int32.ofInt a / Int32.ofInt b)) = _
    rw [h, zc32_of]
  rw [zc32_of, zc32_of, e, ← Int32.ofInt_mul, ← Int32.ofInt_sub, zx32_ofInt]
theorem zrem64 {a b : Int} (ha : zi64 a) (hb : zi64 b) : x64 (Int64.ofNat (zc64 a) - (Int64.ofNat (zc64 a) / Int64.ofNat (zc64 b)) * Int64.ofNat (zc64 b)) = zc64 (a - (a.tdiv b) * b) := by
  have h := zdiv64 ha hb
  rw [zc64_of, zc64_of] at h
  have e : Int64.ofInt a / Int64.ofInt b = Int64.ofInt (a.tdiv b) := by
    rw [← xi64 (Int64.ofInt a / Int64.ofInt b)]
    show Int64.ofNat (x64 (Int64.ofInt a / Int64.ofInt b)) = _
    rw [h, zc64_of]
  rw [zc64_of, zc64_of, e, ← Int64.ofInt_mul, ← Int64.ofInt_sub, zx64_ofInt]
