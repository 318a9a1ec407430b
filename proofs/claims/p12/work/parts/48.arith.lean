/-! ===== the checker's steps, sound: numbers, comparisons ===== -/
section ZArith
variable {G : zW} {W : zWr} {hp0 : xH} {ν0 : Nat → Int} {g : List zE} {o : Nat} {ft : Nat → List Nat} {call : xF} {pool : Nat → xP} {hs : List (Nat × (Nat × (Nat × Nat)))} {tab : Lean.RArray xI} {P : xE → Prop} {N : Nat}
variable {K : zKs} {pc nx len : Nat} {X : zQ} {loc : zLc} {stk rest : List zV} {os r : List zO} {ν : Nat → Int} {l : List (Nat × xA)} {s : List xA} {hp : xH} {u : xA} {i : Instr}
theorem zi_two {F : xA → xA → Option xA} {va vb : zV} (hK : zHK G W hp0 ν0 g o ft call pool hs tab P N K) (ht : xget tab pc = (pc, (i, (len, nx)))) (he : ∀ K l s hp, xstep o ft call pool hs K i pc nx l s hp = (match s with
    | b :: a :: rest => xj (F a b) fun v => K nx l (v :: rest) hp
    | _ => none)) (hres : ∀ ν hp ua ub, zRel G W hp0 ν0 g ν X hp → zR X.1 ν va ua → zR X.1 ν vb ub → ∃ u, F ua ub = some u ∧ zRes G W hp0 ν0 g (fun X v os => K nx X loc (v :: rest) os) r ν X hp u) : zOk G W hp0 ν0 g o ft call pool hs tab P (N + 1) pc X loc (vb :: va :: rest) := by
  intro ν l s hp hr hl hst
  obtain ⟨ub, s1, rfl, h1, h2⟩ := hst.cons
  obtain ⟨ua, s2, rfl, h3, h4⟩ := h2.cons
  obtain ⟨u, h5, h6⟩ := hres ν hp ua ub hr h3 h1
  exact zG.step ht (fun K => by rw [he]; show xj (F ua ub) _ = _; rw [h5]; rfl) (zgo hK h6 hl h4)
theorem zi_one {F : xA → Option xA} {va : zV} (hK : zHK G W hp0 ν0 g o ft call pool hs tab P N K) (ht : xget tab pc = (pc, (i, (len, nx)))) (he : ∀ K l s hp, xstep o ft call pool hs K i pc nx l s hp = (match s with
    | a :: rest => xj (F a) fun v => K nx l (v :: rest) hp
    | _ => none)) (hres : ∀ ν hp ua, zRel G W hp0 ν0 g ν X hp → zR X.1 ν va ua → ∃ u, F ua = some u ∧ zRes G W hp0 ν0 g (fun X v os => K nx X loc (v :: rest) os) r ν X hp u) : zOk G W hp0 ν0 g o ft call pool hs tab P (N + 1) pc X loc (va :: rest) := by
  intro ν l s hp hr hl hst
  obtain ⟨ua, s2, rfl, h3, h4⟩ := hst.cons
  obtain ⟨u, h5, h6⟩ := hres ν hp ua hr h3
  exact zG.step ht (fun K => by rw [he]; show xj (F ua) _ = _; rw [h5]; rfl) (zgo hK h6 hl h4)
variable {Kv : zKv}
theorem zr_add (h : zRel G W hp0 ν0 g ν X hp) {a b : zE} {ua ub : xA} (ha : zR X.1 ν (.inl a) ua) (hb : zR X.1 ν (.inl b) ub) (hk : zput32 Kv X (zmad 1 a b) os = some r) : ∃ u, xbin (fun x y => xm32 (Nat.add x y)) ua ub = some u ∧ zRes G W hp0 ν0 g Kv r ν X hp u := by
  obtain ⟨a1, a2, rfl⟩ := ha
  obtain ⟨b1, b2, rfl⟩ := hb
  refine ⟨.inl (zc32 (zv ν a + zv ν b)), congrArg (fun z => some (Sum.inl z)) (zc32_add _ _), ?_⟩
  have := zput32_ok h (zmad_lt (k := 1) a1 b1) hk
  rw [zmad_ok, Int.one_mul] at this
  exact this
theorem zr_sub (h : zRel G W hp0 ν0 g ν X hp) {a b : zE} {ua ub : xA} (ha : zR X.1 ν (.inl a) ua) (hb : zR X.1 ν (.inl b) ub) (hk : zput32 Kv X (zmad (-1) b a) os = some r) : ∃ u, xbin (fun x y => xm32 (Nat.add x (Nat.sub 4294967296 (xm32 y)))) ua ub = some u ∧ zRes G W hp0 ν0 g Kv r ν X hp u := by
  obtain ⟨a1, a2, rfl⟩ := ha
  obtain ⟨b1, b2, rfl⟩ := hb
  refine ⟨.inl (zc32 (zv ν a - zv ν b)), congrArg (fun z => some (Sum.inl z)) (zc32_sub _ _), ?_⟩
  have := zput32_ok h (zmad_lt (k := -1) b1 a1) hk
  rw [zmad_ok, Int.neg_mul, Int.one_mul, Int.add_comm, ← Int.sub_eq_add_neg] at this
  exact this
theorem zr_mul (h : zRel G W hp0 ν0 g ν X hp) {a b : zE} {ua ub : xA} (ha : zR X.1 ν (.inl a) ua) (hb : zR X.1 ν (.inl b) ub) (hk : zprod32 Kv X a b os = some r) : ∃ u, xbin (fun x y => xm32 (Nat.mul x y)) ua ub = some u ∧ zRes G W hp0 ν0 g Kv r ν X hp u := by
  obtain ⟨a1, a2, rfl⟩ := ha
  obtain ⟨b1, b2, rfl⟩ := hb
  exact ⟨.inl (zc32 (zv ν a * zv ν b)), congrArg (fun z => some (Sum.inl z)) (zc32_mul _ _), zprod32_ok h a1 b1 hk⟩
theorem zmk32 (n : Nat) (ν : Nat → Int) (e : zE) (h : zlt n e) (h1 : -2147483647 - 1 ≤ zv ν e) (h2 : zv ν e ≤ 2147483647) : zR n ν (.inl e) (.inl (zc32 (zv ν e))) := ⟨h, ⟨by omega, by omega⟩, rfl⟩
theorem zmk64 (n : Nat) (ν : Nat → Int) (e : zE) (h : zlt n e) (h1 : -9223372036854775807 - 1 ≤ zv ν e) (h2 : zv ν e ≤ 9223372036854775807) : zR n ν (.inr (.inl e)) (.inr (.inl (zc64 (zv ν e)))) := ⟨h, ⟨by omega, by omega⟩, rfl⟩
theorem zc32_ne {z : Int} (h : zi32 z) (h0 : 1 ≤ z) : Nat.beq (xm32 (zc32 z)) 0 = false := by
  obtain ⟨h1, h2⟩ := h
  apply nbeq
  show ¬ zc32 z % 4294967296 = 0
  unfold zc32
  omega
theorem zc64_ne {z : Int} (h : zi64 z) (h0 : 1 ≤ z) : Nat.beq (xm64 (zc64 z)) 0 = false := by
  obtain ⟨h1, h2⟩ := h
  apply nbeq
  show ¬ zc64 z % 18446744073709551616 = 0
  unfold zc64
  omega
theorem zr_div (h : zRel G W hp0 ν0 g ν X hp) {a b : zE} {ua ub : xA} (ha : zR X.1 ν (.inl a) ua) (hb : zR X.1 ν (.inl b) ub) (hk : zdiv 2147483647 .inl false Kv X a b os = some r) : ∃ u, xdivi (fun x y => x32 (Int32.ofNat x / Int32.ofNat y)) ua ub = some u ∧ zRes G W hp0 ν0 g Kv r ν X hp u := by
  obtain ⟨a1, a2, rfl⟩ := ha
  obtain ⟨b1, b2, rfl⟩ := hb
  obtain ⟨c1, c2⟩ := zdiv_ok (mkU := fun z => .inl (zc32 z)) zmk32 h a1 b1 (by have := a2.1; omega) (by have := a2.2; omega) (by have := b2.2; omega) hk
  refine ⟨_, ?_, c2⟩
  show cond (Nat.beq (xm32 (zc32 (zv ν b))) 0) none (some (.inl (x32 (Int32.ofNat (zc32 (zv ν a)) / Int32.ofNat (zc32 (zv ν b)))) : xA)) = _
  rw [zc32_ne b2 c1, cond_false, zdiv32 a2 b2]
  rfl
theorem zr_rem (h : zRel G W hp0 ν0 g ν X hp) {a b : zE} {ua ub : xA} (ha : zR X.1 ν (.inl a) ua) (hb : zR X.1 ν (.inl b) ub) (hk : zdiv 2147483647 .inl true Kv X a b os = some r) : ∃ u, xdivi (fun x y => x32 (Int32.ofNat x - (Int32.ofNat x / Int32.ofNat y) * Int32.ofNat y)) ua ub = some u ∧ zRes G W hp0 ν0 g Kv r ν X hp u := by
  obtain ⟨a1, a2, rfl⟩ := ha
  obtain ⟨b1, b2, rfl⟩ := hb
  obtain ⟨c1, c2⟩ := zdiv_ok (mkU := fun z => .inl (zc32 z)) zmk32 h a1 b1 (by have := a2.1; omega) (by have := a2.2; omega) (by have := b2.2; omega) hk
  refine ⟨_, ?_, c2⟩
  show cond (Nat.beq (xm32 (zc32 (zv ν b))) 0) none (some (.inl (x32 (Int32.ofNat (zc32 (zv ν a)) - (Int32.ofNat (zc32 (zv ν a)) / Int32.ofNat (zc32 (zv ν b))) * Int32.ofNat (zc32 (zv ν b)))) : xA)) = _
  rw [zc32_ne b2 c1, cond_false, zrem32 a2 b2]
  rfl
theorem zr_ladd (h : zRel G W hp0 ν0 g ν X hp) {a b : zE} {ua ub : xA} (ha : zR X.1 ν (.inr (.inl a)) ua) (hb : zR X.1 ν (.inr (.inl b)) ub) (hk : zput64 Kv X (zmad 1 a b) os = some r) : ∃ u, xbinl (fun x y => x64 (Int64.ofNat x + Int64.ofNat y)) ua ub = some u ∧ zRes G W hp0 ν0 g Kv r ν X hp u := by
  obtain ⟨a1, a2, rfl⟩ := ha
  obtain ⟨b1, b2, rfl⟩ := hb
  refine ⟨.inr (.inl (zc64 (zv ν a + zv ν b))), congrArg (fun z => some (Sum.inr (Sum.inl z))) (zadd64 _ _), ?_⟩
  have := zput64_ok h (zmad_lt (k := 1) a1 b1) hk
  rw [zmad_ok, Int.one_mul] at this
  exact this
theorem zr_lsub (h : zRel G W hp0 ν0 g ν X hp) {a b : zE} {ua ub : xA} (ha : zR X.1 ν (.inr (.inl a)) ua) (hb : zR X.1 ν (.inr (.inl b)) ub) (hk : zput64 Kv X (zmad (-1) b a) os = some r) : ∃ u, xbinl (fun x y => x64 (Int64.ofNat x - Int64.ofNat y)) ua ub = some u ∧ zRes G W hp0 ν0 g Kv r ν X hp u := by
  obtain ⟨a1, a2, rfl⟩ := ha
  obtain ⟨b1, b2, rfl⟩ := hb
  refine ⟨.inr (.inl (zc64 (zv ν a - zv ν b))), congrArg (fun z => some (Sum.inr (Sum.inl z))) (zsub64 _ _), ?_⟩
  have := zput64_ok h (zmad_lt (k := -1) b1 a1) hk
  rw [zmad_ok, Int.neg_mul, Int.one_mul, Int.add_comm, ← Int.sub_eq_add_neg] at this
  exact this
theorem zr_lmul (h : zRel G W hp0 ν0 g ν X hp) {a b : zE} {ua ub : xA} (ha : zR X.1 ν (.inr (.inl a)) ua) (hb : zR X.1 ν (.inr (.inl b)) ub) (hk : zprod64 Kv X a b os = some r) : ∃ u, xbinl (fun x y => x64 (Int64.ofNat x * Int64.ofNat y)) ua ub = some u ∧ zRes G W hp0 ν0 g Kv r ν X hp u := by
  obtain ⟨a1, a2, rfl⟩ := ha
  obtain ⟨b1, b2, rfl⟩ := hb
  exact ⟨.inr (.inl (zc64 (zv ν a * zv ν b))), congrArg (fun z => some (Sum.inr (Sum.inl z))) (zmul64 _ _), zprod64_ok h a1 b1 hk⟩
theorem zr_ldiv (h : zRel G W hp0 ν0 g ν X hp) {a b : zE} {ua ub : xA} (ha : zR X.1 ν (.inr (.inl a)) ua) (hb : zR X.1 ν (.inr (.inl b)) ub) (hk : zdiv 9223372036854775807 (fun e => .inr (.inl e)) false Kv X a b os = some r) : ∃ u, xdivl (fun x y => x64 (Int64.ofNat x / Int64.ofNat y)) ua ub = some u ∧ zRes G W hp0 ν0 g Kv r ν X hp u := by
  obtain ⟨a1, a2, rfl⟩ := ha
  obtain ⟨b1, b2, rfl⟩ := hb
  obtain ⟨c1, c2⟩ := zdiv_ok (mkU := fun z => .inr (.inl (zc64 z))) zmk64 h a1 b1 (by have := a2.1; omega) (by have := a2.2; omega) (by have := b2.2; omega) hk
  refine ⟨_, ?_, c2⟩
  show cond (Nat.beq (xm64 (zc64 (zv ν b))) 0) none (some (.inr (.inl (x64 (Int64.ofNat (zc64 (zv ν a)) / Int64.ofNat (zc64 (zv ν b))))) : xA)) = _
  rw [zc64_ne b2 c1, cond_false, zdiv64 a2 b2]
  rfl
theorem zr_lrem (h : zRel G W hp0 ν0 g ν X hp) {a b : zE} {ua ub : xA} (ha : zR X.1 ν (.inr (.inl a)) ua) (hb : zR X.1 ν (.inr (.inl b)) ub) (hk : zdiv 9223372036854775807 (fun e => .inr (.inl e)) true Kv X a b os = some r) : ∃ u, xdivl (fun x y => x64 (Int64.ofNat x - (Int64.ofNat x / Int64.ofNat y) * Int64.ofNat y)) ua ub = some u ∧ zRes G W hp0 ν0 g Kv r ν X hp u := by
  obtain ⟨a1, a2, rfl⟩ := ha
  obtain ⟨b1, b2, rfl⟩ := hb
  obtain ⟨c1, c2⟩ := zdiv_ok (mkU := fun z => .inr (.inl (zc64 z))) zmk64 h a1 b1 (by have := a2.1; omega) (by have := a2.2; omega) (by have := b2.2; omega) hk
  refine ⟨_, ?_, c2⟩
  show cond (Nat.beq (xm64 (zc64 (zv ν b))) 0) none (some (.inr (.inl (x64 (Int64.ofNat (zc64 (zv ν a)) - (Int64.ofNat (zc64 (zv ν a)) / Int64.ofNat (zc64 (zv ν b))) * Int64.ofNat (zc64 (zv ν b))))) : xA)) = _
  rw [zc64_ne b2 c1, cond_false, zrem64 a2 b2]
  rfl
theorem zr_any32 (h : zRel G W hp0 ν0 g ν X hp) (v : Int32) (hk : zany32 (-2147483648) 2147483647 Kv X os = some r) : zRes G W hp0 ν0 g Kv r ν X hp (.inl (x32 v)) := by
  rw [zx32_toInt]
  have h1 := Int32.le_toInt v
  have h2 := Int32.toInt_lt v
  exact zany32_ok h ⟨by omega, by omega⟩ (by omega) (by omega) hk
theorem zr_any64 (h : zRel G W hp0 ν0 g ν X hp) (v : Int64) (hk : zany64 (-9223372036854775808) 9223372036854775807 Kv X os = some r) : zRes G W hp0 ν0 g Kv r ν X hp (.inr (.inl (x64 v))) := by
  rw [zx64_toInt]
  have h1 := Int64.le_toInt v
  have h2 := Int64.toInt_lt v
  exact zany64_ok h ⟨by omega, by omega⟩ (by omega) (by omega) hk
theorem zr_neg (h : zRel G W hp0 ν0 g ν X hp) {a : zE} {ua : xA} (ha : zR X.1 ν (.inl a) ua) (hk : zput32 Kv X (zscale (-1) a) os = some r) : ∃ u, xneg ua = some u ∧ zRes G W hp0 ν0 g Kv r ν X hp u := by
  obtain ⟨a1, a2, rfl⟩ := ha
  refine ⟨.inl (zc32 (-zv ν a)), congrArg (fun z => some (Sum.inl z)) (zneg32 _), ?_⟩
  have := zput32_ok h (zscale_lt (k := -1) a1) hk
  rw [zscale_ok, Int.neg_mul, Int.one_mul] at this
  exact this
theorem zr_lneg (h : zRel G W hp0 ν0 g ν X hp) {a : zE} {ua : xA} (ha : zR X.1 ν (.inr (.inl a)) ua) (hk : zput64 Kv X (zscale (-1) a) os = some r) : ∃ u, xnegl ua = some u ∧ zRes G W hp0 ν0 g Kv r ν X hp u := by
  obtain ⟨a1, a2, rfl⟩ := ha
  refine ⟨.inr (.inl (zc64 (-zv ν a))), congrArg (fun z => some (Sum.inr (Sum.inl z))) (zneg64 _), ?_⟩
  have := zput64_ok h (zscale_lt (k := -1) a1) hk
  rw [zscale_ok, Int.neg_mul, Int.one_mul] at this
  exact this
theorem zr_i2l (h : zRel G W hp0 ν0 g ν X hp) {a : zE} {ua : xA} (ha : zR X.1 ν (.inl a) ua) (hk : Kv X (.inr (.inl a)) os = some r) : ∃ u, xi2l ua = some u ∧ zRes G W hp0 ν0 g Kv r ν X hp u := by
  obtain ⟨a1, a2, rfl⟩ := ha
  refine ⟨.inr (.inl (zc64 (zv ν a))), congrArg (fun z => some (Sum.inr (Sum.inl z))) (zi2l a2), ?_⟩
  exact zres_old h (v := .inr (.inl a)) ⟨a1, ⟨by have := a2.1; omega, by have := a2.2; omega⟩, rfl⟩ hk
theorem zr_l2i (h : zRel G W hp0 ν0 g ν X hp) {a : zE} {ua : xA} (ha : zR X.1 ν (.inr (.inl a)) ua) (hk : zput32 Kv X a os = some r) : ∃ u, xl2i ua = some u ∧ zRes G W hp0 ν0 g Kv r ν X hp u := by
  obtain ⟨a1, a2, rfl⟩ := ha
  exact ⟨.inl (zc32 (zv ν a)), congrArg (fun z => some (Sum.inl z)) zl2i, zput32_ok h a1 hk⟩
end ZArith
