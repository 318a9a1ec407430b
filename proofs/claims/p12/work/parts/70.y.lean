/-! ===== walks by hand over the pure runner: locals by a list that is looked into ===== -/
abbrev yI (z : Int) : xA := .inl (zc32 z)
abbrev yJ (z : Int) : xA := .inr (.inl (zc64 z))
abbrev yR (k : Nat) : xA := .inr (.inr (.inl k))
theorem xlk_mem {k : Nat} {v : xA} : ∀ {L : List (Nat × xA)}, xlk L k = some v → (k, v) ∈ L := by
  intro L
  induction L with
  | nil => intro h; cases h
  | cons q L ih =>
    intro h
    rw [xlk_cons] at h
    cases hb : Nat.beq q.1 k with
    | true =>
      rw [hb, cond_true] at h
      obtain ⟨a, b⟩ := q
      cases Nat.eq_of_beq_eq_true hb
      cases h
      exact List.mem_cons_self
    | false =>
      rw [hb, cond_false] at h
      exact List.mem_cons_of_mem _ (ih h)
def ySub (L l : List (Nat × xA)) : Prop := ∀ q ∈ L, xlk l q.1 = some q.2
theorem ySub.nil {l : List (Nat × xA)} : ySub [] l := fun q hq => by cases hq
theorem ySub.cons {L l : List (Nat × xA)} {k : Nat} {v : xA} (h : xlk l k = some v) (h2 : ySub L l) : ySub ((k, v) :: L) l := fun q hq => by
  rcases List.mem_cons.mp hq with rfl | hq
  · exact h
  · exact h2 q hq
theorem ySub.st1 {L l : List (Nat × xA)} (h : ySub L l) (k : Nat) (v : xA) : ySub (xst1 L k v) (xst1 l k v) := by
  intro q hq
  rcases List.mem_cons.mp hq with rfl | hq
  · show xlk ((k, v) :: _) k = some v
    rw [xlk_cons, Nat.beq_refl]
    rfl
  · obtain ⟨h1, h2⟩ := List.mem_filter.mp hq
    have h3 := h q h1
    show xlk ((k, v) :: _) q.1 = some q.2
    have hne : Nat.beq k q.1 = false := by
      have := (Bool.and_eq_true _ _ ▸ h2).1
      cases hb : Nat.beq q.1 k with
      | true => rw [hb] at this; cases this
      | false => exact nbeq fun e => by rw [e, Nat.beq_refl] at hb; cases hb
    rw [xlk_cons, hne, cond_false]
    exact xlk_filter (f := fun q => !(Nat.beq q.1 k) && !(Nat.beq (Nat.add q.1 1) k && Nat.beq (xcat q.2) 2)) h2 h3
theorem ySub.st2 {L l : List (Nat × xA)} (h : ySub L l) (k : Nat) (v : xA) : ySub (xst2 L k v) (xst2 l k v) := by
  intro q hq
  rcases List.mem_cons.mp hq with rfl | hq
  · show xlk ((k, v) :: _) k = some v
    rw [xlk_cons, Nat.beq_refl]
    rfl
  · obtain ⟨h1, h2⟩ := List.mem_filter.mp hq
    have h3 := h q h1
    show xlk ((k, v) :: _) q.1 = some q.2
    have hne : Nat.beq k q.1 = false := by
      have := (Bool.and_eq_true _ _ ▸ h2).1
      cases hb : Nat.beq q.1 k with
      | true => rw [hb] at this; cases this
      | false => exact nbeq fun e => by rw [e, Nat.beq_refl] at hb; cases hb
    rw [xlk_cons, hne, cond_false]
    exact xlk_filter (f := fun q => !(Nat.beq q.1 k) && (!(Nat.beq q.1 (Nat.add k 1)) && !(Nat.beq (Nat.add q.1 1) k && Nat.beq (xcat q.2) 2))) h2 h3
/-- a comparison, told -/
def yrel (c : ClassFile.Cond) (a b : Int) : Prop := match c with
  | .eq => a = b
  | .ne => a ≠ b
  | .lt => a < b
  | .ge => b ≤ a
  | .gt => b < a
  | .le => a ≤ b
def ynot (c : ClassFile.Cond) (a b : Int) : Prop := match c with
  | .eq => a ≠ b
  | .ne => a = b
  | .lt => b ≤ a
  | .ge => a < b
  | .gt => a ≤ b
  | .le => b < a
theorem zcp_yes {c : ClassFile.Cond} {a b : Int} (h : zcp c a b = true) : yrel c a b := by
  cases c
  · exact (show a = b from of_decide_eq_true (show decide (a = b) = true from h))
  · intro e; rw [show zcp .ne a b = !decide (a = b) from rfl, decide_eq_true e] at h; cases h
  · exact (show a < b from of_decide_eq_true (show decide (a < b) = true from h))
  · show b ≤ a
    have h : (!decide (a < b)) = true := h
    by_cases g : a < b
    · rw [decide_eq_true g] at h; cases h
    · omega
  · exact (show b < a from of_decide_eq_true (show decide (b < a) = true from h))
  · show a ≤ b
    have h : (!decide (b < a)) = true := h
    by_cases g : b < a
    · rw [decide_eq_true g] at h; cases h
    · omega
theorem zcp_no {c : ClassFile.Cond} {a b : Int} (h : zcp c a b = false) : ynot c a b := by
  cases c
  · exact (show a ≠ b from of_decide_eq_false (show decide (a = b) = false from h))
  · show a = b
    have h : (!decide (a = b)) = false := h
    by_cases g : a = b
    · exact g
    · rw [decide_eq_false g] at h; cases h
  · have := of_decide_eq_false (show decide (a < b) = false from h); show b ≤ a; omega
  · show a < b
    have h : (!decide (a < b)) = false := h
    by_cases g : a < b
    · exact g
    · rw [decide_eq_false g] at h; cases h
  · have := of_decide_eq_false (show decide (b < a) = false from h); show a ≤ b; omega
  · show b < a
    have h : (!decide (b < a)) = false := h
    by_cases g : b < a
    · exact g
    · rw [decide_eq_false g] at h; cases h
section YBase
variable {o : Nat} {ft : Nat → List Nat} {call : xF} {pool : Nat → xP} {hs : List (Nat × (Nat × (Nat × Nat)))} {tab : Lean.RArray xI} {P : xE → Prop}
def yG (o : Nat) (ft : Nat → List Nat) (call : xF) (pool : Nat → xP) (hs : List (Nat × (Nat × (Nat × Nat)))) (tab : Lean.RArray xI) (P : xE → Prop) (N pc : Nat) (L : List (Nat × xA)) (stk : List xA) (hp : xH) : Prop :=
  ∀ l, ySub L l → zG o ft call pool hs tab P N pc l stk hp
variable {N pc nx len : Nat} {i : Instr} {L : List (Nat × xA)} {stk rest : List xA} {hp : xH} {v : xA}
theorem yG.mono {N' : Nat} (h : yG o ft call pool hs tab P N pc L stk hp) (hN : N ≤ N') : yG o ft call pool hs tab P N' pc L stk hp := fun l hl => (h l hl).mono hN
theorem yG.sub {L' : List (Nat × xA)} (h : yG o ft call pool hs tab P N pc L' stk hp) (hs9 : ∀ q ∈ L', xlk L q.1 = some q.2) : yG o ft call pool hs tab P N pc L stk hp := fun l hl => h l fun q hq => by
  have := hl _ (xlk_mem (hs9 q hq))
  exact this
theorem yG.step {pc' : Nat} {stk' : List xA} (ht : xget tab pc = (pc, (i, (len, nx)))) (he : ∀ (K : xK) l, xstep o ft call pool hs K i pc nx l stk hp = K pc' l stk' hp) (h : yG o ft call pool hs tab P N pc' L stk' hp) : yG o ft call pool hs tab P (N + 1) pc L stk hp :=
  fun l hl => zG.step ht (fun K => he K l) (h l hl)
theorem yG.load {k : Nat} (ok : xA → Bool) (ht : xget tab pc = (pc, (i, (len, nx)))) (he : ∀ (K : xK) l, xstep o ft call pool hs K i pc nx l stk hp = xj (xlk l k) fun a => cond (ok a) (K nx l (a :: stk) hp) none) (hL : xlk L k = some v) (hv : ok v = true) (h : yG o ft call pool hs tab P N nx L (v :: stk) hp) : yG o ft call pool hs tab P (N + 1) pc L stk hp :=
  fun l hl => zG.step ht (fun K => by rw [he, hl _ (xlk_mem hL)]; show cond (ok v) _ none = _; rw [hv]; rfl) (h l hl)
theorem yG.store1 {k : Nat} {L' : List (Nat × xA)} (ok : xA → Bool) (ht : xget tab pc = (pc, (i, (len, nx)))) (he : ∀ (K : xK) l, xstep o ft call pool hs K i pc nx l (v :: rest) hp = cond (ok v) (K nx (xst1 l k v) rest hp) none) (hv : ok v = true) (hL : xst1 L k v = L') (h : yG o ft call pool hs tab P N nx L' rest hp) : yG o ft call pool hs tab P (N + 1) pc L (v :: rest) hp :=
  fun l hl => by
    subst hL
    exact zG.stepP ht fun fuel hf => by rw [he, hv]; exact h _ (hl.st1 k v) fuel hf
theorem yG.store2 {k : Nat} {L' : List (Nat × xA)} (ok : xA → Bool) (ht : xget tab pc = (pc, (i, (len, nx)))) (he : ∀ (K : xK) l, xstep o ft call pool hs K i pc nx l (v :: rest) hp = cond (ok v) (K nx (xst2 l k v) rest hp) none) (hv : ok v = true) (hL : xst2 L k v = L') (h : yG o ft call pool hs tab P N nx L' rest hp) : yG o ft call pool hs tab P (N + 1) pc L (v :: rest) hp :=
  fun l hl => by
    subst hL
    exact zG.stepP ht fun fuel hf => by rw [he, hv]; exact h _ (hl.st2 k v) fuel hf
theorem yG.iinc {k : Nat} {n a : Int} {L' : List (Nat × xA)} (ht : xget tab pc = (pc, (.iinc k n, (len, nx)))) (hk : xlk L k = some (yI a)) (hL : xst1 L k (yI (a + n)) = L') (h : yG o ft call pool hs tab P N nx L' stk hp) : yG o ft call pool hs tab P (N + 1) pc L stk hp :=
  fun l hl => by
    subst hL
    refine zG.stepP ht fun fuel hf => ?_
    show ∃ out, (xj (xlk l k) fun a => xj (xbin (fun x y => xm32 (Nat.add x y)) a (.inl (x32 (Int32.ofInt n)))) fun b => xrun o ft call pool hs tab fuel nx (xst1 l k b) stk hp) = some out ∧ P out
    rw [hl _ (xlk_mem hk), zx32_ofInt]
    show ∃ out, xrun o ft call pool hs tab fuel nx (xst1 l k (.inl (xm32 (Nat.add (zc32 a) (zc32 n))))) stk hp = some out ∧ P out
    rw [zc32_add]
    exact h _ (hl.st1 k _) fuel hf
/-! numbers -/
theorem yG.num {m : Nat} {c : Int} (ht : xget tab pc = (pc, (i, (len, nx)))) (he : ∀ (K : xK) l, xstep o ft call pool hs K i pc nx l stk hp = K nx l (.inl m :: stk) hp) (hm : m = zc32 c) (h : yG o ft call pool hs tab P N nx L (yI c :: stk) hp) : yG o ft call pool hs tab P (N + 1) pc L stk hp := by
  subst hm
  exact h.step ht he
theorem yG.numl {m : Nat} {c : Int} (ht : xget tab pc = (pc, (i, (len, nx)))) (he : ∀ (K : xK) l, xstep o ft call pool hs K i pc nx l stk hp = K nx l (.inr (.inl m) :: stk) hp) (hm : m = zc64 c) (h : yG o ft call pool hs tab P N nx L (yJ c :: stk) hp) : yG o ft call pool hs tab P (N + 1) pc L stk hp := by
  subst hm
  exact h.step ht he
theorem yG.iadd {a b : Int} (ht : xget tab pc = (pc, (.iadd, (len, nx)))) (h : yG o ft call pool hs tab P N nx L (yI (a + b) :: rest) hp) : yG o ft call pool hs tab P (N + 1) pc L (yI b :: yI a :: rest) hp :=
  yG.step (pc' := nx) (stk' := yI (a + b) :: rest) ht (fun K l => by show K nx l (.inl (xm32 (Nat.add (zc32 a) (zc32 b))) :: rest) hp = _; rw [zc32_add]) h
theorem yG.isub {a b : Int} (ht : xget tab pc = (pc, (.isub, (len, nx)))) (h : yG o ft call pool hs tab P N nx L (yI (a - b) :: rest) hp) : yG o ft call pool hs tab P (N + 1) pc L (yI b :: yI a :: rest) hp :=
  yG.step (pc' := nx) (stk' := yI (a - b) :: rest) ht (fun K l => by show K nx l (.inl (xm32 (Nat.add (zc32 a) (Nat.sub 4294967296 (xm32 (zc32 b))))) :: rest) hp = _; rw [zc32_sub]) h
theorem yG.imul {a b : Int} (ht : xget tab pc = (pc, (.imul, (len, nx)))) (h : yG o ft call pool hs tab P N nx L (yI (a * b) :: rest) hp) : yG o ft call pool hs tab P (N + 1) pc L (yI b :: yI a :: rest) hp :=
  yG.step (pc' := nx) (stk' := yI (a * b) :: rest) ht (fun K l => by show K nx l (.inl (xm32 (Nat.mul (zc32 a) (zc32 b))) :: rest) hp = _; rw [zc32_mul]) h
theorem yG.ineg {a : Int} (ht : xget tab pc = (pc, (.ineg, (len, nx)))) (h : yG o ft call pool hs tab P N nx L (yI (-a) :: rest) hp) : yG o ft call pool hs tab P (N + 1) pc L (yI a :: rest) hp :=
  yG.step (pc' := nx) (stk' := yI (-a) :: rest) ht (fun K l => by show K nx l (.inl (x32 (-Int32.ofNat (zc32 a))) :: rest) hp = _; rw [zneg32]) h
theorem yG.ladd {a b : Int} (ht : xget tab pc = (pc, (.ladd, (len, nx)))) (h : yG o ft call pool hs tab P N nx L (yJ (a + b) :: rest) hp) : yG o ft call pool hs tab P (N + 1) pc L (yJ b :: yJ a :: rest) hp :=
  yG.step (pc' := nx) (stk' := yJ (a + b) :: rest) ht (fun K l => by show K nx l (.inr (.inl (x64 (Int64.ofNat (zc64 a) + Int64.ofNat (zc64 b)))) :: rest) hp = _; rw [zadd64]) h
theorem yG.lsub {a b : Int} (ht : xget tab pc = (pc, (.lsub, (len, nx)))) (h : yG o ft call pool hs tab P N nx L (yJ (a - b) :: rest) hp) : yG o ft call pool hs tab P (N + 1) pc L (yJ b :: yJ a :: rest) hp :=
  yG.step (pc' := nx) (stk' := yJ (a - b) :: rest) ht (fun K l => by show K nx l (.inr (.inl (x64 (Int64.ofNat (zc64 a) - Int64.ofNat (zc64 b)))) :: rest) hp = _; rw [zsub64]) h
theorem yG.lmul {a b : Int} (ht : xget tab pc = (pc, (.lmul, (len, nx)))) (h : yG o ft call pool hs tab P N nx L (yJ (a * b) :: rest) hp) : yG o ft call pool hs tab P (N + 1) pc L (yJ b :: yJ a :: rest) hp :=
  yG.step (pc' := nx) (stk' := yJ (a * b) :: rest) ht (fun K l => by show K nx l (.inr (.inl (x64 (Int64.ofNat (zc64 a) * Int64.ofNat (zc64 b)))) :: rest) hp = _; rw [zmul64]) h
theorem yG.lneg {a : Int} (ht : xget tab pc = (pc, (.lneg, (len, nx)))) (h : yG o ft call pool hs tab P N nx L (yJ (-a) :: rest) hp) : yG o ft call pool hs tab P (N + 1) pc L (yJ a :: rest) hp :=
  yG.step (pc' := nx) (stk' := yJ (-a) :: rest) ht (fun K l => by show K nx l (.inr (.inl (x64 (-Int64.ofNat (zc64 a)))) :: rest) hp = _; rw [zneg64]) h
theorem yG.i2l {a : Int} (ht : xget tab pc = (pc, (.i2l, (len, nx)))) (ha : zi32 a) (h : yG o ft call pool hs tab P N nx L (yJ a :: rest) hp) : yG o ft call pool hs tab P (N + 1) pc L (yI a :: rest) hp :=
  yG.step (pc' := nx) (stk' := yJ a :: rest) ht (fun K l => by show K nx l (.inr (.inl (x64 (Int32.ofNat (zc32 a)).toInt64)) :: rest) hp = _; rw [zi2l ha]) h
theorem yG.l2i {a : Int} (ht : xget tab pc = (pc, (.l2i, (len, nx)))) (h : yG o ft call pool hs tab P N nx L (yI a :: rest) hp) : yG o ft call pool hs tab P (N + 1) pc L (yJ a :: rest) hp :=
  yG.step (pc' := nx) (stk' := yI a :: rest) ht (fun K l => by show K nx l (.inl (x32 (Int64.ofNat (zc64 a)).toInt32) :: rest) hp = _; rw [zl2i]) h
/-- quotients of numbers that are not below 0 -/
theorem yG.idiv {a b : Int} (ht : xget tab pc = (pc, (.idiv, (len, nx)))) (ha : zi32 a) (hb : zi32 b) (h0 : 0 ≤ a) (h1 : 1 ≤ b) (h : yG o ft call pool hs tab P N nx L (yI (a / b) :: rest) hp) : yG o ft call pool hs tab P (N + 1) pc L (yI b :: yI a :: rest) hp :=
  yG.step (pc' := nx) (stk' := yI (a / b) :: rest) ht (fun K l => by
    show xj (cond (Nat.beq (xm32 (zc32 b)) 0) none (some (.inl (x32 (Int32.ofNat (zc32 a) / Int32.ofNat (zc32 b)))))) (fun v => K nx l (v :: rest) hp) = _
    rw [zc32_ne hb h1, zdiv32 ha hb, (zq_facts h0 h1).1]
    rfl) h
theorem yG.irem {a b : Int} (ht : xget tab pc = (pc, (.irem, (len, nx)))) (ha : zi32 a) (hb : zi32 b) (h0 : 0 ≤ a) (h1 : 1 ≤ b) (h : yG o ft call pool hs tab P N nx L (yI (a % b) :: rest) hp) : yG o ft call pool hs tab P (N + 1) pc L (yI b :: yI a :: rest) hp :=
  yG.step (pc' := nx) (stk' := yI (a % b) :: rest) ht (fun K l => by
    show xj (cond (Nat.beq (xm32 (zc32 b)) 0) none (some (.inl (x32 (Int32.ofNat (zc32 a) - (Int32.ofNat (zc32 a) / Int32.ofNat (zc32 b)) * Int32.ofNat (zc32 b)))))) (fun v => K nx l (v :: rest) hp) = _
    rw [zc32_ne hb h1, zrem32 ha hb, (zq_facts h0 h1).1, Int.mul_comm (a / b) b, ← Int.emod_def]
    rfl) h
theorem yG.ldiv {a b : Int} (ht : xget tab pc = (pc, (.ldiv, (len, nx)))) (ha : zi64 a) (hb : zi64 b) (h0 : 0 ≤ a) (h1 : 1 ≤ b) (h : yG o ft call pool hs tab P N nx L (yJ (a / b) :: rest) hp) : yG o ft call pool hs tab P (N + 1) pc L (yJ b :: yJ a :: rest) hp :=
  yG.step (pc' := nx) (stk' := yJ (a / b) :: rest) ht (fun K l => by
    show xj (cond (Nat.beq (xm64 (zc64 b)) 0) none (some (.inr (.inl (x64 (Int64.ofNat (zc64 a) / Int64.ofNat (zc64 b))))))) (fun v => K nx l (v :: rest) hp) = _
    rw [zc64_ne hb h1, zdiv64 ha hb, (zq_facts h0 h1).1]
    rfl) h
theorem yG.lrem {a b : Int} (ht : xget tab pc = (pc, (.lrem, (len, nx)))) (ha : zi64 a) (hb : zi64 b) (h0 : 0 ≤ a) (h1 : 1 ≤ b) (h : yG o ft call pool hs tab P N nx L (yJ (a % b) :: rest) hp) : yG o ft call pool hs tab P (N + 1) pc L (yJ b :: yJ a :: rest) hp :=
  yG.step (pc' := nx) (stk' := yJ (a % b) :: rest) ht (fun K l => by
    show xj (cond (Nat.beq (xm64 (zc64 b)) 0) none (some (.inr (.inl (x64 (Int64.ofNat (zc64 a) - (Int64.ofNat (zc64 a) / Int64.ofNat (zc64 b)) * Int64.ofNat (zc64 b))))))) (fun v => K nx l (v :: rest) hp) = _
    rw [zc64_ne hb h1, zrem64 ha hb, (zq_facts h0 h1).1, Int.mul_comm (a / b) b, ← Int.emod_def]
    rfl) h
/-! branches -/
theorem yG.goto {off : Int} {t : Nat} (ht : xget tab pc = (pc, (.goto off, (len, nx)))) (hg : xtgt pc off = some t) (h : yG o ft call pool hs tab P N t L stk hp) : yG o ft call pool hs tab P (N + 1) pc L stk hp :=
  yG.step (pc' := t) (stk' := stk) ht (fun K l => by show xj (xtgt pc off) (fun t => K t l stk hp) = _; rw [hg]; rfl) h
theorem yG.icmp {c : ClassFile.Cond} {off : Int} {t : Nat} {a b : Int} (ht : xget tab pc = (pc, (.if_icmp c off, (len, nx)))) (hg : xtgt pc off = some t) (ha : zi32 a) (hb : zi32 b) (h1 : yrel c a b → yG o ft call pool hs tab P N t L rest hp) (h2 : ynot c a b → yG o ft call pool hs tab P N nx L rest hp) : yG o ft call pool hs tab P (N + 1) pc L (yI b :: yI a :: rest) hp := by
  have e : ∀ (K : xK) l, xstep o ft call pool hs K (.if_icmp c off) pc nx l (yI b :: yI a :: rest) hp = K (cond (zcp c a b) t nx) l rest hp := fun K l => by
    show xj (xbd (.inl (zc32 a))) (fun p => xj (xbd (.inl (zc32 b))) fun q => xif K pc nx off l rest hp (xcnd c p q)) = _
    rw [zbd ha, zbd hb]
    show xif K pc nx off l rest hp (xcnd c _ _) = _
    rw [zxcnd c ha hb]
    unfold xif
    rw [hg]
    cases zcp c a b <;> rfl
  cases hz : zcp c a b with
  | true => exact yG.step (pc' := t) (stk' := rest) ht (fun K l => by rw [e, hz]; rfl) (h1 (zcp_yes hz))
  | false => exact yG.step (pc' := nx) (stk' := rest) ht (fun K l => by rw [e, hz]; rfl) (h2 (zcp_no hz))
theorem yG.ifz {c : ClassFile.Cond} {off : Int} {t : Nat} {a : Int} (ht : xget tab pc = (pc, (.ifCond c off, (len, nx)))) (hg : xtgt pc off = some t) (ha : zi32 a) (h1 : yrel c a 0 → yG o ft call pool hs tab P N t L rest hp) (h2 : ynot c a 0 → yG o ft call pool hs tab P N nx L rest hp) : yG o ft call pool hs tab P (N + 1) pc L (yI a :: rest) hp := by
  have e : ∀ (K : xK) l, xstep o ft call pool hs K (.ifCond c off) pc nx l (yI a :: rest) hp = K (cond (zcp c a 0) t nx) l rest hp := fun K l => by
    show xj (xbd (.inl (zc32 a))) (fun p => xif K pc nx off l rest hp (xcnd c p (2147483648, 2147483648))) = _
    rw [zbd ha]
    show xif K pc nx off l rest hp (xcnd c _ (((0 : Int) + 2147483648).toNat, ((0 : Int) + 2147483648).toNat)) = _
    rw [zxcnd c ha (b := 0) ⟨by decide, by decide⟩]
    unfold xif
    rw [hg]
    cases zcp c a 0 <;> rfl
  cases hz : zcp c a 0 with
  | true => exact yG.step (pc' := t) (stk' := rest) ht (fun K l => by rw [e, hz]; rfl) (h1 (zcp_yes hz))
  | false => exact yG.step (pc' := nx) (stk' := rest) ht (fun K l => by rw [e, hz]; rfl) (h2 (zcp_no hz))
theorem yG.lcmp {a b : Int} (ht : xget tab pc = (pc, (.lcmp, (len, nx)))) (ha : zi64 a) (hb : zi64 b) (h : ∀ z : Int, (a < b ∧ z = -1) ∨ (a = b ∧ z = 0) ∨ (b < a ∧ z = 1) → yG o ft call pool hs tab P N nx L (yI z :: rest) hp) : yG o ft call pool hs tab P (N + 1) pc L (yJ b :: yJ a :: rest) hp := by
  have e : ∀ (K : xK) l, xstep o ft call pool hs K .lcmp pc nx l (yJ b :: yJ a :: rest) hp = xj (xlcmp (yJ a) (yJ b)) fun v => K nx l (v :: rest) hp := fun _ _ => rfl
  have e2 : ∀ z : Int, (a < b ∧ z = -1) ∨ (a = b ∧ z = 0) ∨ (b < a ∧ z = 1) → xlcmp (yJ a) (yJ b) = some (yI z) := by
    intro z hz
    rw [show xlcmp (yJ a) (yJ b) = _ from xlcmp_eq ha hb]
    rcases hz with ⟨h1, rfl⟩ | ⟨h1, rfl⟩ | ⟨h1, rfl⟩
    · rw [decide_eq_true h1]; rfl
    · rw [decide_eq_false (show ¬ a < b by omega), decide_eq_true h1]; rfl
    · rw [decide_eq_false (show ¬ a < b by omega), decide_eq_false (show ¬ a = b by omega)]; rfl
  have tri : ∃ z : Int, (a < b ∧ z = -1) ∨ (a = b ∧ z = 0) ∨ (b < a ∧ z = 1) := by
    rcases Int.lt_trichotomy a b with h | h | h
    · exact ⟨-1, Or.inl ⟨h, rfl⟩⟩
    · exact ⟨0, Or.inr (Or.inl ⟨h, rfl⟩)⟩
    · exact ⟨1, Or.inr (Or.inr ⟨h, rfl⟩)⟩
  obtain ⟨z, hz⟩ := tri
  exact yG.step (pc' := nx) (stk' := yI z :: rest) ht (fun K l => by rw [e, e2 z hz]; rfl) (h z hz)
theorem yG.ret (ht : xget tab pc = (pc, (i, (len, nx)))) (he : ∀ (K : xK) l, xstep o ft call pool hs K i pc nx l stk hp = some (0, (pc, (stk, (hp, 0))))) (h : P (0, (pc, (stk, (hp, 0))))) : yG o ft call pool hs tab P (N + 1) pc L stk hp :=
  fun l _ => zG.done ht (fun K => he K l) h
/-! cells -/
def ydec (a : xA) : Int := match a with
  | .inl n => zsg32 n
  | .inr (.inl n) => zsg64 n
  | .inr (.inr (.inl k)) => (k : Int)
  | _ => 0
noncomputable def ys (hp : xH) (k j : Nat) : Int := ydec (zsl hp k j)
theorem ydec_I {z : Int} (h : zi32 z) : ydec (yI z) = z := by
  obtain ⟨h1, h2⟩ := h
  show zsg32 (zc32 z) = z
  unfold zsg32 zc32
  cases hb : Nat.blt (z % 4294967296).toNat 2147483648 with
  | true =>
    have := Nat.le_of_ble_eq_true hb
    rw [cond_true]
    show (((z % 4294967296).toNat : Nat) : Int) = z
    omega
  | false =>
    have : ¬ (z % 4294967296).toNat < 2147483648 := fun h => by rw [blt_true h] at hb; cases hb
    rw [cond_false]
    show (((z % 4294967296).toNat : Nat) : Int) - 4294967296 = z
    omega
theorem ydec_J {z : Int} (h : zi64 z) : ydec (yJ z) = z := by
  obtain ⟨h1, h2⟩ := h
  show zsg64 (zc64 z) = z
  unfold zsg64 zc64
  cases hb : Nat.blt (z % 18446744073709551616).toNat 9223372036854775808 with
  | true =>
    have := Nat.le_of_ble_eq_true hb
    rw [cond_true]
    show (((z % 18446744073709551616).toNat : Nat) : Int) = z
    omega
  | false =>
    have : ¬ (z % 18446744073709551616).toNat < 9223372036854775808 := fun h => by rw [blt_true h] at hb; cases hb
    rw [cond_false]
    show (((z % 18446744073709551616).toNat : Nat) : Int) - 18446744073709551616 = z
    omega
/-- an array of ints (kd 0), longs (1), of one type -/
def yIA (G : zW) (k n kd : Nat) (t : zT) : Prop := k < G.2.2.1 ∧ xget G.1 (zro G k) = .inr (.inl (kd, (1, [t]))) ∧ zat G k = n
variable {G : zW}
theorem yIA.at {k n kd : Nat} {t : zT} (hA : yIA G k n kd t) (hT : zTy G hp) {j : Nat} (hj : j < n) : ∃ bb f, xcell hp k = some (.inr (.inl (kd, (n, (bb, f))))) ∧ n < 2147483648 ∧ zsl hp k j = xget f j ∧ ztok G t n (xget f j) := by
  obtain ⟨h1, h2, h3⟩ := hA
  obtain ⟨bb, f, f1, f2, f3, f4, f5⟩ := hT.arr h1 h2
  rw [h3] at f1 f4 f5
  refine ⟨bb, f, f1, f4, ?_, ?_⟩
  · rw [zsl_arr f1]
    show cond (Nat.blt j n) (xget f j) _ = _
    rw [blt_true hj]
    rfl
  · obtain ⟨t', e1, e2⟩ := f5 j hj
    rw [show j % 1 = 0 by omega] at e1
    cases e1
    exact e2
theorem yIA.int {k n kd : Nat} {lo hi : Int} (hA : yIA G k n kd (0, (lo, hi))) (hT : zTy G hp) {j : Nat} (hj : j < n) : zsl hp k j = yI (ys hp k j) ∧ zi32 (ys hp k j) ∧ lo ≤ ys hp k j ∧ ys hp k j ≤ hi := by
  obtain ⟨bb, f, -, -, e1, z, z1, z2, z3, z4⟩ := hA.at hT hj
  have e : ys hp k j = z := by
    unfold ys
    rw [e1, z4]
    exact ydec_I z1
  rw [e, e1, z4]
  exact ⟨rfl, z1, z2, z3⟩
theorem yIA.long {k n kd : Nat} {lo hi : Int} (hA : yIA G k n kd (1, (lo, hi))) (hT : zTy G hp) {j : Nat} (hj : j < n) : zsl hp k j = yJ (ys hp k j) ∧ zi64 (ys hp k j) ∧ lo ≤ ys hp k j ∧ ys hp k j ≤ hi := by
  obtain ⟨bb, f, -, -, e1, z, z1, z2, z3, z4⟩ := hA.at hT hj
  have e : ys hp k j = z := by
    unfold ys
    rw [e1, z4]
    exact ydec_J z1
  rw [e, e1, z4]
  exact ⟨rfl, z1, z2, z3⟩
theorem yG.ald {ok : Nat → Bool} {k n kd : Nat} {t : zT} {e : Int} (hT : zTy G hp) (hA : yIA G k n kd t) (hok : ok kd = true) (ht : xget tab pc = (pc, (i, (len, nx)))) (he : ∀ (K : xK) l s, xstep o ft call pool hs K i pc nx l s hp = (match s with
    | i :: r :: rest => xj (xald ok hp r i) fun v => K nx l (v :: rest) hp
    | _ => none)) (h0 : 0 ≤ e) (h1 : e < n) (h : yG o ft call pool hs tab P N nx L (zsl hp k e.toNat :: rest) hp) : yG o ft call pool hs tab P (N + 1) pc L (yI e :: yR k :: rest) hp := by
  obtain ⟨m, rfl⟩ : ∃ m : Nat, e = (m : Int) := ⟨e.toNat, by omega⟩
  have hm : m < n := by omega
  obtain ⟨bb, f, f1, f2, f3, -⟩ := hA.at hT hm
  refine yG.step (pc' := nx) (stk' := zsl hp k (m : Int).toNat :: rest) ht (fun K l => ?_) h
  rw [he]
  show xj (xald ok hp (.inr (.inr (.inl k))) (.inl (zc32 (m : Int)))) (fun v => K nx l (v :: rest) hp) = _
  rw [zc32_nat (by omega)]
  show xj (match xcell hp k with
    | some (.inr (.inl c)) => cond (ok c.1 && (Nat.blt m c.2.1 && Nat.blt m 2147483648)) (some (xget c.2.2.2 m)) none
    | _ => none) (fun v => K nx l (v :: rest) hp) = _
  rw [f1]
  show xj (cond (ok kd && (Nat.blt m n && Nat.blt m 2147483648)) (some (xget f m)) none) _ = _
  rw [hok, blt_true hm, blt_true (show m < 2147483648 by omega), show (m : Int).toNat = m from rfl, f3]
  rfl
theorem yG.iald {k n : Nat} {lo hi e : Int} (hT : zTy G hp) (hA : yIA G k n 0 (0, (lo, hi))) (ht : xget tab pc = (pc, (.iaload, (len, nx)))) (h0 : 0 ≤ e) (h1 : e < n) (h : ∀ z, z = ys hp k e.toNat → zi32 z → lo ≤ z → z ≤ hi → yG o ft call pool hs tab P N nx L (yI z :: rest) hp) : yG o ft call pool hs tab P (N + 1) pc L (yI e :: yR k :: rest) hp := by
  obtain ⟨a, b, c, d⟩ := hA.int hT (j := e.toNat) (by omega)
  refine yG.ald (ok := fun t => Nat.beq t 0) hT hA rfl ht (fun _ _ _ => rfl) h0 h1 ?_
  rw [a]
  exact h _ rfl b c d
theorem yG.lald {k n : Nat} {lo hi e : Int} (hT : zTy G hp) (hA : yIA G k n 1 (1, (lo, hi))) (ht : xget tab pc = (pc, (.laload, (len, nx)))) (h0 : 0 ≤ e) (h1 : e < n) (h : ∀ z, z = ys hp k e.toNat → zi64 z → lo ≤ z → z ≤ hi → yG o ft call pool hs tab P N nx L (yJ z :: rest) hp) : yG o ft call pool hs tab P (N + 1) pc L (yI e :: yR k :: rest) hp := by
  obtain ⟨a, b, c, d⟩ := hA.long hT (j := e.toNat) (by omega)
  refine yG.ald (ok := fun t => Nat.beq t 1) hT hA rfl ht (fun _ _ _ => rfl) h0 h1 ?_
  rw [a]
  exact h _ rfl b c d
theorem yG.ast {ok : Nat → Bool} {k n kd : Nat} {t : zT} {e : Int} (hT : zTy G hp) (hA : yIA G k n kd t) (hok : ok kd = true) (hO : o ≤ k) (hkeep : xkeep kd v = some v) (hv : ztok G t n v) (ht : xget tab pc = (pc, (i, (len, nx)))) (he : ∀ (K : xK) l s, xstep o ft call pool hs K i pc nx l s hp = (match s with
    | v :: i :: r :: rest => xj (xast o ok hp r i v) fun h => K nx l rest h
    | _ => none)) (h0 : 0 ≤ e) (h1 : e < n) (h : ∀ hp', zTy G hp' → hp'.2 = hp.2 → (∀ k' j', zsl hp' k' j' = if k' = k ∧ j' = e.toNat then v else zsl hp k' j') → yG o ft call pool hs tab P N nx L rest hp') : yG o ft call pool hs tab P (N + 1) pc L (v :: yI e :: yR k :: rest) hp := by
  obtain ⟨m, rfl⟩ : ∃ m : Nat, e = (m : Int) := ⟨e.toNat, by omega⟩
  have hm : m < n := by omega
  obtain ⟨g1, g2, g3⟩ := hA
  obtain ⟨bb, f, f1, f2, f3, f4, f5⟩ := hT.arr g1 g2
  have hm2 : m < zat G k := by rw [g3]; exact hm
  have hv2 : ztok G t (zat G k) v := by rw [g3]; exact hv
  obtain ⟨q1, q2⟩ := hT.puta g1 g2 f1 hm2 (t := t) (by rw [show m % 1 = 0 by omega]; rfl) hv2
  refine fun l hl => zG.step (pc' := nx) (stk' := rest) ht (fun K => ?_) (h _ q1 rfl (fun k' j' => ?_) l hl)
  · rw [he]
    show xj (xast o ok hp (.inr (.inr (.inl k))) (.inl (zc32 (m : Int))) v) (fun h => K nx l rest h) = _
    rw [zc32_nat (by omega)]
    show xj (match xcell hp k with
      | some (.inr (.inl c)) => match xkeep c.1 v with
        | some w => cond (ok c.1 && (Nat.blt m c.2.1 && (Nat.blt m 2147483648 && (Nat.ble o k && Nat.blt m (Nat.pow 2 c.2.2.1))))) (some (xput hp k (some (.inr (.inl (c.1, (c.2.1, (c.2.2.1, xset w m c.2.2.1 0 c.2.2.2)))))))) none
        | none => none
      | _ => none) (fun h => K nx l rest h) = _
    rw [f1]
    show xj (match xkeep kd v with
      | some w => cond (ok kd && (Nat.blt m (zat G k) && (Nat.blt m 2147483648 && (Nat.ble o k && Nat.blt m (Nat.pow 2 bb))))) (some (xput hp k (some (.inr (.inl (kd, (zat G k, (bb, xset w m bb 0 f)))))))) none
      | none => none) (fun h => K nx l rest h) = _
    rw [hkeep]
    show xj (cond (ok kd && (Nat.blt m (zat G k) && (Nat.blt m 2147483648 && (Nat.ble o k && Nat.blt m (Nat.pow 2 bb))))) (some (xput hp k (some (.inr (.inl (kd, (zat G k, (bb, xset v m bb 0 f)))))))) none) (fun h => K nx l rest h) = _
    rw [hok, blt_true hm2, blt_true (show m < 2147483648 by omega), Nat.ble_eq_true_of_le hO, blt_true (show m < Nat.pow 2 bb from Nat.lt_of_lt_of_le hm2 f3)]
    rfl
  · exact q2 k' j'
theorem yG.iast {k n : Nat} {lo hi e z : Int} (hT : zTy G hp) (hA : yIA G k n 0 (0, (lo, hi))) (hO : o ≤ k) (ht : xget tab pc = (pc, (.iastore, (len, nx)))) (h0 : 0 ≤ e) (h1 : e < n) (hz : zi32 z) (hz1 : lo ≤ z) (hz2 : z ≤ hi) (h : ∀ hp', zTy G hp' → hp'.2 = hp.2 → (∀ k' j', zsl hp' k' j' = if k' = k ∧ j' = e.toNat then yI z else zsl hp k' j') → (∀ k' j', ys hp' k' j' = if k' = k ∧ j' = e.toNat then z else ys hp k' j') → yG o ft call pool hs tab P N nx L rest hp') : yG o ft call pool hs tab P (N + 1) pc L (yI z :: yI e :: yR k :: rest) hp := by
  refine yG.ast (ok := fun t => Nat.beq t 0) hT hA rfl hO ?_ ⟨z, hz, hz1, hz2, rfl⟩ ht (fun _ _ _ => rfl) h0 h1 fun hp' a b c => h hp' a b c fun k' j' => ?_
  · show cond (xbd (.inl (zc32 z))).isSome _ none = _
    rw [zbd hz]
    rfl
  · unfold ys
    rw [c]
    by_cases e9 : k' = k ∧ j' = e.toNat
    · rw [if_pos e9, if_pos e9, ydec_I hz]
    · rw [if_neg e9, if_neg e9]
theorem yG.last {k n : Nat} {lo hi e z : Int} (hT : zTy G hp) (hA : yIA G k n 1 (1, (lo, hi))) (hO : o ≤ k) (ht : xget tab pc = (pc, (.lastore, (len, nx)))) (h0 : 0 ≤ e) (h1 : e < n) (hz : zi64 z) (hz1 : lo ≤ z) (hz2 : z ≤ hi) (h : ∀ hp', zTy G hp' → hp'.2 = hp.2 → (∀ k' j', zsl hp' k' j' = if k' = k ∧ j' = e.toNat then yJ z else zsl hp k' j') → (∀ k' j', ys hp' k' j' = if k' = k ∧ j' = e.toNat then z else ys hp k' j') → yG o ft call pool hs tab P N nx L rest hp') : yG o ft call pool hs tab P (N + 1) pc L (yJ z :: yI e :: yR k :: rest) hp := by
  refine yG.ast (ok := fun t => Nat.beq t 1) hT hA rfl hO ?_ ⟨z, hz, hz1, hz2, rfl⟩ ht (fun _ _ _ => rfl) h0 h1 fun hp' a b c => h hp' a b c fun k' j' => ?_
  · show cond (xbdl (.inr (.inl (zc64 z)))).isSome _ none = _
    rw [zbdl hz]
    rfl
  · unfold ys
    rw [c]
    by_cases e9 : k' = k ∧ j' = e.toNat
    · rw [if_pos e9, if_pos e9, ydec_J hz]
    · rw [if_neg e9, if_neg e9]
/-- an object's cell, its class; a field that always holds one cell -/
def yOB (G : zW) (k cls : Nat) : Prop := k < G.2.2.1 ∧ ∃ ts, xget G.1 (zro G k) = .inl (cls, ts)
def yFR (G : zW) (k cls j k' : Nat) : Prop := j < 256 ∧ yOB G k cls ∧ ∀ hp, zTy G hp → zsl hp k j = yR k'
theorem yG.getR {kk k cls j k' : Nat} {w : Nat} (hT : zTy G hp) (hF : yFR G k cls j k') (ht : xget tab pc = (pc, (.getfield kk, (len, nx)))) (hq : pool kk = (0, (cls, (j, w)))) (h : yG o ft call pool hs tab P N nx L (yR k' :: rest) hp) : yG o ft call pool hs tab P (N + 1) pc L (yR k :: rest) hp := by
  obtain ⟨hj, ⟨h1, ts, h2⟩, h3⟩ := hF
  obtain ⟨f, f1, -⟩ := hT.obj h1 h2
  have e := h3 hp hT
  rw [zsl_obj f1, blt_true hj, cond_true] at e
  refine yG.step (pc' := nx) (stk' := yR k' :: rest) ht (fun K l => ?_) h
  rw [xgetf_eq (c := (cls, f)) (by rw [hq]; rfl) f1 (by rw [hq]), hq]
  show K nx l (xget f j :: rest) hp = _
  rw [e]
/-! calls, methods -/
def yret (rv : Option xA) (rest : List xA) : List xA := match rv with
  | none => rest
  | some v => v :: rest
def yC (call : xF) (mi : Nat) (as : List xA) (hp : xH) (Q : Option xA → xH → Prop) : Prop := ∃ rv hp', call mi as hp = some (0, (rv, (hp', 0))) ∧ Q rv hp'
theorem yG.invV {kk k cls mi na : Nat} {as : List xA} {Q : Option xA → xH → Prop} (hT : zTy G hp) (hk : yOB G k cls) (ht : xget tab pc = (pc, (.invokevirtual kk, (len, nx)))) (hq : pool kk = (1, (mi, (na, cls)))) (hs9 : xtake na [] stk = some (as, yR k :: rest)) (hr : Nat.ble (xcats rest) 8 = true) (hc : yC call mi (yR k :: as) hp Q) (h : ∀ rv hp', Q rv hp' → yG o ft call pool hs tab P N nx L (yret rv rest) hp') : yG o ft call pool hs tab P (N + 1) pc L stk hp := by
  obtain ⟨h1, ts, h2⟩ := hk
  obtain ⟨f, f1, -⟩ := hT.obj h1 h2
  obtain ⟨rv, hp', c1, c2⟩ := hc
  refine fun l hl => zG.step (pc' := nx) (loc' := l) (stk' := yret rv rest) (hp' := hp') ht (fun K => ?_) (h rv hp' c2 l hl)
  show xinvV call hs (pool kk) K pc nx l stk hp = _
  unfold xinvV
  rw [hq, hs9]
  show (match xcell hp k with
    | some (.inl c) => cond (Nat.beq c.1 cls && Nat.ble (xcats rest) 8) (xback hs K pc nx l rest (call mi (yR k :: as) hp)) none
    | _ => none) = _
  rw [f1]
  show cond (Nat.beq cls cls && Nat.ble (xcats rest) 8) (xback hs K pc nx l rest (call mi (yR k :: as) hp)) none = _
  rw [Nat.beq_refl, hr, c1]
  cases rv <;> rfl
def yP (rk : Nat) (Q : Option xA → xH → Prop) : xE → Prop := fun out => ∃ rv hp', xend rk (some out) = some (0, (rv, (hp', 0))) ∧ Q rv hp'
theorem yP.void {Q : Option xA → xH → Prop} (h : Q none hp) : yP 0 Q (0, (pc, ([], (hp, 0)))) := ⟨none, hp, rfl, h⟩
theorem yP.int {Q : Option xA → xH → Prop} {z : Int} (hz : zi32 z) (h : Q (some (yI z)) hp) : yP 1 Q (0, (pc, ([yI z], (hp, 0)))) := ⟨_, hp, by
  show (cond (xbd (.inl (zc32 z))).isSome (some (0, (some (yI z), (hp, 0)))) none : Option xO) = _
  rw [zbd hz]
  rfl, h⟩
theorem yP.long {Q : Option xA → xH → Prop} {z : Int} (hz : zi64 z) (h : Q (some (yJ z)) hp) : yP 2 Q (0, (pc, ([yJ z], (hp, 0)))) := ⟨_, hp, by
  show (cond (xbdl (.inr (.inl (zc64 z)))).isSome (some (0, (some (yJ z), (hp, 0)))) none : Option xO) = _
  rw [zbdl hz]
  rfl, h⟩
theorem yP.bool {Q : Option xA → xH → Prop} {z : Int} (hz : z = 0 ∨ z = 1) (h : Q (some (yI z)) hp) : yP 4 Q (0, (pc, ([yI z], (hp, 0)))) := by
  rcases hz with rfl | rfl
  · exact ⟨_, hp, rfl, h⟩
  · exact ⟨_, hp, rfl, h⟩
theorem xargs_self : ∀ (as : List xA) (i : Nat), (∀ q ∈ xargs as i, i ≤ q.1) ∧ ySub (xargs as i) (xargs as i) := by
  intro as
  induction as with
  | nil => intro i; exact ⟨fun q hq => (by cases hq), fun q hq => (by cases hq)⟩
  | cons a as ih =>
    intro i
    have hc : 1 ≤ xcat a := by
      unfold xcat
      split <;> omega
    obtain ⟨h1, h2⟩ := ih (i + xcat a)
    refine ⟨fun q hq => ?_, fun q hq => ?_⟩
    · rcases List.mem_cons.mp hq with rfl | hq
      · exact Nat.le_refl _
      · exact Nat.le_trans (Nat.le_add_right _ _) (h1 q hq)
    · show xlk ((i, a) :: xargs as (i + xcat a)) q.1 = some q.2
      rcases List.mem_cons.mp hq with rfl | hq
      · rw [xlk_cons, Nat.beq_refl]
        rfl
      · have := h1 q hq
        rw [xlk_cons, nbeq (show i ≠ q.1 by omega), cond_false]
        exact h2 q hq
theorem yC.of {pools : Lean.RArray (Lean.RArray (Nat × xP))} {ms : Lean.RArray xM} {d mi : Nat} {as : List xA} {Q : Option xA → xH → Prop} {M : xM} {N : Nat} (hM : xget ms mi = M) (ha : Nat.ble (xcats as) M.2.1 = true) (hN : N ≤ xfuel)
    (h : yG o ft (xcall o ft pools ms d) (xpool (xget pools M.2.2.2.1)) M.2.2.2.2 M.1 (yP M.2.2.1 Q) N 0 (xargs as 0) [] hp) : yC (xcall o ft pools ms (d + 1)) mi as hp Q := by
  obtain ⟨out, h1, rv, hp', h2, h3⟩ := h (xargs as 0) (xargs_self as 0).2 xfuel hN
  refine ⟨rv, hp', ?_, h3⟩
  show cond (Nat.ble (xcats as) (xget ms mi).2.1) (xend (xget ms mi).2.2.1 (xrun o ft (xcall o ft pools ms d) (xpool (xget pools (xget ms mi).2.2.2.1)) (xget ms mi).2.2.2.2 (xget ms mi).1 xfuel 0 (xargs as 0) [] hp)) none = _
  rw [hM, ha, cond_true, h1]
  exact h2
end YBase
