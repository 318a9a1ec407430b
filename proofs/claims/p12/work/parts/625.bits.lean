/-! ===== the checker's dispatch: shifts, bits: any number ===== -/
def zbits (K : zKs) (nx : Nat) (X : zQ) (loc : zLc) (i : Instr) (stk : List zV) (os : List zO) : Option (List zO) := match i, stk with
  | .ior, .inl _ :: .inl _ :: rest => zany32 (-2147483648) 2147483647 (fun X v os => K nx X loc (v :: rest) os) X os
  | .ixor, .inl _ :: .inl _ :: rest => zany32 (-2147483648) 2147483647 (fun X v os => K nx X loc (v :: rest) os) X os
  | .ishl, .inl _ :: .inl _ :: rest => zany32 (-2147483648) 2147483647 (fun X v os => K nx X loc (v :: rest) os) X os
  | .ishr, .inl _ :: .inl _ :: rest => zany32 (-2147483648) 2147483647 (fun X v os => K nx X loc (v :: rest) os) X os
  | .iushr, .inl _ :: .inl _ :: rest => zany32 (-2147483648) 2147483647 (fun X v os => K nx X loc (v :: rest) os) X os
  | .iand, .inl b :: .inl _ :: rest => match zisK b with
    | some c => cond (decide (0 ≤ c)) (zany32 0 c (fun X v os => K nx X loc (v :: rest) os) X os) none
    | none => none
  | _, _ => none
section ZBits
variable {G : zW} {W : zWr} {B : zB} {hp0 : xH} {ν0 : Nat → Int} {g : List zE} {o : Nat} {ft : Nat → List Nat} {call : xF} {pool : Nat → xP} {hs : List (Nat × (Nat × (Nat × Nat)))} {tab : Lean.RArray xI} {P : xE → Prop} {N : Nat}
variable {K : zKs} {pc nx len : Nat} {X : zQ} {loc : zLc} {stk : List zV} {os r : List zO} {i : Instr}
theorem zr_bin {Kv : zKv} {ν : Nat → Int} {hp : xH} {f : Int32 → Int32 → Int32} (h : zRel G W hp0 ν0 g ν X hp) {a b : zE} {ua ub : xA} (ha : zR X.1 ν (.inl a) ua) (hb : zR X.1 ν (.inl b) ub) (hk : zany32 (-2147483648) 2147483647 Kv X os = some r) : ∃ u, xbin (fun x y => x32 (f (Int32.ofNat x) (Int32.ofNat y))) ua ub = some u ∧ zRes G W hp0 ν0 g Kv r ν X hp u := by
  obtain ⟨_, _, rfl⟩ := ha
  obtain ⟨_, _, rfl⟩ := hb
  exact ⟨_, rfl, zr_any32 h _ hk⟩
theorem zand_le (v w : Int32) : x32 (v &&& w) ≤ x32 w := by
  show (v &&& w).toUInt32.toNat ≤ w.toUInt32.toNat
  rw [Int32.toUInt32_and, UInt32.toNat_and]
  exact Nat.and_le_right
theorem zr_and {Kv : zKv} {ν : Nat → Int} {hp : xH} (h : zRel G W hp0 ν0 g ν X hp) {a b : zE} {ua ub : xA} {c : Int} (ha : zR X.1 ν (.inl a) ua) (hb : zR X.1 ν (.inl b) ub) (hc : zisK b = some c) (h0 : 0 ≤ c) (hk : zany32 0 c Kv X os = some r) : ∃ u, xand ua ub = some u ∧ zRes G W hp0 ν0 g Kv r ν X hp u := by
  obtain ⟨_, _, rfl⟩ := ha
  obtain ⟨_, b2, rfl⟩ := hb
  rw [zisK_ok (ν := ν) hc] at b2 ⊢
  refine ⟨.inl (x32 (Int32.ofNat (zc32 (zv ν a)) &&& Int32.ofNat (zc32 c))), rfl, ?_⟩
  have h1 := zand_le (Int32.ofNat (zc32 (zv ν a))) (Int32.ofNat (zc32 c))
  have h2 : x32 (Int32.ofNat (zc32 c)) = zc32 c := by rw [zc32_of, zx32_ofInt]
  rw [h2] at h1
  obtain ⟨b3, b4⟩ := b2
  have h3 : ((zc32 c : Nat) : Int) = c := by rw [zc32_emod]; omega
  generalize x32 (Int32.ofNat (zc32 (zv ν a)) &&& Int32.ofNat (zc32 c)) = n at h1 ⊢
  rw [← zc32_nat (n := n) (by omega)]
  exact zany32_ok h ⟨by omega, by omega⟩ (by omega) (by omega) hk
theorem zbits_ok (hK : zHK G W hp0 ν0 g o ft call pool hs tab P N K) (ht : xget tab pc = (pc, (i, (len, nx)))) (h : zbits K nx X loc i stk os = some r) : zOk G W hp0 ν0 g o ft call pool hs tab P (N + 1) pc X loc stk := by
  unfold zbits at h
  split at h
  · exact zi_two hK ht (fun _ _ _ _ => rfl) fun ν hp ua ub hr ha hb => zr_bin (f := fun x y => x ||| y) hr ha hb h
  · exact zi_two hK ht (fun _ _ _ _ => rfl) fun ν hp ua ub hr ha hb => zr_bin (f := fun x y => x ^^^ y) hr ha hb h
  · exact zi_two hK ht (fun _ _ _ _ => rfl) fun ν hp ua ub hr ha hb => zr_bin (f := fun x y => x <<< (y &&& 31)) hr ha hb h
  · exact zi_two hK ht (fun _ _ _ _ => rfl) fun ν hp ua ub hr ha hb => zr_bin (f := fun x y => x >>> (y &&& 31)) hr ha hb h
  · exact zi_two hK ht (fun _ _ _ _ => rfl) fun ν hp ua ub hr ha hb => zr_bin (f := fun x y => (x.toUInt32 >>> (y.toUInt32 &&& Int32.toUInt32 31)).toInt32) hr ha hb h
  · split at h
    · next c hc =>
      obtain ⟨h0, h⟩ := cond_some h
      exact zi_two hK ht (fun _ _ _ _ => rfl) fun ν hp ua ub hr ha hb => zr_and hr ha hb hc (of_decide_eq_true h0) h
    · cases h
  · cases h
end ZBits
