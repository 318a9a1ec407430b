/-! ===== the checker's dispatch: shifts, bits: any number ===== -/
def zbits (K : zKs) (nx : Nat) (X : zQ) (loc : zLc) (i : Instr) (stk : List zV) (os : List zO) : Option (List zO) := match i, stk with
  | .ior, .inl _ :: .inl _ :: rest => zany32 (-2147483648) 2147483647 (fun X v os => K nx X loc (v :: rest) os) X os
  | .ixor, .inl _ :: .inl _ :: rest => zany32 (-2147483648) 2147483647 (fun X v os => K nx X loc (v :: rest) os) X os
  | .ishl, .inl _ :: .inl _ :: rest => zany32 (-2147483648) 2147483647 (fun X v os => K nx X loc (v :: rest) os) X os
  | .ishr, .inl _ :: .inl _ :: rest => zany32 (-2147483648) 2147483647 (fun X v os => K nx X loc (v :: rest) os) X os
  | .iushr, .inl _ :: .inl _ :: rest => zany32 (-2147483648) 2147483647 (fun X v os => K nx X loc (v :: rest) os) X os
  | _, _ => none
section ZBits
variable {G : zW} {W : zWr} {B : zB} {hp0 : xH} {ν0 : Nat → Int} {g : List zE} {o : Nat} {ft : Nat → List Nat} {call : xF} {pool : Nat → xP} {hs : List (Nat × (Nat × (Nat × Nat)))} {tab : Lean.RArray xI} {P : xE → Prop} {N : Nat}
variable {K : zKs} {pc nx len : Nat} {X : zQ} {loc : zLc} {stk : List zV} {os r : List zO} {i : Instr}
theorem zr_bin {Kv : zKv} {ν : Nat → Int} {hp : xH} {f : Int32 → Int32 → Int32} (h : zRel G W hp0 ν0 g ν X hp) {a b : zE} {ua ub : xA} (ha : zR X.1 ν (.inl a) ua) (hb : zR X.1 ν (.inl b) ub) (hk : zany32 (-2147483648) 2147483647 Kv X os = some r) : ∃ u, xbin (fun x y => x32 (f (Int32.ofNat x) (Int32.ofNat y))) ua ub = some u ∧ zRes G W hp0 ν0 g Kv r ν X hp u := by
  obtain ⟨_, _, rfl⟩ := ha
  obtain ⟨_, _, rfl⟩ := hb
  exact ⟨_, rfl, zr_any32 h _ hk⟩
theorem zbits_ok (hK : zHK G W hp0 ν0 g o ft call pool hs tab P N K) (ht : xget tab pc = (pc, (i, (len, nx)))) (h : zbits K nx X loc i stk os = some r) : zOk G W hp0 ν0 g o ft call pool hs tab P (N + 1) pc X loc stk := by
  unfold zbits at h
  split at h
  · exact zi_two hK ht (fun _ _ _ _ => rfl) fun ν hp ua ub hr ha hb => zr_bin (f := fun x y => x ||| y) hr ha hb h
  · exact zi_two hK ht (fun _ _ _ _ => rfl) fun ν hp ua ub hr ha hb => zr_bin (f := fun x y => x ^^^ y) hr ha hb h
  · exact zi_two hK ht (fun _ _ _ _ => rfl) fun ν hp ua ub hr ha hb => zr_bin (f := fun x y => x <<< (y &&& 31)) hr ha hb h
  · exact zi_two hK ht (fun _ _ _ _ => rfl) fun ν hp ua ub hr ha hb => zr_bin (f := fun x y => x >>> (y &&& 31)) hr ha hb h
  · exact zi_two hK ht (fun _ _ _ _ => rfl) fun ν hp ua ub hr ha hb => zr_bin (f := fun x y => (x.toUInt32 >>> (y.toUInt32 &&& Int32.toUInt32 31)).toInt32) hr ha hb h
  · cases h
end ZBits
