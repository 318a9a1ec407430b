/-! ===== the checker's dispatch: numbers ===== -/
def zarith (K : zKs) (nx : Nat) (X : zQ) (loc : zLc) (i : Instr) (stk : List zV) (os : List zO) : Option (List zO) := match i, stk with
  | .iadd, .inl b :: .inl a :: rest => zput32 (fun X v os => K nx X loc (v :: rest) os) X (zmad 1 a b) os
  | .isub, .inl b :: .inl a :: rest => zput32 (fun X v os => K nx X loc (v :: rest) os) X (zmad (-1) b a) os
  | .imul, .inl b :: .inl a :: rest => zprod32 (fun X v os => K nx X loc (v :: rest) os) X a b os
  | .idiv, .inl b :: .inl a :: rest => zdiv 2147483647 .inl false (fun X v os => K nx X loc (v :: rest) os) X a b os
  | .irem, .inl b :: .inl a :: rest => zdiv 2147483647 .inl true (fun X v os => K nx X loc (v :: rest) os) X a b os
  | .ladd, .inr (.inl b) :: .inr (.inl a) :: rest => zput64 (fun X v os => K nx X loc (v :: rest) os) X (zmad 1 a b) os
  | .lsub, .inr (.inl b) :: .inr (.inl a) :: rest => zput64 (fun X v os => K nx X loc (v :: rest) os) X (zmad (-1) b a) os
  | .lmul, .inr (.inl b) :: .inr (.inl a) :: rest => zprod64 (fun X v os => K nx X loc (v :: rest) os) X a b os
  | .ldiv, .inr (.inl b) :: .inr (.inl a) :: rest => zdiv 9223372036854775807 (fun e => .inr (.inl e)) false (fun X v os => K nx X loc (v :: rest) os) X a b os
  | .lrem, .inr (.inl b) :: .inr (.inl a) :: rest => zdiv 9223372036854775807 (fun e => .inr (.inl e)) true (fun X v os => K nx X loc (v :: rest) os) X a b os
  | .ineg, .inl a :: rest => zput32 (fun X v os => K nx X loc (v :: rest) os) X (zscale (-1) a) os
  | .lneg, .inr (.inl a) :: rest => zput64 (fun X v os => K nx X loc (v :: rest) os) X (zscale (-1) a) os
  | .i2l, .inl a :: rest => K nx X loc (.inr (.inl a) :: rest) os
  | .l2i, .inr (.inl a) :: rest => zput32 (fun X v os => K nx X loc (v :: rest) os) X a os
  | _, _ => none
section ZDisp
variable {G : zW} {W : zWr} {B : zB} {hp0 : xH} {ν0 : Nat → Int} {g : List zE} {o : Nat} {ft : Nat → List Nat} {call : xF} {pool : Nat → xP} {hs : List (Nat × (Nat × (Nat × Nat)))} {tab : Lean.RArray xI} {P : xE → Prop} {N : Nat}
variable {K : zKs} {pc nx len : Nat} {X : zQ} {loc : zLc} {stk : List zV} {os r : List zO} {i : Instr}
theorem zarith_ok (hK : zHK G W hp0 ν0 g o ft call pool hs tab P N K) (ht : xget tab pc = (pc, (i, (len, nx)))) (h : zarith K nx X loc i stk os = some r) : zOk G W hp0 ν0 g o ft call pool hs tab P (N + 1) pc X loc stk := by
  unfold zarith at h
  split at h
  · exact zi_two hK ht (fun _ _ _ _ => rfl) fun ν hp ua ub hr ha hb => zr_add hr ha hb h
  · exact zi_two hK ht (fun _ _ _ _ => rfl) fun ν hp ua ub hr ha hb => zr_sub hr ha hb h
  · exact zi_two hK ht (fun _ _ _ _ => rfl) fun ν hp ua ub hr ha hb => zr_mul hr ha hb h
  · exact zi_two hK ht (fun _ _ _ _ => rfl) fun ν hp ua ub hr ha hb => zr_div hr ha hb h
  · exact zi_two hK ht (fun _ _ _ _ => rfl) fun ν hp ua ub hr ha hb => zr_rem hr ha hb h
  · exact zi_two hK ht (fun _ _ _ _ => rfl) fun ν hp ua ub hr ha hb => zr_ladd hr ha hb h
  · exact zi_two hK ht (fun _ _ _ _ => rfl) fun ν hp ua ub hr ha hb => zr_lsub hr ha hb h
  · exact zi_two hK ht (fun _ _ _ _ => rfl) fun ν hp ua ub hr ha hb => zr_lmul hr ha hb h
  · exact zi_two hK ht (fun _ _ _ _ => rfl) fun ν hp ua ub hr ha hb => zr_ldiv hr ha hb h
  · exact zi_two hK ht (fun _ _ _ _ => rfl) fun ν hp ua ub hr ha hb => zr_lrem hr ha hb h
  · exact zi_one hK ht (fun _ _ _ _ => rfl) fun ν hp ua hr ha => zr_neg hr ha h
  · exact zi_one hK ht (fun _ _ _ _ => rfl) fun ν hp ua hr ha => zr_lneg hr ha h
  · exact zi_one hK ht (fun _ _ _ _ => rfl) fun ν hp ua hr ha => zr_i2l hr ha h
  · exact zi_one hK ht (fun _ _ _ _ => rfl) fun ν hp ua hr ha => zr_l2i hr ha h
  · cases h
/-- branches, and the stack -/
def zflow (K : zKs) (pc nx : Nat) (X : zQ) (loc : zLc) (i : Instr) (stk : List zV) (os : List zO) : Option (List zO) := match i, stk with
  | .ifCond c off, .inl a :: rest => xj (xtgt pc off) fun tgt => zbr K X c a (zK 0) tgt nx loc rest os
  | .if_icmp c off, .inl b :: .inl a :: rest => xj (xtgt pc off) fun tgt => zbr K X c a b tgt nx loc rest os
  | .goto off, stk => xj (xtgt pc off) fun tgt => K tgt X loc stk os
  | .lcmp, .inr (.inl b) :: .inr (.inl a) :: rest => zcmp3 K X a b nx loc rest os
  | .dup, v :: rest => cond (Nat.beq (zcat v) 1) (K nx X loc (v :: v :: rest) os) none
  | .dup_x1, v :: w :: rest => cond (Nat.beq (zcat v) 1 && Nat.beq (zcat w) 1) (K nx X loc (v :: w :: v :: rest) os) none
  | .dup2, v :: w :: rest => cond (Nat.beq (zcat v) 1 && Nat.beq (zcat w) 1) (K nx X loc (v :: w :: v :: w :: rest) os) none
  | .pop, v :: rest => cond (Nat.beq (zcat v) 1) (K nx X loc rest os) none
  | .pop2, v :: rest => cond (Nat.beq (zcat v) 2) (K nx X loc rest os) none
  | .tableswitch d lo hi offs, .inl e :: rest => ztab K X e pc d lo hi offs loc rest os
  | _, _ => none
theorem zflow_ok (hK : zHK G W hp0 ν0 g o ft call pool hs tab P N K) (ht : xget tab pc = (pc, (i, (len, nx)))) (h : zflow K pc nx X loc i stk os = some r) : zOk G W hp0 ν0 g o ft call pool hs tab P (N + 1) pc X loc stk := by
  unfold zflow at h
  split at h
  · exact zi_ifc hK ht h
  · exact zi_icmp hK ht h
  · exact zi_goto hK ht h
  · exact zi_lcmp hK ht h
  · exact zi_dup hK ht h
  · exact zi_dup_x1 hK ht h
  · exact zi_dup2 hK ht h
  · exact zi_pop hK ht h
  · exact zi_pop2 hK ht h
  · exact zi_tab hK ht h
  · cases h
end ZDisp
