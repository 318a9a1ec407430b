section Main
variable {p : Program} {l : Launch} {e : Env} {R : Room} {s : State} {m : MethodId} {args : Array Value} {below : List Frame} {meth : Method} {c : Code} {cc : ByteArray} {nL : Nat} {own : String} {S : State} {o : Nat} {old : Nat → Nat} {D : va_G} {c0 s0 : Nat} {Q : State → Prop}
variable {pc nx : Nat} {K : xK} {out : xE} {loc : List (Nat × xA)} {stk : List xA} {hp : xH} {ft : Nat → List Nat} {call : xF} {pool : Nat → xP} {hs : List (Nat × (Nat × (Nat × Nat)))}
variable {hh : List (Nat × (Nat × (Nat × Nat)))} {rk : Nat} {r0 : xO} {mt : Nat → xY} {d : Nat}
set_option maxHeartbeats 1000000 in
theorem xstep_mono {i : Instr} (hK : xMK K out) (hc : ∀ mi as hp r, call mi as hp = some r → xLe hp r.2.2.1) (h : xstep o ft call pool hs K i pc nx loc stk hp = some out) : xLe hp out.2.2.2.1 := by
  cases i
  case aconst_null => exact xm_aconst_null hK h
  case iconst => exact xm_iconst hK h
  case bipush => exact xm_bipush hK h
  case sipush => exact xm_sipush hK h
  case lconst => exact xm_lconst hK h
  case ldc => exact xm_ldc hK h
  case ldc_w => exact xm_ldc_w hK h
  case ldc2_w => exact xm_ldc2_w hK h
  case iload_n => exact xm_iload_n hK h
  case iload => exact xm_iload hK h
  case lload_n => exact xm_lload_n hK h
  case lload => exact xm_lload hK h
  case aload_n => exact xm_aload_n hK h
  case aload => exact xm_aload hK h
  case istore_n => exact xm_istore_n hK h
  case istore => exact xm_istore hK h
  case lstore_n => exact xm_lstore_n hK h
  case lstore => exact xm_lstore hK h
  case astore_n => exact xm_astore_n hK h
  case astore => exact xm_astore hK h
  case iinc => exact xm_iinc hK h
  case iadd => exact xm_iadd hK h
  case isub => exact xm_isub hK h
  case imul => exact xm_imul hK h
  case iand => exact xm_iand hK h
  case ior => exact xm_ior hK h
  case ixor => exact xm_ixor hK h
  case idiv => exact xm_idiv hK h
  case irem => exact xm_irem hK h
  case ishl => exact xm_ishl hK h
  case ishr => exact xm_ishr hK h
  case iushr => exact xm_iushr hK h
  case ladd => exact xm_ladd hK h
  case lsub => exact xm_lsub hK h
  case lmul => exact xm_lmul hK h
  case land => exact xm_land hK h
  case lor => exact xm_lor hK h
  case lxor => exact xm_lxor hK h
  case ldiv => exact xm_ldiv hK h
  case lrem => exact xm_lrem hK h
  case lshl => exact xm_lshl hK h
  case lshr => exact xm_lshr hK h
  case lushr => exact xm_lushr hK h
  case lcmp => exact xm_lcmp hK h
  case ineg => exact xm_ineg hK h
  case lneg => exact xm_lneg hK h
  case i2l => exact xm_i2l hK h
  case l2i => exact xm_l2i hK h
  case i2b => exact xm_i2b hK h
  case i2c => exact xm_i2c hK h
  case dup => exact xm_dup hK h
  case pop => exact xm_pop hK h
  case pop2 => exact xm_pop2 hK h
  case dup_x1 => exact xm_dup_x1 hK h
  case dup2 => exact xm_dup2 hK h
  case goto => exact xm_goto hK h
  case ifCond => exact xm_ifCond hK h
  case if_icmp => exact xm_if_icmp hK h
  case tableswitch => exact xm_tableswitch hK h
  case arraylength => exact xm_arraylength hK h
  case iaload => exact xm_iaload hK h
  case laload => exact xm_laload hK h
  case baload => exact xm_baload hK h
  case aaload => exact xm_aaload hK h
  case iastore => exact xm_iastore hK h
  case lastore => exact xm_lastore hK h
  case bastore => exact xm_bastore hK h
  case getfield => exact xm_getfield hK h
  case putfield => exact xm_putfield hK h
  case getstatic => exact xm_getstatic hK h
  case new => exact xm_new hK h
  case newarray => exact xm_newarray hK h
  case anewarray => exact xm_anewarray hK h
  case aastore => exact xm_aastore hK h
  case multianewarray => exact xm_multianewarray hK h
  case ireturn => exact xm_ireturn hK h
  case lreturn => exact xm_lreturn hK h
  case areturn => exact xm_areturn hK h
  case return_ => exact xm_return_ hK h
  case invokevirtual => exact xmono_V hK hc h
  case invokestatic => exact xmono_S hK hc h
  case invokespecial => exact xmono_I hK hc h
  all_goals cases h
/-- what an instruction's operand asks of the pool -/
def xIc (S : State) (ad : Nat → Nat) (mt : Nat → xY) (own : String) (cc : ByteArray) (hh : List (Nat × (Nat × (Nat × Nat)))) (pool : Nat → xP) (pc : Nat) (i : Instr) : Prop := match i with
  | .getfield k => ((pool k).1 = 0 → xPg own k (pool k)) ∧ ((pool k).1 = 24 → Cond.fieldLink own k "java/lang/String" "value" "[B" ∈ xW) ∧ ((pool k).1 = 25 → Cond.fieldLink own k "java/lang/String" "coder" "B" ∈ xW)
  | .putfield k => (pool k).1 = 0 → xPf own k (pool k)
  | .new k => ((pool k).1 = 5 → xPc own k (pool k)) ∧ ((pool k).1 = 11 → xTh S own cc hh pc k (pool k).2.1)
  | .anewarray k => xPa S own k (pool k)
  | .multianewarray k d => d = 2 ∧ ((pool k).1 = 22 → xPm S own k (pool k))
  | .ldc k => xPk S ad own k (pool k)
  | .ldc_w k => xPk S ad own k (pool k)
  | .ldc2_w k => xPk S ad own k (pool k)
  | .getstatic k => xPs S ad own k (pool k)
  | .invokevirtual k => (pool k).1 = 1 ∨ (pool k).1 = 28 → xP1 mt own k (pool k)
  | .invokestatic k => ((pool k).1 = 2 → xP2 mt own k (pool k)) ∧ ((pool k).1 = 12 → xP12 own k) ∧ ¬ (pool k).1 = 13 ∧ ¬ (pool k).1 = 14 ∧ ¬ (pool k).1 = 15
  | .invokespecial k => ((pool k).1 = 3 → xP3 S mt own k (pool k)) ∧ ((pool k).1 = 4 → xP4 own k)
  | _ => True
/-- a row of a method's table -/
def xOk (S : State) (ad : Nat → Nat) (mt : Nat → xY) (own : String) (cc : ByteArray) (hh : List (Nat × (Nat × (Nat × Nat)))) (pool : Nat → xP) (nL : Nat) (ini : Bool) (rk : Nat) (x : xI) : Prop :=
  decode cc x.1 = .ok (x.2.1, x.2.2.1) ∧ x.2.2.1 = xlen x.2.1 x.2.2.1 ∧ x.2.2.2 = x.1 + x.2.2.1 ∧ xsto nL x.2.1 = true ∧ xpfo ini pool x.2.1 = true ∧ xro rk x.2.1 = true ∧ xIc S ad mt own cc hh pool x.1 x.2.1
/-- what holds at the law's entry -/
def xGl (S : State) (o : Nat) (old : Nat → Nat) (D : va_G) (ft : Nat → List Nat) : Prop := xBs S o old D ft ∧ xEx S ∧ xZs S ∧ (∀ t, t < 4 → Cond.arrayClass (xty1 t) ∈ xW) ∧ ∀ (c k t : Nat), (ft c)[k]? = some t → t ≤ 3
theorem nbeq {a b : Nat} (h : ¬ a = b) : Nat.beq a b = false := Bool.eq_false_iff.mpr fun q => h (Nat.eq_of_beq_eq_true q)
set_option maxHeartbeats 4000000 in
theorem xstep_ok (F : xFx p s m args meth c cc nL own S) (G : xGl S o old D ft) (hl9 : l.stackTraces = false) (hT : c.exceptionTable.toList = tableOf hh) (HH : xHs own hs hh) (hrk : xRk rk meth.sig.returnType) {ini : Bool} (hini : ini = true → meth.name = "<init>")
    (hS0 : S.heap.size ≤ s.heap.size ∧ ∀ q, q < S.heap.size → s.heap[q]? = S.heap[q]?) (hQ : xQh R below S o old D args s c0 s0 rk Q out) (hR : d + 11 ≤ R.frames ∧ 264 + 64 * d ≤ R.locals)
    (HC : xHC l S o old D mt call d) (Rm : xRm K out R c0 s0) (hK : xHyp p l e R s m args below meth c nL S o old D c0 s0 Q K out) {i : Instr} {len : Nat} (hi : xOk S (xad o S.heap.size old) mt own cc hh pool nL ini rk (pc, (i, (len, nx))))
    (h : xstep o ft call pool hs K i pc nx loc stk hp = some out) : xG p l e R s m args below meth c nL S o old D c0 s0 Q pc loc stk hp := by
  obtain ⟨d0, l0, x0, hst, hpf, hro, hic⟩ := hi
  obtain ⟨B, X, Z, HA, hf⟩ := G
  have hd : decode cc pc = .ok (i, len) := d0
  have hl0 : len = xlen i len := l0
  have hx0 : nx = pc + len := x0
  clear d0 l0 x0
  cases i
  case iconst => exact xi_iconst F  hd hl0 hx0 hst hK h
  case bipush => exact xi_bipush F  hd hl0 hx0 hst hK h
  case sipush => exact xi_sipush F  hd hl0 hx0 hst hK h
  case lconst => exact xi_lconst F  hd hl0 hx0 hst hK h
  case aconst_null => exact xi_aconst_null F  hd hl0 hx0 hst hK h
  case iload_n => exact xi_iload_n F  hd hl0 hx0 hst hK h
  case iload => exact xi_iload F  hd hl0 hx0 hst hK h
  case lload_n => exact xi_lload_n F  hd hl0 hx0 hst hK h
  case lload => exact xi_lload F  hd hl0 hx0 hst hK h
  case aload_n => exact xi_aload_n F  hd hl0 hx0 hst hK h
  case aload => exact xi_aload F  hd hl0 hx0 hst hK h
  case istore_n => exact xi_istore_n F  hd hl0 hx0 hst hK h
  case istore => exact xi_istore F  hd hl0 hx0 hst hK h
  case lstore_n => exact xi_lstore_n F  hd hl0 hx0 hst hK h
  case lstore => exact xi_lstore F  hd hl0 hx0 hst hK h
  case astore_n => exact xi_astore_n F  hd hl0 hx0 hst hK h
  case astore => exact xi_astore F  hd hl0 hx0 hst hK h
  case iinc => exact xi_iinc F  hd hl0 hx0 hst hK h
  case iadd => exact xi_iadd F  hd hl0 hx0 hst hK h
  case isub => exact xi_isub F  hd hl0 hx0 hst hK h
  case imul => exact xi_imul F  hd hl0 hx0 hst hK h
  case ior => exact xi_ior F  hd hl0 hx0 hst hK h
  case ixor => exact xi_ixor F  hd hl0 hx0 hst hK h
  case ishl => exact xi_ishl F  hd hl0 hx0 hst hK h
  case ishr => exact xi_ishr F  hd hl0 hx0 hst hK h
  case iushr => exact xi_iushr F  hd hl0 hx0 hst hK h
  case ladd => exact xi_ladd F  hd hl0 hx0 hst hK h
  case lsub => exact xi_lsub F  hd hl0 hx0 hst hK h
  case lmul => exact xi_lmul F  hd hl0 hx0 hst hK h
  case land => exact xi_land F  hd hl0 hx0 hst hK h
  case lor => exact xi_lor F  hd hl0 hx0 hst hK h
  case lxor => exact xi_lxor F  hd hl0 hx0 hst hK h
  case iand => exact xi_iand F  hd hl0 hx0 hst hK h
  case idiv => exact xi_idiv F  hd hl0 hx0 hst hK h
  case irem => exact xi_irem F  hd hl0 hx0 hst hK h
  case ldiv => exact xi_ldiv F  hd hl0 hx0 hst hK h
  case lrem => exact xi_lrem F  hd hl0 hx0 hst hK h
  case lshl => exact xi_lshl F  hd hl0 hx0 hst hK h
  case lshr => exact xi_lshr F  hd hl0 hx0 hst hK h
  case lushr => exact xi_lushr F  hd hl0 hx0 hst hK h
  case lcmp => exact xi_lcmp F  hd hl0 hx0 hst hK h
  case ineg => exact xi_ineg F  hd hl0 hx0 hst hK h
  case lneg => exact xi_lneg F  hd hl0 hx0 hst hK h
  case l2i => exact xi_l2i F  hd hl0 hx0 hst hK h
  case i2b => exact xi_i2b F  hd hl0 hx0 hst hK h
  case i2c => exact xi_i2c F  hd hl0 hx0 hst hK h
  case i2l => exact xi_i2l F  hd hl0 hx0 hst hK h
  case dup => exact xi_dup F  hd hl0 hx0 hst hK h
  case dup_x1 => exact xi_dup_x1 F  hd hl0 hx0 hst hK h
  case dup2 => exact xi_dup2 F  hd hl0 hx0 hst hK h
  case pop => exact xi_pop F  hd hl0 hx0 hst hK h
  case pop2 => exact xi_pop2 F  hd hl0 hx0 hst hK h
  case goto => exact xi_goto F  hd hl0 hx0 hst hK h
  case ifCond => exact xi_ifCond F  hd hl0 hx0 hst hK h
  case if_icmp => exact xi_if_icmp F  hd hl0 hx0 hst hK h
  case tableswitch => exact xi_tableswitch F  hd hl0 hx0 hst hK h
  case iaload => exact xi_iaload F  hd hl0 hx0 hst hK h
  case laload => exact xi_laload F  hd hl0 hx0 hst hK h
  case baload => exact xi_baload F  hd hl0 hx0 hst hK h
  case aaload => exact xi_aaload F  hd hl0 hx0 hst hK h
  case iastore => exact xi_iastore F B hd hl0 hx0 hst hK h
  case lastore => exact xi_lastore F B hd hl0 hx0 hst hK h
  case bastore => exact xi_bastore F B hd hl0 hx0 hst hK h
  case arraylength => exact xi_arraylength F  hd hl0 hx0 hst hK h
  case getfield => exact xi_getfield F B hic hd hl0 hx0 hst hK h
  case putfield => exact xi_putfield F B hic hpf hini hd hl0 hx0 hst hK h
  case newarray => exact xi_newarray F B HA Rm hd hl0 hx0 hst hK h
  case anewarray => exact xi_anewarray F B hic Rm hd hl0 hx0 hst hK h
  case aastore => exact xi_aastore F B hd hl0 hx0 hst hK h
  case multianewarray => exact xi_multianewarray F B hic.1 hic.2 HA Rm hd hl0 hx0 hst hK h
  case ldc => exact xi_ldc F hic hd hl0 hx0 hst hK h
  case ldc_w => exact xi_ldc_w F hic hd hl0 hx0 hst hK h
  case ldc2_w => exact xi_ldc2_w F hic hd hl0 hx0 hst hK h
  case getstatic => exact xi_getstatic F hic hd hl0 hx0 hst hK h
  case new k =>
    cases h11 : Nat.beq (pool k).1 11 with
    | false => exact xi_new F B hic.1 Rm h11 hf hd hl0 hx0 hst hK h
    | true =>
      have h : cond (Nat.beq (pool k).1 11) (some (1, (pc, (stk, (hp, (pool k).2.1))))) (cond (Nat.beq (pool k).1 5) (xj (xnew hp (some (.inl ((pool k).2.1, xborn (ft (pool k).2.1) 0 (.leaf (.inl 0))))) (ft (pool k).2.1).length) fun q => K nx loc (.inr (.inr (.inl q.1)) :: stk) q.2) none) = some out := h
      rw [h11, cond_true] at h
      cases h
      rcases hQ with h9 | ⟨r0, hend, rfl, hR2⟩
      · cases h9
      exact xi_throw F hl9 hT Z hS0 hend hR hR2 (hic.2 (Nat.eq_of_beq_eq_true h11))
  case invokevirtual k =>
    have hl1 : len = 3 := hl0
    subst hl1
    subst hx0
    exact xi_invokevirtual F B X hT HH hQ Rm HC hR hK hic hd h
  case invokespecial k =>
    have hl1 : len = 3 := hl0
    subst hl1
    subst hx0
    exact xi_invokespecial F X hT HH hQ Rm HC hR hK hic.1 hic.2 hd h
  case invokestatic k =>
    have hl1 : len = 3 := hl0
    subst hl1
    subst hx0
    obtain ⟨i1, i2, i3, i4, i5⟩ := hic
    have h : xinvS o call hs (pool k) K pc (pc + 3) loc stk hp = some out := h
    unfold xinvS at h
    cases h2 : Nat.beq (pool k).1 2 with
    | true =>
      rw [h2, cond_true] at h
      exact xi_invokestatic2 F X hT HH hQ Rm HC hR hK (i1 (Nat.eq_of_beq_eq_true h2)) hd h
    | false =>
      rw [h2, cond_false, nbeq i3, cond_false, nbeq i4, cond_false, nbeq i5, cond_false] at h
      obtain ⟨h12, h⟩ := cond_some h
      exact xi_arraycopy F B hR hK (i2 (Nat.eq_of_beq_eq_true h12)) hd h
  case ireturn =>
    have hl1 : len = 1 := hl0
    subst hl1
    cases (show some ((0, (pc, (stk, (hp, 0)))) : xE) = some out from h)
    rcases hQ with h9 | ⟨r0, hend, rfl, -, -⟩
    · cases h9
    exact xi_return F hrk hend (Or.inl rfl) hro hd
  case lreturn =>
    have hl1 : len = 1 := hl0
    subst hl1
    cases (show some ((0, (pc, (stk, (hp, 0)))) : xE) = some out from h)
    rcases hQ with h9 | ⟨r0, hend, rfl, -, -⟩
    · cases h9
    exact xi_return F hrk hend (Or.inr (Or.inl rfl)) hro hd
  case areturn =>
    have hl1 : len = 1 := hl0
    subst hl1
    cases (show some ((0, (pc, (stk, (hp, 0)))) : xE) = some out from h)
    rcases hQ with h9 | ⟨r0, hend, rfl, -, -⟩
    · cases h9
    exact xi_return F hrk hend (Or.inr (Or.inr (Or.inl rfl))) hro hd
  case return_ =>
    have hl1 : len = 1 := hl0
    subst hl1
    cases (show some ((0, (pc, (stk, (hp, 0)))) : xE) = some out from h)
    rcases hQ with h9 | ⟨r0, hend, rfl, -, -⟩
    · cases h9
    exact xi_return F hrk hend (Or.inr (Or.inr (Or.inr rfl))) hro hd
  all_goals cases h
end Main
