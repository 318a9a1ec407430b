/-! ===== the checker ===== -/
def zkind (i : Instr) : Nat := match i with
  | .iadd => 0 | .isub => 0 | .imul => 0 | .idiv => 0 | .irem => 0 | .ladd => 0 | .lsub => 0 | .lmul => 0 | .ldiv => 0 | .lrem => 0 | .ineg => 0 | .lneg => 0 | .i2l => 0 | .l2i => 0
  | .ifCond _ _ => 1 | .if_icmp _ _ => 1 | .goto _ => 1 | .lcmp => 1 | .dup => 1 | .dup_x1 => 1 | .dup2 => 1 | .pop => 1 | .pop2 => 1 | .tableswitch _ _ _ _ => 1
  | .iand => 3 | .ior => 3 | .ixor => 3 | .ishl => 3 | .ishr => 3 | .iushr => 3
  | _ => 2
noncomputable def zstep (G : zW) (B : zB) (pool : Nat → xP) (S : Lean.RArray zSp) (ok : Nat → Bool) (rk : Nat) (g : List zE) (sp : zSp) (K : zKs) (pc nx : Nat) (X : zQ) (loc : zLc) (i : Instr) (stk : List zV) (os : List zO) : Option (List zO) := match i with
  | .invokestatic k => cond (Nat.beq (pool k).1 13) (zmm true K nx X loc stk os) (cond (Nat.beq (pool k).1 14) (zmm false K nx X loc stk os) (zinvS S sp.2.2.2.2.2.1 B K ok sp.2.2.2.2.2.2.2 (pool k) X nx loc stk os))
  | .invokevirtual k => zinvV G S sp.2.2.2.2.2.1 B K ok sp.2.2.2.2.2.2.2 (pool k) X nx loc stk os
  | .invokespecial k => zinvI S sp.2.2.2.2.2.1 B K ok sp.2.2.2.2.2.2.2 (pool k) X nx loc stk os
  | .ireturn => zret rk g sp X stk os
  | .lreturn => zret rk g sp X stk os
  | .areturn => zret rk g sp X stk os
  | .return_ => zret rk g sp X stk os
  | .new k => cond (Nat.beq (pool k).1 11 && (Nat.blt (pool k).2.1 3 && (Nat.testBit sp.2.2.2.2.2.2.2 (pool k).2.1 && Nat.ble (zcats stk) 8))) (some os) none
  | .iastore => match stk with
    | v :: .inl e :: .inr (.inr x) :: rest => zastf G sp.2.2.2.2.2.1 B (fun t => Nat.beq t 0) 0 K X x e v nx loc rest os
    | _ => none
  | .lastore => match stk with
    | v :: .inl e :: .inr (.inr x) :: rest => zastf G sp.2.2.2.2.2.1 B (fun t => Nat.beq t 1) 1 K X x e v nx loc rest os
    | _ => none
  | .bastore => match stk with
    | v :: .inl e :: .inr (.inr x) :: rest => zastf G sp.2.2.2.2.2.1 B (fun t => Nat.beq t 2 || Nat.beq t 3) 2 K X x e v nx loc rest os
    | _ => none
  | i => cond (Nat.beq (zkind i) 0) (zarith K nx X loc i stk os) (cond (Nat.beq (zkind i) 1) (zflow K pc nx X loc i stk os) (cond (Nat.beq (zkind i) 3) (zbits K nx X loc i stk os) (zmem G sp.2.2.2.2.2.1 B pool K nx X loc i stk os)))
def zhd (os : List zO) : Nat := match os with
  | q :: _ => q.1
  | [] => 0
noncomputable def zck (G : zW) (B : zB) (pool : Nat → xP) (S : Lean.RArray zSp) (ok : Nat → Bool) (rk : Nat) (tab : Lean.RArray xI) (Ts : List zTm) (sp : zSp) (g : List zE) (m : zE) : Nat → zKs
  | 0 => fun _ _ _ _ _ => none
  | f + 1 => fun pc X loc stk os => cond (Nat.beq (zhd os) 33) (zgoH Ts g m pc X loc stk os) (cond (Nat.ble 40 (zhd os)) (zbend (zck G B pool S ok rk tab Ts sp g m f) pc X loc stk os)
      (cond (Nat.beq (xget tab pc).1 pc) (zstep G B pool S ok rk g sp (zck G B pool S ok rk tab Ts sp g m f) pc (xget tab pc).2.2.2 X loc (xget tab pc).2.1 stk os) none))
section ZCheck
variable {G : zW} {B : zB} {hp0 : xH} {ν0 ν1 : Nat → Int} {g : List zE} {m : zE} {o : Nat} {ft : Nat → List Nat} {call : xF} {pool : Nat → xP} {hs : List (Nat × (Nat × (Nat × Nat)))} {tab : Lean.RArray xI} {N rk : Nat} {sp : zSp} {S : Lean.RArray zSp} {ok : Nat → Bool} {Ts : List zTm}
variable {K : zKs} {pc nx len : Nat} {X : zQ} {loc : zLc} {stk : List zV} {os r : List zO} {i : Instr}
theorem zkd_a {kd t : Nat} (h : Nat.beq t kd = true) {c : Nat} {u : xA} (hc : (fun t => Nat.beq t kd) c = true) (hk : kd = 0 ∨ kd = 1) (hf : xfit kd u = true) : xkeep c u = some u := by
  have hc := Nat.eq_of_beq_eq_true (show Nat.beq c kd = true from hc)
  subst hc
  rcases hk with rfl | rfl
  · show cond (xbd u).isSome (some u) none = _
    rw [show (xbd u).isSome = true from hf]
    rfl
  · show cond (xbdl u).isSome (some u) none = _
    rw [show (xbdl u).isSome = true from hf]
    rfl
theorem zkd_b {c : Nat} {u : xA} (hc : (fun t => Nat.beq t 2 || Nat.beq t 3) c = true) (hf : xfit 2 u = true) : xkeep c u = some u := by
  rcases Bool.or_eq_true _ _ ▸ (show (Nat.beq c 2 || Nat.beq c 3) = true from hc) with h | h
  · rw [Nat.eq_of_beq_eq_true h]
    match u, hf with
    | .inl n, hf =>
      show cond (Nat.beq n 0 || Nat.beq n 1) _ none = _
      rw [show (Nat.beq n 0 || Nat.beq n 1) = true from hf]
      rfl
  · rw [Nat.eq_of_beq_eq_true h]
    match u, hf with
    | .inl n, hf =>
      rcases Bool.or_eq_true _ _ ▸ (show (Nat.beq n 0 || Nat.beq n 1) = true from hf) with h9 | h9
      · rw [Nat.eq_of_beq_eq_true h9]; rfl
      · rw [Nat.eq_of_beq_eq_true h9]; rfl
theorem zstep_ok (hS : ∀ i, ok i = true → zSpOk G call (xget S i)) (HB : zBok G o B) (hn : ∀ pc E, xcatch hs pc E = none) (h01 : ∀ x, x < sp.2.1 → ν1 x = ν0 x) (hP : zPx G sp.2.2.2.2.2.1 hp0 sp.2.2.2.2.2.2.2 (zPm G sp rk ν1 hp0)) (hK : zHK G sp.2.2.2.2.2.1 hp0 ν0 (g ++ [m]) o ft call pool hs tab (zPm G sp rk ν1 hp0) N K) (ht : xget tab pc = (pc, (i, (len, nx)))) (h : zstep G B pool S ok rk g sp K pc nx X loc i stk os = some r) : zOk G sp.2.2.2.2.2.1 hp0 ν0 (g ++ [m]) o ft call pool hs tab (zPm G sp rk ν1 hp0) (N + 1) pc X loc stk := by
  unfold zstep at h
  split at h
  · next k =>
    cases h1 : Nat.beq (pool k).1 13 with
    | true =>
      rw [h1, cond_true] at h
      have e := Nat.eq_of_beq_eq_true h1
      exact zi_mm hK ht (fun K9 l s hp => by
        show xinvS o call hs (pool k) K9 pc nx l s hp = _
        unfold xinvS
        rw [show Nat.beq (pool k).1 2 = false by rw [e]; rfl, cond_false, h1, cond_true]
        rfl) h
    | false =>
      rw [h1, cond_false] at h
      cases h2 : Nat.beq (pool k).1 14 with
      | true =>
        rw [h2, cond_true] at h
        have e := Nat.eq_of_beq_eq_true h2
        exact zi_mm hK ht (fun K9 l s hp => by
          show xinvS o call hs (pool k) K9 pc nx l s hp = _
          unfold xinvS
          rw [show Nat.beq (pool k).1 2 = false by rw [e]; rfl, cond_false, h1, cond_false, h2, cond_true]
          rfl) h
      | false =>
        rw [h2, cond_false] at h
        exact zi_invS hS HB hK hn hP ht h
  · exact zi_invV hS HB hK hn hP ht h
  · exact zi_invI hS HB hK hn hP ht h
  · exact (zi_ret h01 ht (fun _ _ _ _ => rfl) h : zOk G _ hp0 ν0 _ o ft call pool hs tab _ (N + 1) pc X loc stk)
  · exact (zi_ret h01 ht (fun _ _ _ _ => rfl) h : zOk G _ hp0 ν0 _ o ft call pool hs tab _ (N + 1) pc X loc stk)
  · exact (zi_ret h01 ht (fun _ _ _ _ => rfl) h : zOk G _ hp0 ν0 _ o ft call pool hs tab _ (N + 1) pc X loc stk)
  · exact (zi_ret h01 ht (fun _ _ _ _ => rfl) h : zOk G _ hp0 ν0 _ o ft call pool hs tab _ (N + 1) pc X loc stk)
  · exact zi_thr HB.2 ht (cond_some h).1
  · split at h
    · exact zi_ast (fun c u hc hf => zkd_a (t := 0) rfl hc (Or.inl rfl) hf) HB hK ht (fun _ _ _ _ => rfl) h
    · cases h
  · split at h
    · exact zi_ast (fun c u hc hf => zkd_a (t := 1) rfl hc (Or.inr rfl) hf) HB hK ht (fun _ _ _ _ => rfl) h
    · cases h
  · split at h
    · exact zi_ast (fun c u hc hf => zkd_b hc hf) HB hK ht (fun _ _ _ _ => rfl) h
    · cases h
  · cases h1 : Nat.beq (zkind i) 0 with
    | true =>
      rw [h1, cond_true] at h
      exact zarith_ok hK ht h
    | false =>
      rw [h1, cond_false] at h
      cases h2 : Nat.beq (zkind i) 1 with
      | true =>
        rw [h2, cond_true] at h
        exact zflow_ok hK ht h
      | false =>
        rw [h2, cond_false] at h
        cases h3 : Nat.beq (zkind i) 3 with
        | true =>
          rw [h3, cond_true] at h
          exact zbits_ok hK ht h
        | false =>
          rw [h3, cond_false] at h
          exact zmem_ok HB hK ht h
end ZCheck
