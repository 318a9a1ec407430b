/-! ===== the checker's dispatch: locals, constants, cells ===== -/
noncomputable def zmem (G : zW) (W : zWr) (B : zB) (pool : Nat → xP) (K : zKs) (nx : Nat) (X : zQ) (loc : zLc) (i : Instr) (stk : List zV) (os : List zO) : Option (List zO) := match i, stk with
  | .iconst n, stk => zlit K nx X loc stk os (x32 (Int32.ofInt n))
  | .bipush n, stk => zlit K nx X loc stk os (x32 (Int8.ofInt n).toInt32)
  | .sipush n, stk => zlit K nx X loc stk os (x32 (Int16.ofInt n).toInt32)
  | .lconst n, stk => zlit64 K nx X loc stk os n.val
  | .ldc k, stk => cond (Nat.beq (pool k).1 8) (zlit K nx X loc stk os (pool k).2.1) (cond (Nat.beq (pool k).1 7) (zcref G K (pool k).2.1 X nx loc stk os) none)
  | .ldc_w k, stk => cond (Nat.beq (pool k).1 8) (zlit K nx X loc stk os (pool k).2.1) (cond (Nat.beq (pool k).1 7) (zcref G K (pool k).2.1 X nx loc stk os) none)
  | .ldc2_w k, stk => cond (Nat.beq (pool k).1 9) (zlit64 K nx X loc stk os (pool k).2.1) none
  | .getstatic k, stk => cond (Nat.beq (pool k).1 10) (zcref G K (pool k).2.1 X nx loc stk os) none
  | .iload_n k, stk => xj (zldI loc k.val) fun e => K nx X loc (.inl e :: stk) os
  | .iload k, stk => xj (zldI loc k) fun e => K nx X loc (.inl e :: stk) os
  | .lload_n k, stk => xj (zldJ loc k.val) fun e => K nx X loc (.inr (.inl e) :: stk) os
  | .lload k, stk => xj (zldJ loc k) fun e => K nx X loc (.inr (.inl e) :: stk) os
  | .aload_n k, stk => xj (zldR loc k.val) fun x => K nx X loc (.inr (.inr x) :: stk) os
  | .aload k, stk => xj (zldR loc k) fun x => K nx X loc (.inr (.inr x) :: stk) os
  | .istore_n k, .inl e :: rest => K nx X (zst1 loc k.val (.inl e)) rest os
  | .istore k, .inl e :: rest => K nx X (zst1 loc k (.inl e)) rest os
  | .lstore_n k, .inr (.inl e) :: rest => K nx X (zst2 loc k.val (.inr (.inl e))) rest os
  | .lstore k, .inr (.inl e) :: rest => K nx X (zst2 loc k (.inr (.inl e))) rest os
  | .astore_n k, .inr (.inr x) :: rest => K nx X (zst1 loc k.val (.inr (.inr x))) rest os
  | .astore k, .inr (.inr x) :: rest => K nx X (zst1 loc k (.inr (.inr x))) rest os
  | .iinc k n, stk => xj (zldI loc k) fun e => zput32 (fun X v os => K nx X (zst1 loc k v) stk os) X (zmad 1 e (zK n)) os
  | .getfield k, .inr (.inr x) :: rest => zgetf G B K (pool k) X x nx loc rest os
  | .putfield k, v :: .inr (.inr x) :: rest => zputf G W B K (pool k) X x nx v loc rest os
  | .arraylength, .inr (.inr x) :: rest => xj (zinf X x) fun q => cond (zallr q.2.1 (zarrB G) B.1) (K nx X loc (.inl q.2.2 :: rest) os) none
  | .iaload, .inl e :: .inr (.inr x) :: rest => zaldf G B (fun t => Nat.beq t 0) K X x e nx loc rest os
  | .laload, .inl e :: .inr (.inr x) :: rest => zaldf G B (fun t => Nat.beq t 1) K X x e nx loc rest os
  | .baload, .inl e :: .inr (.inr x) :: rest => zaldf G B (fun t => Nat.beq t 2 || Nat.beq t 3) K X x e nx loc rest os
  | .aaload, .inl e :: .inr (.inr x) :: rest => zaldf G B (fun t => Nat.ble 4 t) K X x e nx loc rest os
  | _, _ => none
section ZMem
variable {G : zW} {W : zWr} {B : zB} {hp0 : xH} {ν0 : Nat → Int} {g : List zE} {o : Nat} {ft : Nat → List Nat} {call : xF} {pool : Nat → xP} {hs : List (Nat × (Nat × (Nat × Nat)))} {tab : Lean.RArray xI} {P : xE → Prop} {N : Nat}
variable {K : zKs} {pc nx len : Nat} {X : zQ} {loc : zLc} {stk : List zV} {os r : List zO} {i : Instr}
theorem zR.ik {n : Nat} {ν : Nat → Int} {e : zE} {u : xA} (h : zR n ν (.inl e) u) : xik u = true := by
  obtain ⟨_, h2, rfl⟩ := h
  unfold xik
  rw [zbd h2]
  rfl
theorem zR.lk {n : Nat} {ν : Nat → Int} {e : zE} {u : xA} (h : zR n ν (.inr (.inl e)) u) : xlk2 u = true := by
  obtain ⟨_, h2, rfl⟩ := h
  unfold xlk2
  rw [zbdl h2]
  rfl
theorem zR.ak {n : Nat} {ν : Nat → Int} {x : Nat} {u : xA} (h : zR n ν (.inr (.inr x)) u) : xak u = true := by
  obtain ⟨_, k, _, rfl⟩ := h
  rfl
theorem cond_two {α : Type} {a b : Bool} {x y : Option α} {z : α} (h : cond a x (cond b y none) = some z) : (a = true ∧ x = some z) ∨ (a = false ∧ b = true ∧ y = some z) := by
  cases a with
  | true => exact Or.inl ⟨rfl, h⟩
  | false =>
    cases b with
    | true => exact Or.inr ⟨rfl, rfl, h⟩
    | false => cases h
theorem zmem_ok (HB : zBok G o B) (hK : zHK G W hp0 ν0 g o ft call pool hs tab P N K) (ht : xget tab pc = (pc, (i, (len, nx)))) (h : zmem G W B pool K nx X loc i stk os = some r) : zOk G W hp0 ν0 g o ft call pool hs tab P (N + 1) pc X loc stk := by
  unfold zmem at h
  split at h
  · exact zi_lit hK ht (fun _ _ _ _ => rfl) h
  · exact zi_lit hK ht (fun _ _ _ _ => rfl) h
  · exact zi_lit hK ht (fun _ _ _ _ => rfl) h
  · exact zi_lit64 hK ht (fun _ _ _ _ => rfl) h
  · next k =>
    rcases cond_two h with ⟨h1, h⟩ | ⟨h1, h2, h⟩
    · exact zi_lit hK ht (fun K9 l s hp => by show cond (Nat.beq (pool k).1 8) _ _ = _; rw [h1, cond_true]) h
    · exact zi_ref hK ht (fun K9 l s hp => by show cond (Nat.beq (pool k).1 8) _ (cond (Nat.beq (pool k).1 7) _ _) = _; rw [h1, h2, cond_false, cond_true]) h
  · next k =>
    rcases cond_two h with ⟨h1, h⟩ | ⟨h1, h2, h⟩
    · exact zi_lit hK ht (fun K9 l s hp => by show cond (Nat.beq (pool k).1 8) _ _ = _; rw [h1, cond_true]) h
    · exact zi_ref hK ht (fun K9 l s hp => by show cond (Nat.beq (pool k).1 8) _ (cond (Nat.beq (pool k).1 7) _ _) = _; rw [h1, h2, cond_false, cond_true]) h
  · next k =>
    obtain ⟨h1, h⟩ := cond_some h
    exact zi_lit64 hK ht (fun K9 l s hp => by show cond (Nat.beq (pool k).1 9) _ _ = _; rw [h1, cond_true]) h
  · next k =>
    obtain ⟨h1, h⟩ := cond_some h
    exact zi_ref hK ht (fun K9 l s hp => by show cond (Nat.beq (pool k).1 10) _ _ = _; rw [h1, cond_true]) h
  · exact zi_loadI hK ht (fun _ _ _ _ => rfl) h
  · exact zi_loadI hK ht (fun _ _ _ _ => rfl) h
  · exact zi_loadJ hK ht (fun _ _ _ _ => rfl) h
  · exact zi_loadJ hK ht (fun _ _ _ _ => rfl) h
  · exact zi_loadR hK ht (fun _ _ _ _ => rfl) h
  · exact zi_loadR hK ht (fun _ _ _ _ => rfl) h
  · exact zi_store1 (ok := xik) hK ht (fun _ _ _ _ => rfl) (fun _ _ _ h => h.ik) h
  · exact zi_store1 (ok := xik) hK ht (fun _ _ _ _ => rfl) (fun _ _ _ h => h.ik) h
  · exact zi_store2 (ok := xlk2) hK ht (fun _ _ _ _ => rfl) (fun _ _ _ h => h.lk) h
  · exact zi_store2 (ok := xlk2) hK ht (fun _ _ _ _ => rfl) (fun _ _ _ h => h.lk) h
  · exact zi_store1 (ok := xak) hK ht (fun _ _ _ _ => rfl) (fun _ _ _ h => h.ak) h
  · exact zi_store1 (ok := xak) hK ht (fun _ _ _ _ => rfl) (fun _ _ _ h => h.ak) h
  · exact zi_iinc hK ht h
  · exact zi_getf HB hK ht h
  · exact zi_putf HB hK ht h
  · exact zi_alen HB hK ht h
  · exact zi_ald HB hK ht (fun _ _ _ _ => rfl) h
  · exact zi_ald HB hK ht (fun _ _ _ _ => rfl) h
  · exact zi_ald HB hK ht (fun _ _ _ _ => rfl) h
  · exact zi_ald HB hK ht (fun _ _ _ _ => rfl) h
  · cases h
end ZMem
