section Steps13
variable {o : Nat} {pc nx : Nat} {K : xK} {out : xE} {loc : List (Nat × xA)} {stk : List xA} {hp : xH} {ft : Nat → List Nat} {call : xF} {pool : Nat → xP} {hs : List (Nat × (Nat × (Nat × Nat)))}
/-- no cell is ever uncounted -/
abbrev xLe (hp : xH) (h' : xH) : Prop := hp.2.2.2.1 ≤ h'.2.2.2.1 ∧ hp.2.2.2.2 ≤ h'.2.2.2.2
abbrev xMK (K : xK) (out : xE) : Prop := ∀ pc loc stk hp, K pc loc stk hp = some out → hp.2.2.2.1 ≤ out.2.2.2.1.2.2.2.1 ∧ hp.2.2.2.2 ≤ out.2.2.2.1.2.2.2.2
theorem xLe.rf (hp : xH) : xLe hp hp := ⟨Nat.le_refl _, Nat.le_refl _⟩
theorem xLe.tr {a b c : xH} (h : xLe a b) (k : xLe b c) : xLe a c := ⟨Nat.le_trans h.1 k.1, Nat.le_trans h.2 k.2⟩
theorem cond_or {α : Type} {b : Bool} {x y : Option α} {z : α} (h : cond b x y = some z) : x = some z ∨ y = some z := by
  cases b
  · exact Or.inr h
  · exact Or.inl h
theorem xmono_back {rest : List xA} {r : Option xO} (hK : xMK K out) (hr : ∀ r9, r = some r9 → xLe hp r9.2.2.1) (h : xback hs K pc nx loc rest r = some out) : xLe hp out.2.2.2.1 := by
  match r, hr, h with
  | none, _, h => cases h
  | some (0, (none, (h', E))), hr, h => exact (hr _ rfl).tr (hK _ _ _ _ h)
  | some (0, (some v, (h', E))), hr, h => exact (hr _ rfl).tr (hK _ _ _ _ h)
  | some (1, (rv, (h', E))), hr, h =>
    have h : (match xcatch hs pc E with
      | some t => K t loc [.inr (.inr (.inr (.inr (.inr (.inl true)))))] h'
      | none => some (2, (pc, (rest, (h', E))))) = some out := h
    split at h
    · exact (hr _ rfl).tr (hK _ _ _ _ h)
    · cases h
      exact hr _ rfl
  | some (_ + 2, _), _, h => cases h
theorem xmono_new {c : xC} {n : Nat} {q : Nat × xH} (h : xnew hp c n = some q) : xLe hp q.2 := by
  obtain ⟨-, -, rfl⟩ := xnew_some h
  exact ⟨Nat.le_succ _, Nat.le_add_right _ _⟩
theorem xmono_newarr {ty : Nat} {z : xA} (hK : xMK K out) (h : xnewarr ty z K nx loc stk hp = some out) : xLe hp out.2.2.2.1 := by
  unfold xnewarr at h
  split at h
  · obtain ⟨-, h⟩ := cond_some h
    obtain ⟨q, hq, h⟩ := xj_some h
    exact (xmono_new hq).tr (hK _ _ _ _ h)
  · cases h
theorem xmono_ast {ok : Nat → Bool} {r i v : xA} {h' : xH} (h : xast o ok hp r i v = some h') : xLe hp h' := by
  obtain ⟨k, n, q, w, -, -, -, -, -, -, -, -, -, rfl⟩ := xast_ok h
  exact xLe.rf hp
theorem xmono_if {off : Int} {rest : List xA} {b : Option Bool} (hK : xMK K out) (h : xif K pc nx off loc rest hp b = some out) : xLe hp out.2.2.2.1 := by
  unfold xif at h
  obtain ⟨t, -, h⟩ := xj_some h
  split at h
  · exact hK _ _ _ _ h
  · exact hK _ _ _ _ h
  · cases h
theorem xmono_tab {d lo hi : Int} {offs : Array Int} (hK : xMK K out) (h : xtab K pc d lo hi offs loc stk hp = some out) : xLe hp out.2.2.2.1 := by
  unfold xtab at h
  split at h
  · rcases cond_or h with h | h
    · obtain ⟨t, -, h⟩ := xj_some h
      exact hK _ _ _ _ h
    · obtain ⟨t, -, h⟩ := xj_some h
      obtain ⟨t, -, h⟩ := xj_some h
      exact hK _ _ _ _ h
  · cases h
theorem xmono_aast (hK : xMK K out) (h : xaast o K nx loc stk hp = some out) : xLe hp out.2.2.2.1 := by
  unfold xaast at h
  split at h
  · split at h
    · obtain ⟨-, h⟩ := cond_some h
      refine xLe.tr ?_ (hK _ _ _ _ h)
      exact xLe.rf hp
    · cases h
  · cases h
theorem xmono_multi {P : xP} (hK : xMK K out) (h : xmulti P K nx loc stk hp = some out) : xLe hp out.2.2.2.1 := by
  unfold xmulti at h
  split at h
  · obtain ⟨-, h⟩ := cond_some h
    refine xLe.tr ?_ (hK _ _ _ _ h)
    refine ⟨?_, ?_⟩
    · show _ ≤ hp.2.2.2.1 + 1 + _
      omega
    · show _ ≤ hp.2.2.2.2 + _ + _
      omega
  · cases h
theorem xmono_math {f : Nat → Nat → Nat} (hK : xMK K out) (h : xmath f K nx loc stk hp = some out) : xLe hp out.2.2.2.1 := by
  unfold xmath at h
  split at h
  · obtain ⟨-, h⟩ := cond_some h
    exact hK _ _ _ _ h
  · cases h
theorem xmono_V {P : xP} (hK : xMK K out) (hc : ∀ mi as hp r, call mi as hp = some r → xLe hp r.2.2.1) (h : xinvV call hs P K pc nx loc stk hp = some out) : xLe hp out.2.2.2.1 := by
  unfold xinvV at h
  rcases cond_or h with h | h
  · obtain ⟨q, -, h⟩ := xj_some h
    split at h
    · split at h
      · obtain ⟨-, h⟩ := cond_some h
        exact xmono_back hK (fun r9 hr => hc _ _ _ _ hr) h
      · cases h
    · cases h
  · obtain ⟨-, h⟩ := cond_some h
    obtain ⟨q, -, h⟩ := xj_some h
    split at h
    · split at h
      · obtain ⟨-, h⟩ := cond_some h
        exact xmono_back hK (fun r9 hr => hc _ _ _ _ hr) h
      · cases h
    · cases h
theorem xmono_I {P : xP} (hK : xMK K out) (hc : ∀ mi as hp r, call mi as hp = some r → xLe hp r.2.2.1) (h : xinvI call hs P K pc nx loc stk hp = some out) : xLe hp out.2.2.2.1 := by
  unfold xinvI at h
  rcases cond_or h with h | h
  · split at h
    · obtain ⟨-, h⟩ := cond_some h
      exact hK _ _ _ _ h
    · cases h
  · obtain ⟨-, h⟩ := cond_some h
    obtain ⟨q, -, h⟩ := xj_some h
    split at h
    · obtain ⟨-, h⟩ := cond_some h
      exact xmono_back hK (fun r9 hr => hc _ _ _ _ hr) h
    · cases h
theorem xmono_S {P : xP} (hK : xMK K out) (hc : ∀ mi as hp r, call mi as hp = some r → xLe hp r.2.2.1) (h : xinvS o call hs P K pc nx loc stk hp = some out) : xLe hp out.2.2.2.1 := by
  unfold xinvS at h
  rcases cond_or h with h | h
  · obtain ⟨q, -, h⟩ := xj_some h
    obtain ⟨-, h⟩ := cond_some h
    exact xmono_back hK (fun r9 hr => hc _ _ _ _ hr) h
  rcases cond_or h with h | h
  · exact xmono_math hK h
  rcases cond_or h with h | h
  · exact xmono_math hK h
  rcases cond_or h with h | h
  · split at h
    · obtain ⟨-, h⟩ := cond_some h
      exact hK _ _ _ _ h
    · cases h
  obtain ⟨-, h⟩ := cond_some h
  split at h
  · split at h
    · obtain ⟨-, h⟩ := cond_some h
      refine xLe.tr ?_ (hK _ _ _ _ h)
      exact xLe.rf hp
    · cases h
  · cases h
theorem xm_load {i : Nat} {kk : xA → Bool} (hK : xMK K out) (h : (xj (xlk loc i) fun a => cond (kk a) (K nx loc (a :: stk) hp) none) = some out) : xLe hp out.2.2.2.1 := by
  obtain ⟨a, -, h⟩ := xj_some h
  obtain ⟨-, h⟩ := cond_some h
  exact hK _ _ _ _ h
theorem xm_store {kk : xA → Bool} {f : xA → List (Nat × xA)} (hK : xMK K out) (h : (match stk with
    | a :: rest => cond (kk a) (K nx (f a) rest hp) none
    | _ => none) = some out) : xLe hp out.2.2.2.1 := by
  match stk, h with
  | [], h => cases h
  | a :: rest, h =>
    obtain ⟨-, h⟩ := cond_some h
    exact hK _ _ _ _ h
theorem xm_bin {g : xA → xA → Option xA} (hK : xMK K out) (h : (match stk with
    | b :: a :: rest => xj (g a b) fun v => K nx loc (v :: rest) hp
    | _ => none) = some out) : xLe hp out.2.2.2.1 := by
  match stk, h with
  | [], h => cases h
  | [_], h => cases h
  | b :: a :: rest, h =>
    obtain ⟨v, -, h⟩ := xj_some h
    exact hK _ _ _ _ h
theorem xm_ld {g : xA → xA → Option xA} (hK : xMK K out) (h : (match stk with
    | i :: r :: rest => xj (g r i) fun v => K nx loc (v :: rest) hp
    | _ => none) = some out) : xLe hp out.2.2.2.1 := by
  match stk, h with
  | [], h => cases h
  | [_], h => cases h
  | b :: a :: rest, h =>
    obtain ⟨v, -, h⟩ := xj_some h
    exact hK _ _ _ _ h
theorem xm_un {g : xA → Option xA} (hK : xMK K out) (h : (match stk with
    | a :: rest => xj (g a) fun v => K nx loc (v :: rest) hp
    | _ => none) = some out) : xLe hp out.2.2.2.1 := by
  match stk, h with
  | [], h => cases h
  | a :: rest, h =>
    obtain ⟨v, -, h⟩ := xj_some h
    exact hK _ _ _ _ h
theorem xm_st {ok : Nat → Bool} (hK : xMK K out) (h : (match stk with
    | v :: i :: r :: rest => xj (xast o ok hp r i v) fun h => K nx loc rest h
    | _ => none) = some out) : xLe hp out.2.2.2.1 := by
  match stk, h with
  | [], h => cases h
  | [_], h => cases h
  | [_, _], h => cases h
  | v :: i :: r :: rest, h =>
    obtain ⟨w, hw, h⟩ := xj_some h
    exact (xmono_ast hw).tr (hK _ _ _ _ h)

theorem xm_aconst_null (hK : xMK K out) (h : xstep o ft call pool hs K (.aconst_null) pc nx loc stk hp = some out) : xLe hp out.2.2.2.1 := by
  exact hK _ _ _ _ h

theorem xm_iconst {n : Int} (hK : xMK K out) (h : xstep o ft call pool hs K (.iconst n) pc nx loc stk hp = some out) : xLe hp out.2.2.2.1 := by
  exact hK _ _ _ _ h

theorem xm_bipush {n : Int} (hK : xMK K out) (h : xstep o ft call pool hs K (.bipush n) pc nx loc stk hp = some out) : xLe hp out.2.2.2.1 := by
  exact hK _ _ _ _ h

theorem xm_sipush {n : Int} (hK : xMK K out) (h : xstep o ft call pool hs K (.sipush n) pc nx loc stk hp = some out) : xLe hp out.2.2.2.1 := by
  exact hK _ _ _ _ h

theorem xm_lconst {n : Fin 2} (hK : xMK K out) (h : xstep o ft call pool hs K (.lconst n) pc nx loc stk hp = some out) : xLe hp out.2.2.2.1 := by
  exact hK _ _ _ _ h

theorem xm_ldc {k : Nat} (hK : xMK K out) (h : xstep o ft call pool hs K (.ldc k) pc nx loc stk hp = some out) : xLe hp out.2.2.2.1 := by
  have h : cond (Nat.beq (pool k).1 8) (K nx loc (.inl (pool k).2.1 :: stk) hp) (cond (Nat.beq (pool k).1 7) (K nx loc (.inr (.inr (.inl (pool k).2.1)) :: stk) hp) none) = some out := h
  rcases cond_or h with h | h
  · exact hK _ _ _ _ h
  obtain ⟨-, h⟩ := cond_some h
  exact hK _ _ _ _ h

theorem xm_ldc_w {k : Nat} (hK : xMK K out) (h : xstep o ft call pool hs K (.ldc_w k) pc nx loc stk hp = some out) : xLe hp out.2.2.2.1 := by
  have h : cond (Nat.beq (pool k).1 8) (K nx loc (.inl (pool k).2.1 :: stk) hp) (cond (Nat.beq (pool k).1 7) (K nx loc (.inr (.inr (.inl (pool k).2.1)) :: stk) hp) none) = some out := h
  rcases cond_or h with h | h
  · exact hK _ _ _ _ h
  obtain ⟨-, h⟩ := cond_some h
  exact hK _ _ _ _ h

theorem xm_ldc2_w {k : Nat} (hK : xMK K out) (h : xstep o ft call pool hs K (.ldc2_w k) pc nx loc stk hp = some out) : xLe hp out.2.2.2.1 := by
  have h : cond (Nat.beq (pool k).1 9) (K nx loc (.inr (.inl (pool k).2.1) :: stk) hp) none = some out := h
  obtain ⟨-, h⟩ := cond_some h
  exact hK _ _ _ _ h

theorem xm_iload_n {k : Fin 4} (hK : xMK K out) (h : xstep o ft call pool hs K (.iload_n k) pc nx loc stk hp = some out) : xLe hp out.2.2.2.1 := by
  exact xm_load hK h

theorem xm_iload {k : Nat} (hK : xMK K out) (h : xstep o ft call pool hs K (.iload k) pc nx loc stk hp = some out) : xLe hp out.2.2.2.1 := by
  exact xm_load hK h

theorem xm_lload_n {k : Fin 4} (hK : xMK K out) (h : xstep o ft call pool hs K (.lload_n k) pc nx loc stk hp = some out) : xLe hp out.2.2.2.1 := by
  exact xm_load hK h

theorem xm_lload {k : Nat} (hK : xMK K out) (h : xstep o ft call pool hs K (.lload k) pc nx loc stk hp = some out) : xLe hp out.2.2.2.1 := by
  exact xm_load hK h

theorem xm_aload_n {k : Fin 4} (hK : xMK K out) (h : xstep o ft call pool hs K (.aload_n k) pc nx loc stk hp = some out) : xLe hp out.2.2.2.1 := by
  exact xm_load hK h

theorem xm_aload {k : Nat} (hK : xMK K out) (h : xstep o ft call pool hs K (.aload k) pc nx loc stk hp = some out) : xLe hp out.2.2.2.1 := by
  exact xm_load hK h

theorem xm_istore_n {k : Fin 4} (hK : xMK K out) (h : xstep o ft call pool hs K (.istore_n k) pc nx loc stk hp = some out) : xLe hp out.2.2.2.1 := by
  exact xm_store hK h

theorem xm_istore {k : Nat} (hK : xMK K out) (h : xstep o ft call pool hs K (.istore k) pc nx loc stk hp = some out) : xLe hp out.2.2.2.1 := by
  exact xm_store hK h

theorem xm_lstore_n {k : Fin 4} (hK : xMK K out) (h : xstep o ft call pool hs K (.lstore_n k) pc nx loc stk hp = some out) : xLe hp out.2.2.2.1 := by
  exact xm_store hK h

theorem xm_lstore {k : Nat} (hK : xMK K out) (h : xstep o ft call pool hs K (.lstore k) pc nx loc stk hp = some out) : xLe hp out.2.2.2.1 := by
  exact xm_store hK h

theorem xm_astore_n {k : Fin 4} (hK : xMK K out) (h : xstep o ft call pool hs K (.astore_n k) pc nx loc stk hp = some out) : xLe hp out.2.2.2.1 := by
  exact xm_store hK h

theorem xm_astore {k : Nat} (hK : xMK K out) (h : xstep o ft call pool hs K (.astore k) pc nx loc stk hp = some out) : xLe hp out.2.2.2.1 := by
  exact xm_store hK h

theorem xm_iinc {k : Nat} {n : Int} (hK : xMK K out) (h : xstep o ft call pool hs K (.iinc k n) pc nx loc stk hp = some out) : xLe hp out.2.2.2.1 := by
  obtain ⟨a, -, h⟩ := xj_some (show xj (xlk loc k) (fun a => xj (xbin (fun x y => xm32 (Nat.add x y)) a (.inl (x32 (Int32.ofInt n)))) fun b => K nx (xst1 loc k b) stk hp) = some out from h)
  obtain ⟨b, -, h⟩ := xj_some h
  exact hK _ _ _ _ h

theorem xm_iadd (hK : xMK K out) (h : xstep o ft call pool hs K (.iadd) pc nx loc stk hp = some out) : xLe hp out.2.2.2.1 := by
  exact xm_bin hK h

theorem xm_isub (hK : xMK K out) (h : xstep o ft call pool hs K (.isub) pc nx loc stk hp = some out) : xLe hp out.2.2.2.1 := by
  exact xm_bin hK h

theorem xm_imul (hK : xMK K out) (h : xstep o ft call pool hs K (.imul) pc nx loc stk hp = some out) : xLe hp out.2.2.2.1 := by
  exact xm_bin hK h

theorem xm_iand (hK : xMK K out) (h : xstep o ft call pool hs K (.iand) pc nx loc stk hp = some out) : xLe hp out.2.2.2.1 := by
  exact xm_bin hK h

theorem xm_ior (hK : xMK K out) (h : xstep o ft call pool hs K (.ior) pc nx loc stk hp = some out) : xLe hp out.2.2.2.1 := by
  exact xm_bin hK h

theorem xm_ixor (hK : xMK K out) (h : xstep o ft call pool hs K (.ixor) pc nx loc stk hp = some out) : xLe hp out.2.2.2.1 := by
  exact xm_bin hK h

theorem xm_idiv (hK : xMK K out) (h : xstep o ft call pool hs K (.idiv) pc nx loc stk hp = some out) : xLe hp out.2.2.2.1 := by
  exact xm_bin hK h

theorem xm_irem (hK : xMK K out) (h : xstep o ft call pool hs K (.irem) pc nx loc stk hp = some out) : xLe hp out.2.2.2.1 := by
  exact xm_bin hK h

theorem xm_ishl (hK : xMK K out) (h : xstep o ft call pool hs K (.ishl) pc nx loc stk hp = some out) : xLe hp out.2.2.2.1 := by
  exact xm_bin hK h

theorem xm_ishr (hK : xMK K out) (h : xstep o ft call pool hs K (.ishr) pc nx loc stk hp = some out) : xLe hp out.2.2.2.1 := by
  exact xm_bin hK h

theorem xm_iushr (hK : xMK K out) (h : xstep o ft call pool hs K (.iushr) pc nx loc stk hp = some out) : xLe hp out.2.2.2.1 := by
  exact xm_bin hK h

theorem xm_ladd (hK : xMK K out) (h : xstep o ft call pool hs K (.ladd) pc nx loc stk hp = some out) : xLe hp out.2.2.2.1 := by
  exact xm_bin hK h

theorem xm_lsub (hK : xMK K out) (h : xstep o ft call pool hs K (.lsub) pc nx loc stk hp = some out) : xLe hp out.2.2.2.1 := by
  exact xm_bin hK h

theorem xm_lmul (hK : xMK K out) (h : xstep o ft call pool hs K (.lmul) pc nx loc stk hp = some out) : xLe hp out.2.2.2.1 := by
  exact xm_bin hK h

theorem xm_land (hK : xMK K out) (h : xstep o ft call pool hs K (.land) pc nx loc stk hp = some out) : xLe hp out.2.2.2.1 := by
  exact xm_bin hK h

theorem xm_lor (hK : xMK K out) (h : xstep o ft call pool hs K (.lor) pc nx loc stk hp = some out) : xLe hp out.2.2.2.1 := by
  exact xm_bin hK h

theorem xm_lxor (hK : xMK K out) (h : xstep o ft call pool hs K (.lxor) pc nx loc stk hp = some out) : xLe hp out.2.2.2.1 := by
  exact xm_bin hK h

theorem xm_ldiv (hK : xMK K out) (h : xstep o ft call pool hs K (.ldiv) pc nx loc stk hp = some out) : xLe hp out.2.2.2.1 := by
  exact xm_bin hK h

theorem xm_lrem (hK : xMK K out) (h : xstep o ft call pool hs K (.lrem) pc nx loc stk hp = some out) : xLe hp out.2.2.2.1 := by
  exact xm_bin hK h

theorem xm_lshl (hK : xMK K out) (h : xstep o ft call pool hs K (.lshl) pc nx loc stk hp = some out) : xLe hp out.2.2.2.1 := by
  exact xm_bin hK h

theorem xm_lshr (hK : xMK K out) (h : xstep o ft call pool hs K (.lshr) pc nx loc stk hp = some out) : xLe hp out.2.2.2.1 := by
  exact xm_bin hK h

theorem xm_lushr (hK : xMK K out) (h : xstep o ft call pool hs K (.lushr) pc nx loc stk hp = some out) : xLe hp out.2.2.2.1 := by
  exact xm_bin hK h

theorem xm_lcmp (hK : xMK K out) (h : xstep o ft call pool hs K (.lcmp) pc nx loc stk hp = some out) : xLe hp out.2.2.2.1 := by
  exact xm_bin hK h

theorem xm_ineg (hK : xMK K out) (h : xstep o ft call pool hs K (.ineg) pc nx loc stk hp = some out) : xLe hp out.2.2.2.1 := by
  exact xm_un hK h

theorem xm_lneg (hK : xMK K out) (h : xstep o ft call pool hs K (.lneg) pc nx loc stk hp = some out) : xLe hp out.2.2.2.1 := by
  exact xm_un hK h

theorem xm_i2l (hK : xMK K out) (h : xstep o ft call pool hs K (.i2l) pc nx loc stk hp = some out) : xLe hp out.2.2.2.1 := by
  exact xm_un hK h

theorem xm_l2i (hK : xMK K out) (h : xstep o ft call pool hs K (.l2i) pc nx loc stk hp = some out) : xLe hp out.2.2.2.1 := by
  exact xm_un hK h

theorem xm_i2b (hK : xMK K out) (h : xstep o ft call pool hs K (.i2b) pc nx loc stk hp = some out) : xLe hp out.2.2.2.1 := by
  exact xm_un hK h

theorem xm_i2c (hK : xMK K out) (h : xstep o ft call pool hs K (.i2c) pc nx loc stk hp = some out) : xLe hp out.2.2.2.1 := by
  exact xm_un hK h

theorem xm_dup (hK : xMK K out) (h : xstep o ft call pool hs K (.dup) pc nx loc stk hp = some out) : xLe hp out.2.2.2.1 := by
  match stk, h with
  | [], h => cases h
  | a :: rest, h =>
    obtain ⟨-, h⟩ := cond_some h
    exact hK _ _ _ _ h

theorem xm_pop (hK : xMK K out) (h : xstep o ft call pool hs K (.pop) pc nx loc stk hp = some out) : xLe hp out.2.2.2.1 := by
  match stk, h with
  | [], h => cases h
  | a :: rest, h =>
    obtain ⟨-, h⟩ := cond_some h
    exact hK _ _ _ _ h

theorem xm_pop2 (hK : xMK K out) (h : xstep o ft call pool hs K (.pop2) pc nx loc stk hp = some out) : xLe hp out.2.2.2.1 := by
  match stk, h with
  | [], h => cases h
  | a :: rest, h =>
    obtain ⟨-, h⟩ := cond_some h
    exact hK _ _ _ _ h

theorem xm_dup_x1 (hK : xMK K out) (h : xstep o ft call pool hs K (.dup_x1) pc nx loc stk hp = some out) : xLe hp out.2.2.2.1 := by
  match stk, h with
  | [], h => cases h
  | [_], h => cases h
  | a :: b :: rest, h =>
    obtain ⟨-, h⟩ := cond_some h
    exact hK _ _ _ _ h

theorem xm_dup2 (hK : xMK K out) (h : xstep o ft call pool hs K (.dup2) pc nx loc stk hp = some out) : xLe hp out.2.2.2.1 := by
  match stk, h with
  | [], h => cases h
  | [_], h => cases h
  | a :: b :: rest, h =>
    obtain ⟨-, h⟩ := cond_some h
    exact hK _ _ _ _ h

theorem xm_goto {off : Int} (hK : xMK K out) (h : xstep o ft call pool hs K (.goto off) pc nx loc stk hp = some out) : xLe hp out.2.2.2.1 := by
  obtain ⟨t, -, h⟩ := xj_some (show xj (xtgt pc off) (fun t => K t loc stk hp) = some out from h)
  exact hK _ _ _ _ h

theorem xm_ifCond {cd : ClassFile.Cond} {off : Int} (hK : xMK K out) (h : xstep o ft call pool hs K (.ifCond cd off) pc nx loc stk hp = some out) : xLe hp out.2.2.2.1 := by
  match stk, h with
  | [], h => cases h
  | a :: rest, h =>
    obtain ⟨q, -, h⟩ := xj_some (show xj (xbd a) (fun p => xif K pc nx off loc rest hp (xcnd cd p (2147483648, 2147483648))) = some out from h)
    exact xmono_if hK h

theorem xm_if_icmp {cd : ClassFile.Cond} {off : Int} (hK : xMK K out) (h : xstep o ft call pool hs K (.if_icmp cd off) pc nx loc stk hp = some out) : xLe hp out.2.2.2.1 := by
  match stk, h with
  | [], h => cases h
  | [_], h => cases h
  | b :: a :: rest, h =>
    obtain ⟨q, -, h⟩ := xj_some (show xj (xbd a) (fun p => xj (xbd b) fun q => xif K pc nx off loc rest hp (xcnd cd p q)) = some out from h)
    obtain ⟨q2, -, h⟩ := xj_some h
    exact xmono_if hK h

theorem xm_tableswitch {d lo hi : Int} {offs : Array Int} (hK : xMK K out) (h : xstep o ft call pool hs K (.tableswitch d lo hi offs) pc nx loc stk hp = some out) : xLe hp out.2.2.2.1 := by
  exact xmono_tab hK h

theorem xm_arraylength (hK : xMK K out) (h : xstep o ft call pool hs K (.arraylength) pc nx loc stk hp = some out) : xLe hp out.2.2.2.1 := by
  match stk, h with
  | [], h => cases h
  | .inl _ :: _, h => cases h
  | .inr (.inl _) :: _, h => cases h
  | .inr (.inr (.inr _)) :: _, h => cases h
  | .inr (.inr (.inl k)) :: rest, h =>
    have h : (match xcell hp k with
      | some (.inr (.inl c)) => K nx loc (.inl c.2.1 :: rest) hp
      | _ => none) = some out := h
    split at h
    · exact hK _ _ _ _ h
    · cases h

theorem xm_iaload (hK : xMK K out) (h : xstep o ft call pool hs K (.iaload) pc nx loc stk hp = some out) : xLe hp out.2.2.2.1 := by
  exact xm_ld (g := xald _ hp) hK h

theorem xm_laload (hK : xMK K out) (h : xstep o ft call pool hs K (.laload) pc nx loc stk hp = some out) : xLe hp out.2.2.2.1 := by
  exact xm_ld (g := xald _ hp) hK h

theorem xm_baload (hK : xMK K out) (h : xstep o ft call pool hs K (.baload) pc nx loc stk hp = some out) : xLe hp out.2.2.2.1 := by
  exact xm_ld (g := xald _ hp) hK h

theorem xm_aaload (hK : xMK K out) (h : xstep o ft call pool hs K (.aaload) pc nx loc stk hp = some out) : xLe hp out.2.2.2.1 := by
  exact xm_ld (g := xald _ hp) hK h

theorem xm_iastore (hK : xMK K out) (h : xstep o ft call pool hs K (.iastore) pc nx loc stk hp = some out) : xLe hp out.2.2.2.1 := by
  exact xm_st hK h

theorem xm_lastore (hK : xMK K out) (h : xstep o ft call pool hs K (.lastore) pc nx loc stk hp = some out) : xLe hp out.2.2.2.1 := by
  exact xm_st hK h

theorem xm_bastore (hK : xMK K out) (h : xstep o ft call pool hs K (.bastore) pc nx loc stk hp = some out) : xLe hp out.2.2.2.1 := by
  exact xm_st hK h

theorem xm_getfield {k : Nat} (hK : xMK K out) (h : xstep o ft call pool hs K (.getfield k) pc nx loc stk hp = some out) : xLe hp out.2.2.2.1 := by
  match stk, h with
  | [], h => cases h
  | .inl _ :: _, h => cases h
  | .inr (.inl _) :: _, h => cases h
  | .inr (.inr (.inr _)) :: _, h => cases h
  | .inr (.inr (.inl r)) :: rest, h =>
    have h : cond (Nat.beq (pool k).1 0) (match xcell hp r with
      | some (.inl c) => cond (Nat.beq c.1 (pool k).2.1) (K nx loc (xget c.2 (pool k).2.2.1 :: rest) hp) none
      | _ => none) (match xcell hp r with
      | some (.inr (.inr [j])) => cond (Nat.beq (pool k).1 24) (K nx loc (.inr (.inr (.inl j)) :: rest) hp) (cond (Nat.beq (pool k).1 25) (K nx loc (.inl 0 :: rest) hp) none)
      | _ => none) = some out := h
    rcases cond_or h with h | h
    · split at h
      · obtain ⟨-, h⟩ := cond_some h
        exact hK _ _ _ _ h
      · cases h
    · split at h
      · rcases cond_or h with h | h
        · exact hK _ _ _ _ h
        · obtain ⟨-, h⟩ := cond_some h
          exact hK _ _ _ _ h
      · cases h

theorem xm_putfield {k : Nat} (hK : xMK K out) (h : xstep o ft call pool hs K (.putfield k) pc nx loc stk hp = some out) : xLe hp out.2.2.2.1 := by
  match stk, h with
  | [], h => cases h
  | [_], h => cases h
  | _ :: .inl _ :: _, h => cases h
  | _ :: .inr (.inl _) :: _, h => cases h
  | _ :: .inr (.inr (.inr _)) :: _, h => cases h
  | v :: .inr (.inr (.inl r)) :: rest, h =>
    obtain ⟨-, h⟩ := cond_some (show cond (Nat.beq (pool k).1 0 && Nat.ble o r) (match xcell hp r with
      | some (.inl c) => cond (Nat.beq c.1 (pool k).2.1 && xfit (Nat.mod (pool k).2.2.2 8) v) (K nx loc rest (xput hp r (some (.inl (c.1, xset v (pool k).2.2.1 8 0 c.2))))) none
      | _ => none) none = some out from h)
    split at h
    · obtain ⟨-, h⟩ := cond_some h
      refine xLe.tr ?_ (hK _ _ _ _ h)
      exact xLe.rf hp
    · cases h

theorem xm_getstatic {k : Nat} (hK : xMK K out) (h : xstep o ft call pool hs K (.getstatic k) pc nx loc stk hp = some out) : xLe hp out.2.2.2.1 := by
  have h : cond (Nat.beq (pool k).1 10) (K nx loc (.inr (.inr (.inl (pool k).2.1)) :: stk) hp) (cond (Nat.beq (pool k).1 26) (K nx loc (.inl 1 :: stk) hp) (cond (Nat.beq (pool k).1 27) (K nx loc (.inr (.inr (.inr (.inr (.inr (.inl true))))) :: stk) hp) none)) = some out := h
  rcases cond_or h with h | h
  · exact hK _ _ _ _ h
  rcases cond_or h with h | h
  · exact hK _ _ _ _ h
  obtain ⟨-, h⟩ := cond_some h
  exact hK _ _ _ _ h

theorem xm_new {k : Nat} (hK : xMK K out) (h : xstep o ft call pool hs K (.new k) pc nx loc stk hp = some out) : xLe hp out.2.2.2.1 := by
  have h : cond (Nat.beq (pool k).1 11) (some (1, (pc, (stk, (hp, (pool k).2.1))))) (cond (Nat.beq (pool k).1 5) (xj (xnew hp (some (.inl ((pool k).2.1, xborn (ft (pool k).2.1) 0 (.leaf (.inl 0))))) (ft (pool k).2.1).length) fun q => K nx loc (.inr (.inr (.inl q.1)) :: stk) q.2) none) = some out := h
  rcases cond_or h with h | h
  · cases h
    exact xLe.rf hp
  obtain ⟨-, h⟩ := cond_some h
  obtain ⟨q, hq, h⟩ := xj_some h
  exact (xmono_new hq).tr (hK _ _ _ _ h)

theorem xm_newarray {t : ArrayType} (hK : xMK K out) (h : xstep o ft call pool hs K (.newarray t) pc nx loc stk hp = some out) : xLe hp out.2.2.2.1 := by
  obtain ⟨ty, -, h⟩ := xj_some (show xj (xaty t) (fun ty => xnewarr ty (cond (Nat.beq ty 1) (.inr (.inl 0)) (.inl 0)) K nx loc stk hp) = some out from h)
  exact xmono_newarr hK h

theorem xm_anewarray {k : Nat} (hK : xMK K out) (h : xstep o ft call pool hs K (.anewarray k) pc nx loc stk hp = some out) : xLe hp out.2.2.2.1 := by
  have h : cond (Nat.beq (pool k).1 6) (xnewarr (pool k).2.1 (.inr (.inr (.inr (.inr (.inr (.inl false)))))) K nx loc stk hp) (cond (Nat.beq (pool k).1 5) (xnewarr (Nat.add 4 (pool k).2.1) (.inr (.inr (.inr (.inr (.inr (.inl false)))))) K nx loc stk hp) none) = some out := h
  rcases cond_or h with h | h
  · exact xmono_newarr hK h
  obtain ⟨-, h⟩ := cond_some h
  exact xmono_newarr hK h

theorem xm_aastore (hK : xMK K out) (h : xstep o ft call pool hs K (.aastore) pc nx loc stk hp = some out) : xLe hp out.2.2.2.1 := by
  exact xmono_aast hK h

theorem xm_multianewarray {k d : Nat} (hK : xMK K out) (h : xstep o ft call pool hs K (.multianewarray k d) pc nx loc stk hp = some out) : xLe hp out.2.2.2.1 := by
  exact xmono_multi hK h

theorem xm_ireturn (hK : xMK K out) (h : xstep o ft call pool hs K (.ireturn) pc nx loc stk hp = some out) : xLe hp out.2.2.2.1 := by
  cases (show some ((0, (pc, (stk, (hp, 0)))) : xE) = some out from h)
  exact xLe.rf hp

theorem xm_lreturn (hK : xMK K out) (h : xstep o ft call pool hs K (.lreturn) pc nx loc stk hp = some out) : xLe hp out.2.2.2.1 := by
  cases (show some ((0, (pc, (stk, (hp, 0)))) : xE) = some out from h)
  exact xLe.rf hp

theorem xm_areturn (hK : xMK K out) (h : xstep o ft call pool hs K (.areturn) pc nx loc stk hp = some out) : xLe hp out.2.2.2.1 := by
  cases (show some ((0, (pc, (stk, (hp, 0)))) : xE) = some out from h)
  exact xLe.rf hp

theorem xm_return_ (hK : xMK K out) (h : xstep o ft call pool hs K (.return_) pc nx loc stk hp = some out) : xLe hp out.2.2.2.1 := by
  cases (show some ((0, (pc, (stk, (hp, 0)))) : xE) = some out from h)
  exact xLe.rf hp
end Steps13
