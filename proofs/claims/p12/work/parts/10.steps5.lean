/-! ===== the steps: new cells, constants, statics ===== -/
/-- what the way on keeps and the frame's room -/
def xRm (K : xK) (out : xE) (R : Room) (c0 s0 : Nat) : Prop := (∀ pc loc stk hp, K pc loc stk hp = some out → hp.2.2.2.1 ≤ out.2.2.2.1.2.2.2.1 ∧ hp.2.2.2.2 ≤ out.2.2.2.1.2.2.2.2) ∧ out.2.2.2.1.2.2.2.1 ≤ R.cells + c0 ∧ out.2.2.2.1.2.2.2.2 ≤ R.slots + s0
theorem va_AOA.moved {t : FieldType} {u U : State} (hvm : u.vm.Alike U.vm) (h : va_AOA t u) : va_AOA t U := by
  obtain ⟨comp, c, k, h1, h2, h3, h4, h5⟩ := arrayOverA_spec (args := #[]) (first := u) (s := u) (o := none) (idx := []) h
  obtain ⟨k', hk', he⟩ := hvm.2.2 _ _ h3
  have hi : (U.vm.classes.findIdx? fun (x : Class) => match x.kind with | .array component _ => component == comp | _ => false) = some c := by
    rw [hvm.findIdx?_eq _ (fun _ => rfl)]; exact h2
  have hkind : k'.kind = .array comp (.array t) := by rw [he]; exact h4
  have f1 : U.vm.findClass (FieldType.array t).toString = some comp := by rw [hvm.findClass]; exact h1
  have f2 : U.vm.findClass ("[" ++ (FieldType.array t).toString) = some c := by rw [hvm.findClass]; exact h5
  unfold va_AOA Cond.before Cond.holds
  simp only [Cond.value]
  rw [f1, Option.bind_some]
  refine (congrArg (fun o : Option Nat => (o.bind (fun c => (U.vm.classes[c]?).map fun (k : Class) => match k.kind with | .array _ ty => decide (ty = FieldType.array t) && decide (U.vm.findClass ("[" ++ (FieldType.array t).toString) = some c) | _ => false) == some true)) hi).trans ?_
  simp [hk', hkind, f2]
section Steps5
variable {p : Program} {l : Launch} {e : Env} {R : Room} {s : State} {m : MethodId} {args : Array Value} {below : List Frame} {meth : Method} {c : Code} {cc : ByteArray} {nL : Nat} {own : String} {S : State} {o : Nat} {old : Nat → Nat} {D : va_G} {c0 s0 : Nat} {Q : State → Prop}
variable {pc nx : Nat} {K : xK} {out : xE} {loc : List (Nat × xA)} {stk : List xA} {hp : xH} {ft : Nat → List Nat} {call : xF} {pool : Nat → xP} {hs : List (Nat × (Nat × (Nat × Nat)))}

theorem xborn_ok : ∀ (ts : List Nat) (k : Nat) (t : Lean.RArray xA), xwf 8 0 t → k + ts.length ≤ 256 → xwf 8 0 (xborn ts k t) ∧ ∀ j, j < 256 → xget (xborn ts k t) j = if k ≤ j ∧ j < k + ts.length then xdef (ts.getD (j - k) 0) else xget t j := by
  intro ts
  induction ts with
  | nil => intro k t h _; exact ⟨h, fun j _ => by show xget t j = _; rw [if_neg (by simp)]⟩
  | cons f ts ih =>
    intro k t h hk
    rw [List.length_cons] at hk
    obtain ⟨h1, h2⟩ := ih (k + 1) (xset (xdef f) k 8 0 t) (xset_wf _ _ _ _ _ h) (by omega)
    refine ⟨h1, fun j hj => ?_⟩
    have e := h2 j hj
    show xget (xborn ts (k + 1) (xset (xdef f) k 8 0 t)) j = _
    rw [e, xget_xset _ _ _ 8 0 t h (Nat.zero_le _) (by omega) (Nat.zero_le _) (by omega), List.length_cons]
    by_cases hjk : j = k
    · subst hjk
      rw [if_neg (by omega), if_pos rfl, if_pos (by omega)]
      simp
    · rw [if_neg hjk]
      by_cases h5 : k + 1 ≤ j ∧ j < k + 1 + ts.length
      · rw [if_pos h5, if_pos (by omega)]
        have e2 : j - k = (j - (k + 1)) + 1 := by omega
        rw [e2]
        rfl
      · rw [if_neg h5, if_neg (by omega)]
theorem xdef_ok {ad : Nat → Nat} {ty : FieldType} (h : xfk ty ≤ 3) : xR ad (xdef (xfk ty)) (defaultValue ty) := by
  cases ty with
  | int => rfl
  | long => rfl
  | boolean => rfl
  | object C => rfl
  | array t => rfl
  | byte => exact absurd h (by decide)
  | char => exact absurd h (by decide)
  | double => exact absurd h (by decide)
  | float => exact absurd h (by decide)
  | short => exact absurd h (by decide)
/-- a class's pool entry -/
def xPc (own : String) (ix : Nat) (P : xP) : Prop := ∃ (C : String) (T : u_T) (N : Nat), vwCl[P.2.1]? = some (C, T, N) ∧ Cond.classLink own ix C ∈ xW ∧ Cond.instantiable C N ∈ xW ∧ Cond.initialized C ∈ xW
theorem xi_new (F : xFx p s m args meth c cc nL own S) {len : Nat} (B : xBs S o old D ft) {k : Nat} (HP : (pool k).1 = 5 → xPc own k (pool k)) (Rm : xRm K out R c0 s0) (h11 : Nat.beq (pool k).1 11 = false) (hf : ∀ (c k t : Nat), (ft c)[k]? = some t → t ≤ 3) (hd : decode cc pc = .ok (.new k, len)) (hl0 : len = xlen (.new k) len) (hx0 : nx = pc + len) (hst : xsto nL (.new k) = true) (hK : xHyp p l e R s m args below meth c nL S o old D c0 s0 Q K out) (h : xstep o ft call pool hs K (.new k) pc nx loc stk hp = some out) : xG p l e R s m args below meth c nL S o old D c0 s0 Q pc loc stk hp := by
  subst hx0
  have hl1 : len = 3 := hl0
  subst hl1
  intro H locs cells slots ls lv st hlv hl hs1 hh hlo hc hsl
  have h : cond (Nat.beq (pool k).1 11) (some (1, (pc, (stk, (hp, (pool k).2.1))))) (cond (Nat.beq (pool k).1 5) (xj (xnew hp (some (.inl ((pool k).2.1, xborn (ft (pool k).2.1) 0 (.leaf (.inl 0))))) (ft (pool k).2.1).length) fun q => K (pc + 3) loc (.inr (.inr (.inl q.1)) :: stk) q.2) none) = some out := h
  rw [h11, cond_false] at h
  obtain ⟨h5, h⟩ := cond_some h
  obtain ⟨q, hq, h⟩ := xj_some h
  obtain ⟨C, T, N, f1, f2, f3, f4⟩ := HP (Nat.eq_of_beq_eq_true h5)
  obtain ⟨C', T', N', ty', c1, c2, c3, c4, c5, c6, c7⟩ := B.2.2 _ _ f1
  cases Option.some.inj (c1.symm.trans f1)
  have hKs := va_K.moved F.2.2.2.2.2.1.alike B.2.1
  have hKn := hKs.1 _ _ f1
  have hn := xnew_some hq
  have hm := Rm.1 _ _ _ _ h
  have e1 : q.2.2.2.2.1 = hp.2.2.2.1 + 1 := by rw [hn.2.2]
  have e2 : q.2.2.2.2.2 = hp.2.2.2.2 + N := by rw [hn.2.2, c6]
  rw [e1, e2] at hm
  refine W.newcK F.1 F.2.1 F.2.2.2.1 (F.2.2.2.2.1 _ f2) (F.2.2.2.2.1 _ f3) (F.2.2.2.2.1 _ f4) rfl hd (by have := Rm.2.1; omega) (by have := Rm.2.2; omega) hKn.2.1 rfl fun H' kC hkC z1 z2 z3 => ?_
  obtain ⟨w1, w2⟩ := xborn_ok (ft (pool k).2.1) 0 (.leaf (.inl 0)) (xwf_leaf _ _ _) (by rw [c6]; omega)
  have had : xad o S.heap.size old q.1 = H.size := by
    rw [hn.2.2]
    unfold xad
    rw [if_neg (by have := hh.2.2.2.1; show ¬ hp.2.1 < o; omega)]
    exact (hh.2.2.2.2.2.2.1 hn.1).symm
  have hcr : xcr o (xad o S.heap.size old) D S q.1 (some (.inl ((pool k).2.1, xborn (ft (pool k).2.1) 0 (.leaf (.inl 0))))) H' := by
    refine ⟨(C, T, N), f1, w1, c2, fun j => defaultValue (ty' j), ?_, fun j hj => ?_⟩
    · rw [had]
      exact u_born ty' F.2.2.2.2.1 c3 hKn hkC z1 c4
    · have hj' : j < N := hj
      show xR _ (xget (xborn (ft (pool k).2.1) 0 (.leaf (.inl 0))) j) _
      rw [w2 j (by omega), if_pos (by rw [c6]; omega)]
      have e3 := c7 j hj'
      have e4 : (ft (pool k).2.1).getD (j - 0) 0 = xfk (ty' j) := by rw [List.getD_eq_getElem?_getD, Nat.sub_zero, e3]; rfl
      rw [e4]
      exact xdef_ok (hf _ _ _ e3)
  obtain ⟨hh2, a1, a2, a3⟩ := hh.new B.1 hq z2 z3 hcr
  refine hK _ _ _ _ h H' locs (cells + 1) (slots + N) ls lv _ hlv hl ⟨?_, hs1⟩ hh2 hlo (by omega) (by rw [a3, c6]; omega)
  show Value.ref H.size = Value.ref (xad o S.heap.size old q.1)
  rw [a1]
theorem xbits_ok {n : Nat} (h : n ≤ 1048576) : n ≤ 2 ^ xbits n := by
  unfold xbits
  cases h1 : Nat.ble n 32 with
  | true => rw [cond_true]; exact Nat.le_of_ble_eq_true h1
  | false =>
    rw [cond_false]
    cases h2 : Nat.ble n 1024 with
    | true => rw [cond_true]; exact Nat.le_of_ble_eq_true h2
    | false => rw [cond_false]; exact h
/-- a new array of one value -/
theorem xcr_arr {H' : Heap} {k ty n b : Nat} {z : xA} {u : Value} {cA : ClassId} {ad : Nat → Nat} (hA : S.isArrayOf (arrV cA n (fun _ => u)) (xty ty)) (hx : xAr S (arrV cA n (fun _ => u)) ty) (e : H'[ad k]? = some (arrV cA n (fun _ => u))) (hb : n ≤ 2 ^ b) (hz : xR ad z u) : xcr o ad D S k (some (.inr (.inl (ty, (n, (b, .leaf z)))))) H' :=
  ⟨_, e, hA, (fun h => by cases h), (fun _ => hx), (by rw [arrV_size]; exact Nat.le_refl _), (by rw [arrV_size] <;> rfl), xwf_leaf _ _ _, hb, fun j hj => ⟨u, by rw [arrV_read _ _ hj], hz⟩⟩
theorem xk_new1 (F : xFx p s m args meth c cc nL own S) (B : xBs S o old D ft) {ty n : Nat} {z : xA} {u : Value} {rest : List xA} (hz : ∀ ad : Nat → Nat, xR ad z u) (Rm : xRm K out R c0 s0) (hK : xHyp p l e R s m args below meth c nL S o old D c0 s0 Q K out)
    (row : ∀ (H : Heap) (locs : List Loc) (cells slots : Nat) (ls : Array Slot) (st : List Value), n ≤ 1048576 → cells + 1 ≤ R.cells → slots + n ≤ R.slots → (∀ (H' : Heap) (cA : ClassId), H'[H.size]? = some (arrV cA n (fun _ => u)) → H'.size = H.size + 1 → (∀ q, q < H.size → H'[q]? = H[q]?) → s.isArrayOf (arrV cA n (fun _ => u)) (xty ty) → xAr s (arrV cA n (fun _ => u)) ty → W p l e R s m args below meth c H' locs (cells + 1) (slots + n) Q (F0 m nx ls (.ref H.size :: st))) → W p l e R s m args below meth c H locs cells slots Q (F0 m pc ls (.int (Int32.ofNat n) :: st)))
    (h : xnewarr ty z K nx loc (.inl n :: rest) hp = some out) : xG p l e R s m args below meth c nL S o old D c0 s0 Q pc loc (.inl n :: rest) hp := by
  intro H locs cells slots ls lv st hlv hl hs1 hh hlo hc hsl
  have h : cond (Nat.ble n 1048576) (xj (xnew hp (some (.inr (.inl (ty, (n, (xbits n, .leaf z)))))) n) fun q => K nx loc (.inr (.inr (.inl q.1)) :: rest) q.2) none = some out := h
  obtain ⟨hn0, h⟩ := cond_some h
  obtain ⟨q, hq, h⟩ := xj_some h
  obtain ⟨vn, st2, rfl, rn, hs2⟩ := xs2_cons hs1
  cases rn
  have hn1 : n ≤ 1048576 := Nat.le_of_ble_eq_true hn0
  have hn := xnew_some hq
  have hm := Rm.1 _ _ _ _ h
  have e1 : q.2.2.2.2.1 = hp.2.2.2.1 + 1 := by rw [hn.2.2]
  have e2 : q.2.2.2.2.2 = hp.2.2.2.2 + n := by rw [hn.2.2]
  rw [e1, e2] at hm
  have hal := F.2.2.2.2.2.1.alike
  refine row _ _ _ _ _ _ hn1 (by have := Rm.2.1; omega) (by have := Rm.2.2; omega) fun H' cA z1 z2 z3 z4 z5 => ?_
  have had : xad o S.heap.size old q.1 = H.size := by
    rw [hn.2.2]
    unfold xad
    rw [if_neg (by have := hh.2.2.2.1; show ¬ hp.2.1 < o; omega)]
    exact (hh.2.2.2.2.2.2.1 hn.1).symm
  have hx : xAr S (arrV cA n (fun _ => u)) ty := by
    obtain ⟨y1, y2, y3⟩ := z5
    refine ⟨y1, by rw [← hal.findClass]; exact y2, fun y4 => ?_⟩
    obtain ⟨k1, comp, kc, y5, y6, y7, y8⟩ := y3 y4
    obtain ⟨k1', y9, y10⟩ := hal.symm.2.2 _ _ y5
    obtain ⟨kc', y11, y12⟩ := hal.symm.2.2 _ _ y8
    exact ⟨k1', comp, kc', y9, by rw [y10]; exact y6, by rw [← hal.findClass]; exact y7, y11⟩
  have hcr : xcr o (xad o S.heap.size old) D S q.1 (some (.inr (.inl (ty, (n, (xbits n, .leaf z)))))) H' := xcr_arr (State.isArrayOf_alike hal.symm z4) hx (by rw [had]; exact z1) (xbits_ok hn1) (hz _)
  obtain ⟨hh2, a1, a2, a3⟩ := hh.new B.1 hq z2 z3 hcr
  refine hK _ _ _ _ h H' locs (cells + 1) (slots + n) ls lv _ hlv hl ⟨?_, hs2⟩ hh2 hlo (by omega) (by omega)
  show Value.ref H.size = Value.ref (xad o S.heap.size old q.1)
  rw [a1]
theorem xnewarr_inl {ty : Nat} {z : xA} (h : xnewarr ty z K nx loc stk hp = some out) : ∃ n rest, stk = .inl n :: rest := by
  unfold xnewarr at h
  split at h
  next n rest => exact ⟨n, rest, rfl⟩
  next => cases h
theorem xi_newarray (F : xFx p s m args meth c cc nL own S) {len : Nat} (B : xBs S o old D ft) {t : ArrayType} (HA : ∀ t, t < 4 → Cond.arrayClass (xty1 t) ∈ xW) (Rm : xRm K out R c0 s0) (hd : decode cc pc = .ok (.newarray t, len)) (hl0 : len = xlen (.newarray t) len) (hx0 : nx = pc + len) (hst : xsto nL (.newarray t) = true) (hK : xHyp p l e R s m args below meth c nL S o old D c0 s0 Q K out) (h : xstep o ft call pool hs K (.newarray t) pc nx loc stk hp = some out) : xG p l e R s m args below meth c nL S o old D c0 s0 Q pc loc stk hp := by
  subst hx0
  have hl1 : len = 2 := hl0
  subst hl1
  obtain ⟨ty, hty, h⟩ := xj_some (show xj (xaty t) (fun ty => xnewarr ty (cond (Nat.beq ty 1) (.inr (.inl 0)) (.inl 0)) K (pc + 2) loc stk hp) = some out from h)
  obtain ⟨n, rest, rfl⟩ := xnewarr_inl h
  cases t with
  | int =>
    cases hty
    refine xk_new1 F B (ty := 0) (z := .inl 0) (u := .int 0) (fun _ => rfl) Rm hK (fun H locs cells slots ls st h1 h2 h3 kk => ?_) h
    exact va_newaK (atype := .int) F.1 F.2.1 (F.2.2.2.2.1 _ (HA 0 (by decide))) rfl hd rfl (nI_pos (by omega)) (clamp_of rfl (by omega)) (by show n * 4 ≤ _; omega) h2 h3 rfl fun H' cA z1 z2 z3 z4 z5 => kk H' cA z1 z2 z3 (z4 n _) ⟨rfl, z5, fun q => absurd q (by decide)⟩
  | long =>
    cases hty
    refine xk_new1 F B (ty := 1) (z := .inr (.inl 0)) (u := .long 0) (fun _ => rfl) Rm hK (fun H locs cells slots ls st h1 h2 h3 kk => ?_) h
    exact va_newaK (atype := .long) F.1 F.2.1 (F.2.2.2.2.1 _ (HA 1 (by decide))) rfl hd rfl (nI_pos (by omega)) (clamp_of rfl (by omega)) (by show n * 8 ≤ _; omega) h2 h3 rfl fun H' cA z1 z2 z3 z4 z5 => kk H' cA z1 z2 z3 (z4 n _) ⟨rfl, z5, fun q => absurd q (by decide)⟩
  | boolean =>
    cases hty
    refine xk_new1 F B (ty := 2) (z := .inl 0) (u := .int 0) (fun _ => rfl) Rm hK (fun H locs cells slots ls st h1 h2 h3 kk => ?_) h
    exact va_newaK (atype := .boolean) F.1 F.2.1 (F.2.2.2.2.1 _ (HA 2 (by decide))) rfl hd rfl (nI_pos (by omega)) (clamp_of rfl (by omega)) (by show n * 1 ≤ _; omega) h2 h3 rfl fun H' cA z1 z2 z3 z4 z5 => kk H' cA z1 z2 z3 (z4 n _) ⟨rfl, z5, fun q => absurd q (by decide)⟩
  | byte =>
    cases hty
    refine xk_new1 F B (ty := 3) (z := .inl 0) (u := .int 0) (fun _ => rfl) Rm hK (fun H locs cells slots ls st h1 h2 h3 kk => ?_) h
    exact va_newaK (atype := .byte) F.1 F.2.1 (F.2.2.2.2.1 _ (HA 3 (by decide))) rfl hd rfl (nI_pos (by omega)) (clamp_of rfl (by omega)) (by show n * 1 ≤ _; omega) h2 h3 rfl fun H' cA z1 z2 z3 z4 z5 => kk H' cA z1 z2 z3 (z4 n _) ⟨rfl, z5, fun q => absurd q (by decide)⟩
  | char => cases hty
  | float => cases hty
  | double => cases hty
  | short => cases hty
/-- an array class over a class, over an array -/
def xAO (S : State) (t : Nat) : Prop := if t < 64 then va_AO (xcn (t - 4)) S else va_AOA (xty1 (t - 64)) S
/-- the pool entry of 'new T[n]': its kind and its class -/
def xPa (S : State) (own : String) (ix : Nat) (P : xP) : Prop := (P.1 = 5 → 4 + P.2.1 < 64 ∧ Cond.classLink own ix (xcn P.2.1) ∈ xW ∧ va_AO (xcn P.2.1) S) ∧ (P.1 = 6 → 64 ≤ P.2.1 ∧ Cond.classLink own ix (FieldType.array (xty1 (P.2.1 - 64))).toString ∈ xW ∧ va_AOA (xty1 (P.2.1 - 64)) S)
theorem arrN_new (cA : ClassId) (n : Nat) : ({ cls := cA, slots := Array.replicate n Value.null, vm := .none } : Cell) = arrV cA n (fun _ => Value.null) := arrV_new cA n .null
theorem xi_anewarray (F : xFx p s m args meth c cc nL own S) {len : Nat} (B : xBs S o old D ft) {k : Nat} (HP : xPa S own k (pool k)) (Rm : xRm K out R c0 s0) (hd : decode cc pc = .ok (.anewarray k, len)) (hl0 : len = xlen (.anewarray k) len) (hx0 : nx = pc + len) (hst : xsto nL (.anewarray k) = true) (hK : xHyp p l e R s m args below meth c nL S o old D c0 s0 Q K out) (h : xstep o ft call pool hs K (.anewarray k) pc nx loc stk hp = some out) : xG p l e R s m args below meth c nL S o old D c0 s0 Q pc loc stk hp := by
  subst hx0
  have hl1 : len = 3 := hl0
  subst hl1
  have h : cond (Nat.beq (pool k).1 6) (xnewarr (pool k).2.1 (.inr (.inr (.inr (.inr (.inr (.inl false)))))) K (pc + 3) loc stk hp) (cond (Nat.beq (pool k).1 5) (xnewarr (Nat.add 4 (pool k).2.1) (.inr (.inr (.inr (.inr (.inr (.inl false)))))) K (pc + 3) loc stk hp) none) = some out := h
  have hal := F.2.2.2.2.2.1.alike
  cases h6 : Nat.beq (pool k).1 6 with
  | true =>
    rw [h6, cond_true] at h
    obtain ⟨n, rest, rfl⟩ := xnewarr_inl h
    obtain ⟨g1, g2, g3⟩ := HP.2 (Nat.eq_of_beq_eq_true h6)
    have ex : xty (pool k).2.1 = .array (xty1 ((pool k).2.1 - 64)) := by
      unfold xty
      rw [if_neg (by omega), if_neg (by omega)]
    have en : xtn (pool k).2.1 = (FieldType.array (xty1 ((pool k).2.1 - 64))).toString := by
      unfold xtn
      rw [if_neg (by omega), ex]
    refine xk_new1 F B (z := .inr (.inr (.inr (.inr (.inr (.inl false)))))) (u := .null) (fun _ => rfl) Rm hK (fun H locs cells slots ls st h1 h2 h3 kk => ?_) h
    refine W.anewA F.1 F.2.1 F.2.2.2.1 (F.2.2.2.2.1 _ g2) (va_AOA.use (va_AOA.moved hal g3)) rfl hd rfl (nI_pos (by omega)) (by rw [clamp_of rfl (by omega)]; omega) h2 (by rw [clamp_of rfl (by omega)]; exact h3) fun cA kA comp y1 y2 y3 y4 => ?_
    rw [clamp_of rfl (by omega)]
    obtain ⟨kc, hkc, -⟩ := Vm.findClass_spec y4
    refine kk _ cA ?_ (by simp) (fun q hq => by rw [Array.getElem?_push, if_neg (Nat.ne_of_lt hq)]) ⟨fun k h => (by cases h), kA, y2, comp, by rw [ex]; exact y3⟩ ⟨rfl, by rw [ex]; exact y1, fun _ => ⟨kA, comp, kc, y2, by rw [ex]; exact y3, by rw [en]; exact y4, hkc⟩⟩
    rw [arrN_new]
    simp
  | false =>
    rw [h6, cond_false] at h
    obtain ⟨h5, h⟩ := cond_some h
    obtain ⟨n, rest, rfl⟩ := xnewarr_inl h
    obtain ⟨g1, g2, g3⟩ := HP.1 (Nat.eq_of_beq_eq_true h5)
    have ex : xty (Nat.add 4 (pool k).2.1) = .object (xcn (pool k).2.1) := by
      show xty (4 + (pool k).2.1) = _
      unfold xty
      rw [if_neg (by omega), if_pos (by omega), Nat.add_sub_cancel_left]
    have en : xtn (Nat.add 4 (pool k).2.1) = xcn (pool k).2.1 := by
      show xtn (4 + (pool k).2.1) = _
      unfold xtn
      rw [if_pos (by omega), Nat.add_sub_cancel_left]
    refine xk_new1 F B (z := .inr (.inr (.inr (.inr (.inr (.inl false)))))) (u := .null) (fun _ => rfl) Rm hK (fun H locs cells slots ls st h1 h2 h3 kk => ?_) h
    refine W.anew F.1 F.2.1 F.2.2.2.1 (F.2.2.2.2.1 _ g2) (va_AO.use (va_AO.moved hal g3)) rfl hd rfl (nI_pos (by omega)) (by rw [clamp_of rfl (by omega)]; omega) h2 (by rw [clamp_of rfl (by omega)]; exact h3) fun cA kA comp y1 y2 y3 y4 => ?_
    rw [clamp_of rfl (by omega)]
    obtain ⟨kc, hkc, -⟩ := Vm.findClass_spec y4
    refine kk _ cA ?_ (by simp) (fun q hq => by rw [Array.getElem?_push, if_neg (Nat.ne_of_lt hq)]) ⟨fun k h => (by cases h), kA, y2, comp, by rw [ex]; exact y3⟩ ⟨rfl, by rw [ex]; exact y1, fun _ => ⟨kA, comp, kc, y2, by rw [ex]; exact y3, by rw [en]; exact y4, hkc⟩⟩
    rw [arrN_new]
    simp
end Steps5
