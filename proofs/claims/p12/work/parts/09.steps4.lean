/-! ===== the steps: stores, fields, new cells ===== -/
abbrev xW : List Cond := lw_tbl.filter goodWord
/-- the kind of a field's type -/
def xfk (t : FieldType) : Nat := match t with
  | .int => 0
  | .long => 1
  | .boolean => 2
  | .object _ => 3
  | .array _ => 3
  | _ => 9
/-- a class: its fields, their kinds, its words -/
def xCl (ft : Nat → List Nat) (c : Nat) : Prop := ∃ (C : String) (T : u_T) (N : Nat) (ty : Nat → FieldType), vwCl[c]? = some (C, T, N) ∧ N ≤ 256 ∧ (∀ w ∈ u_ws C T N, w ∈ xW) ∧ (∀ k, k < N → parseFieldDescriptor (T k).2.2.1 = some (ty k)) ∧
  (∀ a, a < N → ∀ b, b < N → a ≠ b → (T a).2.1 ≠ (T b).2.1) ∧ (ft c).length = N ∧ ∀ k, k < N → (ft c)[k]? = some (xfk (ty k))
/-- a field's pool entry -/
def xPf (own : String) (ix : Nat) (P : xP) : Prop := ∃ (C : String) (T : u_T) (N : Nat) (ty : FieldType), vwCl[P.2.1]? = some (C, T, N) ∧ P.2.2.1 < N ∧ Cond.fieldLink own ix (T P.2.2.1).1 (T P.2.2.1).2.1 (T P.2.2.1).2.2.1 ∈ xW ∧ parseFieldDescriptor (T P.2.2.1).2.2.1 = some ty ∧ xfk ty = P.2.2.2 % 8 ∧
  ((T P.2.2.1).2.2.2 = false ∨ ((T P.2.2.1).2.2.2 = true ∧ 8 ≤ P.2.2.2 ∧ (T P.2.2.1).1 = own))
/-- .. that is read -/
def xPg (own : String) (ix : Nat) (P : xP) : Prop := ∃ (C : String) (T : u_T) (N : Nat), vwCl[P.2.1]? = some (C, T, N) ∧ P.2.2.1 < N ∧ Cond.fieldLink own ix (T P.2.2.1).1 (T P.2.2.1).2.1 (T P.2.2.1).2.2.1 ∈ xW
/-- a field that is put outside its constructors is not final -/
def xpfo (ini : Bool) (pool : Nat → xP) (i : Instr) : Bool := match i with
  | .putfield k => Nat.blt (pool k).2.2.2 8 || ini
  | _ => true
/-- what the walk rests on beside the frame: old addresses, the classes -/
def xBs (S : State) (o : Nat) (old : Nat → Nat) (D : va_G) (ft : Nat → List Nat) : Prop := (∀ k, k < o → old k < S.heap.size) ∧ va_K D vwCl [] S ∧ ∀ c q, vwCl[c]? = some q → xCl ft c
section Steps4
variable {p : Program} {l : Launch} {e : Env} {R : Room} {s : State} {m : MethodId} {args : Array Value} {below : List Frame} {meth : Method} {c : Code} {cc : ByteArray} {nL : Nat} {own : String} {S : State} {o : Nat} {old : Nat → Nat} {D : va_G} {c0 s0 : Nat} {Q : State → Prop}
variable {pc nx : Nat} {K : xK} {out : xE} {loc : List (Nat × xA)} {stk : List xA} {hp : xH} {ft : Nat → List Nat} {call : xF} {pool : Nat → xP} {hs : List (Nat × (Nat × (Nat × Nat)))}

theorem xfit_ok {f : Nat} {a : xA} {v : Value} {ad : Nat → Nat} {ty : FieldType} (h : xR ad a v) (hf : xfit f a = true) (ht : xfk ty = f) : narrow ty v = v ∧ fits ty v = true := by
  subst ht
  cases ty with
  | int =>
    obtain ⟨q, hq⟩ := isSome_of (show (xbd a).isSome = true from hf)
    obtain ⟨x, rfl, -⟩ := xR_bd h hq
    exact ⟨rfl, rfl⟩
  | long =>
    obtain ⟨q, hq⟩ := isSome_of (show (xbdl a).isSome = true from hf)
    obtain ⟨x, rfl, -⟩ := xR_bdl h hq
    exact ⟨rfl, rfl⟩
  | boolean =>
    rcases a with n | n | n | q | q | b | k
    · have hf' : (Nat.beq n 0 || Nat.beq n 1) = true := hf
      cases h
      rcases Bool.or_eq_true _ _ ▸ hf' with z | z
      · have e := Nat.eq_of_beq_eq_true z
        subst e
        exact ⟨rfl, rfl⟩
      · have e := Nat.eq_of_beq_eq_true z
        subst e
        exact ⟨rfl, rfl⟩
    · cases hf
    · cases hf
    · cases hf
    · cases hf
    · cases hf
    · cases hf
  | object C =>
    rcases a with n | n | n | q | q | (_ | _) | k
    · cases hf
    · cases hf
    · cases h; exact ⟨rfl, rfl⟩
    · cases hf
    · cases hf
    · cases h; exact ⟨rfl, rfl⟩
    · cases hf
    · cases hf
  | array t =>
    rcases a with n | n | n | q | q | (_ | _) | k
    · cases hf
    · cases hf
    · cases h; exact ⟨rfl, rfl⟩
    · cases hf
    · cases hf
    · cases h; exact ⟨rfl, rfl⟩
    · cases hf
    · cases hf
  | byte => cases hf
  | char => cases hf
  | double => cases hf
  | float => cases hf
  | short => cases hf
theorem xk_ast (F : xFx p s m args meth c cc nL own S) (B : xBs S o old D ft) {ok : Nat → Bool} (row : ∀ (H : Heap) (locs : List Loc) (cells slots : Nat) (ls : Array Slot) (a : Addr) (cell : Cell) (ty : Nat) (j : Int32) (v : xA) (w : xA) (u : Value) (ad : Nat → Nat) (st : List Value), ok ty = true → xR ad v u → xkeep ty v = some w → H[a]? = some cell → s.isArrayOf cell (xty ty) → cell.vm ≠ .unknown → ¬ (j < 0 ∨ cell.slots.size ≤ j.toNatClampNeg) →
      (∀ (H' : Heap) (z : Value), xR ad w z → H'[a]? = some (cell.setSlot j.toNatClampNeg z) → H'.size = H.size → (∀ q, q ≠ a → H'[q]? = H[q]?) → W p l e R s m args below meth c H' (locs ++ [⟨a, j.toNatClampNeg⟩]) cells slots Q (F0 m nx ls st)) → W p l e R s m args below meth c H locs cells slots Q (F0 m pc ls (u :: .int j :: .ref a :: st))) (hK : xHyp p l e R s m args below meth c nL S o old D c0 s0 Q K out)
    (h : (match stk with
    | v :: i :: r :: rest => xj (xast o ok hp r i v) fun h => K nx loc rest h
    | _ => none) = some out) : xG p l e R s m args below meth c nL S o old D c0 s0 Q pc loc stk hp := by
  intro H locs cells slots ls lv st hlv hl hs1 hh hlo hc hsl
  match stk, hs1, h with
  | [], _, h => cases h
  | [_], _, h => cases h
  | [_, _], _, h => cases h
  | v :: i :: r :: rest, hs1, h =>
    obtain ⟨h', ha, h⟩ := xj_some h
    obtain ⟨k, n, q, w, rfl, rfl, hq, hw, hok, h1, h2, h3, h4, rfl⟩ := xast_ok ha
    obtain ⟨u, st0, rfl, ru, hs2⟩ := xs2_cons hs1
    obtain ⟨vi, st1, rfl, ri, hs3⟩ := xs2_cons hs2
    obtain ⟨vr, st2, rfl, rr, hs4⟩ := xs2_cons hs3
    cases ri
    cases rr
    have hcr := hh.1 k
    rw [hq] at hcr
    have hcr' := hcr
    obtain ⟨cell, g1, g2, g3, g4, g5, g6, g7, -, g8⟩ := hcr
    refine row _ _ _ _ _ _ cell q.1 _ v w u (xad o S.heap.size old) _ hok ru hw g1 (State.isArrayOf_alike F.2.2.2.2.2.1.alike g2) g3 (xix h2 (Nat.lt_of_lt_of_le h1 g5)) fun H' z rz e1 e2 e3 => ?_
    rw [clamp_of rfl h2] at e1 ⊢
    refine hK _ _ _ _ h H' _ cells slots ls lv _ hlv hl hs4 (hh.put B.1 h3 (xcell_n hh hq) e2 e3 (xcr_set hcr' g1 h1 h4 rz e1)) (fun y hy => ?_) hc hsl
    rcases List.mem_append.mp hy with y1 | y1
    · exact hlo y y1
    · rw [List.mem_singleton] at y1
      subst y1
      show S.heap.size ≤ xad o S.heap.size old k
      unfold xad
      rw [if_neg (by omega)]
      omega
theorem xi_iastore (F : xFx p s m args meth c cc nL own S) {len : Nat} (B : xBs S o old D ft) (hd : decode cc pc = .ok (.iastore, len)) (hl0 : len = xlen (.iastore) len) (hx0 : nx = pc + len) (hst : xsto nL (.iastore) = true) (hK : xHyp p l e R s m args below meth c nL S o old D c0 s0 Q K out) (h : xstep o ft call pool hs K (.iastore) pc nx loc stk hp = some out) : xG p l e R s m args below meth c nL S o old D c0 s0 Q pc loc stk hp := by
  subst hx0
  have hl1 : len = 1 := hl0
  subst hl1
  refine xk_ast F B (ok := fun t => Nat.beq t 0) (fun _ _ _ _ _ a cell ty j v w u ad st ho hv hw h1 h2 h3 h4 k => ?_) hK h
  have e := Nat.eq_of_beq_eq_true ho
  subst e
  obtain ⟨hi, h9⟩ := cond_some (show cond (xbd v).isSome (some v) none = some w from hw)
  cases h9
  obtain ⟨q, hq⟩ := isSome_of hi
  obtain ⟨x, rfl, -⟩ := xR_bd hv hq
  exact W.iast F.1 F.2.1 h1 h2 h3 h4 rfl rfl hd (fun H' e1 e2 e3 => k H' _ hv e1 e2 e3)
theorem xi_lastore (F : xFx p s m args meth c cc nL own S) {len : Nat} (B : xBs S o old D ft) (hd : decode cc pc = .ok (.lastore, len)) (hl0 : len = xlen (.lastore) len) (hx0 : nx = pc + len) (hst : xsto nL (.lastore) = true) (hK : xHyp p l e R s m args below meth c nL S o old D c0 s0 Q K out) (h : xstep o ft call pool hs K (.lastore) pc nx loc stk hp = some out) : xG p l e R s m args below meth c nL S o old D c0 s0 Q pc loc stk hp := by
  subst hx0
  have hl1 : len = 1 := hl0
  subst hl1
  refine xk_ast F B (ok := fun t => Nat.beq t 1) (fun _ _ _ _ _ a cell ty j v w u ad st ho hv hw h1 h2 h3 h4 k => ?_) hK h
  have e := Nat.eq_of_beq_eq_true ho
  subst e
  obtain ⟨hi, h9⟩ := cond_some (show cond (xbdl v).isSome (some v) none = some w from hw)
  cases h9
  obtain ⟨q, hq⟩ := isSome_of hi
  obtain ⟨x, rfl, -⟩ := xR_bdl hv hq
  exact W.last F.1 F.2.1 h1 h2 h3 h4 rfl rfl hd (fun H' e1 e2 e3 => k H' _ hv e1 e2 e3)
theorem xi_bastore (F : xFx p s m args meth c cc nL own S) {len : Nat} (B : xBs S o old D ft) (hd : decode cc pc = .ok (.bastore, len)) (hl0 : len = xlen (.bastore) len) (hx0 : nx = pc + len) (hst : xsto nL (.bastore) = true) (hK : xHyp p l e R s m args below meth c nL S o old D c0 s0 Q K out) (h : xstep o ft call pool hs K (.bastore) pc nx loc stk hp = some out) : xG p l e R s m args below meth c nL S o old D c0 s0 Q pc loc stk hp := by
  subst hx0
  have hl1 : len = 1 := hl0
  subst hl1
  refine xk_ast F B (ok := fun t => Nat.beq t 2 || Nat.beq t 3) (fun _ _ _ _ _ a cell ty j v w u ad st ho hv hw h1 h2 h3 h4 k => ?_) hK h
  rcases Bool.or_eq_true _ _ ▸ ho with ho | ho
  · have e := Nat.eq_of_beq_eq_true ho
    subst e
    rcases v with n | n | n | q | q | b | k2
    · obtain ⟨hi, h9⟩ := cond_some (show cond (Nat.beq n 0 || Nat.beq n 1) (some (.inl n)) none = some w from hw)
      cases h9
      cases hv
      refine W.zast F.1 F.2.1 h1 h2 h3 h4 rfl rfl hd (fun H' e1 e2 e3 => k H' _ ?_ e1 e2 e3)
      rcases Bool.or_eq_true _ _ ▸ hi with z | z
      · have e := Nat.eq_of_beq_eq_true z
        subst e
        exact narrow_b0
      · have e := Nat.eq_of_beq_eq_true z
        subst e
        exact narrow_b1
    · cases hw
    · cases hw
    · cases hw
    · cases hw
    · cases hw
    · cases hw
  · have e := Nat.eq_of_beq_eq_true ho
    subst e
    have hz : ∃ x : Int32, u = .int x ∧ xR ad w (.int x.toInt8.toInt32) := by
      have hw' : xkeep 3 v = some w := hw
      unfold xkeep at hw'
      split at hw'
      · rename_i e; cases e
      · rename_i e; cases e
      · rename_i e; cases e
      · split at hw'
        · cases hv; cases hw'
          exact ⟨_, rfl, by show Value.int _ = _; rw [xi32]⟩
        · obtain ⟨hi, h9⟩ := cond_some hw'
          obtain ⟨q, hq⟩ := isSome_of hi
          obtain ⟨x, rfl, -⟩ := xR_bd hv hq
          exact ⟨x, rfl, by rw [← Option.some.inj h9]; exact xR_top _ _⟩
      · cases hw'
    obtain ⟨x, rfl, hx⟩ := hz
    exact W.bast F.1 F.2.1 h1 h2 h3 h4 rfl rfl hd (fun H' e1 e2 e3 => k H' _ hx e1 e2 e3)
theorem xi_arraylength (F : xFx p s m args meth c cc nL own S) {len : Nat}  (hd : decode cc pc = .ok (.arraylength, len)) (hl0 : len = xlen (.arraylength) len) (hx0 : nx = pc + len) (hst : xsto nL (.arraylength) = true) (hK : xHyp p l e R s m args below meth c nL S o old D c0 s0 Q K out) (h : xstep o ft call pool hs K (.arraylength) pc nx loc stk hp = some out) : xG p l e R s m args below meth c nL S o old D c0 s0 Q pc loc stk hp := by
  subst hx0
  have hl1 : len = 1 := hl0
  subst hl1
  intro H locs cells slots ls lv st hlv hl hs1 hh hlo hc hsl
  match stk, hs1, h with
  | .inr (.inr (.inl k)) :: rest, hs1, h =>
    have h : (match xcell hp k with
      | some (.inr (.inl c)) => K (pc + 1) loc (.inl c.2.1 :: rest) hp
      | _ => none) = some out := h
    split at h
    next q hq =>
      obtain ⟨vr, st2, rfl, rr, hs2⟩ := xs2_cons hs1
      cases rr
      have hcr := hh.1 k
      rw [hq] at hcr
      obtain ⟨cell, g1, g2, g3, g4, g5, g6, g7, -, g8⟩ := hcr
      exact W.alen F.1 F.2.1 g1 (State.isArrayOf_alike F.2.2.2.2.2.1.alike g2) g6 rfl rfl hd (hK _ _ _ _ h H locs cells slots ls lv _ hlv hl ⟨rfl, hs2⟩ hh hlo hc hsl)
    next => cases h
  | [], _, h => cases h
  | .inl _ :: _, _, h => cases h
  | .inr (.inl _) :: _, _, h => cases h
  | .inr (.inr (.inr _)) :: _, _, h => cases h
theorem xi_getfield (F : xFx p s m args meth c cc nL own S) {len : Nat} (B : xBs S o old D ft) {k : Nat} (HP : ((pool k).1 = 0 → xPg own k (pool k)) ∧ ((pool k).1 = 24 → Cond.fieldLink own k "java/lang/String" "value" "[B" ∈ xW) ∧ ((pool k).1 = 25 → Cond.fieldLink own k "java/lang/String" "coder" "B" ∈ xW)) (hd : decode cc pc = .ok (.getfield k, len)) (hl0 : len = xlen (.getfield k) len) (hx0 : nx = pc + len) (hst : xsto nL (.getfield k) = true) (hK : xHyp p l e R s m args below meth c nL S o old D c0 s0 Q K out) (h : xstep o ft call pool hs K (.getfield k) pc nx loc stk hp = some out) : xG p l e R s m args below meth c nL S o old D c0 s0 Q pc loc stk hp := by
  subst hx0
  have hl1 : len = 3 := hl0
  subst hl1
  intro H locs cells slots ls lv st hlv hl hs1 hh hlo hc hsl
  match stk, hs1, h with
  | .inr (.inr (.inl r)) :: rest, hs1, h =>
    obtain ⟨vr, st2, rfl, rr, hs2⟩ := xs2_cons hs1
    cases rr
    have h : cond (Nat.beq (pool k).1 0) (match xcell hp r with
      | some (.inl c) => cond (Nat.beq c.1 (pool k).2.1) (K (pc + 3) loc (xget c.2 (pool k).2.2.1 :: rest) hp) none
      | _ => none) (match xcell hp r with
      | some (.inr (.inr [j])) => cond (Nat.beq (pool k).1 24) (K (pc + 3) loc (.inr (.inr (.inl j)) :: rest) hp) (cond (Nat.beq (pool k).1 25) (K (pc + 3) loc (.inl 0 :: rest) hp) none)
      | _ => none) = some out := h
    have hcr := hh.1 r
    have hKs := va_K.moved F.2.2.2.2.2.1.alike B.2.1
    cases hb : Nat.beq (pool k).1 0 with
    | true =>
      rw [hb, cond_true] at h
      split at h
      next q hq =>
        obtain ⟨h1, h2⟩ := cond_some h
        have e1 := Nat.eq_of_beq_eq_true h1
        rw [hq] at hcr
        obtain ⟨r0, g1, g2, g3, V, ⟨cell, q1, q2, q3, q4⟩, g5⟩ := hcr
        obtain ⟨C, T, N, f1, f2, f3⟩ := HP.1 (Nat.eq_of_beq_eq_true hb)
        rw [← e1] at f1
        cases Option.some.inj (g1.symm.trans f1)
        obtain ⟨C', T', N', ty', c1, c2, c3, c4, c5, c6, c7⟩ := B.2.2 _ _ f1
        cases Option.some.inj (c1.symm.trans f1)
        obtain ⟨hS, hfc, kC, hkC, hkind⟩ := hKs.1 q.1 _ f1
        obtain ⟨cf, kf, fi, f, hi, hsl2⟩ := hS _ f2
        refine W.getf F.1 F.2.1 F.2.2.2.1 (F.2.2.2.2.1 _ f3) hi (u_facts hfc hkC (u_lays F.2.2.2.2.1 c3 f2) hi).1 q1 (by rw [q3]; exact fun h => by cases h) (v := V (pool k).2.2.1) (by rw [hsl2, q4 _ f2]) rfl rfl hd ?_
        exact hK _ _ _ _ h2 H locs cells slots ls lv _ hlv hl ⟨g5 _ f2, hs2⟩ hh hlo hc hsl
      next => cases h
    | false =>
      rw [hb, cond_false] at h
      split at h
      next j hq =>
        rw [hq] at hcr
        obtain ⟨ha, j', e0, o1, o2, o3⟩ := hcr
        cases e0
        have hH : ∀ q : Nat, q < S.heap.size → ¬ S.heap.size ≤ q → H[q]? = S.heap[q]? := fun q h1 _ => hh.2.2.2.2.2.2.2 q h1
        have get : ∀ (n d : String) (v : Value), va_OF "java/lang/String" n d v (xad o S.heap.size old r) (fun q => S.heap.size ≤ q) S S.heap → Cond.fieldLink own k "java/lang/String" n d ∈ xW → W p l e R s m args below meth c H locs cells slots Q (F0 m (pc + 3) ls (v :: st2)) → W p l e R s m args below meth c H locs cells slots Q (F0 m pc ls (.ref (xad o S.heap.size old r) :: st2)) := by
          intro n d v hO hw kk
          obtain ⟨cf, k1, fi, f, cell, p1, p2, p3, p4, p5, p6⟩ := va_OF.moved F.2.2.2.2.2.1.alike (hO.kept hH)
          exact W.getf F.1 F.2.1 F.2.2.2.1 (F.2.2.2.2.1 _ hw) p1 p2 p3 p4 (v := v) p5 rfl rfl hd kk
        cases hb2 : Nat.beq (pool k).1 24 with
        | true =>
          rw [hb2, cond_true] at h
          exact get _ _ _ o3 (HP.2.1 (Nat.eq_of_beq_eq_true hb2)) (hK _ _ _ _ h H locs cells slots ls lv _ hlv hl ⟨rfl, hs2⟩ hh hlo hc hsl)
        | false =>
          rw [hb2, cond_false] at h
          obtain ⟨h3, h4⟩ := cond_some h
          exact get _ _ _ o2 (HP.2.2 (Nat.eq_of_beq_eq_true h3)) (hK _ _ _ _ h4 H locs cells slots ls lv _ hlv hl ⟨rfl, hs2⟩ hh hlo hc hsl)
      next => cases h
  | [], _, h => cases h
  | .inl _ :: _, _, h => cases h
  | .inr (.inl _) :: _, _, h => cases h
  | .inr (.inr (.inr _)) :: _, _, h => cases h
theorem xi_putfield (F : xFx p s m args meth c cc nL own S) {len : Nat} (B : xBs S o old D ft) {k : Nat} (HP : (pool k).1 = 0 → xPf own k (pool k)) {ini : Bool} (hpf : xpfo ini pool (.putfield k) = true) (hini : ini = true → meth.name = "<init>") (hd : decode cc pc = .ok (.putfield k, len)) (hl0 : len = xlen (.putfield k) len) (hx0 : nx = pc + len) (hst : xsto nL (.putfield k) = true) (hK : xHyp p l e R s m args below meth c nL S o old D c0 s0 Q K out) (h : xstep o ft call pool hs K (.putfield k) pc nx loc stk hp = some out) : xG p l e R s m args below meth c nL S o old D c0 s0 Q pc loc stk hp := by
  subst hx0
  have hl1 : len = 3 := hl0
  subst hl1
  intro H locs cells slots ls lv st hlv hl hs1 hh hlo hc hsl
  match stk, hs1, h with
  | v :: .inr (.inr (.inl r)) :: rest, hs1, h =>
    obtain ⟨u, st1, rfl, ru, hs2⟩ := xs2_cons hs1
    obtain ⟨vr, st2, rfl, rr, hs3⟩ := xs2_cons hs2
    cases rr
    have h : cond (Nat.beq (pool k).1 0 && Nat.ble o r) (match xcell hp r with
      | some (.inl c) => cond (Nat.beq c.1 (pool k).2.1 && xfit (Nat.mod (pool k).2.2.2 8) v) (K (pc + 3) loc rest (xput hp r (some (.inl (c.1, xset v (pool k).2.2.1 8 0 c.2))))) none
      | _ => none) none = some out := h
    obtain ⟨h0, h⟩ := cond_some h
    obtain ⟨h01, h02⟩ := and_true' h0
    have hor : o ≤ r := Nat.le_of_ble_eq_true h02
    have hcr := hh.1 r
    have hKs := va_K.moved F.2.2.2.2.2.1.alike B.2.1
    split at h
    next q hq =>
      obtain ⟨h1, h2⟩ := cond_some h
      obtain ⟨h11, h12⟩ := and_true' h1
      have e1 := Nat.eq_of_beq_eq_true h11
      rw [hq] at hcr
      obtain ⟨r0, g1, g2, g3, V, ⟨cell, q1, q2, q3, q4⟩, g5⟩ := hcr
      obtain ⟨C, T, N, ty, f1, f2, f3, f4, f5, f6⟩ := HP (Nat.eq_of_beq_eq_true h01)
      rw [← e1] at f1
      cases Option.some.inj (g1.symm.trans f1)
      obtain ⟨C', T', N', ty', c1, c2, c3, c4, c5, c6, c7⟩ := B.2.2 _ _ f1
      cases Option.some.inj (c1.symm.trans f1)
      obtain ⟨hS, hfc, kC, hkC, hkind⟩ := hKs.1 q.1 _ f1
      obtain ⟨cf, kf, fi, f, hi, hsl2⟩ := hS _ f2
      have hap := va_apart (own := own) F.2.2.2.2.1 c3 ty' c4 c5 hKs f1
      obtain ⟨hn, hfit⟩ := xfit_ok ru h12 f5
      have fin : ∀ H' : Heap, H'[xad o S.heap.size old r]? = some (cell.setSlot f.slot u) → H'.size = H.size → (∀ q, q ≠ xad o S.heap.size old r → H'[q]? = H[q]?) → W p l e R s m args below meth c H' (locs ++ [⟨xad o S.heap.size old r, f.slot⟩]) cells slots Q (F0 m (pc + 3) ls st2) := by
        intro H' e2 e3 e4
        rw [hsl2] at e2
        refine hK _ _ _ _ h2 H' _ cells slots ls lv _ hlv hl hs3 (hh.put B.1 hor (xcell_n hh hq) e3 e4 ⟨(C, T, N), f1, xset_wf _ _ _ _ _ g2, g3, updV V (pool k).2.2.1 u, ⟨_, e2, q2, q3, t_set q4 hap f2 u⟩, fun j hj => ?_⟩) (fun y hy => ?_) hc hsl
        · show xR _ (xget (xset v (pool k).2.2.1 8 0 q.2) j) _
          have hj2 : j < N := hj
          have hN : N ≤ 256 := c2
          rw [xget_xset v _ j 8 0 q.2 g2 (Nat.zero_le _) (by omega) (Nat.zero_le _) (by omega)]
          unfold updV
          by_cases hjk : j = (pool k).2.2.1
          · rw [if_pos hjk, if_pos hjk]; exact ru
          · rw [if_neg hjk, if_neg hjk]; exact g5 j hj
        · rcases List.mem_append.mp hy with y1 | y1
          · exact hlo y y1
          · rw [List.mem_singleton] at y1
            subst y1
            show S.heap.size ≤ xad o S.heap.size old r
            unfold xad
            rw [if_neg (by omega)]
            omega
      have hst2 := (u_facts hfc hkC (u_lays F.2.2.2.2.1 c3 f2) hi).1
      have hlay := F.2.2.2.2.1 _ (c3 _ (u_in_lay f2))
      unfold u_lay at hlay
      rcases f6 with f6 | ⟨f6, f7, f8⟩
      · rw [if_neg (by rw [f6]; decide)] at hlay
        have h6 := u_store hfc hkC hkind hlay hi f4 hn hfit
        exact W.putK F.1 F.2.1 (f := f) ⟨F.2.2.2.1, F.2.2.2.2.1 _ f3, ⟨_, _, _, hi⟩, hst2⟩ (by rw [q2]; exact h6) q1 q3 (by rw [hsl2]; exact k2_hasslot (q4 _ f2)) rfl rfl hd fin
      · rw [if_pos f6] at hlay
        have hin2 : meth.name = "<init>" := hini (by
          have z : (Nat.blt (pool k).2.2.2 8 || ini) = true := hpf
          rw [Bool.or_eq_true] at z
          rcases z with z | z
          · have := Nat.le_of_ble_eq_true z; omega
          · exact z)
        have hcf : m.cls = cf := by
          obtain ⟨_, _, c', _, _, _, -, -, hf', -, -, -, hown2, -⟩ := Cond.laysFinal_spec hlay
          have e1 : c' = cf := by have := hi.symm.trans hf'; simp at this; exact this.1.symm
          rw [f8] at hown2
          rw [← e1]; exact Option.some.inj (F.2.2.2.1.symm.trans hown2)
        have h6 := u_fits hfc hkC hkind (Or.inr hlay) hi f4 hn hfit
        exact W.putFinK F.1 F.2.1 F.2.2.2.1 (F.2.2.2.2.1 _ f3) hi hst2 hcf hin2 (by rw [q2]; exact h6) q1 q3 (by rw [hsl2]; exact k2_hasslot (q4 _ f2)) rfl rfl hd fin
    next => cases h
  | [], _, h => cases h
  | [_], _, h => cases h
  | _ :: .inl _ :: _, _, h => cases h
  | _ :: .inr (.inl _) :: _, _, h => cases h
  | _ :: .inr (.inr (.inr _)) :: _, _, h => cases h
end Steps4
