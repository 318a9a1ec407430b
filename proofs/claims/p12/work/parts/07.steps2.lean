/-! ===== the steps, instruction by instruction: numbers, locals, stack, branches ===== -/
section Steps2
variable {p : Program} {l : Launch} {e : Env} {R : Room} {s : State} {m : MethodId} {args : Array Value} {below : List Frame} {meth : Method} {c : Code} {cc : ByteArray} {nL : Nat} {own : String} {S : State} {o : Nat} {old : Nat → Nat} {D : va_G} {c0 s0 : Nat} {Q : State → Prop}
variable {pc nx : Nat} {K : xK} {out : xE} {loc : List (Nat × xA)} {stk : List xA} {hp : xH} {ft : Nat → List Nat} {call : xF} {pool : Nat → xP} {hs : List (Nat × (Nat × (Nat × Nat)))}

theorem xi_iconst (F : xFx p s m args meth c cc nL own S) {len : Nat} {n : Int} (hd : decode cc pc = .ok (.iconst n, len)) (hl0 : len = xlen (.iconst n) len) (hx0 : nx = pc + len) (hst : xsto nL (.iconst n) = true) (hK : xHyp p l e R s m args below meth c nL S o old D c0 s0 Q K out) (h : xstep o ft call pool hs K (.iconst n) pc nx loc stk hp = some out) : xG p l e R s m args below meth c nL S o old D c0 s0 Q pc loc stk hp := by
  subst hx0
  have hl1 : len = 1 := hl0
  subst hl1
  exact xk_push F (a := .inl (x32 ((Int32.ofInt n)))) (v := .int (Int32.ofInt n)) (congrArg Value.int (xi32 _).symm) (fun _ _ _ _ _ _ k => lv_iconst F.1 F.2.1 hd rfl k) hK h
theorem xi_bipush (F : xFx p s m args meth c cc nL own S) {len : Nat} {n : Int} (hd : decode cc pc = .ok (.bipush n, len)) (hl0 : len = xlen (.bipush n) len) (hx0 : nx = pc + len) (hst : xsto nL (.bipush n) = true) (hK : xHyp p l e R s m args below meth c nL S o old D c0 s0 Q K out) (h : xstep o ft call pool hs K (.bipush n) pc nx loc stk hp = some out) : xG p l e R s m args below meth c nL S o old D c0 s0 Q pc loc stk hp := by
  subst hx0
  have hl1 : len = 2 := hl0
  subst hl1
  exact xk_push F (a := .inl (x32 ((Int8.ofInt n).toInt32))) (v := .int (Int8.ofInt n).toInt32) (congrArg Value.int (xi32 _).symm) (fun _ _ _ _ _ _ k => lv_bipush F.1 F.2.1 hd rfl k) hK h
theorem xi_sipush (F : xFx p s m args meth c cc nL own S) {len : Nat} {n : Int} (hd : decode cc pc = .ok (.sipush n, len)) (hl0 : len = xlen (.sipush n) len) (hx0 : nx = pc + len) (hst : xsto nL (.sipush n) = true) (hK : xHyp p l e R s m args below meth c nL S o old D c0 s0 Q K out) (h : xstep o ft call pool hs K (.sipush n) pc nx loc stk hp = some out) : xG p l e R s m args below meth c nL S o old D c0 s0 Q pc loc stk hp := by
  subst hx0
  have hl1 : len = 3 := hl0
  subst hl1
  exact xk_push F (a := .inl (x32 ((Int16.ofInt n).toInt32))) (v := .int (Int16.ofInt n).toInt32) (congrArg Value.int (xi32 _).symm) (fun _ _ _ _ _ _ k => lv_sipush F.1 F.2.1 hd rfl k) hK h
theorem xi_lconst (F : xFx p s m args meth c cc nL own S) {len : Nat} {n : Fin 2} (hd : decode cc pc = .ok (.lconst n, len)) (hl0 : len = xlen (.lconst n) len) (hx0 : nx = pc + len) (hst : xsto nL (.lconst n) = true) (hK : xHyp p l e R s m args below meth c nL S o old D c0 s0 Q K out) (h : xstep o ft call pool hs K (.lconst n) pc nx loc stk hp = some out) : xG p l e R s m args below meth c nL S o old D c0 s0 Q pc loc stk hp := by
  subst hx0
  have hl1 : len = 1 := hl0
  subst hl1
  exact xk_push F (a := .inr (.inl n.val)) (v := .long (Int64.ofNat n.val)) rfl (fun _ _ _ _ _ _ k => lv_lconst F.1 F.2.1 hd rfl k) hK h
theorem xi_aconst_null (F : xFx p s m args meth c cc nL own S) {len : Nat}  (hd : decode cc pc = .ok (.aconst_null, len)) (hl0 : len = xlen (.aconst_null) len) (hx0 : nx = pc + len) (hst : xsto nL (.aconst_null) = true) (hK : xHyp p l e R s m args below meth c nL S o old D c0 s0 Q K out) (h : xstep o ft call pool hs K (.aconst_null) pc nx loc stk hp = some out) : xG p l e R s m args below meth c nL S o old D c0 s0 Q pc loc stk hp := by
  subst hx0
  have hl1 : len = 1 := hl0
  subst hl1
  exact xk_push F (a := .inr (.inr (.inr (.inr (.inr (.inl false)))))) (v := .null) rfl (fun _ _ _ _ _ _ k => lv_null F.1 F.2.1 hd k) hK h
theorem xi_iload_n (F : xFx p s m args meth c cc nL own S) {len : Nat} {k : Fin 4} (hd : decode cc pc = .ok (.iload_n k, len)) (hl0 : len = xlen (.iload_n k) len) (hx0 : nx = pc + len) (hst : xsto nL (.iload_n k) = true) (hK : xHyp p l e R s m args below meth c nL S o old D c0 s0 Q K out) (h : xstep o ft call pool hs K (.iload_n k) pc nx loc stk hp = some out) : xG p l e R s m args below meth c nL S o old D c0 s0 Q pc loc stk hp := by
  subst hx0
  have hl1 : len = 1 := hl0
  subst hl1
  refine xk_load F (i := k.val) (kk := xik) (fun _ _ _ _ _ a v _ hl ha hk k9 => ?_) hK h
  obtain ⟨q, hq⟩ := isSome_of hk
  obtain ⟨x, rfl, -⟩ := xR_bd ha hq
  exact lv_iload_n F.1 F.2.1 hd rfl hl k9
theorem xi_iload (F : xFx p s m args meth c cc nL own S) {len : Nat} {k : Nat} (hd : decode cc pc = .ok (.iload k, len)) (hl0 : len = xlen (.iload k) len) (hx0 : nx = pc + len) (hst : xsto nL (.iload k) = true) (hK : xHyp p l e R s m args below meth c nL S o old D c0 s0 Q K out) (h : xstep o ft call pool hs K (.iload k) pc nx loc stk hp = some out) : xG p l e R s m args below meth c nL S o old D c0 s0 Q pc loc stk hp := by
  subst hx0
  have hl1 : len = 2 := hl0
  subst hl1
  refine xk_load F (i := k) (kk := xik) (fun _ _ _ _ _ a v _ hl ha hk k9 => ?_) hK h
  obtain ⟨q, hq⟩ := isSome_of hk
  obtain ⟨x, rfl, -⟩ := xR_bd ha hq
  exact lv_iload F.1 F.2.1 hd hl k9
theorem xi_lload_n (F : xFx p s m args meth c cc nL own S) {len : Nat} {k : Fin 4} (hd : decode cc pc = .ok (.lload_n k, len)) (hl0 : len = xlen (.lload_n k) len) (hx0 : nx = pc + len) (hst : xsto nL (.lload_n k) = true) (hK : xHyp p l e R s m args below meth c nL S o old D c0 s0 Q K out) (h : xstep o ft call pool hs K (.lload_n k) pc nx loc stk hp = some out) : xG p l e R s m args below meth c nL S o old D c0 s0 Q pc loc stk hp := by
  subst hx0
  have hl1 : len = 1 := hl0
  subst hl1
  refine xk_load F (i := k.val) (kk := xlk2) (fun _ _ _ _ _ a v _ hl ha hk k9 => ?_) hK h
  obtain ⟨q, hq⟩ := isSome_of hk
  obtain ⟨x, rfl, -⟩ := xR_bdl ha hq
  exact lv_lload_n F.1 F.2.1 hd rfl hl k9
theorem xi_lload (F : xFx p s m args meth c cc nL own S) {len : Nat} {k : Nat} (hd : decode cc pc = .ok (.lload k, len)) (hl0 : len = xlen (.lload k) len) (hx0 : nx = pc + len) (hst : xsto nL (.lload k) = true) (hK : xHyp p l e R s m args below meth c nL S o old D c0 s0 Q K out) (h : xstep o ft call pool hs K (.lload k) pc nx loc stk hp = some out) : xG p l e R s m args below meth c nL S o old D c0 s0 Q pc loc stk hp := by
  subst hx0
  have hl1 : len = 2 := hl0
  subst hl1
  refine xk_load F (i := k) (kk := xlk2) (fun _ _ _ _ _ a v _ hl ha hk k9 => ?_) hK h
  obtain ⟨q, hq⟩ := isSome_of hk
  obtain ⟨x, rfl, -⟩ := xR_bdl ha hq
  exact lv_lload F.1 F.2.1 hd hl k9
theorem xak_ok {ad : Nat → Nat} {a : xA} {v : Value} (h : xR ad a v) (hk : xak a = true) : v = .null ∨ ∃ q, v = .ref q := by
  rcases a with n | n | n | q | q | (_ | _) | k
  · cases hk
  · cases hk
  · exact Or.inr ⟨_, h⟩
  · cases hk
  · cases hk
  · exact Or.inl h
  · exact h
  · cases hk
theorem xi_aload_n (F : xFx p s m args meth c cc nL own S) {len : Nat} {k : Fin 4} (hd : decode cc pc = .ok (.aload_n k, len)) (hl0 : len = xlen (.aload_n k) len) (hx0 : nx = pc + len) (hst : xsto nL (.aload_n k) = true) (hK : xHyp p l e R s m args below meth c nL S o old D c0 s0 Q K out) (h : xstep o ft call pool hs K (.aload_n k) pc nx loc stk hp = some out) : xG p l e R s m args below meth c nL S o old D c0 s0 Q pc loc stk hp := by
  subst hx0
  have hl1 : len = 1 := hl0
  subst hl1
  refine xk_load F (i := k.val) (kk := xak) (fun _ _ _ _ _ a v _ hl ha hk k9 => ?_) hK h
  rcases xak_ok ha hk with rfl | ⟨q, rfl⟩
  · exact lv_aload_nN F.1 F.2.1 hd rfl hl k9
  · exact lv_aload_n F.1 F.2.1 hd rfl hl k9
theorem xi_aload (F : xFx p s m args meth c cc nL own S) {len : Nat} {k : Nat} (hd : decode cc pc = .ok (.aload k, len)) (hl0 : len = xlen (.aload k) len) (hx0 : nx = pc + len) (hst : xsto nL (.aload k) = true) (hK : xHyp p l e R s m args below meth c nL S o old D c0 s0 Q K out) (h : xstep o ft call pool hs K (.aload k) pc nx loc stk hp = some out) : xG p l e R s m args below meth c nL S o old D c0 s0 Q pc loc stk hp := by
  subst hx0
  have hl1 : len = 2 := hl0
  subst hl1
  refine xk_load F (i := k) (kk := xak) (fun _ _ _ _ _ a v _ hl ha hk k9 => ?_) hK h
  rcases xak_ok ha hk with rfl | ⟨q, rfl⟩
  · exact lv_aloadN F.1 F.2.1 hd hl k9
  · exact lv_aload F.1 F.2.1 hd hl k9
theorem xi_istore_n (F : xFx p s m args meth c cc nL own S) {len : Nat} {k : Fin 4} (hd : decode cc pc = .ok (.istore_n k, len)) (hl0 : len = xlen (.istore_n k) len) (hx0 : nx = pc + len) (hst : xsto nL (.istore_n k) = true) (hK : xHyp p l e R s m args below meth c nL S o old D c0 s0 Q K out) (h : xstep o ft call pool hs K (.istore_n k) pc nx loc stk hp = some out) : xG p l e R s m args below meth c nL S o old D c0 s0 Q pc loc stk hp := by
  subst hx0
  have hl1 : len = 1 := hl0
  subst hl1
  refine xk_store1 F (i := k.val) (kk := xik) (fun _ _ _ _ _ _ a v _ hlv ha hk k9 => ?_) hK h
  obtain ⟨q, hq⟩ := isSome_of hk
  obtain ⟨x, rfl, -⟩ := xR_bd ha hq
  exact lv_istore_n F.1 F.2.1 hd rfl hlv (Nat.le_of_ble_eq_true hst) rfl k9
theorem xi_istore (F : xFx p s m args meth c cc nL own S) {len : Nat} {k : Nat} (hd : decode cc pc = .ok (.istore k, len)) (hl0 : len = xlen (.istore k) len) (hx0 : nx = pc + len) (hst : xsto nL (.istore k) = true) (hK : xHyp p l e R s m args below meth c nL S o old D c0 s0 Q K out) (h : xstep o ft call pool hs K (.istore k) pc nx loc stk hp = some out) : xG p l e R s m args below meth c nL S o old D c0 s0 Q pc loc stk hp := by
  subst hx0
  have hl1 : len = 2 := hl0
  subst hl1
  refine xk_store1 F (i := k) (kk := xik) (fun _ _ _ _ _ _ a v _ hlv ha hk k9 => ?_) hK h
  obtain ⟨q, hq⟩ := isSome_of hk
  obtain ⟨x, rfl, -⟩ := xR_bd ha hq
  exact lv_istore F.1 F.2.1 hd hlv (Nat.le_of_ble_eq_true hst) rfl k9
theorem xi_lstore_n (F : xFx p s m args meth c cc nL own S) {len : Nat} {k : Fin 4} (hd : decode cc pc = .ok (.lstore_n k, len)) (hl0 : len = xlen (.lstore_n k) len) (hx0 : nx = pc + len) (hst : xsto nL (.lstore_n k) = true) (hK : xHyp p l e R s m args below meth c nL S o old D c0 s0 Q K out) (h : xstep o ft call pool hs K (.lstore_n k) pc nx loc stk hp = some out) : xG p l e R s m args below meth c nL S o old D c0 s0 Q pc loc stk hp := by
  subst hx0
  have hl1 : len = 1 := hl0
  subst hl1
  refine xk_store2 F (i := k.val) (kk := xlk2) (fun _ _ _ _ _ _ a v _ hlv ha hk k9 => ?_) hK h
  obtain ⟨q, hq⟩ := isSome_of hk
  obtain ⟨x, rfl, -⟩ := xR_bdl ha hq
  exact lv_lstore_n F.1 F.2.1 hd rfl hlv (Nat.le_of_ble_eq_true hst) rfl k9
theorem xi_lstore (F : xFx p s m args meth c cc nL own S) {len : Nat} {k : Nat} (hd : decode cc pc = .ok (.lstore k, len)) (hl0 : len = xlen (.lstore k) len) (hx0 : nx = pc + len) (hst : xsto nL (.lstore k) = true) (hK : xHyp p l e R s m args below meth c nL S o old D c0 s0 Q K out) (h : xstep o ft call pool hs K (.lstore k) pc nx loc stk hp = some out) : xG p l e R s m args below meth c nL S o old D c0 s0 Q pc loc stk hp := by
  subst hx0
  have hl1 : len = 2 := hl0
  subst hl1
  refine xk_store2 F (i := k) (kk := xlk2) (fun _ _ _ _ _ _ a v _ hlv ha hk k9 => ?_) hK h
  obtain ⟨q, hq⟩ := isSome_of hk
  obtain ⟨x, rfl, -⟩ := xR_bdl ha hq
  exact lv_lstore F.1 F.2.1 hd hlv (Nat.le_of_ble_eq_true hst) rfl k9
theorem xi_astore_n (F : xFx p s m args meth c cc nL own S) {len : Nat} {k : Fin 4} (hd : decode cc pc = .ok (.astore_n k, len)) (hl0 : len = xlen (.astore_n k) len) (hx0 : nx = pc + len) (hst : xsto nL (.astore_n k) = true) (hK : xHyp p l e R s m args below meth c nL S o old D c0 s0 Q K out) (h : xstep o ft call pool hs K (.astore_n k) pc nx loc stk hp = some out) : xG p l e R s m args below meth c nL S o old D c0 s0 Q pc loc stk hp := by
  subst hx0
  have hl1 : len = 1 := hl0
  subst hl1
  refine xk_store1 F (i := k.val) (kk := xak) (fun _ _ _ _ _ _ a v _ hlv ha hk k9 => ?_) hK h
  rcases xak_ok ha hk with rfl | ⟨q, rfl⟩
  · exact lv_astore_nN F.1 F.2.1 hd rfl hlv (Nat.le_of_ble_eq_true hst) rfl k9
  · exact lv_astore_n F.1 F.2.1 hd rfl hlv (Nat.le_of_ble_eq_true hst) rfl k9
theorem xi_astore (F : xFx p s m args meth c cc nL own S) {len : Nat} {k : Nat} (hd : decode cc pc = .ok (.astore k, len)) (hl0 : len = xlen (.astore k) len) (hx0 : nx = pc + len) (hst : xsto nL (.astore k) = true) (hK : xHyp p l e R s m args below meth c nL S o old D c0 s0 Q K out) (h : xstep o ft call pool hs K (.astore k) pc nx loc stk hp = some out) : xG p l e R s m args below meth c nL S o old D c0 s0 Q pc loc stk hp := by
  subst hx0
  have hl1 : len = 2 := hl0
  subst hl1
  refine xk_store1 F (i := k) (kk := xak) (fun _ _ _ _ _ _ a v _ hlv ha hk k9 => ?_) hK h
  rcases xak_ok ha hk with rfl | ⟨q, rfl⟩
  · exact lv_astoreN F.1 F.2.1 hd hlv (Nat.le_of_ble_eq_true hst) rfl k9
  · exact lv_astore F.1 F.2.1 hd hlv (Nat.le_of_ble_eq_true hst) rfl k9
theorem xi_iinc (F : xFx p s m args meth c cc nL own S) {len : Nat} {k : Nat} {n : Int} (hd : decode cc pc = .ok (.iinc k n, len)) (hl0 : len = xlen (.iinc k n) len) (hx0 : nx = pc + len) (hst : xsto nL (.iinc k n) = true) (hK : xHyp p l e R s m args below meth c nL S o old D c0 s0 Q K out) (h : xstep o ft call pool hs K (.iinc k n) pc nx loc stk hp = some out) : xG p l e R s m args below meth c nL S o old D c0 s0 Q pc loc stk hp := by
  subst hx0
  have hl1 : len = 3 := hl0
  subst hl1
  intro H locs cells slots ls lv st hlv hl hs1 hh hlo hc hsl
  obtain ⟨a, ha, h⟩ := xj_some (show xj (xlk loc k) _ = some out from h)
  obtain ⟨b, hb, h⟩ := xj_some h
  obtain ⟨q, v, h5, h6⟩ := xlk_ok hl ha
  obtain ⟨x, y, rfl, hy, hr⟩ := xbin_ok (op := fun x y => x + y) xi32add h6 (show xR (xad o S.heap.size old) (.inl (x32 (Int32.ofInt n))) (.int (Int32.ofInt n)) by show Value.int _ = _; rw [xi32]) hb
  cases hy
  exact lv_iinc F.1 F.2.1 hd hlv h5 rfl (Nat.le_of_ble_eq_true hst) rfl fun ls' hlv' => hK _ _ _ _ h H locs cells slots ls' _ _ hlv' (xst1_ok hl hr) hs1 hh hlo hc hsl
theorem xi_iadd (F : xFx p s m args meth c cc nL own S) {len : Nat}  (hd : decode cc pc = .ok (.iadd, len)) (hl0 : len = xlen (.iadd) len) (hx0 : nx = pc + len) (hst : xsto nL (.iadd) = true) (hK : xHyp p l e R s m args below meth c nL S o old D c0 s0 Q K out) (h : xstep o ft call pool hs K (.iadd) pc nx loc stk hp = some out) : xG p l e R s m args below meth c nL S o old D c0 s0 Q pc loc stk hp := by
  subst hx0
  have hl1 : len = 1 := hl0
  subst hl1
  exact xk_ii F (op := fun x y => x + y) (xi32add) (fun _ _ _ _ _ _ _ _ k => lv_iadd F.1 F.2.1 hd k) hK h
theorem xi_isub (F : xFx p s m args meth c cc nL own S) {len : Nat}  (hd : decode cc pc = .ok (.isub, len)) (hl0 : len = xlen (.isub) len) (hx0 : nx = pc + len) (hst : xsto nL (.isub) = true) (hK : xHyp p l e R s m args below meth c nL S o old D c0 s0 Q K out) (h : xstep o ft call pool hs K (.isub) pc nx loc stk hp = some out) : xG p l e R s m args below meth c nL S o old D c0 s0 Q pc loc stk hp := by
  subst hx0
  have hl1 : len = 1 := hl0
  subst hl1
  exact xk_ii F (op := fun x y => x - y) (xi32sub) (fun _ _ _ _ _ _ _ _ k => lv_isub F.1 F.2.1 hd k) hK h
theorem xi_imul (F : xFx p s m args meth c cc nL own S) {len : Nat}  (hd : decode cc pc = .ok (.imul, len)) (hl0 : len = xlen (.imul) len) (hx0 : nx = pc + len) (hst : xsto nL (.imul) = true) (hK : xHyp p l e R s m args below meth c nL S o old D c0 s0 Q K out) (h : xstep o ft call pool hs K (.imul) pc nx loc stk hp = some out) : xG p l e R s m args below meth c nL S o old D c0 s0 Q pc loc stk hp := by
  subst hx0
  have hl1 : len = 1 := hl0
  subst hl1
  exact xk_ii F (op := fun x y => x * y) (xi32mul) (fun _ _ _ _ _ _ _ _ k => lv_imul F.1 F.2.1 hd k) hK h
theorem xi_ior (F : xFx p s m args meth c cc nL own S) {len : Nat}  (hd : decode cc pc = .ok (.ior, len)) (hl0 : len = xlen (.ior) len) (hx0 : nx = pc + len) (hst : xsto nL (.ior) = true) (hK : xHyp p l e R s m args below meth c nL S o old D c0 s0 Q K out) (h : xstep o ft call pool hs K (.ior) pc nx loc stk hp = some out) : xG p l e R s m args below meth c nL S o old D c0 s0 Q pc loc stk hp := by
  subst hx0
  have hl1 : len = 1 := hl0
  subst hl1
  exact xk_ii F (op := fun x y => x ||| y) (fun _ _ => xi32 _) (fun _ _ _ _ _ _ _ _ k => lv_ior F.1 F.2.1 hd k) hK h
theorem xi_ixor (F : xFx p s m args meth c cc nL own S) {len : Nat}  (hd : decode cc pc = .ok (.ixor, len)) (hl0 : len = xlen (.ixor) len) (hx0 : nx = pc + len) (hst : xsto nL (.ixor) = true) (hK : xHyp p l e R s m args below meth c nL S o old D c0 s0 Q K out) (h : xstep o ft call pool hs K (.ixor) pc nx loc stk hp = some out) : xG p l e R s m args below meth c nL S o old D c0 s0 Q pc loc stk hp := by
  subst hx0
  have hl1 : len = 1 := hl0
  subst hl1
  exact xk_ii F (op := fun x y => x ^^^ y) (fun _ _ => xi32 _) (fun _ _ _ _ _ _ _ _ k => lv_ixor F.1 F.2.1 hd k) hK h
theorem xi_ishl (F : xFx p s m args meth c cc nL own S) {len : Nat}  (hd : decode cc pc = .ok (.ishl, len)) (hl0 : len = xlen (.ishl) len) (hx0 : nx = pc + len) (hst : xsto nL (.ishl) = true) (hK : xHyp p l e R s m args below meth c nL S o old D c0 s0 Q K out) (h : xstep o ft call pool hs K (.ishl) pc nx loc stk hp = some out) : xG p l e R s m args below meth c nL S o old D c0 s0 Q pc loc stk hp := by
  subst hx0
  have hl1 : len = 1 := hl0
  subst hl1
  exact xk_ii F (op := fun x y => x <<< (y &&& 31)) (fun _ _ => xi32 _) (fun _ _ _ _ _ _ _ _ k => lv_ishl F.1 F.2.1 hd k) hK h
theorem xi_ishr (F : xFx p s m args meth c cc nL own S) {len : Nat}  (hd : decode cc pc = .ok (.ishr, len)) (hl0 : len = xlen (.ishr) len) (hx0 : nx = pc + len) (hst : xsto nL (.ishr) = true) (hK : xHyp p l e R s m args below meth c nL S o old D c0 s0 Q K out) (h : xstep o ft call pool hs K (.ishr) pc nx loc stk hp = some out) : xG p l e R s m args below meth c nL S o old D c0 s0 Q pc loc stk hp := by
  subst hx0
  have hl1 : len = 1 := hl0
  subst hl1
  exact xk_ii F (op := fun x y => x >>> (y &&& 31)) (fun _ _ => xi32 _) (fun _ _ _ _ _ _ _ _ k => lv_ishr F.1 F.2.1 hd k) hK h
theorem xi_iushr (F : xFx p s m args meth c cc nL own S) {len : Nat}  (hd : decode cc pc = .ok (.iushr, len)) (hl0 : len = xlen (.iushr) len) (hx0 : nx = pc + len) (hst : xsto nL (.iushr) = true) (hK : xHyp p l e R s m args below meth c nL S o old D c0 s0 Q K out) (h : xstep o ft call pool hs K (.iushr) pc nx loc stk hp = some out) : xG p l e R s m args below meth c nL S o old D c0 s0 Q pc loc stk hp := by
  subst hx0
  have hl1 : len = 1 := hl0
  subst hl1
  exact xk_ii F (op := fun x y => (x.toUInt32 >>> (y.toUInt32 &&& Int32.toUInt32 31)).toInt32) (fun _ _ => xi32 _) (fun _ _ _ _ _ _ _ _ k => lv_iushr F.1 F.2.1 hd rfl k) hK h
theorem xi_ladd (F : xFx p s m args meth c cc nL own S) {len : Nat}  (hd : decode cc pc = .ok (.ladd, len)) (hl0 : len = xlen (.ladd) len) (hx0 : nx = pc + len) (hst : xsto nL (.ladd) = true) (hK : xHyp p l e R s m args below meth c nL S o old D c0 s0 Q K out) (h : xstep o ft call pool hs K (.ladd) pc nx loc stk hp = some out) : xG p l e R s m args below meth c nL S o old D c0 s0 Q pc loc stk hp := by
  subst hx0
  have hl1 : len = 1 := hl0
  subst hl1
  exact xk_ll F (op := fun x y => x + y) (fun _ _ => xi64 _) (fun _ _ _ _ _ _ _ _ k => lv_ladd F.1 F.2.1 hd k) hK h
theorem xi_lsub (F : xFx p s m args meth c cc nL own S) {len : Nat}  (hd : decode cc pc = .ok (.lsub, len)) (hl0 : len = xlen (.lsub) len) (hx0 : nx = pc + len) (hst : xsto nL (.lsub) = true) (hK : xHyp p l e R s m args below meth c nL S o old D c0 s0 Q K out) (h : xstep o ft call pool hs K (.lsub) pc nx loc stk hp = some out) : xG p l e R s m args below meth c nL S o old D c0 s0 Q pc loc stk hp := by
  subst hx0
  have hl1 : len = 1 := hl0
  subst hl1
  exact xk_ll F (op := fun x y => x - y) (fun _ _ => xi64 _) (fun _ _ _ _ _ _ _ _ k => lv_lsub F.1 F.2.1 hd k) hK h
theorem xi_lmul (F : xFx p s m args meth c cc nL own S) {len : Nat}  (hd : decode cc pc = .ok (.lmul, len)) (hl0 : len = xlen (.lmul) len) (hx0 : nx = pc + len) (hst : xsto nL (.lmul) = true) (hK : xHyp p l e R s m args below meth c nL S o old D c0 s0 Q K out) (h : xstep o ft call pool hs K (.lmul) pc nx loc stk hp = some out) : xG p l e R s m args below meth c nL S o old D c0 s0 Q pc loc stk hp := by
  subst hx0
  have hl1 : len = 1 := hl0
  subst hl1
  exact xk_ll F (op := fun x y => x * y) (fun _ _ => xi64 _) (fun _ _ _ _ _ _ _ _ k => lv_lmul F.1 F.2.1 hd k) hK h
theorem xi_land (F : xFx p s m args meth c cc nL own S) {len : Nat}  (hd : decode cc pc = .ok (.land, len)) (hl0 : len = xlen (.land) len) (hx0 : nx = pc + len) (hst : xsto nL (.land) = true) (hK : xHyp p l e R s m args below meth c nL S o old D c0 s0 Q K out) (h : xstep o ft call pool hs K (.land) pc nx loc stk hp = some out) : xG p l e R s m args below meth c nL S o old D c0 s0 Q pc loc stk hp := by
  subst hx0
  have hl1 : len = 1 := hl0
  subst hl1
  exact xk_ll F (op := fun x y => x &&& y) (fun _ _ => xi64 _) (fun _ _ _ _ _ _ _ _ k => lv_land F.1 F.2.1 hd k) hK h
theorem xi_lor (F : xFx p s m args meth c cc nL own S) {len : Nat}  (hd : decode cc pc = .ok (.lor, len)) (hl0 : len = xlen (.lor) len) (hx0 : nx = pc + len) (hst : xsto nL (.lor) = true) (hK : xHyp p l e R s m args below meth c nL S o old D c0 s0 Q K out) (h : xstep o ft call pool hs K (.lor) pc nx loc stk hp = some out) : xG p l e R s m args below meth c nL S o old D c0 s0 Q pc loc stk hp := by
  subst hx0
  have hl1 : len = 1 := hl0
  subst hl1
  exact xk_ll F (op := fun x y => x ||| y) (fun _ _ => xi64 _) (fun _ _ _ _ _ _ _ _ k => lv_lor F.1 F.2.1 hd k) hK h
theorem xi_lxor (F : xFx p s m args meth c cc nL own S) {len : Nat}  (hd : decode cc pc = .ok (.lxor, len)) (hl0 : len = xlen (.lxor) len) (hx0 : nx = pc + len) (hst : xsto nL (.lxor) = true) (hK : xHyp p l e R s m args below meth c nL S o old D c0 s0 Q K out) (h : xstep o ft call pool hs K (.lxor) pc nx loc stk hp = some out) : xG p l e R s m args below meth c nL S o old D c0 s0 Q pc loc stk hp := by
  subst hx0
  have hl1 : len = 1 := hl0
  subst hl1
  exact xk_ll F (op := fun x y => x ^^^ y) (fun _ _ => xi64 _) (fun _ _ _ _ _ _ _ _ k => lv_lxor F.1 F.2.1 hd k) hK h
theorem xand_ok {ad : Nat → Nat} {a b w : xA} {u v : Value} (ha : xR ad a u) (hb : xR ad b v) (h : xand a b = some w) : ∃ x y : Int32, u = .int x ∧ v = .int y ∧ xR ad w (.int (x &&& y)) := by
  have gen : xbin (fun x y => x32 (Int32.ofNat x &&& Int32.ofNat y)) a b = some w → ∃ x y : Int32, u = .int x ∧ v = .int y ∧ xR ad w (.int (x &&& y)) := fun h => xbin_ok (op := fun x y => x &&& y) (fun _ _ => xi32 _) ha hb h
  unfold xand at h
  split at h
  · obtain ⟨x, rfl, hx⟩ := ha
    cases hb
    cases h
    exact ⟨x, 63, rfl, rfl, by show Value.int _ = _; rw [hx]⟩
  · exact gen h
theorem xdivi_ok {ad : Nat → Nat} {f : Nat → Nat → Nat} {op : Int32 → Int32 → Int32} (hf : ∀ x y, Int32.ofNat (f x y) = op (Int32.ofNat x) (Int32.ofNat y)) {a b w : xA} {u v : Value} (ha : xR ad a u) (hb : xR ad b v) (h : xdivi f a b = some w) : ∃ x y : Int32, u = .int x ∧ v = .int y ∧ ¬ y = 0 ∧ xR ad w (.int (op x y)) := by
  rcases b with n | n
  · have h' : cond (Nat.beq (xm32 n) 0) none (xbin f a (.inl n)) = some w := h
    cases hz : Nat.beq (xm32 n) 0 with
    | true => rw [hz] at h'; cases h'
    | false =>
      rw [hz] at h'
      obtain ⟨x, y, h1, h2, h3⟩ := xbin_ok hf ha hb h'
      refine ⟨x, y, h1, h2, fun e => ?_, h3⟩
      have e2 : Int32.ofNat n = y := by
        have := hb.symm.trans h2
        cases this; rfl
      have e3 : (BitVec.ofNat 32 n).toNat = 0 := by
        rw [← xtb n, e2, e]; rfl
      rw [BitVec.toNat_ofNat] at e3
      have e4 : Nat.beq (n % 4294967296) 0 = true := by rw [show n % 4294967296 = 0 from e3]; rfl
      exact Bool.noConfusion (hz.symm.trans e4)
  · cases h
theorem xdivl_ok {ad : Nat → Nat} {f : Nat → Nat → Nat} {op : Int64 → Int64 → Int64} (hf : ∀ x y, Int64.ofNat (f x y) = op (Int64.ofNat x) (Int64.ofNat y)) {a b w : xA} {u v : Value} (ha : xR ad a u) (hb : xR ad b v) (h : xdivl f a b = some w) : ∃ x y : Int64, u = .long x ∧ v = .long y ∧ ¬ y = 0 ∧ xR ad w (.long (op x y)) := by
  rcases b with n | n | n
  · cases h
  · have h' : cond (Nat.beq (xm64 n) 0) none (xbinl f a (.inr (.inl n))) = some w := h
    cases hz : Nat.beq (xm64 n) 0 with
    | true => rw [hz] at h'; cases h'
    | false =>
      rw [hz] at h'
      obtain ⟨x, y, h1, h2, h3⟩ := xbinl_ok hf ha hb h'
      refine ⟨x, y, h1, h2, fun e => ?_, h3⟩
      have e2 : Int64.ofNat n = y := by
        have := hb.symm.trans h2
        cases this; rfl
      have e3 : (BitVec.ofNat 64 n).toNat = 0 := by
        rw [← xtbL n, e2, e]; rfl
      rw [BitVec.toNat_ofNat] at e3
      have e4 : Nat.beq (n % 18446744073709551616) 0 = true := by rw [show n % 18446744073709551616 = 0 from e3]; rfl
      exact Bool.noConfusion (hz.symm.trans e4)
  · cases h
theorem xshl_ok {ad : Nat → Nat} {f : Nat → Nat → Nat} {op : Int64 → Int32 → Int64} (hf : ∀ x y, Int64.ofNat (f x y) = op (Int64.ofNat x) (Int32.ofNat y)) {a b w : xA} {u v : Value} (ha : xR ad a u) (hb : xR ad b v) (h : xshl f a b = some w) : ∃ (x : Int64) (y : Int32), u = .long x ∧ v = .int y ∧ xR ad w (.long (op x y)) := by
  unfold xshl at h
  split at h
  · cases ha; cases hb; cases h
    exact ⟨_, _, rfl, rfl, by show Value.long _ = _; rw [hf]⟩
  · cases h
theorem xi_iand (F : xFx p s m args meth c cc nL own S) {len : Nat}  (hd : decode cc pc = .ok (.iand, len)) (hl0 : len = xlen (.iand) len) (hx0 : nx = pc + len) (hst : xsto nL (.iand) = true) (hK : xHyp p l e R s m args below meth c nL S o old D c0 s0 Q K out) (h : xstep o ft call pool hs K (.iand) pc nx loc stk hp = some out) : xG p l e R s m args below meth c nL S o old D c0 s0 Q pc loc stk hp := by
  subst hx0
  have hl1 : len = 1 := hl0
  subst hl1
  refine xk_two F (g := _) (wv := fun v z u => ∃ x y : Int32, v = .int x ∧ z = .int y ∧ u = .int (x &&& y)) (fun ha hb hr => ?_) (fun _ _ _ _ _ v z u _ hu k => ?_) hK h
  · obtain ⟨x, y, e1, e2, hr2⟩ := xand_ok ha hb hr
    exact ⟨_, ⟨x, y, e1, e2, rfl⟩, hr2⟩
  · obtain ⟨x, y, rfl, rfl, rfl⟩ := hu
    exact lv_iand F.1 F.2.1 hd k
theorem xi_idiv (F : xFx p s m args meth c cc nL own S) {len : Nat}  (hd : decode cc pc = .ok (.idiv, len)) (hl0 : len = xlen (.idiv) len) (hx0 : nx = pc + len) (hst : xsto nL (.idiv) = true) (hK : xHyp p l e R s m args below meth c nL S o old D c0 s0 Q K out) (h : xstep o ft call pool hs K (.idiv) pc nx loc stk hp = some out) : xG p l e R s m args below meth c nL S o old D c0 s0 Q pc loc stk hp := by
  subst hx0
  have hl1 : len = 1 := hl0
  subst hl1
  refine xk_two F (g := _) (wv := fun v z u => ∃ x y : Int32, v = .int x ∧ z = .int y ∧ ¬ y = 0 ∧ u = .int (x / y)) (fun ha hb hr => ?_) (fun _ _ _ _ _ v z u _ hu k => ?_) hK h
  · obtain ⟨x, y, e1, e2, hne, hr2⟩ := xdivi_ok (op := fun x y => x / y) (fun _ _ => xi32 _) ha hb hr
    exact ⟨_, ⟨x, y, e1, e2, hne, rfl⟩, hr2⟩
  · obtain ⟨x, y, rfl, rfl, hne, rfl⟩ := hu
    exact lv_idiv F.1 F.2.1 hd hne k
theorem xi_irem (F : xFx p s m args meth c cc nL own S) {len : Nat}  (hd : decode cc pc = .ok (.irem, len)) (hl0 : len = xlen (.irem) len) (hx0 : nx = pc + len) (hst : xsto nL (.irem) = true) (hK : xHyp p l e R s m args below meth c nL S o old D c0 s0 Q K out) (h : xstep o ft call pool hs K (.irem) pc nx loc stk hp = some out) : xG p l e R s m args below meth c nL S o old D c0 s0 Q pc loc stk hp := by
  subst hx0
  have hl1 : len = 1 := hl0
  subst hl1
  refine xk_two F (g := _) (wv := fun v z u => ∃ x y : Int32, v = .int x ∧ z = .int y ∧ ¬ y = 0 ∧ u = .int (x - (x / y) * y)) (fun ha hb hr => ?_) (fun _ _ _ _ _ v z u _ hu k => ?_) hK h
  · obtain ⟨x, y, e1, e2, hne, hr2⟩ := xdivi_ok (op := fun x y => x - (x / y) * y) (fun _ _ => xi32 _) ha hb hr
    exact ⟨_, ⟨x, y, e1, e2, hne, rfl⟩, hr2⟩
  · obtain ⟨x, y, rfl, rfl, hne, rfl⟩ := hu
    exact lv_irem F.1 F.2.1 hd hne k
theorem xi_ldiv (F : xFx p s m args meth c cc nL own S) {len : Nat}  (hd : decode cc pc = .ok (.ldiv, len)) (hl0 : len = xlen (.ldiv) len) (hx0 : nx = pc + len) (hst : xsto nL (.ldiv) = true) (hK : xHyp p l e R s m args below meth c nL S o old D c0 s0 Q K out) (h : xstep o ft call pool hs K (.ldiv) pc nx loc stk hp = some out) : xG p l e R s m args below meth c nL S o old D c0 s0 Q pc loc stk hp := by
  subst hx0
  have hl1 : len = 1 := hl0
  subst hl1
  refine xk_two F (g := _) (wv := fun v z u => ∃ x y : Int64, v = .long x ∧ z = .long y ∧ ¬ y = 0 ∧ u = .long (x / y)) (fun ha hb hr => ?_) (fun _ _ _ _ _ v z u _ hu k => ?_) hK h
  · obtain ⟨x, y, e1, e2, hne, hr2⟩ := xdivl_ok (op := fun x y => x / y) (fun _ _ => xi64 _) ha hb hr
    exact ⟨_, ⟨x, y, e1, e2, hne, rfl⟩, hr2⟩
  · obtain ⟨x, y, rfl, rfl, hne, rfl⟩ := hu
    exact lv_ldiv F.1 F.2.1 hd hne k
theorem xi_lrem (F : xFx p s m args meth c cc nL own S) {len : Nat}  (hd : decode cc pc = .ok (.lrem, len)) (hl0 : len = xlen (.lrem) len) (hx0 : nx = pc + len) (hst : xsto nL (.lrem) = true) (hK : xHyp p l e R s m args below meth c nL S o old D c0 s0 Q K out) (h : xstep o ft call pool hs K (.lrem) pc nx loc stk hp = some out) : xG p l e R s m args below meth c nL S o old D c0 s0 Q pc loc stk hp := by
  subst hx0
  have hl1 : len = 1 := hl0
  subst hl1
  refine xk_two F (g := _) (wv := fun v z u => ∃ x y : Int64, v = .long x ∧ z = .long y ∧ ¬ y = 0 ∧ u = .long (x - (x / y) * y)) (fun ha hb hr => ?_) (fun _ _ _ _ _ v z u _ hu k => ?_) hK h
  · obtain ⟨x, y, e1, e2, hne, hr2⟩ := xdivl_ok (op := fun x y => x - (x / y) * y) (fun _ _ => xi64 _) ha hb hr
    exact ⟨_, ⟨x, y, e1, e2, hne, rfl⟩, hr2⟩
  · obtain ⟨x, y, rfl, rfl, hne, rfl⟩ := hu
    exact lv_lrem F.1 F.2.1 hd hne k
theorem xi_lshl (F : xFx p s m args meth c cc nL own S) {len : Nat}  (hd : decode cc pc = .ok (.lshl, len)) (hl0 : len = xlen (.lshl) len) (hx0 : nx = pc + len) (hst : xsto nL (.lshl) = true) (hK : xHyp p l e R s m args below meth c nL S o old D c0 s0 Q K out) (h : xstep o ft call pool hs K (.lshl) pc nx loc stk hp = some out) : xG p l e R s m args below meth c nL S o old D c0 s0 Q pc loc stk hp := by
  subst hx0
  have hl1 : len = 1 := hl0
  subst hl1
  refine xk_two F (g := _) (wv := fun v z u => ∃ (x : Int64) (y : Int32), v = .long x ∧ z = .int y ∧ u = .long (x <<< (y.toInt64 &&& 63))) (fun ha hb hr => ?_) (fun _ _ _ _ _ v z u _ hu k => ?_) hK h
  · obtain ⟨x, y, e1, e2, hr2⟩ := xshl_ok (op := fun x y => x <<< (y.toInt64 &&& 63)) (fun _ _ => xi64 _) ha hb hr
    exact ⟨_, ⟨x, y, e1, e2, rfl⟩, hr2⟩
  · obtain ⟨x, y, rfl, rfl, rfl⟩ := hu
    exact lv_lshl F.1 F.2.1 hd rfl k
theorem xi_lshr (F : xFx p s m args meth c cc nL own S) {len : Nat}  (hd : decode cc pc = .ok (.lshr, len)) (hl0 : len = xlen (.lshr) len) (hx0 : nx = pc + len) (hst : xsto nL (.lshr) = true) (hK : xHyp p l e R s m args below meth c nL S o old D c0 s0 Q K out) (h : xstep o ft call pool hs K (.lshr) pc nx loc stk hp = some out) : xG p l e R s m args below meth c nL S o old D c0 s0 Q pc loc stk hp := by
  subst hx0
  have hl1 : len = 1 := hl0
  subst hl1
  refine xk_two F (g := _) (wv := fun v z u => ∃ (x : Int64) (y : Int32), v = .long x ∧ z = .int y ∧ u = .long (x >>> (y.toInt64 &&& 63))) (fun ha hb hr => ?_) (fun _ _ _ _ _ v z u _ hu k => ?_) hK h
  · obtain ⟨x, y, e1, e2, hr2⟩ := xshl_ok (op := fun x y => x >>> (y.toInt64 &&& 63)) (fun _ _ => xi64 _) ha hb hr
    exact ⟨_, ⟨x, y, e1, e2, rfl⟩, hr2⟩
  · obtain ⟨x, y, rfl, rfl, rfl⟩ := hu
    exact lv_lshr F.1 F.2.1 hd rfl k
theorem xi_lushr (F : xFx p s m args meth c cc nL own S) {len : Nat}  (hd : decode cc pc = .ok (.lushr, len)) (hl0 : len = xlen (.lushr) len) (hx0 : nx = pc + len) (hst : xsto nL (.lushr) = true) (hK : xHyp p l e R s m args below meth c nL S o old D c0 s0 Q K out) (h : xstep o ft call pool hs K (.lushr) pc nx loc stk hp = some out) : xG p l e R s m args below meth c nL S o old D c0 s0 Q pc loc stk hp := by
  subst hx0
  have hl1 : len = 1 := hl0
  subst hl1
  refine xk_two F (g := _) (wv := fun v z u => ∃ (x : Int64) (y : Int32), v = .long x ∧ z = .int y ∧ u = .long ((x.toUInt64 >>> (y.toInt64.toUInt64 &&& Int64.toUInt64 63)).toInt64)) (fun ha hb hr => ?_) (fun _ _ _ _ _ v z u _ hu k => ?_) hK h
  · obtain ⟨x, y, e1, e2, hr2⟩ := xshl_ok (op := fun x y => (x.toUInt64 >>> (y.toInt64.toUInt64 &&& Int64.toUInt64 63)).toInt64) (fun _ _ => xi64 _) ha hb hr
    exact ⟨_, ⟨x, y, e1, e2, rfl⟩, hr2⟩
  · obtain ⟨x, y, rfl, rfl, rfl⟩ := hu
    exact lv_lushr F.1 F.2.1 hd rfl k
theorem xlt_ok {p q : Nat × Nat} {x y : Nat} {b : Bool} (h1 : p.1 ≤ x ∧ x ≤ p.2) (h2 : q.1 ≤ y ∧ y ≤ q.2) (h : xlt p q = some b) : b = true ↔ x < y := by
  unfold xlt at h
  cases ha : Nat.blt p.2 q.1 with
  | true =>
    rw [ha] at h
    cases h
    have := Nat.le_of_ble_eq_true ha
    constructor
    · intro _; omega
    · intro _; rfl
  | false =>
    rw [ha] at h
    obtain ⟨h3, h4⟩ := cond_some h
    cases h4
    have := Nat.le_of_ble_eq_true h3
    constructor
    · intro z; cases z
    · intro z; omega
theorem xeq_ok {p q : Nat × Nat} {x y : Nat} {b : Bool} (h1 : p.1 ≤ x ∧ x ≤ p.2) (h2 : q.1 ≤ y ∧ y ≤ q.2) (h : xeq p q = some b) : b = true ↔ x = y := by
  unfold xeq at h
  cases ha : (Nat.blt p.2 q.1 || Nat.blt q.2 p.1) with
  | true =>
    rw [ha] at h
    cases h
    rw [Bool.or_eq_true] at ha
    constructor
    · intro z; cases z
    · intro z
      rcases ha with ha | ha
      · have := Nat.le_of_ble_eq_true ha; omega
      · have := Nat.le_of_ble_eq_true ha; omega
  | false =>
    rw [ha] at h
    obtain ⟨h3, h4⟩ := cond_some h
    cases h4
    obtain ⟨h5, h6⟩ := and_true' h3
    obtain ⟨h7, h8⟩ := and_true' h6
    have e1 := Nat.eq_of_beq_eq_true h5
    have e2 := Nat.eq_of_beq_eq_true h7
    have e3 := Nat.eq_of_beq_eq_true h8
    constructor
    · intro _; omega
    · intro _; rfl
theorem xnot_ok {b : Option Bool} {r : Bool} (h : xnot b = some r) : b = some (!r) := by
  unfold xnot at h
  split at h
  · cases h; simp
  · cases h
/-- what a condition says -/
def xcP (c : ClassFile.Cond) (x y : Nat) : Prop := match c with
  | .eq => x = y
  | .ne => ¬ x = y
  | .lt => x < y
  | .ge => ¬ x < y
  | .gt => y < x
  | .le => ¬ y < x
theorem xcnd_ok {cd : ClassFile.Cond} {p q : Nat × Nat} {x y : Nat} {b : Bool} (h1 : p.1 ≤ x ∧ x ≤ p.2) (h2 : q.1 ≤ y ∧ y ≤ q.2) (h : xcnd cd p q = some b) : b = true ↔ xcP cd x y := by
  cases cd
  · exact xeq_ok h1 h2 h
  · have := xeq_ok h1 h2 (xnot_ok h)
    show b = true ↔ ¬ x = y
    rw [← this]; cases b <;> simp
  · exact xlt_ok h1 h2 h
  · have := xlt_ok h1 h2 (xnot_ok h)
    show b = true ↔ ¬ x < y
    rw [← this]; cases b <;> simp
  · exact xlt_ok h2 h1 h
  · have := xlt_ok h2 h1 (xnot_ok h)
    show b = true ↔ ¬ y < x
    rw [← this]; cases b <;> simp
theorem xlcmp_ok {ad : Nat → Nat} {a b w : xA} {u v : Value} (ha : xR ad a u) (hb : xR ad b v) (h : xlcmp a b = some w) : ∃ x y : Int64, u = .long x ∧ v = .long y ∧ xR ad w (.int (lg_cmp x y)) := by
  unfold xlcmp at h
  split at h
  next p q hp hq =>
    obtain ⟨x, rfl, hx⟩ := xR_bdl ha hp
    obtain ⟨y, rfl, hy⟩ := xR_bdl hb hq
    refine ⟨x, y, rfl, rfl, ?_⟩
    split at h
    next he =>
      cases h
      have e := xbL_inj ((xeq_ok hx hy he).mp rfl)
      subst e
      show Value.int _ = _
      have : ¬ x < x := by rw [xbL_lt]; omega
      simp [lg_cmp, this]
    next he =>
      have hne : ¬ xbL x = xbL y := fun e => by
        have := (xeq_ok hx hy he).mpr e
        cases this
      split at h
      next hl =>
        cases h
        have h1 : xbL x < xbL y := (xlt_ok hx hy hl).mp rfl
        have h2 : x < y := xbL_lt.mpr h1
        have h3 : ¬ y < x := by rw [xbL_lt]; omega
        show Value.int _ = _
        have h4 : ¬ x = y := fun e => hne (by rw [e])
        simp [lg_cmp, h3, h4]
      next hl =>
        cases h
        have h1 : ¬ xbL x < xbL y := fun z => by
          have := (xlt_ok hx hy hl).mpr z
          cases this
        have h3 : y < x := by rw [xbL_lt]; omega
        show Value.int _ = _
        simp [lg_cmp, h3]
      next => cases h
    next => cases h
  next => cases h
theorem xi_lcmp (F : xFx p s m args meth c cc nL own S) {len : Nat}  (hd : decode cc pc = .ok (.lcmp, len)) (hl0 : len = xlen (.lcmp) len) (hx0 : nx = pc + len) (hst : xsto nL (.lcmp) = true) (hK : xHyp p l e R s m args below meth c nL S o old D c0 s0 Q K out) (h : xstep o ft call pool hs K (.lcmp) pc nx loc stk hp = some out) : xG p l e R s m args below meth c nL S o old D c0 s0 Q pc loc stk hp := by
  subst hx0
  have hl1 : len = 1 := hl0
  subst hl1
  refine xk_two F (g := _) (wv := fun v z u => ∃ x y : Int64, v = .long x ∧ z = .long y ∧ u = .int (lg_cmp x y)) (fun ha hb hr => ?_) (fun _ _ _ _ _ v z u _ hu k => ?_) hK h
  · obtain ⟨x, y, e1, e2, hr2⟩ := xlcmp_ok ha hb hr
    exact ⟨_, ⟨x, y, e1, e2, rfl⟩, hr2⟩
  · obtain ⟨x, y, rfl, rfl, rfl⟩ := hu
    exact W.lcmp F.1 F.2.1 hd k
theorem xneg_ok {ad : Nat → Nat} {a w : xA} {u : Value} (ha : xR ad a u) (h : xneg a = some w) : ∃ x : Int32, u = .int x ∧ xR ad w (.int (-x)) := by
  unfold xneg at h
  split at h
  · cases ha; cases h
    exact ⟨_, rfl, by show Value.int _ = _; rw [xi32]⟩
  · obtain ⟨h1, h2⟩ := cond_some h
    obtain ⟨q, hq⟩ := isSome_of h1
    obtain ⟨x, rfl, -⟩ := xR_bd ha hq
    exact ⟨x, rfl, by rw [← Option.some.inj h2]; exact xR_top _ _⟩
theorem xnegl_ok {ad : Nat → Nat} {a w : xA} {u : Value} (ha : xR ad a u) (h : xnegl a = some w) : ∃ x : Int64, u = .long x ∧ xR ad w (.long (-x)) := by
  unfold xnegl at h
  split at h
  · cases ha; cases h
    exact ⟨_, rfl, by show Value.long _ = _; rw [xi64]⟩
  · obtain ⟨h1, h2⟩ := cond_some h
    obtain ⟨q, hq⟩ := isSome_of h1
    obtain ⟨x, rfl, -⟩ := xR_bdl ha hq
    exact ⟨x, rfl, by rw [← Option.some.inj h2]; exact xR_topL _ _⟩
theorem xl2i_ok {ad : Nat → Nat} {a w : xA} {u : Value} (ha : xR ad a u) (h : xl2i a = some w) : ∃ x : Int64, u = .long x ∧ xR ad w (.int x.toInt32) := by
  unfold xl2i at h
  split at h
  · cases ha; cases h
    exact ⟨_, rfl, by show Value.int _ = _; rw [xi32]⟩
  · obtain ⟨h1, h2⟩ := cond_some h
    obtain ⟨q, hq⟩ := isSome_of h1
    obtain ⟨x, rfl, -⟩ := xR_bdl ha hq
    exact ⟨x, rfl, by rw [← Option.some.inj h2]; exact xR_top _ _⟩
theorem xi2b_ok {ad : Nat → Nat} {a w : xA} {u : Value} (ha : xR ad a u) (h : xi2b a = some w) : ∃ x : Int32, u = .int x ∧ xR ad w (.int x.toInt8.toInt32) := by
  unfold xi2b at h
  split at h
  · cases ha; cases h
    exact ⟨_, rfl, by show Value.int _ = _; rw [xi32]⟩
  · obtain ⟨h1, h2⟩ := cond_some h
    obtain ⟨q, hq⟩ := isSome_of h1
    obtain ⟨x, rfl, -⟩ := xR_bd ha hq
    exact ⟨x, rfl, by rw [← Option.some.inj h2]; exact xR_top _ _⟩
theorem xi2c_ok {ad : Nat → Nat} {a w : xA} {u : Value} (ha : xR ad a u) (h : xi2c a = some w) : ∃ x : Int32, u = .int x ∧ xR ad w (.int (x.toUInt32 % 65536).toInt32) := by
  unfold xi2c at h
  split at h
  · cases ha; cases h
    exact ⟨_, rfl, by show Value.int _ = _; rw [xi32]⟩
  · obtain ⟨h1, h2⟩ := cond_some h
    obtain ⟨q, hq⟩ := isSome_of h1
    obtain ⟨x, rfl, -⟩ := xR_bd ha hq
    exact ⟨x, rfl, by rw [← Option.some.inj h2]; exact xR_top _ _⟩
theorem xi2l_ok {ad : Nat → Nat} {a w : xA} {u : Value} (ha : xR ad a u) (h : xi2l a = some w) : ∃ x : Int32, u = .int x ∧ xR ad w (.long x.toInt64) := by
  unfold xi2l at h
  split at h
  · cases ha; cases h
    exact ⟨_, rfl, by show Value.long _ = _; rw [xi64]⟩
  · split at h
    next q hq =>
      cases h
      obtain ⟨x, rfl, h1, h2⟩ := xR_bd ha hq
      refine ⟨x, rfl, x.toInt64, rfl, ?_, ?_⟩
      · show Nat.add q.1 9223372034707292160 ≤ xbL _
        have e : x.toInt64.toInt = x.toInt := Int32.toInt_toInt64 x
        have := Int32.le_toInt x
        unfold xb at h1
        unfold xbL
        rw [e]
        show q.1 + 9223372034707292160 ≤ _
        omega
      · show xbL _ ≤ Nat.add q.2 9223372034707292160
        have e : x.toInt64.toInt = x.toInt := Int32.toInt_toInt64 x
        have := Int32.le_toInt x
        unfold xb at h2
        unfold xbL
        rw [e]
        show _ ≤ q.2 + 9223372034707292160
        omega
    next => cases h
theorem xi_ineg (F : xFx p s m args meth c cc nL own S) {len : Nat}  (hd : decode cc pc = .ok (.ineg, len)) (hl0 : len = xlen (.ineg) len) (hx0 : nx = pc + len) (hst : xsto nL (.ineg) = true) (hK : xHyp p l e R s m args below meth c nL S o old D c0 s0 Q K out) (h : xstep o ft call pool hs K (.ineg) pc nx loc stk hp = some out) : xG p l e R s m args below meth c nL S o old D c0 s0 Q pc loc stk hp := by
  subst hx0
  have hl1 : len = 1 := hl0
  subst hl1
  refine xk_one F (g := _) (wv := fun v u => ∃ x : Int32, v = .int x ∧ u = .int (-x)) (fun ha hr => ?_) (fun _ _ _ _ _ v u _ hu k => ?_) hK h
  · obtain ⟨x, e1, hr2⟩ := xneg_ok ha hr
    exact ⟨_, ⟨x, e1, rfl⟩, hr2⟩
  · obtain ⟨x, rfl, rfl⟩ := hu
    exact lv_ineg F.1 F.2.1 hd k
theorem xi_lneg (F : xFx p s m args meth c cc nL own S) {len : Nat}  (hd : decode cc pc = .ok (.lneg, len)) (hl0 : len = xlen (.lneg) len) (hx0 : nx = pc + len) (hst : xsto nL (.lneg) = true) (hK : xHyp p l e R s m args below meth c nL S o old D c0 s0 Q K out) (h : xstep o ft call pool hs K (.lneg) pc nx loc stk hp = some out) : xG p l e R s m args below meth c nL S o old D c0 s0 Q pc loc stk hp := by
  subst hx0
  have hl1 : len = 1 := hl0
  subst hl1
  refine xk_one F (g := _) (wv := fun v u => ∃ x : Int64, v = .long x ∧ u = .long (-x)) (fun ha hr => ?_) (fun _ _ _ _ _ v u _ hu k => ?_) hK h
  · obtain ⟨x, e1, hr2⟩ := xnegl_ok ha hr
    exact ⟨_, ⟨x, e1, rfl⟩, hr2⟩
  · obtain ⟨x, rfl, rfl⟩ := hu
    exact lv_lneg F.1 F.2.1 hd k
theorem xi_l2i (F : xFx p s m args meth c cc nL own S) {len : Nat}  (hd : decode cc pc = .ok (.l2i, len)) (hl0 : len = xlen (.l2i) len) (hx0 : nx = pc + len) (hst : xsto nL (.l2i) = true) (hK : xHyp p l e R s m args below meth c nL S o old D c0 s0 Q K out) (h : xstep o ft call pool hs K (.l2i) pc nx loc stk hp = some out) : xG p l e R s m args below meth c nL S o old D c0 s0 Q pc loc stk hp := by
  subst hx0
  have hl1 : len = 1 := hl0
  subst hl1
  refine xk_one F (g := _) (wv := fun v u => ∃ x : Int64, v = .long x ∧ u = .int x.toInt32) (fun ha hr => ?_) (fun _ _ _ _ _ v u _ hu k => ?_) hK h
  · obtain ⟨x, e1, hr2⟩ := xl2i_ok ha hr
    exact ⟨_, ⟨x, e1, rfl⟩, hr2⟩
  · obtain ⟨x, rfl, rfl⟩ := hu
    exact lv_l2i F.1 F.2.1 hd rfl k
theorem xi_i2b (F : xFx p s m args meth c cc nL own S) {len : Nat}  (hd : decode cc pc = .ok (.i2b, len)) (hl0 : len = xlen (.i2b) len) (hx0 : nx = pc + len) (hst : xsto nL (.i2b) = true) (hK : xHyp p l e R s m args below meth c nL S o old D c0 s0 Q K out) (h : xstep o ft call pool hs K (.i2b) pc nx loc stk hp = some out) : xG p l e R s m args below meth c nL S o old D c0 s0 Q pc loc stk hp := by
  subst hx0
  have hl1 : len = 1 := hl0
  subst hl1
  refine xk_one F (g := _) (wv := fun v u => ∃ x : Int32, v = .int x ∧ u = .int x.toInt8.toInt32) (fun ha hr => ?_) (fun _ _ _ _ _ v u _ hu k => ?_) hK h
  · obtain ⟨x, e1, hr2⟩ := xi2b_ok ha hr
    exact ⟨_, ⟨x, e1, rfl⟩, hr2⟩
  · obtain ⟨x, rfl, rfl⟩ := hu
    exact lv_i2b F.1 F.2.1 hd rfl k
theorem xi_i2c (F : xFx p s m args meth c cc nL own S) {len : Nat}  (hd : decode cc pc = .ok (.i2c, len)) (hl0 : len = xlen (.i2c) len) (hx0 : nx = pc + len) (hst : xsto nL (.i2c) = true) (hK : xHyp p l e R s m args below meth c nL S o old D c0 s0 Q K out) (h : xstep o ft call pool hs K (.i2c) pc nx loc stk hp = some out) : xG p l e R s m args below meth c nL S o old D c0 s0 Q pc loc stk hp := by
  subst hx0
  have hl1 : len = 1 := hl0
  subst hl1
  refine xk_one F (g := _) (wv := fun v u => ∃ x : Int32, v = .int x ∧ u = .int (x.toUInt32 % 65536).toInt32) (fun ha hr => ?_) (fun _ _ _ _ _ v u _ hu k => ?_) hK h
  · obtain ⟨x, e1, hr2⟩ := xi2c_ok ha hr
    exact ⟨_, ⟨x, e1, rfl⟩, hr2⟩
  · obtain ⟨x, rfl, rfl⟩ := hu
    exact lv_i2c F.1 F.2.1 hd rfl k
theorem xi_i2l (F : xFx p s m args meth c cc nL own S) {len : Nat}  (hd : decode cc pc = .ok (.i2l, len)) (hl0 : len = xlen (.i2l) len) (hx0 : nx = pc + len) (hst : xsto nL (.i2l) = true) (hK : xHyp p l e R s m args below meth c nL S o old D c0 s0 Q K out) (h : xstep o ft call pool hs K (.i2l) pc nx loc stk hp = some out) : xG p l e R s m args below meth c nL S o old D c0 s0 Q pc loc stk hp := by
  subst hx0
  have hl1 : len = 1 := hl0
  subst hl1
  refine xk_one F (g := _) (wv := fun v u => ∃ x : Int32, v = .int x ∧ u = .long x.toInt64) (fun ha hr => ?_) (fun _ _ _ _ _ v u _ hu k => ?_) hK h
  · obtain ⟨x, e1, hr2⟩ := xi2l_ok ha hr
    exact ⟨_, ⟨x, e1, rfl⟩, hr2⟩
  · obtain ⟨x, rfl, rfl⟩ := hu
    exact lv_i2l F.1 F.2.1 hd rfl k
end Steps2
