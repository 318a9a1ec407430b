section Steps10
variable {p : Program} {l : Launch} {e : Env} {R : Room} {s : State} {m : MethodId} {args : Array Value} {below : List Frame} {meth : Method} {c : Code} {cc : ByteArray} {nL : Nat} {own : String} {S : State} {o : Nat} {old : Nat → Nat} {D : va_G} {c0 s0 : Nat} {Q : State → Prop}
variable {pc nx : Nat} {K : xK} {out : xE} {loc : List (Nat × xA)} {stk : List xA} {hp : xH} {ft : Nat → List Nat} {call : xF} {pool : Nat → xP} {hs : List (Nat × (Nat × (Nat × Nat)))}
variable {hh : List (Nat × (Nat × (Nat × Nat)))} {rk : Nat} {r0 : xO} {mt : Nat → xY} {d : Nat}
/-- what is known of a callee -/
def xHC (l : Launch) (S : State) (o : Nat) (old : Nat → Nat) (D : va_G) (mt : Nat → xY) (call : xF) (d : Nat) : Prop := ∀ (mi : Nat) (as : List xA) (hp : xH) (r : xO), call mi as hp = some r → (hp.2.2.2.1 ≤ r.2.2.1.2.2.2.1 ∧ hp.2.2.2.2 ≤ r.2.2.1.2.2.2.2) ∧ xMet l S o old D (mt mi) as hp r d
theorem xback_mono {rest : List xA} {r : xO} (h : xback hs K pc nx loc rest (some r) = some out) (Rm : xRm K out R c0 s0) : r.2.2.1.2.2.2.1 ≤ out.2.2.2.1.2.2.2.1 ∧ r.2.2.1.2.2.2.2 ≤ out.2.2.2.1.2.2.2.2 := by
  obtain ⟨tag, rvv, h', E0⟩ := r
  match tag, h with
  | 0, h =>
    cases rvv with
    | none => exact Rm.1 _ _ _ _ h
    | some v => exact Rm.1 _ _ _ _ h
  | 1, h =>
    have h : (match xcatch hs pc E0 with
      | some t => K t loc [.inr (.inr (.inr (.inr (.inr (.inl true)))))] h'
      | none => some (2, (pc, (rest, (h', E0))))) = some out := h
    cases hx : xcatch hs pc E0 with
    | some t => rw [hx] at h; exact Rm.1 _ _ _ _ h
    | none =>
      rw [hx] at h
      cases h
      exact ⟨Nat.le_refl _, Nat.le_refl _⟩
  | _ + 2, h => cases h
theorem xpay (F : xFx p s m args meth c cc nL own S) {q : xY} (h : xcw q ∈ xW) : ∀ w ∈ xcw q :: xW, ∀ (a' : Array Value) (U : State), s.WarmedH U.vm → w.before a' U = true :=
  pay_in F.2.2.2.2.1 fun w hw => by
    have hw' : w ∈ xW := (List.mem_cons.mp hw).elim (fun e => by rw [e]; exact h) id
    exact ⟨hw', good_of_word (List.mem_filter.mp hw').2⟩
theorem xblind {as : List xA} : FrameBlind (xPre S o old D as hp) := fun _ _ _ _ h => h
/-- a callee's words -/
def xQw (q : xY) (n : Nat) : Prop := xcw q ∈ xW ∧ Cond.initialized q.1.cls ∈ xW ∧ (q.1.cls ≠ "java/lang/invoke/MethodHandle" ∧ q.1.cls ≠ "java/lang/invoke/VarHandle") ∧ (parseMethodDescriptor q.1.desc).map (fun d => d.parameters.length) = some n ∧ q.2.2.1 ≤ 45
theorem xQw.sig {q : xY} {n : Nat} (h : xQw q n) : ∀ sig, parseMethodDescriptor q.1.desc = some sig → n = sig.parameters.length := fun sig hs => by
  have h2 := h.2.2.2.1
  rw [hs] at h2
  exact (Option.some.inj h2).symm
/-- a static call's pool entry -/
def xP2 (mt : Nat → xY) (own : String) (ix : Nat) (P : xP) : Prop := xQw (mt P.2.1) P.2.2.1 ∧ Cond.methodLink own ix (mt P.2.1).1 ∈ xW ∧ Cond.static (mt P.2.1).1 ∈ xW
theorem xrunS (F : xFx p s m args meth c cc nL own S) (hR : d + 11 ≤ R.frames ∧ 264 + 64 * d ≤ R.locals) {q : xY} {n ix : Nat} {as : List xA} {r : xO} (hq : xQw q n) (hl : Cond.methodLink own ix q.1 ∈ xW) (hst : Cond.static q.1 ∈ xW)
    (hM : xMet l S o old D q as hp r d) {H : Heap} {locs : List Loc} {cells slots : Nat} {ls : Array Slot} {lv : List (Nat × Value)} {As rv : List Value} (hn : As.length = n) (has : xs2 (xad o S.heap.size old) as As) (hx : xhr o old D S hp H) (hlv : lv_has ls nL lv)
    (hW : (rv.map fun v => v.category).sum ≤ 8) (hdg : decode cc pc = .ok (.invokestatic ix, 3)) (hf : cells + (r.2.2.1.2.2.2.1 - hp.2.2.2.1) ≤ R.cells ∧ slots + (r.2.2.1.2.2.2.2 - hp.2.2.2.2) ≤ R.slots) :
    vx_Run p l e R s m args below meth c H locs cells slots (r.2.2.1.2.2.2.1 - hp.2.2.2.1) (r.2.2.1.2.2.2.2 - hp.2.2.2.2) (F0 m pc ls (As.reverse ++ rv)) rv (xPost S o old D r As.toArray) (xPex S o old D r) (fun q => S.heap.size ≤ q) := by
  have hp9 : PreS s H (xPre S o old D as hp) As := ⟨xblind, fun U hU hW => ⟨F.2.2.2.2.2.1.trans hW, has, by rw [hU]; exact hx⟩⟩
  have hpay := xpay F hq.1
  have hsig := hq.sig
  obtain ⟨y, bytes, maxL, ret, ho⟩ := q
  have hml : maxL ≤ 45 := hq.2.2.2.2
  cases ho with
  | none =>
    exact vx_runS (Ts := xW) (own := own) (bytes := bytes) (maxL := maxL) (ret := ret) ⟨F.1, F.2.1, F.2.2.1, F.2.2.2.1, F.2.2.2.2.1⟩ hM
      ⟨⟨rfl, rfl, by show 10 + d + 1 ≤ _; omega, by show 8 + (maxL + 11) + (200 + 64 * d) ≤ _; omega, hpay, List.mem_cons_self, F.2.2.2.2.1 _ hq.1, F.2.2.2.2.1 _ hq.2.1, hq.2.2.1, hsig, F.2.2.2.2.1 _ hl⟩, F.2.2.2.2.1 _ hst⟩
      hp9 rfl hn hlv.1 rfl (by show 2 * 0 + _ ≤ 8; omega) hdg hf
  | some hh9 =>
    exact vx_runSX (Ts := xW) (own := own) (bytes := bytes) (maxL := maxL) (ret := ret) (hh := hh9) ⟨F.1, F.2.1, F.2.2.1, F.2.2.2.1, F.2.2.2.2.1⟩ hM
      ⟨⟨rfl, rfl, by show 10 + d + 1 ≤ _; omega, by show 8 + (maxL + 11) + (200 + 64 * d) ≤ _; omega, hpay, List.mem_cons_self⟩, F.2.2.2.2.1 _ hq.1, F.2.2.2.2.1 _ hq.2.1, hq.2.2.1, hsig, F.2.2.2.2.1 _ hl, F.2.2.2.2.1 _ hst⟩
      hp9 rfl hn hlv.1 rfl (by show 2 * 0 + _ ≤ 8; omega) hdg hf
theorem xrunV (F : xFx p s m args meth c cc nL own S) (hR : d + 11 ≤ R.frames ∧ 264 + 64 * d ≤ R.locals) {q : xY} {n ix : Nat} {as : List xA} {r : xO} {C : String} {b : Addr} (hq : xQw q n) (hno : q.2.2.2.2 = none) (hl : Cond.methodLink own ix q.1 ∈ xW) (hin : Cond.instanceMethod q.1 ∈ xW) (hse : Cond.selects C q.1 q.1 ∈ xW)
    (hM : xMet l S o old D q as hp r d) {H : Heap} {locs : List Loc} {cells slots : Nat} {ls : Array Slot} {lv : List (Nat × Value)} {As rv : List Value} (hn : As.length = n) (has : xs2 (xad o S.heap.size old) as (.ref b :: As)) (hx : xhr o old D S hp H) (hlv : lv_has ls nL lv)
    (hb : ∃ cellB, H[b]? = some cellB ∧ cellB.vm.isStatics = false ∧ s.vm.findClass C = some cellB.cls)
    (hW : (rv.map fun v => v.category).sum ≤ 8) (hdg : decode cc pc = .ok (.invokevirtual ix, 3)) (hf : cells + (r.2.2.1.2.2.2.1 - hp.2.2.2.1) ≤ R.cells ∧ slots + (r.2.2.1.2.2.2.2 - hp.2.2.2.2) ≤ R.slots) :
    vx_Run p l e R s m args below meth c H locs cells slots (r.2.2.1.2.2.2.1 - hp.2.2.2.1) (r.2.2.1.2.2.2.2 - hp.2.2.2.2) (F0 m pc ls (As.reverse ++ .ref b :: rv)) rv (xPost S o old D r (Value.ref b :: As).toArray) (xPex S o old D r) (fun q => S.heap.size ≤ q) := by
  have hp9 : PreV s H C b (xPre S o old D as hp) As := ⟨xblind, hb, fun U hU hW => ⟨F.2.2.2.2.2.1.trans hW, has, by rw [hU]; exact hx⟩⟩
  have hpay := xpay F hq.1
  have hsig := hq.sig
  obtain ⟨y, bytes, maxL, ret, ho⟩ := q
  have hno : ho = none := hno
  subst hno
  have hml : maxL ≤ 45 := hq.2.2.2.2
  exact vx_runV (Ts := xW) (own := own) (bytes := bytes) (maxL := maxL) (ret := ret) ⟨F.1, F.2.1, F.2.2.1, F.2.2.2.1, F.2.2.2.2.1⟩ hM
      ⟨⟨rfl, rfl, by show 10 + d + 1 ≤ _; omega, by show 8 + (maxL + 11) + (200 + 64 * d) ≤ _; omega, hpay, List.mem_cons_self, F.2.2.2.2.1 _ hq.1, F.2.2.2.2.1 _ hq.2.1, hq.2.2.1, hsig, F.2.2.2.2.1 _ hl⟩, F.2.2.2.2.1 _ hin, F.2.2.2.2.1 _ hse⟩
      hp9 rfl hn hlv.1 rfl (by show 2 * 0 + _ ≤ 8; omega) hdg hf
theorem xrunI (F : xFx p s m args meth c cc nL own S) (hR : d + 11 ≤ R.frames ∧ 264 + 64 * d ≤ R.locals) {q : xY} {n ix : Nat} {as : List xA} {r : xO} {b : Addr} (hq : xQw q n) (hno : q.2.2.2.2 = none) (hret : q.2.2.2.1 = none) (hname : q.1.name = "<init>") (hl : Cond.methodLink own ix q.1 ∈ xW ∨ ∃ host, va_Nw (.methodLinkNest own ix q.1 host) S) (hin : Cond.instanceMethod q.1 ∈ xW)
    (hM : xMet l S o old D q as hp r d) {H : Heap} {locs : List Loc} {cells slots : Nat} {ls : Array Slot} {lv : List (Nat × Value)} {As rv : List Value} (hn : As.length = n) (has : xs2 (xad o S.heap.size old) as (.ref b :: As)) (hx : xhr o old D S hp H) (hlv : lv_has ls nL lv)
    (hW : (rv.map fun v => v.category).sum ≤ 8) (hdg : decode cc pc = .ok (.invokespecial ix, 3)) (hf : cells + (r.2.2.1.2.2.2.1 - hp.2.2.2.1) ≤ R.cells ∧ slots + (r.2.2.1.2.2.2.2 - hp.2.2.2.2) ≤ R.slots) :
    vx_Run p l e R s m args below meth c H locs cells slots (r.2.2.1.2.2.2.1 - hp.2.2.2.1) (r.2.2.1.2.2.2.2 - hp.2.2.2.2) (F0 m pc ls (As.reverse ++ .ref b :: rv)) rv (xPost S o old D r (Value.ref b :: As).toArray) (xPex S o old D r) (fun q => S.heap.size ≤ q) := by
  have hp9 : PreS s H (xPre S o old D as hp) (.ref b :: As) := ⟨xblind, fun U hU hW => ⟨F.2.2.2.2.2.1.trans hW, has, by rw [hU]; exact hx⟩⟩
  have hpay := xpay F hq.1
  have hsig := hq.sig
  obtain ⟨y, bytes, maxL, ret, ho⟩ := q
  have hno : ho = none := hno
  subst hno
  have hret : ret = none := hret
  subst hret
  have hml : maxL ≤ 45 := hq.2.2.2.2
  rcases hl with hl | ⟨host, hl⟩
  · exact vx_runI (Ts := xW) (own := own) (bytes := bytes) (maxL := maxL) ⟨F.1, F.2.1, F.2.2.1, F.2.2.2.1, F.2.2.2.2.1⟩ hM
      ⟨⟨rfl, rfl, by show 10 + d + 1 ≤ _; omega, by show 8 + (maxL + 11) + (200 + 64 * d) ≤ _; omega, hpay, List.mem_cons_self, F.2.2.2.2.1 _ hq.1, F.2.2.2.2.1 _ hq.2.1, hq.2.2.1, hsig, F.2.2.2.2.1 _ hl⟩, hname, F.2.2.2.2.1 _ hin⟩
      hp9 rfl hn hlv.1 rfl (by show 2 * 0 + _ ≤ 8; omega) hdg hf
  · exact vx_runIN (Ts := xW) (own := own) (bytes := bytes) (maxL := maxL) (host := host) ⟨F.1, F.2.1, F.2.2.1, F.2.2.2.1, F.2.2.2.2.1⟩ hM
      ⟨⟨⟨rfl, rfl, by show 10 + d + 1 ≤ _; omega, by show 8 + (maxL + 11) + (200 + 64 * d) ≤ _; omega, hpay, List.mem_cons_self⟩, F.2.2.2.2.1 _ hq.1, F.2.2.2.2.1 _ hq.2.1, hq.2.2.1, hsig, va_Nw.use rfl (va_Nw.warmM F.2.2.2.2.2.1 hl)⟩, hname, F.2.2.2.2.1 _ hin⟩
      hp9 rfl hn hlv.1 rfl (by show 2 * 0 + _ ≤ 8; omega) hdg hf
end Steps10
