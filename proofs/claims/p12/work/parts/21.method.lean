section Method
variable {p : Program} {l : Launch} {e : Env} {R : Room} {s : State} {m : MethodId} {args : Array Value} {below : List Frame} {meth : Method} {c : Code} {cc : ByteArray} {nL : Nat} {own : String} {S : State} {o : Nat} {old : Nat → Nat} {D : va_G} {c0 s0 : Nat} {Q : State → Prop}
variable {pc nx : Nat} {K : xK} {out : xE} {loc : List (Nat × xA)} {stk : List xA} {hp : xH} {ft : Nat → List Nat} {call : xF} {pool : Nat → xP} {hs : List (Nat × (Nat × (Nat × Nat)))}
variable {hh : List (Nat × (Nat × (Nat × Nat)))} {rk : Nat} {r0 : xO} {mt : Nat → xY} {d : Nat} {tab : Lean.RArray xI}
/-- the same, from a given end on -/
noncomputable def xrunK (o : Nat) (ft : Nat → List Nat) (call : xF) (pool : Nat → xP) (hs : List (Nat × (Nat × (Nat × Nat)))) (tab : Lean.RArray xI) (K0 : xK) (fuel : Nat) : xK :=
  Nat.rec K0 (fun _ ih pc loc stk hp => cond (Nat.beq (xget tab pc).1 pc) (xstep o ft call pool hs ih (xget tab pc).2.1 (xget tab pc).1 (xget tab pc).2.2.2 loc stk hp) none) fuel
theorem xrunK_mono {K0 : xK} (hc : ∀ mi as hp r, call mi as hp = some r → xLe hp r.2.2.1) (h0 : xMK K0 out) : ∀ fuel, xMK (xrunK o ft call pool hs tab K0 fuel) out := by
  intro fuel
  induction fuel with
  | zero => exact h0
  | succ n ih =>
    intro pc loc stk hp h
    obtain ⟨-, h⟩ := cond_some (show cond (Nat.beq (xget tab pc).1 pc) (xstep o ft call pool hs (xrunK o ft call pool hs tab K0 n) (xget tab pc).2.1 (xget tab pc).1 (xget tab pc).2.2.2 loc stk hp) none = some out from h)
    exact xstep_mono ih hc h
theorem xrun_mono (hc : ∀ mi as hp r, call mi as hp = some r → xLe hp r.2.2.1) : ∀ fuel, xMK (xrun o ft call pool hs tab fuel) out := by
  intro fuel
  induction fuel with
  | zero => intro pc loc stk hp h; cases h
  | succ n ih =>
    intro pc loc stk hp h
    obtain ⟨-, h⟩ := cond_some (show cond (Nat.beq (xget tab pc).1 pc) (xstep o ft call pool hs (xrun o ft call pool hs tab n) (xget tab pc).2.1 (xget tab pc).1 (xget tab pc).2.2.2 loc stk hp) none = some out from h)
    exact xstep_mono ih hc h
theorem xrunK_ok {K0 : xK} (F : xFx p s m args meth c cc nL own S) (G : xGl S o old D ft) (hl9 : l.stackTraces = false) (hT : c.exceptionTable.toList = tableOf hh) (HH : xHs own hs hh) (hrk : xRk rk meth.sig.returnType) {ini : Bool} (hini : ini = true → meth.name = "<init>")
    (hS0 : S.heap.size ≤ s.heap.size ∧ ∀ q, q < S.heap.size → s.heap[q]? = S.heap[q]?) (hQ : xQh R below S o old D args s c0 s0 rk Q out) (hR : d + 11 ≤ R.frames ∧ 264 + 64 * d ≤ R.locals) (hR1 : out.2.2.2.1.2.2.2.1 ≤ R.cells + c0 ∧ out.2.2.2.1.2.2.2.2 ≤ R.slots + s0)
    (HC : xHC l S o old D mt call d) (hi : ∀ pc, (xget tab pc).1 = pc → xOk S (xad o S.heap.size old) mt own cc hh pool nL ini rk (xget tab pc))
    (h0 : xHyp p l e R s m args below meth c nL S o old D c0 s0 Q K0 out) (h0m : xMK K0 out) : ∀ fuel, xHyp p l e R s m args below meth c nL S o old D c0 s0 Q (xrunK o ft call pool hs tab K0 fuel) out := by
  have hc : ∀ mi as hp r, call mi as hp = some r → xLe hp r.2.2.1 := fun mi as hp r h => (HC mi as hp r h).1
  intro fuel
  induction fuel with
  | zero => exact h0
  | succ n ih =>
    intro pc loc stk hp h
    obtain ⟨h1, h2⟩ := cond_some (show cond (Nat.beq (xget tab pc).1 pc) (xstep o ft call pool hs (xrunK o ft call pool hs tab K0 n) (xget tab pc).2.1 (xget tab pc).1 (xget tab pc).2.2.2 loc stk hp) none = some out from h)
    clear h
    have e1 := Nat.eq_of_beq_eq_true h1
    have hx := hi pc e1
    obtain ⟨pc', i, len, nx, ht⟩ : ∃ pc' i len nx, xget tab pc = (pc', (i, (len, nx))) := ⟨_, _, _, _, rfl⟩
    rw [ht] at h2 hx e1
    have e1 : pc' = pc := e1
    subst e1
    exact xstep_ok F G hl9 hT HH hrk hini hS0 hQ hR HC ⟨xrunK_mono hc h0m n, hR1⟩ ih hx h2
theorem xrun_eq : xrun o ft call pool hs tab = xrunK o ft call pool hs tab (fun _ _ _ _ => none) := rfl
theorem xcat12 (a : xA) : xcat a = 1 ∨ xcat a = 2 := by
  unfold xcat
  split
  · exact Or.inr rfl
  · exact Or.inr rfl
  · exact Or.inl rfl
theorem xargs_ok {ad : Nat → Nat} : ∀ {as : List xA} {vs : List Value} (i : Nat), xs2 ad as vs → xl2 ad (xargs as i) (lv_args i vs) := by
  intro as
  induction as with
  | nil => intro vs i h; rw [xs2_nil h]; trivial
  | cons a as ih =>
    intro vs i h
    obtain ⟨b, bs, rfl, h1, h2⟩ := xs2_cons h
    have hcat := xR_cat h1
    refine ⟨rfl, h1, ?_⟩
    show xl2 ad (xargs as (Nat.add i (xcat a))) (lv_args (if b.category = 2 then i + 2 else i + 1) bs)
    rw [hcat]
    rcases xcat12 a with e | e <;> rw [e]
    · exact ih (i + 1) h2
    · exact ih (i + 2) h2
theorem xsl_len {ad : Nat → Nat} : ∀ {as : List xA} {vs : List Value}, xs2 ad as vs → (lg_sl vs).length = xcats as := by
  intro as
  induction as with
  | nil => intro vs h; rw [xs2_nil h]; rfl
  | cons a as ih =>
    intro vs h
    obtain ⟨b, bs, rfl, h1, h2⟩ := xs2_cons h
    have hcat := xR_cat h1
    have hi := ih h2
    show (lg_sl (b :: bs)).length = Nat.add (xcat a) (xcats as)
    rw [← hcat, ← hi]
    cases b <;> simp [lg_sl, Value.category] <;> omega
theorem xend_mono (h : xend rk (some out) = some r0) : xLe out.2.2.2.1 r0.2.2.1 := by
  unfold xend at h
  split at h
  · next he =>
    cases he
    split at h
    · cases h; exact xLe.rf _
    · obtain ⟨-, h⟩ := cond_some h
      cases h; exact xLe.rf _
    · obtain ⟨-, h⟩ := cond_some h
      cases h; exact xLe.rf _
    · cases h; exact xLe.rf _
    · obtain ⟨-, h⟩ := cond_some h
      cases h; exact xLe.rf _
    · obtain ⟨-, h⟩ := cond_some h
      cases h; exact xLe.rf _
    · cases h
  · next he =>
    cases he
    obtain ⟨-, h⟩ := cond_some h
    cases h
    exact ⟨Nat.le_succ _, Nat.le_add_right _ _⟩
  · next he =>
    cases he
    cases h
    exact xLe.rf _
  · cases h
/-- every leaf -/
def xall {α : Type} (P : α → Prop) : Lean.RArray α → Prop := Lean.RArray.rec (fun x => P x) (fun _ _ _ l r => l ∧ r)
theorem xall_get {α : Type} {P : α → Prop} : ∀ {t : Lean.RArray α}, xall P t → ∀ n, P (xget t n) := by
  intro t
  induction t with
  | leaf x => intro h n; exact h
  | branch p l r ihl ihr =>
    intro h n
    obtain ⟨h1, h2⟩ := (show xall P l ∧ xall P r from h)
    rw [xget_branch]
    cases Nat.ble p n
    · exact ihl h1 n
    · exact ihr h2 n
/-- the printed vx_ofW, vx_ofWH for a method that no native row overrides -/
theorem vx_ofWF {l : Launch} {y : MethodName} {ws ws' : List Cond} {rm : Room} {Pc : Array Value → State → Prop} {Qc : Array Value → State → Outcome → State → Prop} {XC : String → State → State → Prop} {mc ms : Nat} {free : Addr → Prop} {cc : ByteArray} {maxL : Nat} {ret : Option FieldType}
    (hy : plainFor y = true) (hw : ws = Cond.code y cc maxL ret :: ws')
    (body : ∀ p e s m args below meth c s₁, BodyLoose p l y (headSpec ws rm) cc maxL ret e s m args below meth c s₁ → c.maxLocals = maxL → (∀ x ∈ c.exceptionTable.toList, False) → Pc args s →
      W p l e (headSpec ws rm).room s m args below meth c s.heap [] 0 0 (vx_MQ below Qc XC args s mc ms free) (entryFrame m args maxL)) : vx_Met l y ws rm Pc Qc XC mc ms free := by
  refine MetFree.of_bodySF (code := cc) (maxLocals := maxL) (ret := ret) hy ?_ ?_
  · intro args s m h hn
    obtain ⟨meth, c, h1, h2, h3, h4, h5, h6, -, -⟩ := Cond.code_spec hn (atoms_spec (ws := ws) h _ (by rw [hw]; exact List.mem_cons_self))
    exact ⟨meth, c, h1, h2, h3, h4, h5, h6⟩
  · intro p e s m args below meth c s₁ B hml hP _
    have hh0 : s₁.heap = s.heap := by rw [B.state]; rfl
    have ht : ∀ x ∈ c.exceptionTable.toList, False := by
      obtain ⟨meth9, c9, h1, h2, -, -, -, -, h7, -⟩ := Cond.code_spec B.named (atoms_spec (ws := ws) B.pre _ (by rw [hw]; exact List.mem_cons_self))
      cases Option.some.inj (h1.symm.trans B.method)
      cases Option.some.inj (h2.symm.trans (Stand.of_body B).code)
      intro x hx
      rw [Array.isEmpty_iff.mp h7] at hx
      cases hx
    obtain ⟨t, a1, o, b1, b2, b3⟩ := body p e s m args below meth c s₁ B hml ht hP s₁ hh0 (Stand.of_body B)
    exact ⟨t, o, a1, b1, b2, b3⟩
theorem vx_ofWHF {l : Launch} {y : MethodName} {ws ws' : List Cond} {rm : Room} {Pc : Array Value → State → Prop} {Qc : Array Value → State → Outcome → State → Prop} {XC : String → State → State → Prop} {mc ms : Nat} {free : Addr → Prop} {cc : ByteArray} {maxL : Nat} {ret : Option FieldType} {hh : List (Nat × Nat × Nat × Nat)}
    (hy : plainFor y = true) (hw : ws = Cond.codeWith y cc maxL ret hh :: ws')
    (body : ∀ p e s m args below meth c s₁, BodyLoose p l y (headSpec ws rm) cc maxL ret e s m args below meth c s₁ → c.maxLocals = maxL → Pc args s →
      W p l e (headSpec ws rm).room s m args below meth c s.heap [] 0 0 (vx_MQ below Qc XC args s mc ms free) (entryFrame m args maxL)) : vx_Met l y ws rm Pc Qc XC mc ms free := by
  refine MetFree.of_bodySF (code := cc) (maxLocals := maxL) (ret := ret) hy ?_ ?_
  · intro args s m h hn
    obtain ⟨m9, meth, c, hn9, h1, h2, h3, h4, -, h5, h6, -⟩ := Cond.codeWith_spec (atoms_spec (ws := ws) h _ (by rw [hw]; exact List.mem_cons_self))
    cases hn.symm.trans hn9
    exact ⟨meth, c, h1, h2, h3, h4, h5, h6⟩
  · intro p e s m args below meth c s₁ B hml hP _
    have hh0 : s₁.heap = s.heap := by rw [B.state]; rfl
    obtain ⟨t, a1, o, b1, b2, b3⟩ := body p e s m args below meth c s₁ B hml hP s₁ hh0 (Stand.of_body B)
    exact ⟨t, o, a1, b1, b2, b3⟩
/-- a method and its table -/
def xMc (S : State) (ad : Nat → Nat) (mt : Nat → xY) (pools : Lean.RArray (Lean.RArray (Nat × xP))) (q : xY) (M : xM) : Prop :=
  plainFor q.1 = true ∧ xcw q ∈ xW ∧ M.2.1 = q.2.2.1 ∧ xRk M.2.2.1 q.2.2.2.1 ∧ xHs q.1.cls M.2.2.2.2 (xhh q) ∧ ∃ ini : Bool, (ini = true → q.1.name = "<init>") ∧ xall (xOk S ad mt q.1.cls q.2.1 (xhh q) (xpool (xget pools M.2.2.2.1)) q.2.2.1 ini M.2.2.1) M.1
set_option maxHeartbeats 1000000 in
theorem xcall_ok (G : xGl S o old D ft) (hl9 : l.stackTraces = false) {pools : Lean.RArray (Lean.RArray (Nat × xP))} {ms : Lean.RArray xM} (HM : ∀ mi, xMc S (xad o S.heap.size old) mt pools (mt mi) (xget ms mi)) : ∀ d, xHC l S o old D mt (xcall o ft pools ms d) d := by
  intro d
  induction d with
  | zero => intro mi as hp r h; cases h
  | succ d ih =>
    intro mi as hp r h
    obtain ⟨ha, h⟩ := cond_some (show cond (Nat.ble (xcats as) (xget ms mi).2.1) (xend (xget ms mi).2.2.1 (xrun o ft (xcall o ft pools ms d) (xpool (xget pools (xget ms mi).2.2.2.1)) (xget ms mi).2.2.2.2 (xget ms mi).1 xfuel 0 (xargs as 0) [] hp)) none = some r from h)
    have ha := Nat.le_of_ble_eq_true ha
    obtain ⟨m1, m2, m3, m4, m5, ini, m6, m7⟩ := HM mi
    generalize xget ms mi = M at ha h m3 m4 m5 m7
    generalize mt mi = q at m1 m2 m3 m4 m5 m6 m7 ⊢
    cases hr : xrun o ft (xcall o ft pools ms d) (xpool (xget pools M.2.2.2.1)) M.2.2.2.2 M.1 xfuel 0 (xargs as 0) [] hp with
    | none => rw [hr] at h; cases h
    | some out =>
      rw [hr] at h
      have hmono := xend_mono h
      have hmono2 : xLe hp out.2.2.2.1 := xrun_mono (fun mi as hp r h => (ih mi as hp r h).1) _ _ _ _ _ hr
      have hm3 := hmono2.tr hmono
      refine ⟨hm3, ?_⟩
      have hi : ∀ pc, (xget M.1 pc).1 = pc → xOk S (xad o S.heap.size old) mt q.1.cls q.2.1 (xhh q) (xpool (xget pools M.2.2.2.1)) q.2.2.1 ini M.2.2.1 (xget M.1 pc) := fun pc _ => xall_get m7 pc
      have body : ∀ (p : Program) (e : Env) (s : State) (m : MethodId) (args : Array Value) (below : List Frame) (meth : Method) (c : Code) (s₁ : State) (hB : BodyLoose p l q.1 (headSpec (xcw q :: xW) (xrm (d + 1) (r.2.2.1.2.2.2.1 - hp.2.2.2.1) (r.2.2.1.2.2.2.2 - hp.2.2.2.2))) q.2.1 q.2.2.1 q.2.2.2.1 e s m args below meth c s₁),
          c.maxLocals = q.2.2.1 → c.exceptionTable.toList = tableOf (xhh q) → xPre S o old D as hp args s →
          W p l e (xrm (d + 1) (r.2.2.1.2.2.2.1 - hp.2.2.2.1) (r.2.2.1.2.2.2.2 - hp.2.2.2.2)) s m args below meth c s.heap [] 0 0 (vx_MQ below (xPost S o old D r) (xPex S o old D r) args s (r.2.2.1.2.2.2.1 - hp.2.2.2.1) (r.2.2.1.2.2.2.2 - hp.2.2.2.2) (fun a => S.heap.size ≤ a)) (entryFrame m args q.2.2.1) := by
        intro p e s m args below meth c s₁ hB hml hT hP
        obtain ⟨p1, p2, p3⟩ := hP
        have F : xFx p s m args meth c q.2.1 q.2.2.1 q.1.cls S := ⟨hB.exec, hB.bytes, hml, findClass_of_methodNamed hB.named, fun w hw => atoms_spec (ws := xcw q :: xW) hB.pre _ (List.mem_cons_of_mem _ hw), p1, hB.notSynchronized⟩
        have hin : ini = true → meth.name = "<init>" := fun h9 => (name_of_methodNamed hB.named hB.method).1.trans (m6 h9)
        have hx8 := p3.2.2.2.2.2.2.2
        have hx6 := p3.2.2.2.2.2.1
        obtain ⟨vs, rfl⟩ : ∃ vs : List Value, args = vs.toArray := ⟨args.toList, rfl⟩
        have p2 : xs2 (xad o S.heap.size old) as vs := p2
        have hlen : (lg_sl vs).length ≤ q.2.2.1 := by
          rw [← m3]
          refine Nat.le_trans (Nat.le_of_eq ?_) ha
          exact xsl_len p2
        have hlv := lv_entry vs (n := q.2.2.1) hlen
        rw [lg_entry_eq]
        refine xrunK_ok (K0 := fun _ _ _ _ => none) (d := d) (c0 := hp.2.2.2.1) (s0 := hp.2.2.2.2) F G hl9 hT m5 (by rw [hB.returns]; exact m4) hin ⟨by omega, hx8⟩ (Or.inr ⟨r, h, rfl, ?_, ?_⟩) ⟨by show d + 11 ≤ 10 + (d + 1); omega, by show 264 + 64 * d ≤ 200 + 64 * (d + 1); omega⟩ ⟨?_, ?_⟩ ih hi (fun _ _ _ _ h9 => (by cases h9)) (fun _ _ _ _ h9 => (by cases h9)) xfuel 0 _ [] hp hr s.heap [] 0 0 _ (lv_args 0 vs) [] hlv (xargs_ok 0 p2) trivial p3 (fun z hz => by cases hz) (Nat.zero_add _) (Nat.zero_add _)
        · have := hm3.1
          show _ ≤ (r.2.2.1.2.2.2.1 - hp.2.2.2.1) + hp.2.2.2.1
          omega
        · have := hm3.2
          show _ ≤ (r.2.2.1.2.2.2.2 - hp.2.2.2.2) + hp.2.2.2.2
          omega
        · have := hmono.1
          have := hm3.1
          show _ ≤ (r.2.2.1.2.2.2.1 - hp.2.2.2.1) + hp.2.2.2.1
          omega
        · have := hmono.2
          have := hm3.2
          show _ ≤ (r.2.2.1.2.2.2.2 - hp.2.2.2.2) + hp.2.2.2.2
          omega
      obtain ⟨y, bytes, maxL, ret, ho⟩ := q
      cases ho with
      | none =>
        refine vx_ofWF (cc := bytes) (maxL := maxL) (ret := ret) m1 rfl ?_
        intro p e s m args below meth c s₁ hB hml ht hP
        refine body p e s m args below meth c s₁ hB hml ?_ hP
        show _ = []
        match hc : c.exceptionTable.toList, ht with
        | [], _ => rfl
        | x :: _, ht => exact (ht x (by simp)).elim
      | some hh9 =>
        refine vx_ofWHF (cc := bytes) (maxL := maxL) (ret := ret) (hh := hh9) m1 rfl ?_
        intro p e s m args below meth c s₁ hB hml hP
        exact body p e s m args below meth c s₁ hB hml (vx_table (x := y) (bytes := bytes) (maxL' := maxL) (ret' := ret) hB (atoms_spec (ws := xcw (y, (bytes, (maxL, (ret, some hh9)))) :: xW) hB.pre _ List.mem_cons_self)) hP
end Method
