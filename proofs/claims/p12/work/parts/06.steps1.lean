/-! ===== the steps: locals, stack, numbers, branches ===== -/
/-- the frame: machine, code, locals, its class, the tables' words, the tables as at the law's entry, no lock -/
def xFx (p : Program) (s : State) (m : MethodId) (args : Array Value) (meth : Method) (c : Code) (cc : ByteArray) (nL : Nat) (own : String) (S : State) : Prop :=
  p.tables.exec = Jvm.exec ∧ c.code = cc ∧ c.maxLocals = nL ∧ s.vm.findClass own = some m.cls ∧ (∀ w ∈ lw_tbl.filter goodWord, w.before args s = true) ∧ S.WarmedH s.vm ∧ meth.locks = false
/-- from every state of the machine that the runner's state tells of, the goal is reached -/
def xG (p : Program) (l : Launch) (e : Env) (R : Room) (s : State) (m : MethodId) (args : Array Value) (below : List Frame) (meth : Method) (c : Code) (nL : Nat) (S : State) (o : Nat) (old : Nat → Nat) (D : va_G) (c0 s0 : Nat) (Q : State → Prop) (pc : Nat) (loc : List (Nat × xA)) (stk : List xA) (hp : xH) : Prop :=
  ∀ (H : Heap) (locs : List Loc) (cells slots : Nat) (ls : Array Slot) (lv : List (Nat × Value)) (st : List Value), lv_has ls nL lv → xl2 (xad o S.heap.size old) loc lv → xs2 (xad o S.heap.size old) stk st → xhr o old D S hp H → (∀ z ∈ locs, S.heap.size ≤ z.base) → cells + c0 = hp.2.2.2.1 → slots + s0 = hp.2.2.2.2 →
    W p l e R s m args below meth c H locs cells slots Q (F0 m pc ls st)
abbrev xHyp (p : Program) (l : Launch) (e : Env) (R : Room) (s : State) (m : MethodId) (args : Array Value) (below : List Frame) (meth : Method) (c : Code) (nL : Nat) (S : State) (o : Nat) (old : Nat → Nat) (D : va_G) (c0 s0 : Nat) (Q : State → Prop) (K : xK) (out : xE) : Prop :=
  ∀ (pc : Nat) (loc : List (Nat × xA)) (stk : List xA) (hp : xH), K pc loc stk hp = some out → xG p l e R s m args below meth c nL S o old D c0 s0 Q pc loc stk hp
section Steps1
variable {p : Program} {l : Launch} {e : Env} {R : Room} {s : State} {m : MethodId} {args : Array Value} {below : List Frame} {meth : Method} {c : Code} {cc : ByteArray} {nL : Nat} {own : String} {S : State} {o : Nat} {old : Nat → Nat} {D : va_G} {c0 s0 : Nat} {Q : State → Prop}
variable {pc nx : Nat} {K : xK} {out : xE} {loc : List (Nat × xA)} {stk : List xA} {hp : xH} {ft : Nat → List Nat} {call : xF} {pool : Nat → xP} {hs : List (Nat × (Nat × (Nat × Nat)))}

theorem xk_push (F : xFx p s m args meth c cc nL own S) {a : xA} {v : Value} (hv : xR (xad o S.heap.size old) a v) (row : ∀ (H : Heap) (locs : List Loc) (cells slots : Nat) (ls : Array Slot) (st : List Value), W p l e R s m args below meth c H locs cells slots Q (F0 m nx ls (v :: st)) → W p l e R s m args below meth c H locs cells slots Q (F0 m pc ls st)) (hK : xHyp p l e R s m args below meth c nL S o old D c0 s0 Q K out) (h : K nx loc (a :: stk) hp = some out) : xG p l e R s m args below meth c nL S o old D c0 s0 Q pc loc stk hp := by
  intro H locs cells slots ls lv st hlv hl hs1 hh hlo hc hsl
  exact row _ _ _ _ _ _ (hK _ _ _ _ h H locs cells slots ls lv _ hlv hl ⟨hv, hs1⟩ hh hlo hc hsl)
theorem xk_ii (F : xFx p s m args meth c cc nL own S) {f : Nat → Nat → Nat} {op : Int32 → Int32 → Int32} (hf : ∀ x y, Int32.ofNat (f x y) = op (Int32.ofNat x) (Int32.ofNat y)) (row : ∀ (H : Heap) (locs : List Loc) (cells slots : Nat) (ls : Array Slot) (x y : Int32) (st : List Value), W p l e R s m args below meth c H locs cells slots Q (F0 m nx ls (.int (op x y) :: st)) → W p l e R s m args below meth c H locs cells slots Q (F0 m pc ls (.int y :: .int x :: st))) (hK : xHyp p l e R s m args below meth c nL S o old D c0 s0 Q K out) (h : (match stk with
    | b :: a :: rest => xj (xbin f a b) fun v => K nx loc (v :: rest) hp
    | _ => none) = some out) : xG p l e R s m args below meth c nL S o old D c0 s0 Q pc loc stk hp := by
  intro H locs cells slots ls lv st hlv hl hs1 hh hlo hc hsl
  match stk, hs1, h with
  | [], _, h => cases h
  | [_], _, h => cases h
  | b :: a :: rest, hs1, h =>
    obtain ⟨r, hr, h⟩ := xj_some h
    obtain ⟨vb, st1, rfl, rb, hs2⟩ := xs2_cons hs1
    obtain ⟨va, st2, rfl, ra, hs3⟩ := xs2_cons hs2
    obtain ⟨x, y, rfl, rfl, rr⟩ := xbin_ok hf ra rb hr
    exact row _ _ _ _ _ _ _ _ (hK _ _ _ _ h H locs cells slots ls lv _ hlv hl ⟨rr, hs3⟩ hh hlo hc hsl)
theorem xk_ll (F : xFx p s m args meth c cc nL own S) {f : Nat → Nat → Nat} {op : Int64 → Int64 → Int64} (hf : ∀ x y, Int64.ofNat (f x y) = op (Int64.ofNat x) (Int64.ofNat y)) (row : ∀ (H : Heap) (locs : List Loc) (cells slots : Nat) (ls : Array Slot) (x y : Int64) (st : List Value), W p l e R s m args below meth c H locs cells slots Q (F0 m nx ls (.long (op x y) :: st)) → W p l e R s m args below meth c H locs cells slots Q (F0 m pc ls (.long y :: .long x :: st))) (hK : xHyp p l e R s m args below meth c nL S o old D c0 s0 Q K out) (h : (match stk with
    | b :: a :: rest => xj (xbinl f a b) fun v => K nx loc (v :: rest) hp
    | _ => none) = some out) : xG p l e R s m args below meth c nL S o old D c0 s0 Q pc loc stk hp := by
  intro H locs cells slots ls lv st hlv hl hs1 hh hlo hc hsl
  match stk, hs1, h with
  | [], _, h => cases h
  | [_], _, h => cases h
  | b :: a :: rest, hs1, h =>
    obtain ⟨r, hr, h⟩ := xj_some h
    obtain ⟨vb, st1, rfl, rb, hs2⟩ := xs2_cons hs1
    obtain ⟨va, st2, rfl, ra, hs3⟩ := xs2_cons hs2
    obtain ⟨x, y, rfl, rfl, rr⟩ := xbinl_ok hf ra rb hr
    exact row _ _ _ _ _ _ _ _ (hK _ _ _ _ h H locs cells slots ls lv _ hlv hl ⟨rr, hs3⟩ hh hlo hc hsl)
theorem xk_one (F : xFx p s m args meth c cc nL own S) {g : xA → Option xA} {wv : Value → Value → Prop} (hg : ∀ {a r : xA} {v : Value}, xR (xad o S.heap.size old) a v → g a = some r → ∃ u, wv v u ∧ xR (xad o S.heap.size old) r u) (row : ∀ (H : Heap) (locs : List Loc) (cells slots : Nat) (ls : Array Slot) (v u : Value) (st : List Value), wv v u → W p l e R s m args below meth c H locs cells slots Q (F0 m nx ls (u :: st)) → W p l e R s m args below meth c H locs cells slots Q (F0 m pc ls (v :: st))) (hK : xHyp p l e R s m args below meth c nL S o old D c0 s0 Q K out) (h : (match stk with
    | a :: rest => xj (g a) fun v => K nx loc (v :: rest) hp
    | _ => none) = some out) : xG p l e R s m args below meth c nL S o old D c0 s0 Q pc loc stk hp := by
  intro H locs cells slots ls lv st hlv hl hs1 hh hlo hc hsl
  match stk, hs1, h with
  | [], _, h => cases h
  | a :: rest, hs1, h =>
    obtain ⟨r, hr, h⟩ := xj_some h
    obtain ⟨va, st2, rfl, ra, hs1⟩ := xs2_cons hs1
    obtain ⟨u, hu, ru⟩ := hg ra hr
    exact row _ _ _ _ _ _ _ _ hu (hK _ _ _ _ h H locs cells slots ls lv _ hlv hl ⟨ru, hs1⟩ hh hlo hc hsl)
theorem xk_two (F : xFx p s m args meth c cc nL own S) {g : xA → xA → Option xA} {wv : Value → Value → Value → Prop} (hg : ∀ {a b r : xA} {v z : Value}, xR (xad o S.heap.size old) a v → xR (xad o S.heap.size old) b z → g a b = some r → ∃ u, wv v z u ∧ xR (xad o S.heap.size old) r u) (row : ∀ (H : Heap) (locs : List Loc) (cells slots : Nat) (ls : Array Slot) (v z u : Value) (st : List Value), wv v z u → W p l e R s m args below meth c H locs cells slots Q (F0 m nx ls (u :: st)) → W p l e R s m args below meth c H locs cells slots Q (F0 m pc ls (z :: v :: st))) (hK : xHyp p l e R s m args below meth c nL S o old D c0 s0 Q K out) (h : (match stk with
    | b :: a :: rest => xj (g a b) fun v => K nx loc (v :: rest) hp
    | _ => none) = some out) : xG p l e R s m args below meth c nL S o old D c0 s0 Q pc loc stk hp := by
  intro H locs cells slots ls lv st hlv hl hs1 hh hlo hc hsl
  match stk, hs1, h with
  | [], _, h => cases h
  | [_], _, h => cases h
  | b :: a :: rest, hs1, h =>
    obtain ⟨r, hr, h⟩ := xj_some h
    obtain ⟨vb, st1, rfl, rb, hs1⟩ := xs2_cons hs1
    obtain ⟨va, st2, rfl, ra, hs1⟩ := xs2_cons hs1
    obtain ⟨u, hu, ru⟩ := hg ra rb hr
    exact row _ _ _ _ _ _ _ _ _ hu (hK _ _ _ _ h H locs cells slots ls lv _ hlv hl ⟨ru, hs1⟩ hh hlo hc hsl)
theorem xk_load (F : xFx p s m args meth c cc nL own S) {i : Nat} {kk : xA → Bool} (row : ∀ (H : Heap) (locs : List Loc) (cells slots : Nat) (ls : Array Slot) (a : xA) (v : Value) (st : List Value), ls[i]? = some (.val v) → xR (xad o S.heap.size old) a v → kk a = true → W p l e R s m args below meth c H locs cells slots Q (F0 m nx ls (v :: st)) → W p l e R s m args below meth c H locs cells slots Q (F0 m pc ls st)) (hK : xHyp p l e R s m args below meth c nL S o old D c0 s0 Q K out) (h : (xj (xlk loc i) fun a => cond (kk a) (K nx loc (a :: stk) hp) none) = some out) : xG p l e R s m args below meth c nL S o old D c0 s0 Q pc loc stk hp := by
  intro H locs cells slots ls lv st hlv hl hs1 hh hlo hc hsl
  obtain ⟨a, ha, h⟩ := xj_some h
  obtain ⟨hk, h⟩ := cond_some h
  obtain ⟨k, v, h5, h6⟩ := xlk_ok hl ha
  exact row _ _ _ _ _ a v _ (lv_at hlv k h5) h6 hk (hK _ _ _ _ h H locs cells slots ls lv _ hlv hl ⟨h6, hs1⟩ hh hlo hc hsl)
theorem xk_store1 (F : xFx p s m args meth c cc nL own S) {i : Nat} {kk : xA → Bool} (row : ∀ (H : Heap) (locs : List Loc) (cells slots : Nat) (ls : Array Slot) (lv : List (Nat × Value)) (a : xA) (v : Value) (st : List Value), lv_has ls nL lv → xR (xad o S.heap.size old) a v → kk a = true → (∀ ls' : Array Slot, lv_has ls' nL ((i, v) :: lv.filter (fun q => !(q.1 == i) && !(q.1 + 1 == i && q.2.category == 2))) → W p l e R s m args below meth c H locs cells slots Q (F0 m nx ls' st)) → W p l e R s m args below meth c H locs cells slots Q (F0 m pc ls (v :: st))) (hK : xHyp p l e R s m args below meth c nL S o old D c0 s0 Q K out) (h : (match stk with
    | a :: rest => cond (kk a) (K nx (xst1 loc i a) rest hp) none
    | _ => none) = some out) : xG p l e R s m args below meth c nL S o old D c0 s0 Q pc loc stk hp := by
  intro H locs cells slots ls lv st hlv hl hs1 hh hlo hc hsl
  match stk, hs1, h with
  | [], _, h => cases h
  | a :: rest, hs1, h =>
    obtain ⟨hk, h⟩ := cond_some h
    obtain ⟨va, st2, rfl, ra, hs1⟩ := xs2_cons hs1
    exact row _ _ _ _ _ _ a va _ hlv ra hk fun ls' hlv' => hK _ _ _ _ h H locs cells slots ls' _ _ hlv' (xst1_ok hl ra) hs1 hh hlo hc hsl
theorem xk_store2 (F : xFx p s m args meth c cc nL own S) {i : Nat} {kk : xA → Bool} (row : ∀ (H : Heap) (locs : List Loc) (cells slots : Nat) (ls : Array Slot) (lv : List (Nat × Value)) (a : xA) (v : Value) (st : List Value), lv_has ls nL lv → xR (xad o S.heap.size old) a v → kk a = true → (∀ ls' : Array Slot, lv_has ls' nL ((i, v) :: lv.filter (fun q => !(q.1 == i) && (!(q.1 == i + 1) && !(q.1 + 1 == i && q.2.category == 2)))) → W p l e R s m args below meth c H locs cells slots Q (F0 m nx ls' st)) → W p l e R s m args below meth c H locs cells slots Q (F0 m pc ls (v :: st))) (hK : xHyp p l e R s m args below meth c nL S o old D c0 s0 Q K out) (h : (match stk with
    | a :: rest => cond (kk a) (K nx (xst2 loc i a) rest hp) none
    | _ => none) = some out) : xG p l e R s m args below meth c nL S o old D c0 s0 Q pc loc stk hp := by
  intro H locs cells slots ls lv st hlv hl hs1 hh hlo hc hsl
  match stk, hs1, h with
  | [], _, h => cases h
  | a :: rest, hs1, h =>
    obtain ⟨hk, h⟩ := cond_some h
    obtain ⟨va, st2, rfl, ra, hs1⟩ := xs2_cons hs1
    exact row _ _ _ _ _ _ a va _ hlv ra hk fun ls' hlv' => hK _ _ _ _ h H locs cells slots ls' _ _ hlv' (xst2_ok hl ra) hs1 hh hlo hc hsl
end Steps1
