/-! ===== the checker's steps, sound: locals, stack, numbers, branches ===== -/
section ZSteps
variable {G : zW} {W : zWr} {hp0 : xH} {ν0 : Nat → Int} {g : List zE} {o : Nat} {ft : Nat → List Nat} {call : xF} {pool : Nat → xP} {hs : List (Nat × (Nat × (Nat × Nat)))} {tab : Lean.RArray xI} {P : xE → Prop} {N : Nat}
/-- from every run that the symbolic state tells of, the end is good -/
def zOk (G : zW) (W : zWr) (hp0 : xH) (ν0 : Nat → Int) (g : List zE) (o : Nat) (ft : Nat → List Nat) (call : xF) (pool : Nat → xP) (hs : List (Nat × (Nat × (Nat × Nat)))) (tab : Lean.RArray xI) (P : xE → Prop) (N pc : Nat) (X : zQ) (loc : zLc) (stk : List zV) : Prop :=
  ∀ ν l s hp, zRel G W hp0 ν0 g ν X hp → zLo X.1 ν loc l → zSt X.1 ν stk s → zG o ft call pool hs tab P N pc l s hp
abbrev zHK (G : zW) (W : zWr) (hp0 : xH) (ν0 : Nat → Int) (g : List zE) (o : Nat) (ft : Nat → List Nat) (call : xF) (pool : Nat → xP) (hs : List (Nat × (Nat × (Nat × Nat)))) (tab : Lean.RArray xI) (P : xE → Prop) (N : Nat) (K : zKs) : Prop :=
  ∀ pc X loc stk os r, K pc X loc stk os = some r → zOk G W hp0 ν0 g o ft call pool hs tab P N pc X loc stk
variable {K : zKs} {pc nx len : Nat} {X : zQ} {loc : zLc} {stk rest : List zV} {os r : List zO} {ν : Nat → Int} {l : List (Nat × xA)} {s : List xA} {hp : xH} {u : xA}
theorem zgo {pc' : Nat} (hK : zHK G W hp0 ν0 g o ft call pool hs tab P N K) (hr : zRes G W hp0 ν0 g (fun X v os => K pc' X loc (v :: rest) os) r ν X hp u) (hl : zLo X.1 ν loc l) (hst : zSt X.1 ν rest s) : zG o ft call pool hs tab P N pc' l (u :: s) hp := by
  obtain ⟨ν', X', v, os', h1, h2, h3, h4, h5⟩ := hr
  exact hK _ _ _ _ _ _ h1 ν' l (u :: s) hp h2 (hl.mono h3 h4) ⟨h5, hst.mono h3 h4⟩
/-- the same, into a local -/
theorem zgo1 {pc' i : Nat} (hK : zHK G W hp0 ν0 g o ft call pool hs tab P N K) (hr : zRes G W hp0 ν0 g (fun X v os => K pc' X (zst1 loc i v) rest os) r ν X hp u) (hl : zLo X.1 ν loc l) (hst : zSt X.1 ν rest s) : zG o ft call pool hs tab P N pc' (xst1 l i u) s hp := by
  obtain ⟨ν', X', v, os', h1, h2, h3, h4, h5⟩ := hr
  exact hK _ _ _ _ _ _ h1 ν' _ s hp h2 ((hl.mono h3 h4).st1 h5) (hst.mono h3 h4)
def zldI (loc : zLc) (i : Nat) : Option zE := match loc[i]? with
  | some (some (.inl e)) => some e
  | _ => none
def zldJ (loc : zLc) (i : Nat) : Option zE := match loc[i]? with
  | some (some (.inr (.inl e))) => some e
  | _ => none
def zldR (loc : zLc) (i : Nat) : Option Nat := match loc[i]? with
  | some (some (.inr (.inr x))) => some x
  | _ => none
theorem zldI_ok {i : Nat} {e : zE} (hl : zLo X.1 ν loc l) (h : zldI loc i = some e) : xlk l i = some (.inl (zc32 (zv ν e))) ∧ zlt X.1 e ∧ zi32 (zv ν e) := by
  unfold zldI at h
  split at h
  · next e' he =>
    cases h
    obtain ⟨u, h1, h2, h3, h4⟩ := hl i _ he
    exact ⟨by rw [h1, h4], h2, h3⟩
  · cases h
theorem zldJ_ok {i : Nat} {e : zE} (hl : zLo X.1 ν loc l) (h : zldJ loc i = some e) : xlk l i = some (.inr (.inl (zc64 (zv ν e)))) ∧ zlt X.1 e ∧ zi64 (zv ν e) := by
  unfold zldJ at h
  split at h
  · next e' he =>
    cases h
    obtain ⟨u, h1, h2, h3, h4⟩ := hl i _ he
    exact ⟨by rw [h1, h4], h2, h3⟩
  · cases h
theorem zldR_ok {i x : Nat} (hl : zLo X.1 ν loc l) (h : zldR loc i = some x) : x < X.1 ∧ ∃ k : Nat, ν x = (k : Int) ∧ xlk l i = some (.inr (.inr (.inl k))) := by
  unfold zldR at h
  split at h
  · next e' he =>
    cases h
    obtain ⟨u, h1, h2, k, h3, h4⟩ := hl i _ he
    exact ⟨h2, k, h3, by rw [h1, h4]⟩
  · cases h
/-- a constant -/
def zlit (K : zKs) (nx : Nat) (X : zQ) (loc : zLc) (stk : List zV) (os : List zO) (m : Nat) : Option (List zO) := cond (Nat.blt m 4294967296) (K nx X loc (.inl (zK (zsg32 m)) :: stk) os) none
theorem zi_lit {i : Instr} {m : Nat} (hK : zHK G W hp0 ν0 g o ft call pool hs tab P N K) (ht : xget tab pc = (pc, (i, (len, nx)))) (he : ∀ K l s hp, xstep o ft call pool hs K i pc nx l s hp = K nx l (.inl m :: s) hp) (h : zlit K nx X loc stk os m = some r) : zOk G W hp0 ν0 g o ft call pool hs tab P (N + 1) pc X loc stk := by
  intro ν l s hp hr hl hst
  obtain ⟨h1, h2⟩ := cond_some h
  obtain ⟨h3, h4⟩ := zsg32_ok (Nat.le_of_ble_eq_true h1)
  refine zG.step ht (fun K => he K l s hp) (hK _ _ _ _ _ _ h2 ν l _ hp hr hl ⟨⟨zlt_K _ _, ?_, ?_⟩, hst⟩)
  · rw [zK_ok]; exact h3
  · rw [zK_ok, h4]
def zlit64 (K : zKs) (nx : Nat) (X : zQ) (loc : zLc) (stk : List zV) (os : List zO) (m : Nat) : Option (List zO) := cond (Nat.blt m 18446744073709551616) (K nx X loc (.inr (.inl (zK (zsg64 m))) :: stk) os) none
theorem zi_lit64 {i : Instr} {m : Nat} (hK : zHK G W hp0 ν0 g o ft call pool hs tab P N K) (ht : xget tab pc = (pc, (i, (len, nx)))) (he : ∀ K l s hp, xstep o ft call pool hs K i pc nx l s hp = K nx l (.inr (.inl m) :: s) hp) (h : zlit64 K nx X loc stk os m = some r) : zOk G W hp0 ν0 g o ft call pool hs tab P (N + 1) pc X loc stk := by
  intro ν l s hp hr hl hst
  obtain ⟨h1, h2⟩ := cond_some h
  obtain ⟨h3, h4⟩ := zsg64_ok (Nat.le_of_ble_eq_true h1)
  refine zG.step ht (fun K => he K l s hp) (hK _ _ _ _ _ _ h2 ν l _ hp hr hl ⟨⟨zlt_K _ _, ?_, ?_⟩, hst⟩)
  · rw [zK_ok]; exact h3
  · rw [zK_ok, h4]
/-- loads -/
theorem zi_loadI {i : Instr} {k : Nat} (hK : zHK G W hp0 ν0 g o ft call pool hs tab P N K) (ht : xget tab pc = (pc, (i, (len, nx)))) (he : ∀ K l s hp, xstep o ft call pool hs K i pc nx l s hp = xj (xlk l k) fun a => cond (xik a) (K nx l (a :: s) hp) none) (h : (xj (zldI loc k) fun e => K nx X loc (.inl e :: stk) os) = some r) : zOk G W hp0 ν0 g o ft call pool hs tab P (N + 1) pc X loc stk := by
  intro ν l s hp hr hl hst
  obtain ⟨e, h1, h2⟩ := xj_some h
  obtain ⟨h3, h4, h5⟩ := zldI_ok hl h1
  exact zG.step ht (fun K => by rw [he, h3]; rfl) (hK _ _ _ _ _ _ h2 ν l (.inl (zc32 (zv ν e)) :: s) hp hr hl ⟨⟨h4, h5, rfl⟩, hst⟩)
theorem zi_loadJ {i : Instr} {k : Nat} (hK : zHK G W hp0 ν0 g o ft call pool hs tab P N K) (ht : xget tab pc = (pc, (i, (len, nx)))) (he : ∀ K l s hp, xstep o ft call pool hs K i pc nx l s hp = xj (xlk l k) fun a => cond (xlk2 a) (K nx l (a :: s) hp) none) (h : (xj (zldJ loc k) fun e => K nx X loc (.inr (.inl e) :: stk) os) = some r) : zOk G W hp0 ν0 g o ft call pool hs tab P (N + 1) pc X loc stk := by
  intro ν l s hp hr hl hst
  obtain ⟨e, h1, h2⟩ := xj_some h
  obtain ⟨h3, h4, h5⟩ := zldJ_ok hl h1
  exact zG.step ht (fun K => by rw [he, h3]; rfl) (hK _ _ _ _ _ _ h2 ν l (.inr (.inl (zc64 (zv ν e))) :: s) hp hr hl ⟨⟨h4, h5, rfl⟩, hst⟩)
theorem zi_loadR {i : Instr} {k : Nat} (hK : zHK G W hp0 ν0 g o ft call pool hs tab P N K) (ht : xget tab pc = (pc, (i, (len, nx)))) (he : ∀ K l s hp, xstep o ft call pool hs K i pc nx l s hp = xj (xlk l k) fun a => cond (xak a) (K nx l (a :: s) hp) none) (h : (xj (zldR loc k) fun x => K nx X loc (.inr (.inr x) :: stk) os) = some r) : zOk G W hp0 ν0 g o ft call pool hs tab P (N + 1) pc X loc stk := by
  intro ν l s hp hr hl hst
  obtain ⟨x, h1, h2⟩ := xj_some h
  obtain ⟨h3, k9, h4, h5⟩ := zldR_ok hl h1
  exact zG.step ht (fun K => by rw [he, h5]; rfl) (hK _ _ _ _ _ _ h2 ν l (.inr (.inr (.inl k9)) :: s) hp hr hl ⟨⟨h3, k9, h4, rfl⟩, hst⟩)
/-- stores -/
theorem zi_store1 {i : Instr} {k : Nat} {ok : xA → Bool} (hK : zHK G W hp0 ν0 g o ft call pool hs tab P N K) (ht : xget tab pc = (pc, (i, (len, nx)))) (he : ∀ K l s hp, xstep o ft call pool hs K i pc nx l s hp = (match s with
    | a :: rest => cond (ok a) (K nx (xst1 l k a) rest hp) none
    | _ => none)) {v : zV} (hv : ∀ n ν u, zR n ν v u → ok u = true) (h : K nx X (zst1 loc k v) rest os = some r) : zOk G W hp0 ν0 g o ft call pool hs tab P (N + 1) pc X loc (v :: rest) := by
  intro ν l s hp hr hl hst
  obtain ⟨b, bs, rfl, h1, h2⟩ := hst.cons
  exact zG.step ht (fun K => by rw [he]; show cond (ok b) _ none = _; rw [hv _ _ _ h1]; rfl) (hK _ _ _ _ _ _ h ν _ bs hp hr (hl.st1 h1) h2)
theorem zi_store2 {i : Instr} {k : Nat} {ok : xA → Bool} (hK : zHK G W hp0 ν0 g o ft call pool hs tab P N K) (ht : xget tab pc = (pc, (i, (len, nx)))) (he : ∀ K l s hp, xstep o ft call pool hs K i pc nx l s hp = (match s with
    | a :: rest => cond (ok a) (K nx (xst2 l k a) rest hp) none
    | _ => none)) {v : zV} (hv : ∀ n ν u, zR n ν v u → ok u = true) (h : K nx X (zst2 loc k v) rest os = some r) : zOk G W hp0 ν0 g o ft call pool hs tab P (N + 1) pc X loc (v :: rest) := by
  intro ν l s hp hr hl hst
  obtain ⟨b, bs, rfl, h1, h2⟩ := hst.cons
  exact zG.step ht (fun K => by rw [he]; show cond (ok b) _ none = _; rw [hv _ _ _ h1]; rfl) (hK _ _ _ _ _ _ h ν _ bs hp hr (hl.st2 h1) h2)
end ZSteps
