/-! ===== the checker's steps that run nothing: a dead branch, facts, cases, other words for a number ===== -/
/-- facts that follow -/
def zders (Γ : List zE) (n : Nat) : List zE → List zC → Bool
  | [], _ => true
  | f :: fs, c :: cs => zltB n f && (zent Γ f c && zders Γ n fs cs)
  | _ :: _, [] => false
theorem zders_ok {Γ : List zE} {n : Nat} {ν : Nat → Int} (hF : ∀ f ∈ Γ, 0 ≤ zv ν f) : ∀ {fs : List zE} {cs : List zC}, zders Γ n fs cs = true → ∀ f ∈ fs, zlt n f ∧ 0 ≤ zv ν f := by
  intro fs
  induction fs with
  | nil => intro cs _ f hf; cases hf
  | cons a fs ih =>
    intro cs h f hf
    cases cs with
    | nil => cases h
    | cons c cs =>
      obtain ⟨h1, h2⟩ := and_true' (show (zltB n a && (zent Γ a c && zders Γ n fs cs)) = true from h)
      obtain ⟨h2, h3⟩ := and_true' h2
      rcases List.mem_cons.mp hf with rfl | hf
      · exact ⟨zltB_ok h1, zent_ok hF h2⟩
      · exact ih h3 f hf
/-- the same number -/
def zsame (Γ : List zE) (n : Nat) (e e' : zE) (c1 c2 : zC) : Bool := zltB n e' && (zent Γ (zfLe e e') c1 && zent Γ (zfLe e' e) c2)
theorem zsame_ok {Γ : List zE} {n : Nat} {ν : Nat → Int} (hF : ∀ f ∈ Γ, 0 ≤ zv ν f) {e e' : zE} {c1 c2 : zC} (h : zsame Γ n e e' c1 c2 = true) : zlt n e' ∧ zv ν e = zv ν e' := by
  obtain ⟨h1, h2⟩ := and_true' h
  obtain ⟨h2, h3⟩ := and_true' h2
  have a1 := zent_ok hF h2
  have a2 := zent_ok hF h3
  unfold zfLe at a1 a2
  rw [zmad_ok] at a1 a2
  exact ⟨zltB_ok h1, by omega⟩
def zbend (K : zKs) (pc : Nat) (X : zQ) (loc : zLc) (stk : List zV) (os : List zO) : Option (List zO) := match os with
  | (40, (c :: _, _)) :: r => cond (zent X.2.1 (zK (-1)) c) (some r) none
  | (41, (cs, (fs, _))) :: r => cond (zders X.2.1 X.1 fs cs) (K pc (X.1, (fs, X.2.2)) loc stk r) none
  | (42, (_, (e :: _, _))) :: r => cond (zltB X.1 e) (xj (K pc (zaddf X [e]) loc stk r) fun r1 => K pc (zaddf X [zmad (-1) e (zK (-1))]) loc stk r1) none
  | (43, (c1 :: c2 :: _, (e' :: _, t))) :: r => match loc[t.1]? with
    | some (some (.inl e)) => cond (zsame X.2.1 X.1 e e' c1 c2) (K pc X (loc.set t.1 (some (.inl e'))) stk r) none
    | some (some (.inr (.inl e))) => cond (zsame X.2.1 X.1 e e' c1 c2) (K pc X (loc.set t.1 (some (.inr (.inl e')))) stk r) none
    | _ => none
  | (44, (c1 :: c2 :: _, (e' :: _, _))) :: r => match stk with
    | .inl e :: rest => cond (zsame X.2.1 X.1 e e' c1 c2) (K pc X loc (.inl e' :: rest) r) none
    | .inr (.inl e) :: rest => cond (zsame X.2.1 X.1 e e' c1 c2) (K pc X loc (.inr (.inl e') :: rest) r) none
    | _ => none
  | (45, (cs, (fs, _))) :: r => cond (zders X.2.1 X.1 fs cs) (K pc (zaddf X fs) loc stk r) none
  | (46, (_, (_, t))) :: r => K pc X (loc.set t.1 none) stk r
  | _ => none
section ZBends
variable {G : zW} {W : zWr} {hp0 : xH} {ν0 : Nat → Int} {g : List zE} {o : Nat} {ft : Nat → List Nat} {call : xF} {pool : Nat → xP} {hs : List (Nat × (Nat × (Nat × Nat)))} {tab : Lean.RArray xI} {P : xE → Prop} {N : Nat}
variable {K : zKs} {pc : Nat} {X : zQ} {loc : zLc} {stk rest : List zV} {os r : List zO} {ν : Nat → Int} {l : List (Nat × xA)} {s : List xA} {hp : xH}
theorem zLo.set {n j : Nat} {v : Option zV} (h : zLo n ν loc l) (hv : ∀ w, v = some w → ∃ u, xlk l j = some u ∧ zR n ν w u) : zLo n ν (loc.set j v) l := by
  intro i w hi
  rcases zset_inv hi with ⟨rfl, b⟩ | ⟨_, b⟩
  · exact hv w b
  · exact h i w b
theorem zbend_ok (hK : zHK G W hp0 ν0 g o ft call pool hs tab P N K) (h : zbend K pc X loc stk os = some r) : zOk G W hp0 ν0 g o ft call pool hs tab P N pc X loc stk := by
  intro ν l s hp hr hl hst
  have hF : ∀ f ∈ X.2.1, 0 ≤ zv ν f := fun f hf => (hr.1 f hf).2
  unfold zbend at h
  split at h
  · obtain ⟨h1, _⟩ := cond_some h
    have := zent_ok hF h1
    rw [zK_ok] at this
    omega
  · obtain ⟨h1, h⟩ := cond_some h
    exact hK _ _ _ _ _ _ h ν l s hp ⟨zders_ok hF h1, hr.2⟩ hl hst
  · rename_i e _ _ _
    obtain ⟨h1, h⟩ := cond_some h
    have h1 := zltB_ok h1
    obtain ⟨r1, h2, h3⟩ := xj_some h
    by_cases c : 0 ≤ zv ν e
    · exact zrun hK h2 (zall1 ⟨h1, c⟩) hr hl hst
    · exact zrun hK h3 (zall1 ⟨zmad_lt h1 (zlt_K _ _), by rw [zmad_ok, zK_ok]; omega⟩) hr hl hst
  · split at h
    · next e he =>
      obtain ⟨h1, h⟩ := cond_some h
      obtain ⟨a1, a2⟩ := zsame_ok hF h1
      obtain ⟨u, b1, b2, b3, b4⟩ := hl _ _ he
      refine hK _ _ _ _ _ _ h ν l s hp hr (hl.set fun w hw => ?_) hst
      cases hw
      exact ⟨u, b1, a1, by rw [← a2]; exact b3, by rw [← a2]; exact b4⟩
    · next e he =>
      obtain ⟨h1, h⟩ := cond_some h
      obtain ⟨a1, a2⟩ := zsame_ok hF h1
      obtain ⟨u, b1, b2, b3, b4⟩ := hl _ _ he
      refine hK _ _ _ _ _ _ h ν l s hp hr (hl.set fun w hw => ?_) hst
      cases hw
      exact ⟨u, b1, a1, by rw [← a2]; exact b3, by rw [← a2]; exact b4⟩
    · cases h
  · split at h
    · obtain ⟨h1, h⟩ := cond_some h
      obtain ⟨a1, a2⟩ := zsame_ok hF h1
      obtain ⟨u, s1, rfl, ⟨b2, b3, b4⟩, h2⟩ := hst.cons
      exact hK _ _ _ _ _ _ h ν l (u :: s1) hp hr hl ⟨⟨a1, by rw [← a2]; exact b3, by rw [← a2]; exact b4⟩, h2⟩
    · obtain ⟨h1, h⟩ := cond_some h
      obtain ⟨a1, a2⟩ := zsame_ok hF h1
      obtain ⟨u, s1, rfl, ⟨b2, b3, b4⟩, h2⟩ := hst.cons
      exact hK _ _ _ _ _ _ h ν l (u :: s1) hp hr hl ⟨⟨a1, by rw [← a2]; exact b3, by rw [← a2]; exact b4⟩, h2⟩
    · cases h
  · obtain ⟨h1, h⟩ := cond_some h
    exact zrun hK h (zders_ok hF h1) hr hl hst
  · exact hK _ _ _ _ _ _ h ν l s hp hr (hl.set fun w hw => by cases hw) hst
  · cases h
end ZBends
