/-! ===== locals; results of instructions ===== -/
abbrev zLc : Type := List (Option zV)
def zLo (n : Nat) (ν : Nat → Int) (loc : zLc) (l : List (Nat × xA)) : Prop := ∀ i v, loc[i]? = some (some v) → ∃ u, xlk l i = some u ∧ zR n ν v u
theorem zLo.mono {n n' : Nat} {ν μ : Nat → Int} (hn : n ≤ n') (h : ∀ x, x < n → ν x = μ x) {loc : zLc} {l : List (Nat × xA)} (hr : zLo n ν loc l) : zLo n' μ loc l := fun i v hv => by
  obtain ⟨u, h1, h2⟩ := hr i v hv
  exact ⟨u, h1, h2.mono hn h⟩
theorem xlk_cons (q : Nat × xA) (l : List (Nat × xA)) (i : Nat) : xlk (q :: l) i = cond (Nat.beq q.1 i) (some q.2) (xlk l i) := rfl
theorem xlk_filter {f : Nat × xA → Bool} {j : Nat} {u : xA} (hf : f (j, u) = true) : ∀ {l : List (Nat × xA)}, xlk l j = some u → xlk (l.filter f) j = some u := by
  intro l
  induction l with
  | nil => intro h; cases h
  | cons q l ih =>
    intro h
    rw [xlk_cons] at h
    rw [List.filter_cons]
    cases hb : Nat.beq q.1 j with
    | true =>
      rw [hb, cond_true] at h
      have e : q = (j, u) := by
        obtain ⟨a, b⟩ := q
        cases Nat.eq_of_beq_eq_true hb
        cases h
        rfl
      rw [e, hf, if_pos rfl, xlk_cons, Nat.beq_refl]
      rfl
    | false =>
      rw [hb, cond_false] at h
      cases f q with
      | true => rw [if_pos rfl, xlk_cons, hb]; exact ih h
      | false => rw [if_neg (by decide)]; exact ih h
/-- the local ahead is no long any more -/
def zclr (loc : zLc) (i : Nat) : zLc := match i with
  | 0 => loc
  | i + 1 => loc.set i none
def zst1 (loc : zLc) (i : Nat) (v : zV) : zLc := match i with
  | 0 => loc.set 0 (some v)
  | i + 1 => (match loc[i]? with
    | some (some w) => cond (Nat.beq (zcat w) 2) (loc.set i none) loc
    | _ => loc).set (i + 1) (some v)
def zst2 (loc : zLc) (i : Nat) (v : zV) : zLc := (zst1 loc i v).set (i + 1) none
theorem zset_inv {loc : zLc} {i j : Nat} {a : Option zV} {v : zV} (h : (loc.set i a)[j]? = some (some v)) : (j = i ∧ a = some v) ∨ (j ≠ i ∧ loc[j]? = some (some v)) := by
  rw [List.getElem?_set] at h
  by_cases e : i = j
  · rw [if_pos e] at h
    refine Or.inl ⟨e.symm, ?_⟩
    split at h
    · exact Option.some.inj h
    · cases h
  · rw [if_neg e] at h
    exact Or.inr ⟨fun z => e z.symm, h⟩
theorem zst1_inv {loc : zLc} {i j : Nat} {v w : zV} (h : (zst1 loc i v)[j]? = some (some w)) : (j = i ∧ w = v) ∨ (j ≠ i ∧ loc[j]? = some (some w) ∧ (j + 1 = i → zcat w ≠ 2)) := by
  cases i with
  | zero =>
    rcases zset_inv h with ⟨a, b⟩ | ⟨a, b⟩
    · exact Or.inl ⟨a, (Option.some.inj b).symm⟩
    · exact Or.inr ⟨a, b, fun z => absurd z (by omega)⟩
  | succ i =>
    rcases zset_inv h with ⟨a, b⟩ | ⟨a, b⟩
    · exact Or.inl ⟨a, (Option.some.inj b).symm⟩
    · refine Or.inr ⟨a, ?_⟩
      split at b
      · next w9 hw9 =>
        cases hc : Nat.beq (zcat w9) 2 with
        | true =>
          rw [hc, cond_true] at b
          rcases zset_inv b with ⟨a2, b2⟩ | ⟨a2, b2⟩
          · cases b2
          · exact ⟨b2, fun z => absurd (by omega) a2⟩
        | false =>
          rw [hc, cond_false] at b
          refine ⟨b, fun z => ?_⟩
          have e : j = i := by omega
          rw [e, hw9] at b
          cases b
          intro z2
          rw [z2] at hc
          cases hc
      · next hno =>
        refine ⟨b, fun z => ?_⟩
        have e : j = i := by omega
        rw [e] at b
        exact absurd b (hno w)
theorem zLo.st1 {n : Nat} {ν : Nat → Int} {loc : zLc} {l : List (Nat × xA)} (h : zLo n ν loc l) {i : Nat} {v : zV} {u : xA} (hv : zR n ν v u) : zLo n ν (zst1 loc i v) (xst1 l i u) := by
  intro j w hj
  rcases zst1_inv hj with ⟨rfl, rfl⟩ | ⟨a, b, c⟩
  · refine ⟨u, ?_, hv⟩
    show xlk ((j, u) :: _) j = some u
    rw [xlk_cons, Nat.beq_refl]
    rfl
  · obtain ⟨u', h1, h2⟩ := h j w b
    refine ⟨u', ?_, h2⟩
    show xlk ((i, u) :: _) j = some u'
    rw [xlk_cons, show Nat.beq i j = false from nbeq fun z => a z.symm, cond_false]
    refine xlk_filter ?_ h1
    show (!(Nat.beq j i) && !(Nat.beq (Nat.add j 1) i && Nat.beq (xcat u') 2)) = true
    rw [nbeq a, h2.cat]
    by_cases e : j + 1 = i
    · rw [show Nat.beq (zcat w) 2 = false from nbeq (c e), Bool.and_false]
      rfl
    · rw [show Nat.beq (Nat.add j 1) i = false from nbeq e, Bool.false_and]
      rfl
theorem zLo.st2 {n : Nat} {ν : Nat → Int} {loc : zLc} {l : List (Nat × xA)} (h : zLo n ν loc l) {i : Nat} {v : zV} {u : xA} (hv : zR n ν v u) : zLo n ν (zst2 loc i v) (xst2 l i u) := by
  intro j w hj
  rcases zset_inv hj with ⟨_, b9⟩ | ⟨hne, hj⟩
  · cases b9
  rcases zst1_inv hj with ⟨rfl, rfl⟩ | ⟨a, b, c⟩
  · refine ⟨u, ?_, hv⟩
    show xlk ((j, u) :: _) j = some u
    rw [xlk_cons, Nat.beq_refl]
    rfl
  · obtain ⟨u', h1, h2⟩ := h j w b
    refine ⟨u', ?_, h2⟩
    show xlk ((i, u) :: _) j = some u'
    rw [xlk_cons, show Nat.beq i j = false from nbeq fun z => a z.symm, cond_false]
    refine xlk_filter ?_ h1
    show (!(Nat.beq j i) && (!(Nat.beq j (Nat.add i 1)) && !(Nat.beq (Nat.add j 1) i && Nat.beq (xcat u') 2))) = true
    rw [nbeq a, h2.cat, show Nat.beq j (Nat.add i 1) = false from nbeq hne]
    by_cases e : j + 1 = i
    · rw [show Nat.beq (zcat w) 2 = false from nbeq (c e), Bool.and_false]
      rfl
    · rw [show Nat.beq (Nat.add j 1) i = false from nbeq e, Bool.false_and]
      rfl
/-- the oracle: a sort, certificates, numbers, a type -/
abbrev zO : Type := Nat × (List zC × (List zE × zT))
abbrev zKv : Type := zQ → zV → List zO → Option (List zO)
/-- a value came: where the continuation goes on from -/
def zRes (G : zW) (W : zWr) (hp0 : xH) (ν0 : Nat → Int) (g : List zE) (K : zKv) (r : List zO) (ν : Nat → Int) (X : zQ) (hp : xH) (u : xA) : Prop :=
  ∃ ν' X' v os', K X' v os' = some r ∧ zRel G W hp0 ν0 g ν' X' hp ∧ X.1 ≤ X'.1 ∧ (∀ x, x < X.1 → ν x = ν' x) ∧ zR X'.1 ν' v u
def zin (lo hi : Int) (Γ : List zE) (e : zE) (os : List zO) : Option (List zO) := match e with
  | ([], k) => cond (decide (lo ≤ k) && decide (k ≤ hi)) (some os) none
  | e => match os with
    | (0, (c1 :: c2 :: _, _)) :: r => cond (zent Γ (zmad 1 e (zK (-lo))) c1 && zent Γ (zmad (-1) e (zK hi)) c2) (some r) none
    | _ => none
theorem zin_ok {lo hi : Int} {Γ : List zE} {e : zE} {os r : List zO} {ν : Nat → Int} (h : ∀ f ∈ Γ, 0 ≤ zv ν f) (hz : zin lo hi Γ e os = some r) : lo ≤ zv ν e ∧ zv ν e ≤ hi := by
  unfold zin at hz
  split at hz
  · next k =>
    obtain ⟨h1, -⟩ := cond_some hz
    obtain ⟨h2, h3⟩ := and_true' h1
    have e1 : zv ν (([], k) : zE) = k := zK_ok ν k
    rw [e1]
    exact ⟨of_decide_eq_true h2, of_decide_eq_true h3⟩
  · split at hz
    · obtain ⟨h1, -⟩ := cond_some hz
      obtain ⟨h2, h3⟩ := and_true' h1
      have a1 := zent_ok h h2
      have a2 := zent_ok h h3
      rw [zmad_ok, zK_ok] at a1 a2
      omega
    · cases hz
/-- a new variable between two -/
def zbtw (x : Nat) (lo hi : Int) : List zE := [zmad 1 (zX x) (zK (-lo)), zmad (-1) (zX x) (zK hi)]
/-- an int that came by counting: exactly, where it is within; else any -/
def zput32 (K : zKv) (X : zQ) (e : zE) (os : List zO) : Option (List zO) := match zin (-2147483648) 2147483647 X.2.1 e os with
  | some r => K X (.inl e) r
  | none => match os with
    | (6, _) :: r => K (X.1 + 1, ((zbtw X.1 (-2147483648) 2147483647 ++ []) ++ X.2.1, X.2.2)) (.inl (zX X.1)) r
    | _ => none
section Res
variable {G : zW} {W : zWr} {hp0 : xH} {ν0 : Nat → Int} {g : List zE} {K : zKv} {r os : List zO} {ν : Nat → Int} {X : zQ} {hp : xH}
theorem zbtw_ok {x : Nat} {lo hi z : Int} (h1 : lo ≤ z) (h2 : z ≤ hi) : ∀ f ∈ zbtw x lo hi, zlt (x + 1) f ∧ 0 ≤ zv (zup ν x z) f := by
  intro f hf
  have hx : zv (zup ν x z) (zX x) = z := (zX_ok _ _).trans zup_new
  have hl : zlt (x + 1) (zX x) := zlt_X (Nat.lt_succ_self x)
  rcases List.mem_cons.mp hf with rfl | hf
  · refine ⟨zmad_lt hl (zlt_K _ _), ?_⟩
    rw [zmad_ok, hx, zK_ok]
    omega
  · rcases List.mem_cons.mp hf with rfl | hf
    · refine ⟨zmad_lt hl (zlt_K _ _), ?_⟩
      rw [zmad_ok, hx, zK_ok]
      omega
    · cases hf
theorem zres_new32 (h : zRel G W hp0 ν0 g ν X hp) {lo hi z : Int} (hz : zi32 z) (h1 : lo ≤ z) (h2 : z ≤ hi) (Fs : List zE) (hF : ∀ f ∈ Fs, zlt (X.1 + 1) f ∧ 0 ≤ zv (zup ν X.1 z) f) (hk : K (X.1 + 1, ((zbtw X.1 lo hi ++ Fs) ++ X.2.1, X.2.2)) (.inl (zX X.1)) os = some r) : zRes G W hp0 ν0 g K r ν X hp (.inl (zc32 z)) := by
  have hx : zv (zup ν X.1 z) (zX X.1) = z := (zX_ok _ _).trans zup_new
  refine ⟨zup ν X.1 z, _, _, _, hk, h.fresh z _ fun f hf => ?_, Nat.le_succ _, zup_old, zlt_X (Nat.lt_succ_self _), by rw [hx]; exact hz, by rw [hx]⟩
  rcases List.mem_append.mp hf with hf | hf
  · exact zbtw_ok h1 h2 f hf
  · exact hF f hf
theorem zres_new64 (h : zRel G W hp0 ν0 g ν X hp) {lo hi z : Int} (hz : zi64 z) (h1 : lo ≤ z) (h2 : z ≤ hi) (Fs : List zE) (hF : ∀ f ∈ Fs, zlt (X.1 + 1) f ∧ 0 ≤ zv (zup ν X.1 z) f) (hk : K (X.1 + 1, ((zbtw X.1 lo hi ++ Fs) ++ X.2.1, X.2.2)) (.inr (.inl (zX X.1))) os = some r) : zRes G W hp0 ν0 g K r ν X hp (.inr (.inl (zc64 z))) := by
  have hx : zv (zup ν X.1 z) (zX X.1) = z := (zX_ok _ _).trans zup_new
  refine ⟨zup ν X.1 z, _, _, _, hk, h.fresh z _ fun f hf => ?_, Nat.le_succ _, zup_old, zlt_X (Nat.lt_succ_self _), by rw [hx]; exact hz, by rw [hx]⟩
  rcases List.mem_append.mp hf with hf | hf
  · exact zbtw_ok h1 h2 f hf
  · exact hF f hf
theorem zres_old (h : zRel G W hp0 ν0 g ν X hp) {v : zV} {u : xA} (hv : zR X.1 ν v u) (hk : K X v os = some r) : zRes G W hp0 ν0 g K r ν X hp u := ⟨ν, X, v, os, hk, h, Nat.le_refl _, fun _ _ => rfl, hv⟩
theorem zput32_ok (h : zRel G W hp0 ν0 g ν X hp) {e : zE} (he : zlt X.1 e) (hk : zput32 K X e os = some r) : zRes G W hp0 ν0 g K r ν X hp (.inl (zc32 (zv ν e))) := by
  unfold zput32 at hk
  split at hk
  · next r' hz =>
    obtain ⟨h1, h2⟩ := zin_ok (fun f hf => (h.1 f hf).2) hz
    exact zres_old h (v := .inl e) ⟨he, ⟨h1, by omega⟩, rfl⟩ hk
  · split at hk
    · have hb : zc32 (zv ν e) = zc32 ((zv ν e).bmod (2 ^ 32)) := (zc32_bmod _).symm
      have hr : zi32 ((zv ν e).bmod (2 ^ 32)) := by
        unfold zi32
        rw [Int.bmod_def]
        split <;> omega
      rw [hb]
      exact zres_new32 h hr hr.1 (by have := hr.2; omega) [] (fun f hf => by cases hf) hk
    · cases hk
def zput64 (K : zKv) (X : zQ) (e : zE) (os : List zO) : Option (List zO) := match zin (-9223372036854775808) 9223372036854775807 X.2.1 e os with
  | some r => K X (.inr (.inl e)) r
  | none => match os with
    | (6, _) :: r => K (X.1 + 1, ((zbtw X.1 (-9223372036854775808) 9223372036854775807 ++ []) ++ X.2.1, X.2.2)) (.inr (.inl (zX X.1))) r
    | _ => none
theorem zput64_ok (h : zRel G W hp0 ν0 g ν X hp) {e : zE} (he : zlt X.1 e) (hk : zput64 K X e os = some r) : zRes G W hp0 ν0 g K r ν X hp (.inr (.inl (zc64 (zv ν e)))) := by
  unfold zput64 at hk
  split at hk
  · next r' hz =>
    obtain ⟨h1, h2⟩ := zin_ok (fun f hf => (h.1 f hf).2) hz
    exact zres_old h (v := .inr (.inl e)) ⟨he, ⟨h1, by omega⟩, rfl⟩ hk
  · split at hk
    · have hb : zc64 (zv ν e) = zc64 ((zv ν e).bmod (2 ^ 64)) := (zc64_bmod _).symm
      have hr : zi64 ((zv ν e).bmod (2 ^ 64)) := by
        unfold zi64
        rw [Int.bmod_def]
        split <;> omega
      rw [hb]
      exact zres_new64 h hr hr.1 (by have := hr.2; omega) [] (fun f hf => by cases hf) hk
    · cases hk
end Res
