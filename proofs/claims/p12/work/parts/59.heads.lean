/-! ===== heads of loops ===== -/
/-- a head: pc, how many variables, locals, facts, references, known fields, the entry's variables, a measure -/
abbrev zTm : Type := Nat × (Nat × (zLc × (List zE × (List (Nat × (Nat × zE)) × (List ((Nat × Nat) × zV) × (List zE × zE))))))
def zTm.X (T : zTm) : zQ := (T.2.1, (T.2.2.2.1, (T.2.2.2.2.1, T.2.2.2.2.2.1)))
def zTm.g (T : zTm) : List zE := T.2.2.2.2.2.2.1
def zTm.m (T : zTm) : zE := T.2.2.2.2.2.2.2
def zwsL (n : Nat) : zLc → Bool
  | [] => true
  | none :: ts => zwsL n ts
  | some t :: ts => zwsV n t && zwsL n ts
/-- a head is well told -/
def zTmB (nv : Nat) (T : zTm) : Bool :=
  T.2.2.2.1.all (fun f => zltB T.2.1 f) && (T.2.2.2.2.1.all (fun q => Nat.blt q.1 T.2.1 && zltB T.2.1 q.2.2) && (T.2.2.2.2.2.1.all (fun q => Nat.blt q.1.1 T.2.1 && (Nat.blt q.1.2 256 && zwsV T.2.1 q.2)) && (Nat.beq T.g.length nv && (T.g.all (fun e => zltB T.2.1 e) && (zltB T.2.1 T.m && zwsL T.2.1 T.2.2.1)))))
def zmatL (θ : List zE) : zLc → zLc → Bool
  | [], _ => true
  | none :: ts, [] => zmatL θ ts []
  | none :: ts, _ :: vs => zmatL θ ts vs
  | some t :: ts, some v :: vs => zmatV θ t v && zmatL θ ts vs
  | some _ :: _, _ => false
noncomputable def zmatC (X : zQ) (θ : List zE) (q : (Nat × Nat) × zV) : Bool := match θ.getD q.1.1 (zK 0) with
  | ([(y, 1)], 0) => match zch X y q.1.2 with
    | some c => zmatV θ q.2 c.2
    | none => false
  | _ => false
noncomputable def zgoB (T : zTm) (g : List zE) (m : zE) (X : zQ) (loc : zLc) (θ : List zE) (cs : List zC) : Bool := match cs with
  | c1 :: c2 :: cs => Nat.beq θ.length T.2.1 && (zmatL θ T.2.2.1 loc && (zmatF X.2.1 θ T.2.2.2.1 cs && (T.2.2.2.2.1.all (fun q => zmatI X θ q) && (T.2.2.2.2.2.1.all (fun q => zmatC X θ q) && (decide (T.g.map (fun e => zsub θ e) = g) && (zent X.2.1 (zsub θ T.m) c1 && zent X.2.1 (zfLt (zsub θ T.m) m) c2))))))
  | _ => false
noncomputable def zgoH (Ts : List zTm) (g : List zE) (m : zE) (pc : Nat) (X : zQ) (loc : zLc) (stk : List zV) (os : List zO) : Option (List zO) := match os, stk with
  | (33, (cs, (θ, t))) :: r, [] => match Ts[t.1]? with
    | some T => cond (Nat.beq T.1 pc && zgoB T g m X loc θ cs) (some r) none
    | none => none
  | _, _ => none
section ZHeads
variable {G : zW} {W : zWr} {hp0 : xH} {ν0 ν1 : Nat → Int} {g : List zE} {m : zE} {o : Nat} {ft : Nat → List Nat} {call : xF} {pool : Nat → xP} {hs : List (Nat × (Nat × (Nat × Nat)))} {tab : Lean.RArray xI} {P : xE → Prop} {N nv : Nat}
variable {pc : Nat} {X : zQ} {loc : zLc} {stk : List zV} {os r : List zO} {ν : Nat → Int} {l : List (Nat × xA)} {s : List xA} {hp : xH}
theorem zwsL_ok {n : Nat} : ∀ {ts : zLc}, zwsL n ts = true → ∀ (i : Nat) (t : zV), ts[i]? = some (some t) → zwsV n t = true := by
  intro ts
  induction ts with
  | nil => intro _ i t h; cases h
  | cons a ts ih =>
    intro h i t hi
    cases a with
    | none =>
      cases i with
      | zero => cases hi
      | succ i => exact ih h i t hi
    | some a =>
      obtain ⟨h1, h2⟩ := and_true' (show (zwsV n a && zwsL n ts) = true from h)
      cases i with
      | zero => cases hi; exact h1
      | succ i => exact ih h2 i t hi
theorem zmatL_ok {θ : List zE} : ∀ {ts vs : zLc}, zmatL θ ts vs = true → ∀ (i : Nat) (t : zV), ts[i]? = some (some t) → ∃ v, vs[i]? = some (some v) ∧ zmatV θ t v = true := by
  intro ts
  induction ts with
  | nil => intro vs _ i t h; cases h
  | cons a ts ih =>
    intro vs h i t hi
    match a, vs, h with
    | none, [], h =>
      cases i with
      | zero => cases hi
      | succ i =>
        obtain ⟨v, h1, _⟩ := ih (vs := []) h i t hi
        cases h1
    | none, v :: vs, h =>
      cases i with
      | zero => cases hi
      | succ i => exact ih (vs := vs) h i t hi
    | some a, some v :: vs, h =>
      obtain ⟨h1, h2⟩ := and_true' (show (zmatV θ a v && zmatL θ ts vs) = true from h)
      cases i with
      | zero => cases hi; exact ⟨v, rfl, h1⟩
      | succ i => exact ih (vs := vs) h2 i t hi
    | some a, none :: vs, h => cases h
    | some a, [], h => cases h
theorem zmatV_ws {n n' : Nat} {θ : List zE} {t v : zV} {u : xA} (h : zmatV θ t v = true) (h2 : zwsV n' t = true) (hu : zR n ν v u) : zR n' (zval ν θ) t u := zwsV_ok (by rw [h, h2]; rfl) hu
theorem zgoH_ok {T : zTm} {θ : List zE} {cs : List zC} (hg : g.length = nv) (hT : zTmB nv T = true) (hr : zRel G W hp0 ν0 (g ++ [m]) ν X hp) (hl : zLo X.1 ν loc l) (h : zgoB T g m X loc θ cs = true) :
    zRel G W hp0 (fun i => if i < nv then ν0 i else zv (zval ν θ) T.m) (T.g ++ [T.m]) (zval ν θ) T.X hp ∧ zLo T.2.1 (zval ν θ) T.2.2.1 l ∧ 0 ≤ zv (zval ν θ) T.m ∧ zv (zval ν θ) T.m < ν0 nv := by
  have hF : ∀ f ∈ X.2.1, 0 ≤ zv ν f := fun f hf => (hr.1 f hf).2
  match cs, h with
  | c1 :: c2 :: cs, h =>
    obtain ⟨b1, h⟩ := and_true' h
    obtain ⟨b2, h⟩ := and_true' h
    obtain ⟨b3, h⟩ := and_true' h
    obtain ⟨b4, h⟩ := and_true' h
    obtain ⟨b5, h⟩ := and_true' h
    obtain ⟨b6, h⟩ := and_true' h
    obtain ⟨b7, b8⟩ := and_true' h
    obtain ⟨t1, hT⟩ := and_true' hT
    obtain ⟨t2, hT⟩ := and_true' hT
    obtain ⟨t3, hT⟩ := and_true' hT
    obtain ⟨t4, hT⟩ := and_true' hT
    obtain ⟨t5, hT⟩ := and_true' hT
    obtain ⟨t6, t7⟩ := and_true' hT
    have b6 := of_decide_eq_true b6
    have t4 := Nat.eq_of_beq_eq_true t4
    obtain ⟨r1, r2, r3, r4, r5⟩ := id hr
    refine ⟨⟨fun f hf => ⟨zltB_ok (List.all_eq_true.mp t1 f hf), zmatF_ok hF b3 f hf⟩, fun q hq => ?_, fun q hq => ?_, fun i e he => ?_, r5⟩, fun i t hi => ?_, ?_, ?_⟩
    · obtain ⟨d1, d2⟩ := and_true' (List.all_eq_true.mp t2 q hq)
      exact ⟨Nat.le_of_ble_eq_true d1, zltB_ok d2, zmatI_ok hr (List.all_eq_true.mp b4 q hq)⟩
    · obtain ⟨d1, d2⟩ := and_true' (List.all_eq_true.mp t3 q hq)
      obtain ⟨d2, d3⟩ := and_true' d2
      have e1 : zmatC X θ q = true := List.all_eq_true.mp b5 q hq
      unfold zmatC at e1
      split at e1
      · next y hy =>
        split at e1
        · next c hc =>
          obtain ⟨c1, c2, c3⟩ := zch_ok hc
          obtain ⟨f1, f2, k, f3, f4, f5⟩ := r3 c c1
          refine ⟨Nat.le_of_ble_eq_true d1, Nat.le_of_ble_eq_true d2, k, ?_, f4, ?_⟩
          · show zv ν (θ.getD q.1.1 (zK 0)) = _
            rw [hy]
            exact (zX_ok ν y).trans (by rw [← c2]; exact f3)
          · rw [← c3]
            exact zmatV_ws e1 d3 f5
        · cases e1
      · cases e1
    · by_cases hi : i < nv
      · rw [List.getElem?_append_left (by omega)] at he
        refine ⟨zltB_ok (List.all_eq_true.mp t5 e (List.mem_of_getElem? he)), ?_⟩
        show _ = if i < nv then ν0 i else _
        rw [if_pos hi, ← zsub_ok]
        have e2 : (T.g.map fun e => zsub θ e)[i]? = some (zsub θ e) := by rw [List.getElem?_map, he]; rfl
        rw [b6] at e2
        exact (r4 i (zsub θ e) (by rw [List.getElem?_append_left (by omega)]; exact e2)).2
      · rw [List.getElem?_append_right (by omega)] at he
        have e3 : e = T.m := by
          cases h9 : i - T.g.length with
          | zero => rw [h9] at he; exact (Option.some.inj he).symm
          | succ z => rw [h9] at he; cases he
        rw [e3]
        refine ⟨zltB_ok t6, ?_⟩
        show _ = if i < nv then ν0 i else _
        rw [if_neg hi]
    · obtain ⟨v, g1, g2⟩ := zmatL_ok b2 i t hi
      obtain ⟨u, g3, g4⟩ := hl i v g1
      exact ⟨u, g3, zmatV_ws g2 (zwsL_ok t7 i t hi) g4⟩
    · have := zent_ok hF b7
      rw [zsub_ok] at this
      exact this
    · have e1 := zent_ok hF b8
      unfold zfLt at e1
      rw [zmad_ok, zmad_ok, zK_ok, zsub_ok] at e1
      have e2 := (r4 nv m (by rw [List.getElem?_append_right (by omega), hg, Nat.sub_self]; rfl)).2
      omega
/-- from every head, with a measure below b, the end is good -/
def zHds (G : zW) (W : zWr) (hp0 : xH) (ν1 : Nat → Int) (nv : Nat) (o : Nat) (ft : Nat → List Nat) (call : xF) (pool : Nat → xP) (hs : List (Nat × (Nat × (Nat × Nat)))) (tab : Lean.RArray xI) (P : xE → Prop) (Ts : List zTm) (N : Nat) (b : Int) : Prop :=
  ∀ T ∈ Ts, ∀ ν0 ν l hp, (∀ x, x < nv → ν1 x = ν0 x) → zRel G W hp0 ν0 (T.g ++ [T.m]) ν T.X hp → zLo T.2.1 ν T.2.2.1 l → 0 ≤ zv ν T.m → zv ν T.m < b → zG o ft call pool hs tab P N T.1 l [] hp
theorem zi_head {Ts : List zTm} {b : Int} (hT : ∀ T ∈ Ts, zTmB nv T = true) (hH : zHds G W hp0 ν1 nv o ft call pool hs tab P Ts N b) (hg : g.length = nv) (h01 : ∀ x, x < nv → ν1 x = ν0 x) (hb : ν0 nv ≤ b) (h : zgoH Ts g m pc X loc stk os = some r) : zOk G W hp0 ν0 (g ++ [m]) o ft call pool hs tab P N pc X loc stk := by
  intro ν l s hp hr hl hst
  unfold zgoH at h
  split at h
  · split at h
    · next T h1 =>
      obtain ⟨h2, _⟩ := cond_some h
      obtain ⟨h2, h3⟩ := and_true' h2
      have hm := List.mem_of_getElem? h1
      obtain ⟨a1, a2, a3, a4⟩ := zgoH_ok hg (hT T hm) hr hl h3
      rw [hst.nil, ← Nat.eq_of_beq_eq_true h2]
      refine hH T hm _ _ l hp (fun x hx => ?_) a1 a2 a3 (by omega)
      show _ = if x < nv then ν0 x else _
      rw [if_pos hx]
      exact h01 x hx
    · cases h
  · cases h
end ZHeads
