/-! ===== a method keeps its spec ===== -/
def zargsL : List zV → zLc
  | [] => []
  | v :: vs => cond (Nat.beq (zcat v) 2) (some v :: none :: zargsL vs) (some v :: zargsL vs)
def zeqV : zV → zV → Bool
  | .inl a, .inl b => decide (a = b)
  | .inr (.inl a), .inr (.inl b) => decide (a = b)
  | .inr (.inr x), .inr (.inr y) => Nat.beq x y
  | _, _ => false
theorem zeqV_ok : ∀ {a b : zV}, zeqV a b = true → a = b
  | .inl a, .inl b, h => congrArg Sum.inl (of_decide_eq_true (show decide (a = b) = true from h))
  | .inr (.inl a), .inr (.inl b), h => congrArg (fun z => Sum.inr (Sum.inl z)) (of_decide_eq_true (show decide (a = b) = true from h))
  | .inr (.inr x), .inr (.inr y), h => congrArg (fun z => Sum.inr (Sum.inr z)) (Nat.eq_of_beq_eq_true h)
def zeqL : zLc → zLc → Bool
  | [], [] => true
  | none :: a, none :: b => zeqL a b
  | some v :: a, some w :: b => zeqV v w && zeqL a b
  | _, _ => false
theorem zeqL_ok : ∀ {a b : zLc}, zeqL a b = true → a = b
  | [], [], _ => rfl
  | none :: a, none :: b, h => congrArg (none :: ·) (zeqL_ok (a := a) (b := b) h)
  | some v :: a, some w :: b, h => by
    obtain ⟨h1, h2⟩ := and_true' (show (zeqV v w && zeqL a b) = true from h)
    rw [zeqV_ok h1, zeqL_ok h2]
theorem zcat_or (v : zV) : zcat v = 1 ∨ zcat v = 2 := by
  match v with
  | .inl _ => exact Or.inl rfl
  | .inr (.inl _) => exact Or.inr rfl
  | .inr (.inr _) => exact Or.inl rfl
theorem zargsL_ok {n : Nat} {ν : Nat → Int} : ∀ {as : List zV} {us : List xA}, zSt n ν as us → ∀ (i j : Nat) (v : zV), (zargsL as)[j]? = some (some v) → ∃ u, xlk (xargs us i) (i + j) = some u ∧ zR n ν v u := by
  intro as
  induction as with
  | nil => intro us _ i j v h; cases h
  | cons a as ih =>
    intro us hs i j v h
    obtain ⟨b, bs, rfl, h1, h2⟩ := hs.cons
    have hx : xargs (b :: bs) i = (i, b) :: xargs bs (i + xcat b) := rfl
    rw [hx, xlk_cons]
    rcases zcat_or a with c | c
    · have e : zargsL (a :: as) = some a :: zargsL as := by
        show cond (Nat.beq (zcat a) 2) (some a :: none :: zargsL as) (some a :: zargsL as) = _
        rw [c]
        rfl
      rw [e] at h
      cases j with
      | zero =>
        cases h
        exact ⟨b, by rw [show Nat.beq i (i + 0) = true from Nat.beq_refl i]; rfl, h1⟩
      | succ j =>
        obtain ⟨u, g1, g2⟩ := ih h2 (i + xcat b) j v h
        refine ⟨u, ?_, g2⟩
        show cond (Nat.beq i (i + (j + 1))) _ _ = _
        rw [show Nat.beq i (i + (j + 1)) = false from nbeq (by omega), cond_false]
        rw [h1.cat, c, show i + 1 + j = i + (j + 1) by omega] at g1
        rw [h1.cat, c]
        exact g1
    · have e : zargsL (a :: as) = some a :: none :: zargsL as := by
        show cond (Nat.beq (zcat a) 2) (some a :: none :: zargsL as) (some a :: zargsL as) = _
        rw [c]
        rfl
      rw [e] at h
      match j, h with
      | 0, h =>
        cases h
        exact ⟨b, by rw [show Nat.beq i (i + 0) = true from Nat.beq_refl i]; rfl, h1⟩
      | 1, h => cases h
      | j + 2, h =>
        obtain ⟨u, g1, g2⟩ := ih h2 (i + xcat b) j v h
        refine ⟨u, ?_, g2⟩
        show cond (Nat.beq i (i + (j + 2))) _ _ = _
        rw [show Nat.beq i (i + (j + 2)) = false from nbeq (by omega), cond_false]
        rw [h1.cat, c, show i + 2 + j = i + (j + 2) by omega] at g1
        rw [h1.cat, c]
        exact g1
/-- the entry is a head: its variables are the spec's -/
def zentB (sp : zSp) (T : zTm) (b : Nat) (c1 c2 : zC) : Bool :=
  Nat.beq T.1 0 && (Nat.beq T.2.1 sp.2.1 && (zeqL T.2.2.1 (zargsL sp.2.2.1) && (decide (T.2.2.2.1 = sp.2.2.2.1) && (decide (T.2.2.2.2.1 = sp.2.2.2.2.1) && (T.2.2.2.2.2.1.isEmpty && (decide (T.g = (List.range sp.2.1).map zX) && (zltB sp.2.1 T.m && (zent sp.2.2.2.1 T.m c1 && zent sp.2.2.2.1 (zfLt T.m (zK (b : Int))) c2))))))))
section ZMeths
variable {G : zW} {W : zWr} {hp0 : xH} {ν1 : Nat → Int} {o : Nat} {ft : Nat → List Nat} {call : xF} {pool : Nat → xP} {hs : List (Nat × (Nat × (Nat × Nat)))} {tab : Lean.RArray xI} {P : xE → Prop} {nv : Nat}
theorem zHds_all {Ts : List zTm} {L : Nat} (hlen : ∀ T ∈ Ts, T.g.length = nv) (hbody : ∀ T ∈ Ts, ∀ ν0 N (b : Int), (∀ x, x < nv → ν1 x = ν0 x) → ν0 nv ≤ b → zHds G W hp0 ν1 nv o ft call pool hs tab P Ts N b → zOk G W hp0 ν0 (T.g ++ [T.m]) o ft call pool hs tab P (N + L) T.1 T.X T.2.2.1 []) : ∀ n : Nat, zHds G W hp0 ν1 nv o ft call pool hs tab P Ts (n * L) (n : Int) := by
  intro n
  induction n with
  | zero =>
    intro T _ ν0 ν l hp _ _ _ h1 h2
    exact absurd h2 (by omega)
  | succ n ih =>
    intro T hT ν0 ν l hp h01 hr hl h1 h2
    have e2 := (hr.2.2.2.1 nv T.m (by rw [List.getElem?_append_right (by rw [hlen T hT]; exact Nat.le_refl _), hlen T hT, Nat.sub_self]; rfl)).2
    have := hbody T hT ν0 (n * L) n h01 (by omega) ih ν l [] hp hr hl trivial
    rw [Nat.succ_mul]
    exact this
theorem zmeth_ok {sp : zSp} {Ts : List zTm} {T : zTm} {L b rk : Nat} {c1 c2 : zC} (hlen : ∀ T ∈ Ts, T.g.length = sp.2.1) (hT : T ∈ Ts) (hE : zentB sp T b c1 c2 = true) (hL : b * L ≤ xfuel)
    (hbody : ∀ hp0 ν1, ∀ T ∈ Ts, ∀ ν0 N (b : Int), (∀ x, x < sp.2.1 → ν1 x = ν0 x) → ν0 sp.2.1 ≤ b → zHds G sp.2.2.2.2.2.1 hp0 ν1 sp.2.1 o ft call pool hs tab (zPm G sp rk ν1 hp0) Ts N b → zOk G sp.2.2.2.2.2.1 hp0 ν0 (T.g ++ [T.m]) o ft call pool hs tab (zPm G sp rk ν1 hp0) (N + L) T.1 T.X T.2.2.1 [])
    {ν : Nat → Int} {us : List xA} {hp : xH} (h1 : zTJ G hp) (h2 : zFs sp.2.1 ν sp.2.2.2.1) (h3 : zIs G sp.2.1 ν sp.2.2.2.2.1) (h4 : zSt sp.2.1 ν sp.2.2.1 us) :
    ∃ r, xend rk (xrun o ft call pool hs tab xfuel 0 (xargs us 0) [] hp) = some r ∧ zEnd G sp ν hp r := by
  obtain ⟨b1, hE⟩ := and_true' hE
  obtain ⟨b2, hE⟩ := and_true' hE
  obtain ⟨b3, hE⟩ := and_true' hE
  obtain ⟨b4, hE⟩ := and_true' hE
  obtain ⟨b5, hE⟩ := and_true' hE
  obtain ⟨b6, hE⟩ := and_true' hE
  obtain ⟨b7, hE⟩ := and_true' hE
  obtain ⟨b8, hE⟩ := and_true' hE
  obtain ⟨b9, b10⟩ := and_true' hE
  have b1 := Nat.eq_of_beq_eq_true b1
  have b2 := Nat.eq_of_beq_eq_true b2
  have b3 := zeqL_ok b3
  have b4 := of_decide_eq_true b4
  have b5 := of_decide_eq_true b5
  have b6 := List.isEmpty_iff.mp b6
  have b7 := of_decide_eq_true b7
  have hF : ∀ f ∈ sp.2.2.2.1, 0 ≤ zv ν f := fun f hf => (h2 f hf).2
  have m1 := zent_ok hF b9
  have m2 := zent_ok hF b10
  unfold zfLt at m2
  rw [zmad_ok, zmad_ok, zK_ok, zK_ok] at m2
  have hH := zHds_all hlen (hbody hp ν) b
  have hrel : zRel G sp.2.2.2.2.2.1 hp (fun i => if i < sp.2.1 then ν i else zv ν T.m) (T.g ++ [T.m]) ν T.X hp := by
    refine ⟨?_, ?_, ?_, ?_, h1, zFr.rf hp, rfl⟩
    · intro f hf
      show zlt T.2.1 f ∧ _
      rw [b2]
      exact h2 f (by rw [← b4]; exact hf)
    · intro q hq
      show q.1 < T.2.1 ∧ zlt T.2.1 q.2.2 ∧ _
      rw [b2]
      exact h3 q (by rw [← b5]; exact hq)
    · intro q hq
      have hq : q ∈ T.2.2.2.2.2.1 := hq
      rw [b6] at hq
      cases hq
    · intro i e he
      show zlt T.2.1 e ∧ _ = if i < sp.2.1 then ν i else _
      rw [b2]
      by_cases hi : i < sp.2.1
      · rw [List.getElem?_append_left (by rw [hlen T hT]; exact hi), b7, List.getElem?_map, List.getElem?_range hi] at he
        cases he
        rw [if_pos hi]
        exact ⟨zlt_X hi, zX_ok ν i⟩
      · rw [List.getElem?_append_right (by rw [hlen T hT]; omega)] at he
        have e3 : e = T.m := by
          cases h9 : i - T.g.length with
          | zero => rw [h9] at he; exact (Option.some.inj he).symm
          | succ z => rw [h9] at he; cases he
        rw [e3, if_neg hi]
        exact ⟨zltB_ok b8, rfl⟩
  have hlo : zLo T.2.1 ν T.2.2.1 (xargs us 0) := by
    intro i v hi
    rw [b3] at hi
    obtain ⟨u, g1, g2⟩ := zargsL_ok h4 0 i v hi
    rw [Nat.zero_add] at g1
    exact ⟨u, g1, by rw [b2]; exact g2⟩
  obtain ⟨out, e1, r, e3, e4⟩ := hH T hT (fun i => if i < sp.2.1 then ν i else zv ν T.m) ν (xargs us 0) hp (fun x hx => by show _ = if x < sp.2.1 then ν x else _; rw [if_pos hx]) hrel hlo m1 (by omega) xfuel hL
  rw [b1] at e1
  exact ⟨r, by rw [e1]; exact e3, e4⟩
end ZMeths
