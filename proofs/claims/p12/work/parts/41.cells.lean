/-! ===== typed cells: every cell's shape stays, each field and element is within its type ===== -/
def zc32 (z : Int) : Nat := (z % 4294967296).toNat
def zc64 (z : Int) : Nat := (z % 18446744073709551616).toNat
def zi32 (z : Int) : Prop := -2147483648 ≤ z ∧ z < 2147483648
def zi64 (z : Int) : Prop := -9223372036854775808 ≤ z ∧ z < 9223372036854775808
/-- a type: its sort (0 an int, 1 a long between two, 2 a reference to one of the roles of a set, 3 an int from 0 to the cell's own number), and two numbers (2: the set; whether the own number is the same) -/
abbrev zT : Type := Nat × (Int × Int)
/-- a role: an object (class, fields' types), an array (kind, period, elements' types), what is not looked into (0), a text (1; its own number is its row's cell) -/
abbrev zD : Type := (Nat × List zT) ⊕ ((Nat × (Nat × List zT)) ⊕ Nat)
/-- the world: roles; cells (role, own number: an array's length); how many cells; the places that a thing said of the cells leans on, the thing -/
abbrev zW : Type := Lean.RArray zD × (Lean.RArray (Nat × Nat) × (Nat × (List (Nat × Nat) × (xH → Prop))))
noncomputable def zro (G : zW) (k : Nat) : Nat := (xget G.2.1 k).1
noncomputable def zat (G : zW) (k : Nat) : Nat := (xget G.2.1 k).2
def ztok (G : zW) (t : zT) (a : Nat) (v : xA) : Prop := match t.1 with
  | 0 => ∃ z : Int, zi32 z ∧ t.2.1 ≤ z ∧ z ≤ t.2.2 ∧ v = .inl (zc32 z)
  | 1 => ∃ z : Int, zi64 z ∧ t.2.1 ≤ z ∧ z ≤ t.2.2 ∧ v = .inr (.inl (zc64 z))
  | 2 => ∃ k : Nat, v = .inr (.inr (.inl k)) ∧ k < G.2.2.1 ∧ Nat.testBit t.2.1.toNat (zro G k) = true ∧ (t.2.2 = 1 → zat G k = a)
  | 3 => ∃ z : Int, zi32 z ∧ 0 ≤ z ∧ z ≤ (a : Int) ∧ v = .inl (zc32 z)
  | _ => False
def zcl (G : zW) (d : zD) (a : Nat) (c : xC) : Prop := match d with
  | .inl q => ∃ f, c = some (.inl (q.1, f)) ∧ xwf 8 0 f ∧ q.2.length ≤ 256 ∧ ∀ (j : Nat) (t : zT), q.2[j]? = some t → ztok G t a (xget f j)
  | .inr (.inl q) => ∃ bb f, c = some (.inr (.inl (q.1, (a, (bb, f))))) ∧ xwf bb 0 f ∧ a ≤ 2 ^ bb ∧ a < 2147483648 ∧ ∀ i, i < a → ∃ t, q.2.2[i % q.2.1]? = some t ∧ ztok G t a (xget f i)
  | .inr (.inr n) => n = 0 ∨ c = some (.inr (.inr [a]))
def zTy (G : zW) (hp : xH) : Prop := xwf 12 0 hp.1 ∧ G.2.2.1 ≤ 4096 ∧ ∀ k, k < G.2.2.1 → zcl G (xget G.1 (zro G k)) (zat G k) (xcell hp k)
/-- an object's cell -/
def ziO (G : zW) (k : Nat) : Prop := k < G.2.2.1 ∧ ∃ q, xget G.1 (zro G k) = .inl q
/-- what stands at a place of a cell -/
noncomputable def zsl (hp : xH) (k j : Nat) : xA := match xcell hp k with
  | some (.inl c) => cond (Nat.blt j 256) (xget c.2 j) (.inl 0)
  | some (.inr (.inl c)) => cond (Nat.blt j c.2.1) (xget c.2.2.2 j) (.inl 0)
  | _ => .inl 0
/-- only these places (sets of roles, and a field, or 256 for all) may have changed -/
abbrev zWr : Type := List (Nat × Nat)
def zwr (W : zWr) (r j : Nat) : Bool := W.any fun q => Nat.testBit q.1 r && (Nat.beq q.2 j || Nat.beq q.2 256)
def zFr (G : zW) (W : zWr) (hp hp' : xH) : Prop := ∀ k j, k < G.2.2.1 → zwr W (zro G k) j = false → zsl hp' k j = zsl hp k j
/-- typed cells of which the world's thing holds -/
def zTJ (G : zW) (hp : xH) : Prop := zTy G hp ∧ G.2.2.2.2 hp
/-- the thing leans on those places alone -/
def zJd (G : zW) : Prop := ∀ hp hp' : xH, (∀ k j, k < G.2.2.1 → zwr G.2.2.2.1 (zro G k) j = true → zsl hp' k j = zsl hp k j) → G.2.2.2.2 hp → G.2.2.2.2 hp'
theorem zFr.rf {G : zW} {W : zWr} (hp : xH) : zFr G W hp hp := fun _ _ _ _ => rfl
theorem zFr.tr {G : zW} {W : zWr} {a b c : xH} (h1 : zFr G W a b) (h2 : zFr G W b c) : zFr G W a c := fun k j hk hw => (h2 k j hk hw).trans (h1 k j hk hw)
/-- fewer writes -/
def zwin (U W : zWr) : Bool := U.all fun q => W.any fun r => Nat.beq (Nat.land q.1 r.1) q.1 && (Nat.beq r.2 256 || Nat.beq r.2 q.2)
theorem zwin_ok {U W : zWr} (h : zwin U W = true) {r j : Nat} (hw : zwr W r j = false) : zwr U r j = false := by
  apply Bool.eq_false_iff.mpr
  intro hu
  obtain ⟨q, hq, e⟩ := List.any_eq_true.mp hu
  obtain ⟨e1, e2⟩ := and_true' e
  obtain ⟨p, hp, e3⟩ := List.any_eq_true.mp (List.all_eq_true.mp h q hq)
  obtain ⟨e4, e5⟩ := and_true' e3
  have e4 := Nat.eq_of_beq_eq_true e4
  refine Bool.eq_false_iff.mp hw (List.any_eq_true.mpr ⟨p, hp, ?_⟩)
  have e6 : Nat.testBit p.1 r = true := by
    have e7 : Nat.testBit (q.1 &&& p.1) r = true := by
      rw [show q.1 &&& p.1 = q.1 from e4]
      exact e1
    rw [Nat.testBit_and, Bool.and_eq_true] at e7
    exact e7.2
  rw [e6, Bool.true_and]
  rcases Bool.or_eq_true _ _ ▸ e5 with h5 | h5
  · rw [h5, Bool.or_true]
  · rcases Bool.or_eq_true _ _ ▸ e2 with h6 | h6
    · rw [Nat.eq_of_beq_eq_true h5, h6, Bool.true_or]
    · rw [Nat.eq_of_beq_eq_true h5, h6, Bool.or_true]
theorem zFr.sub {G : zW} {U W : zWr} {a b : xH} (h : zFr G U a b) (hw : zwin U W = true) : zFr G W a b := fun k j hk h9 => h k j hk (zwin_ok hw h9)
section Cells
variable {G : zW} {hp : xH}
theorem zTy.obj (h : zTy G hp) {k : Nat} (hk : k < G.2.2.1) {q : Nat × List zT} (hq : xget G.1 (zro G k) = .inl q) : ∃ f, xcell hp k = some (.inl (q.1, f)) ∧ xwf 8 0 f ∧ q.2.length ≤ 256 ∧ ∀ (j : Nat) (t : zT), q.2[j]? = some t → ztok G t (zat G k) (xget f j) := by
  have := h.2.2 k hk
  rw [hq] at this
  exact this
theorem zTy.arr (h : zTy G hp) {k : Nat} (hk : k < G.2.2.1) {q : Nat × (Nat × List zT)} (hq : xget G.1 (zro G k) = .inr (.inl q)) : ∃ bb f, xcell hp k = some (.inr (.inl (q.1, (zat G k, (bb, f))))) ∧ xwf bb 0 f ∧ zat G k ≤ 2 ^ bb ∧ zat G k < 2147483648 ∧ ∀ i, i < zat G k → ∃ t, q.2.2[i % q.2.1]? = some t ∧ ztok G t (zat G k) (xget f i) := by
  have := h.2.2 k hk
  rw [hq] at this
  exact this
theorem zput_cell (h : zTy G hp) {k : Nat} (hk : k < G.2.2.1) (c : xC) (j : Nat) : xcell (xput hp k c) j = if j = k then c else xcell hp j := xcell_put h.1 (Nat.lt_of_lt_of_le hk h.2.1) j
theorem zsl_obj {k : Nat} {c : Nat × Lean.RArray xA} (h : xcell hp k = some (.inl c)) (j : Nat) : zsl hp k j = cond (Nat.blt j 256) (xget c.2 j) (.inl 0) := by
  unfold zsl
  rw [h]
theorem zsl_arr {k : Nat} {c : Nat × (Nat × (Nat × Lean.RArray xA))} (h : xcell hp k = some (.inr (.inl c))) (j : Nat) : zsl hp k j = cond (Nat.blt j c.2.1) (xget c.2.2.2 j) (.inl 0) := by
  unfold zsl
  rw [h]
theorem blt_true {a b : Nat} (h : a < b) : Nat.blt a b = true := Nat.ble_eq_true_of_le h
theorem blt_false {a b : Nat} (h : ¬ a < b) : Nat.blt a b = false := Bool.eq_false_iff.mpr fun z => h (Nat.le_of_ble_eq_true z)
theorem zsl_same {hp' : xH} {k : Nat} (h : xcell hp' k = xcell hp k) (j : Nat) : zsl hp' k j = zsl hp k j := by
  unfold zsl
  rw [h]
/-- a field is put -/
theorem zTy.putf (h : zTy G hp) {k : Nat} (hk : k < G.2.2.1) {q : Nat × List zT} (hq : xget G.1 (zro G k) = .inl q) {f : Lean.RArray xA} (hf : xcell hp k = some (.inl (q.1, f))) {j : Nat} {t : zT} (hj : q.2[j]? = some t) {v : xA} (hv : ztok G t (zat G k) v) :
    zTy G (xput hp k (some (.inl (q.1, xset v j 8 0 f)))) ∧ ∀ k' j', zsl (xput hp k (some (.inl (q.1, xset v j 8 0 f)))) k' j' = if k' = k ∧ j' = j then v else zsl hp k' j' := by
  obtain ⟨f', g1, g2, g3, g4⟩ := h.obj hk hq
  rw [hf] at g1
  cases g1
  have hj2 : j < 256 := Nat.lt_of_lt_of_le (List.getElem?_eq_some_iff.mp hj).1 g3
  have hg : ∀ i, i < 256 → xget (xset v j 8 0 f) i = if i = j then v else xget f i := fun i hi => xget_xset v j i 8 0 f g2 (Nat.zero_le _) (by omega) (Nat.zero_le _) (by omega)
  refine ⟨⟨xset_wf _ _ _ _ _ h.1, h.2.1, fun k' hk' => ?_⟩, fun k' j' => ?_⟩
  · rw [zput_cell h hk]
    by_cases e : k' = k
    · rw [if_pos e, e, hq]
      refine ⟨_, rfl, xset_wf _ _ _ _ _ g2, g3, fun i t' hi => ?_⟩
      have hi2 : i < 256 := Nat.lt_of_lt_of_le (List.getElem?_eq_some_iff.mp hi).1 g3
      rw [hg i hi2]
      by_cases e2 : i = j
      · rw [if_pos e2]
        rw [e2, hj] at hi
        cases hi
        exact hv
      · rw [if_neg e2]
        exact g4 i t' hi
    · rw [if_neg e]
      exact h.2.2 k' hk'
  · by_cases e : k' = k
    · subst e
      rw [zsl_obj (c := (q.1, xset v j 8 0 f)) (by rw [zput_cell h hk, if_pos rfl]), zsl_obj hf]
      by_cases hj' : j' < 256
      · rw [blt_true hj', cond_true, cond_true]
        show xget (xset v j 8 0 f) j' = _
        rw [hg j' hj']
        by_cases e2 : j' = j
        · rw [if_pos e2, if_pos ⟨rfl, e2⟩]
        · rw [if_neg e2, if_neg fun z => e2 z.2]
      · rw [blt_false hj', cond_false, cond_false, if_neg fun z => hj' (by rw [z.2]; exact hj2)]
    · rw [if_neg fun z => e z.1]
      exact zsl_same (by rw [zput_cell h hk, if_neg e]) _
/-- an element is put -/
theorem zTy.puta (h : zTy G hp) {k : Nat} (hk : k < G.2.2.1) {q : Nat × (Nat × List zT)} (hq : xget G.1 (zro G k) = .inr (.inl q)) {bb : Nat} {f : Lean.RArray xA} (hf : xcell hp k = some (.inr (.inl (q.1, (zat G k, (bb, f)))))) {i : Nat} (hi : i < zat G k) {t : zT} (hj : q.2.2[i % q.2.1]? = some t) {v : xA} (hv : ztok G t (zat G k) v) :
    zTy G (xput hp k (some (.inr (.inl (q.1, (zat G k, (bb, xset v i bb 0 f))))))) ∧ ∀ k' j', zsl (xput hp k (some (.inr (.inl (q.1, (zat G k, (bb, xset v i bb 0 f))))))) k' j' = if k' = k ∧ j' = i then v else zsl hp k' j' := by
  obtain ⟨b', f', g1, g2, g3, g5, g4⟩ := h.arr hk hq
  rw [hf] at g1
  cases g1
  have hg : ∀ j, j < zat G k → xget (xset v i bb 0 f) j = if j = i then v else xget f j := fun j hj => xget_xset v i j bb 0 f g2 (Nat.zero_le _) (by omega) (Nat.zero_le _) (by omega)
  refine ⟨⟨xset_wf _ _ _ _ _ h.1, h.2.1, fun k' hk' => ?_⟩, fun k' j' => ?_⟩
  · rw [zput_cell h hk]
    by_cases e : k' = k
    · rw [if_pos e, e, hq]
      refine ⟨_, _, rfl, xset_wf _ _ _ _ _ g2, g3, g5, fun j hj9 => ?_⟩
      rw [hg j hj9]
      by_cases e2 : j = i
      · rw [if_pos e2, e2]
        exact ⟨t, hj, hv⟩
      · rw [if_neg e2]
        exact g4 j hj9
    · rw [if_neg e]
      exact h.2.2 k' hk'
  · by_cases e : k' = k
    · subst e
      rw [zsl_arr (c := (q.1, (zat G k', (bb, xset v i bb 0 f)))) (by rw [zput_cell h hk, if_pos rfl]), zsl_arr hf]
      show cond (Nat.blt j' (zat G k')) (xget (xset v i bb 0 f) j') _ = _
      by_cases hj' : j' < zat G k'
      · rw [blt_true hj', cond_true, cond_true, hg j' hj']
        by_cases e2 : j' = i
        · rw [if_pos e2, if_pos ⟨rfl, e2⟩]
        · rw [if_neg e2, if_neg fun z => e2 z.2]
      · rw [blt_false hj', cond_false, cond_false, if_neg fun z => hj' (by rw [z.2]; exact hi)]
    · rw [if_neg fun z => e z.1]
      exact zsl_same (by rw [zput_cell h hk, if_neg e]) _
end Cells
