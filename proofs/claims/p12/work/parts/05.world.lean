/-! ===== the runner's world and the machine's heap ===== -/
def xcn (c : Nat) : String := match vwCl[c]? with
  | some q => q.1
  | none => ""
def xty1 (t : Nat) : FieldType := match t with
  | 0 => .int
  | 1 => .long
  | 2 => .boolean
  | _ => .byte
def xty (t : Nat) : FieldType := if t < 4 then xty1 t else if t < 64 then .object (xcn (t - 4)) else .array (xty1 (t - 64))
/-- the class of the elements of an array of references -/
def xtn (t : Nat) : String := if t < 64 then xcn (t - 4) else (xty t).toString
def xad (o h0 : Nat) (old : Nat → Nat) (k : Nat) : Nat := if k < o then old k else h0 + (k - o)
/-- what the tables say of an array that was made here -/
def xAr (S : State) (cell : Cell) (ty : Nat) : Prop := cell.vm = .none ∧ S.vm.findClass (FieldType.array (xty ty)).toString = some cell.cls ∧ (4 ≤ ty → ∃ k comp kc, S.vm.classes[cell.cls]? = some k ∧ k.kind = .array comp (xty ty) ∧ S.vm.findClass (xtn ty) = some comp ∧ S.vm.classes[comp]? = some kc)
/-- a constant text: an object of String over a row of bytes, one byte a sign -/
def xstr (S : State) (ad : Nat → Nat) (a : Nat) (cs : List Nat) : Prop := a < S.heap.size ∧ ∃ j : Nat, cs = [j] ∧ va_O "java/lang/String" a (fun q => S.heap.size ≤ q) S S.heap ∧ va_OF "java/lang/String" "coder" "B" (.int 0) a (fun q => S.heap.size ≤ q) S S.heap ∧ va_OF "java/lang/String" "value" "[B" (.ref (ad j)) a (fun q => S.heap.size ≤ q) S S.heap
def xcr (o : Nat) (ad : Nat → Nat) (D : va_G) (S : State) (k : Nat) (c : xC) (H : Heap) : Prop := match c with
  | none => True
  | some (.inl q) => ∃ r : vw_C, vwCl[q.1]? = some r ∧ xwf 8 0 q.2 ∧ r.2.2 ≤ 256 ∧ ∃ V : Nat → Value, t_OB (ad k) (D.1 q.1) r.2.2 (D.2 q.1) H V ∧ ∀ j, j < r.2.2 → xR ad (xget q.2 j) (V j)
  | some (.inr (.inl q)) => ∃ cell : Cell, H[ad k]? = some cell ∧ S.isArrayOf cell (xty q.1) ∧ cell.vm ≠ .unknown ∧ (o ≤ k → xAr S cell q.1) ∧ q.2.1 ≤ cell.slots.size ∧ cell.slots.size.toInt32 = Int32.ofNat q.2.1 ∧ xwf q.2.2.1 0 q.2.2.2 ∧ q.2.1 ≤ 2 ^ q.2.2.1 ∧ ∀ j, j < q.2.1 → ∃ v, cell.slots[j]? = some v ∧ xR ad (xget q.2.2.2 j) v
  | some (.inr (.inr cs)) => xstr S ad (ad k) cs
def xhr (o : Nat) (old : Nat → Nat) (D : va_G) (S : State) (hp : xH) (H : Heap) : Prop :=
  (∀ k, xcr o (xad o S.heap.size old) D S k (xcell hp k) H) ∧ xwf 12 0 hp.1 ∧ (∀ k, hp.2.1 ≤ k → xcell hp k = none) ∧ o ≤ hp.2.1 ∧ hp.2.1 ≤ 4096 ∧ S.heap.size + (hp.2.1 - o) ≤ H.size ∧ (hp.2.2.1 = true → H.size = S.heap.size + (hp.2.1 - o)) ∧ ∀ q, q < S.heap.size → H[q]? = S.heap[q]?
theorem xcr.kept {o : Nat} {ad : Nat → Nat} {D : va_G} {S : State} {k : Nat} {c : xC} {H H' : Heap} (h : xcr o ad D S k c H) (he : H'[ad k]? = H[ad k]?) : xcr o ad D S k c H' := by
  match c with
  | none => trivial
  | some (.inl q) =>
    obtain ⟨r, h1, h2, h3, V, h4, h5⟩ := h
    exact ⟨r, h1, h2, h3, V, h4.kept he, h5⟩
  | some (.inr (.inl q)) =>
    obtain ⟨cell, h1, h2⟩ := h
    exact ⟨cell, by rw [he]; exact h1, h2⟩
  | some (.inr (.inr cs)) => exact h
theorem xcell_lt {hp : xH} {k : Nat} {c : (Nat × Lean.RArray xA) ⊕ ((Nat × (Nat × (Nat × Lean.RArray xA))) ⊕ List Nat)} (h : xcell hp k = some c) : k < 4096 := by
  unfold xcell at h
  cases hb : Nat.blt k 4096 with
  | false => rw [hb] at h; cases h
  | true => exact Nat.le_of_ble_eq_true hb
theorem xcell_put {hp : xH} {k : Nat} {c : xC} (hw : xwf 12 0 hp.1) (hk : k < 4096) (j : Nat) : xcell (xput hp k c) j = if j = k then c else xcell hp j := by
  unfold xcell xput
  by_cases hj : j < 4096
  · rw [show Nat.blt j 4096 = true from Nat.ble_eq_true_of_le hj, cond_true, cond_true]
    exact xget_xset c k j 12 0 hp.1 hw (Nat.zero_le _) (by omega) (Nat.zero_le _) (by omega)
  · rw [show Nat.blt j 4096 = false from Bool.eq_false_iff.mpr fun q => hj (Nat.le_of_ble_eq_true q), cond_false, cond_false, if_neg (by omega)]
theorem xad_ne {o h0 : Nat} {old : Nat → Nat} (hold : ∀ k, k < o → old k < h0) {j k : Nat} (hk : o ≤ k) (hne : j ≠ k) : xad o h0 old j ≠ xad o h0 old k := by
  unfold xad
  rw [if_neg (by omega : ¬ k < o)]
  by_cases hj : j < o
  · rw [if_pos hj]
    have := hold j hj
    omega
  · rw [if_neg hj]
    omega
theorem xhr.put {o : Nat} {old : Nat → Nat} {D : va_G} {S : State} {hp : xH} {H H' : Heap} {k : Nat} {c : xC} (h : xhr o old D S hp H) (hold : ∀ k, k < o → old k < S.heap.size) (hk : o ≤ k) (hn : k < hp.2.1) (hz : H'.size = H.size) (hq : ∀ q, q ≠ xad o S.heap.size old k → H'[q]? = H[q]?)
    (hc : xcr o (xad o S.heap.size old) D S k c H') : xhr o old D S (xput hp k c) H' := by
  obtain ⟨h1, h2, h3, h4, h5, h6, h7, h8⟩ := h
  have hk2 : k < 4096 := by omega
  refine ⟨fun j => ?_, xset_wf _ _ _ _ _ h2, fun j hj => ?_, h4, h5, by rw [hz]; exact h6, fun q => by rw [hz]; exact h7 q, fun q hq' => ?_⟩
  · rw [xcell_put h2 hk2]
    by_cases e : j = k
    · rw [if_pos e, e]; exact hc
    · rw [if_neg e]
      exact (h1 j).kept (hq _ (xad_ne hold hk e))
  · have hj' : hp.2.1 ≤ j := hj
    rw [xcell_put h2 hk2, if_neg (by omega)]
    exact h3 j hj'
  · rw [hq q, h8 q hq']
    unfold xad
    rw [if_neg (by omega)]
    omega
theorem xnew_some {hp : xH} {c : xC} {n : Nat} {q : Nat × xH} (h : xnew hp c n = some q) : hp.2.2.1 = true ∧ hp.2.1 < 4096 ∧ q = (hp.2.1, (xset c hp.2.1 12 0 hp.1, (hp.2.1 + 1, (true, (hp.2.2.2.1 + 1, hp.2.2.2.2 + n))))) := by
  unfold xnew at h
  obtain ⟨h1, h2⟩ := cond_some h
  obtain ⟨h3, h4⟩ := and_true' h1
  exact ⟨h3, Nat.le_of_ble_eq_true h4, (Option.some.inj h2).symm⟩
theorem xhr.new {o : Nat} {old : Nat → Nat} {D : va_G} {S : State} {hp : xH} {H H' : Heap} {c : xC} {n : Nat} {q : Nat × xH} (h : xhr o old D S hp H) (hold : ∀ k, k < o → old k < S.heap.size) (hq : xnew hp c n = some q) (hz : H'.size = H.size + 1) (hs : ∀ x, x < H.size → H'[x]? = H[x]?)
    (hc : xcr o (xad o S.heap.size old) D S q.1 c H') : xhr o old D S q.2 H' ∧ xad o S.heap.size old q.1 = H.size ∧ q.2.2.2.2.1 = hp.2.2.2.1 + 1 ∧ q.2.2.2.2.2 = hp.2.2.2.2 + n := by
  obtain ⟨e1, e2, rfl⟩ := xnew_some hq
  obtain ⟨h1, h2, h3, h4, h5, h6, h7, h8⟩ := h
  have h9 := h7 e1
  have ha : xad o S.heap.size old hp.2.1 = H.size := by
    unfold xad
    rw [if_neg (by omega), h9]
  have hcell : ∀ j, xcell ((xset c hp.2.1 12 0 hp.1, (hp.2.1 + 1, (true, (hp.2.2.2.1 + 1, hp.2.2.2.2 + n)))) : xH) j = if j = hp.2.1 then c else xcell hp j := fun j => xcell_put h2 e2 j
  refine ⟨⟨fun j => ?_, xset_wf _ _ _ _ _ h2, fun j hj => ?_, by show o ≤ hp.2.1 + 1; omega, by show hp.2.1 + 1 ≤ 4096; omega, by show S.heap.size + (hp.2.1 + 1 - o) ≤ _; omega, fun _ => by show _ = S.heap.size + (hp.2.1 + 1 - o); omega, fun x hx => ?_⟩, ha, rfl, rfl⟩
  · rw [hcell j]
    by_cases e : j = hp.2.1
    · rw [if_pos e, e]; exact hc
    · rw [if_neg e]
      by_cases hj : hp.2.1 ≤ j
      · rw [h3 j hj]; trivial
      · refine (h1 j).kept (hs _ ?_)
        unfold xad
        by_cases hjo : j < o
        · rw [if_pos hjo]
          have := hold j hjo
          omega
        · rw [if_neg hjo]; omega
  · have hj' : hp.2.1 + 1 ≤ j := hj
    rw [hcell j, if_neg (by omega)]
    exact h3 j (by omega)
  · rw [hs x (by omega), h8 x hx]
/-- locals and stack -/
def xl2 (ad : Nat → Nat) : List (Nat × xA) → List (Nat × Value) → Prop
  | [], [] => True
  | a :: as, b :: bs => a.1 = b.1 ∧ xR ad a.2 b.2 ∧ xl2 ad as bs
  | _, _ => False
def xs2 (ad : Nat → Nat) : List xA → List Value → Prop
  | [], [] => True
  | a :: as, b :: bs => xR ad a b ∧ xs2 ad as bs
  | _, _ => False
theorem xs2_cons {ad : Nat → Nat} {a : xA} {as : List xA} {st : List Value} (h : xs2 ad (a :: as) st) : ∃ b bs, st = b :: bs ∧ xR ad a b ∧ xs2 ad as bs := by
  cases st with
  | nil => exact h.elim
  | cons b bs => exact ⟨b, bs, rfl, h.1, h.2⟩
theorem xs2_nil {ad : Nat → Nat} {st : List Value} (h : xs2 ad [] st) : st = [] := by
  cases st with
  | nil => rfl
  | cons b bs => exact h.elim
theorem xs2_len {ad : Nat → Nat} : ∀ {as : List xA} {st : List Value}, xs2 ad as st → st.length = as.length := by
  intro as
  induction as with
  | nil => intro st h; rw [xs2_nil h]; rfl
  | cons a as ih =>
    intro st h
    obtain ⟨b, bs, rfl, -, h2⟩ := xs2_cons h
    simp [ih h2]
theorem xs2_cats {ad : Nat → Nat} : ∀ {as : List xA} {st : List Value}, xs2 ad as st → (st.map fun v => v.category).sum = xcats as := by
  intro as
  induction as with
  | nil => intro st h; rw [xs2_nil h]; rfl
  | cons a as ih =>
    intro st h
    obtain ⟨b, bs, rfl, h1, h2⟩ := xs2_cons h
    rw [List.map_cons, List.sum_cons, ih h2, xR_cat h1]
    rfl
theorem xlk_ok {ad : Nat → Nat} {i : Nat} {a : xA} : ∀ {loc : List (Nat × xA)} {lv : List (Nat × Value)}, xl2 ad loc lv → xlk loc i = some a → ∃ (k : Nat) (v : Value), lv[k]? = some (i, v) ∧ xR ad a v := by
  intro loc
  induction loc with
  | nil => intro lv _ h; cases h
  | cons q loc ih =>
    intro lv h2 h
    cases lv with
    | nil => exact h2.elim
    | cons b bs =>
      obtain ⟨e1, e2, e3⟩ := h2
      have h' : cond (Nat.beq q.1 i) (some q.2) (xlk loc i) = some a := h
      cases hb : Nat.beq q.1 i with
      | true =>
        rw [hb] at h'
        have e4 : q.1 = i := Nat.eq_of_beq_eq_true hb
        refine ⟨0, b.2, ?_, by rw [← Option.some.inj h']; exact e2⟩
        show some b = _
        rw [← e4, e1]
      | false =>
        rw [hb] at h'
        obtain ⟨k, v, h5, h6⟩ := ih e3 h'
        exact ⟨k + 1, v, h5, h6⟩
theorem xl2_filter {ad : Nat → Nat} {f : Nat × xA → Bool} {g : Nat × Value → Bool} (hfg : ∀ a b, a.1 = b.1 → xR ad a.2 b.2 → f a = g b) : ∀ {loc : List (Nat × xA)} {lv : List (Nat × Value)}, xl2 ad loc lv → xl2 ad (loc.filter f) (lv.filter g) := by
  intro loc
  induction loc with
  | nil => intro lv h; cases lv with
    | nil => trivial
    | cons => exact h.elim
  | cons a loc ih =>
    intro lv h
    cases lv with
    | nil => exact h.elim
    | cons b bs =>
      obtain ⟨e1, e2, e3⟩ := h
      have e := hfg a b e1 e2
      simp only [List.filter_cons]
      rw [e]
      cases g b
      · exact ih e3
      · exact ⟨e1, e2, ih e3⟩
theorem beq_nat (a b : Nat) : Nat.beq a b = (a == b) := by
  rw [Bool.eq_iff_iff]
  simp
theorem xst1_ok {ad : Nat → Nat} {i : Nat} {a : xA} {v : Value} {loc : List (Nat × xA)} {lv : List (Nat × Value)} (h : xl2 ad loc lv) (ha : xR ad a v) : xl2 ad (xst1 loc i a) ((i, v) :: lv.filter (fun q => !(q.1 == i) && !(q.1 + 1 == i && q.2.category == 2))) := by
  refine ⟨rfl, ha, xl2_filter (fun x y e1 e2 => ?_) h⟩
  rw [xR_cat e2, ← e1]
  simp only [beq_nat]
theorem xst2_ok {ad : Nat → Nat} {i : Nat} {a : xA} {v : Value} {loc : List (Nat × xA)} {lv : List (Nat × Value)} (h : xl2 ad loc lv) (ha : xR ad a v) : xl2 ad (xst2 loc i a) ((i, v) :: lv.filter (fun q => !(q.1 == i) && (!(q.1 == i + 1) && !(q.1 + 1 == i && q.2.category == 2)))) := by
  refine ⟨rfl, ha, xl2_filter (fun x y e1 e2 => ?_) h⟩
  rw [xR_cat e2, ← e1]
  simp only [beq_nat]
