/-! ===== the law's entry ===== -/
section Entry
variable {S : State} {A : Array Value}
abbrev xF0 : List Cond := flatC (Jvm.Cond.and given_1 narrow_1)
theorem xF0_mem {k n : Nat} {l : List Cond} (h : (xF0.drop k).take n = l) {w : Cond} (hw : w ∈ l) : w ∈ xF0 := by
  rw [← h] at hw
  exact List.mem_of_mem_drop (List.mem_of_mem_take hw)
theorem xF0_at {k : Nat} {w : Cond} (h : xF0[k]? = some w) : w ∈ xF0 := List.mem_of_getElem? h
def xsI (tm : Term) (v : List Nat) (a n : Nat) : List Cond := (List.range n).map fun j => Cond.eq (.elem tm (.int (Int32.ofNat (a + j)))) (.int (Int32.ofNat (v.getD (a + j) 0)))
def xsJ (tm : Term) (v : List Nat) (a n : Nat) : List Cond := (List.range n).map fun j => Cond.eq (.elem tm (.int (Int32.ofNat (a + j)))) (.long (Int64.ofNat (v.getD (a + j) 0)))
theorem xsI_in {tm : Term} {v : List Nat} {a n j : Nat} (h1 : a ≤ j) (h2 : j < a + n) : Cond.eq (.elem tm (.int (Int32.ofNat j))) (.int (Int32.ofNat (v.getD j 0))) ∈ xsI tm v a n := by
  refine List.mem_map.mpr ⟨j - a, List.mem_range.mpr (by omega), ?_⟩
  rw [show a + (j - a) = j by omega]
theorem xsJ_in {tm : Term} {v : List Nat} {a n j : Nat} (h1 : a ≤ j) (h2 : j < a + n) : Cond.eq (.elem tm (.int (Int32.ofNat j))) (.long (Int64.ofNat (v.getD j 0))) ∈ xsJ tm v a n := by
  refine List.mem_map.mpr ⟨j - a, List.mem_range.mpr (by omega), ?_⟩
  rw [show a + (j - a) = j by omega]
theorem xnoA (S : State) : ∀ a : Nat, a < S.heap.size → ¬ S.heap.size ≤ a := fun _ h => Nat.not_le.mpr h
theorem xmk_spec {α : Type} (kk : Nat) (l : List α) : ∀ (i : Nat) (t : Lean.RArray α), xwf kk 0 t → i + l.length ≤ 2 ^ kk → xwf kk 0 (xmk kk l i t) ∧ (∀ n x, l[n]? = some x → xget (xmk kk l i t) (i + n) = x) ∧ ∀ j, j < 2 ^ kk → (j < i ∨ i + l.length ≤ j) → xget (xmk kk l i t) j = xget t j := by
  induction l with
  | nil => intro i t ht _; exact ⟨ht, fun n x h => (by cases h), fun _ _ _ => rfl⟩
  | cons a l ih =>
    intro i t ht hi
    rw [List.length_cons] at hi
    obtain ⟨h1, h2, h3⟩ := ih (i + 1) (xset a i kk 0 t) (xset_wf _ _ _ _ _ ht) (by omega)
    refine ⟨h1, fun n x h => ?_, fun j hj hor => ?_⟩
    · cases n with
      | zero =>
        have e : a = x := Option.some.inj h
        refine (h3 i (by omega) (Or.inl (by omega))).trans ?_
        rw [xget_xset a i i kk 0 t ht (Nat.zero_le _) (by omega) (Nat.zero_le _) (by omega), if_pos rfl, e]
      | succ n =>
        have := h2 n x h
        rw [show i + 1 + n = i + (n + 1) by omega] at this
        exact this
    · rw [List.length_cons] at hor
      refine (h3 j hj (by omega)).trans ?_
      rw [xget_xset a i j kk 0 t ht (Nat.zero_le _) (by omega) (Nat.zero_le _) (by omega), if_neg (by omega)]
theorem xcr_T {o : Nat} {ad : Nat → Nat} {D : va_G} {k t ty N bb : Nat} {arr : Lean.RArray xA} {f : Nat → Value} {B : Nat → Prop} (hT : va_T (xty ty) t N f B S S.heap) (ho : k < o) (had : ad k = t) (hb : N ≤ 2 ^ bb) (hw : xwf bb 0 arr) (hR : ∀ j, j < N → xR ad (xget arr j) (f j)) : xcr o ad D S k (some (.inr (.inl (ty, (N, (bb, arr)))))) S.heap := by
  obtain ⟨cell, h1, h2, h3, h4, h5, h6, h7⟩ := hT
  exact ⟨cell, by rw [had]; exact h1, h2, h3, fun h => absurd h (by omega), h4, h5, hw, hb, fun j hj => ⟨f j, h6 j hj, hR j hj⟩⟩
theorem xgetD {v : List Nat} {j : Nat} (h : j < v.length) {β : Type} (g : Nat → β) : (v.map g)[j]? = some (g (v.getD j 0)) := by
  rw [List.getElem?_map, List.getElem?_eq_getElem h, List.getD_eq_getElem?_getD, List.getElem?_eq_getElem h]
  rfl
theorem xcr_I {o : Nat} {ad : Nat → Nat} {D : va_G} {k t ty bb : Nat} {d : xA} {B : Nat → Prop} (v : List Nat) (hT : va_T (xty ty) t v.length (fun j => .int (Int32.ofNat (v.getD j 0))) B S S.heap) (ho : k < o) (had : ad k = t) (hb : v.length ≤ 2 ^ bb) : xcr o ad D S k (some (.inr (.inl (ty, (v.length, (bb, xmk bb (v.map fun n => .inl n) 0 (.leaf d))))))) S.heap := by
  obtain ⟨h1, h2, -⟩ := xmk_spec bb (v.map fun n => (.inl n : xA)) 0 (.leaf d) (xwf_leaf _ _ _) (by rw [List.length_map]; omega)
  refine xcr_T hT ho had hb h1 fun j hj => ?_
  have := h2 j _ (xgetD hj fun n => (.inl n : xA))
  rw [Nat.zero_add] at this
  rw [this]
  rfl
theorem xcr_J {o : Nat} {ad : Nat → Nat} {D : va_G} {k t ty bb : Nat} {d : xA} {B : Nat → Prop} (v : List Nat) (hT : va_T (xty ty) t v.length (fun j => .long (Int64.ofNat (v.getD j 0))) B S S.heap) (ho : k < o) (had : ad k = t) (hb : v.length ≤ 2 ^ bb) : xcr o ad D S k (some (.inr (.inl (ty, (v.length, (bb, xmk bb (v.map fun n => .inr (.inl n)) 0 (.leaf d))))))) S.heap := by
  obtain ⟨h1, h2, -⟩ := xmk_spec bb (v.map fun n => (.inr (.inl n) : xA)) 0 (.leaf d) (xwf_leaf _ _ _) (by rw [List.length_map]; omega)
  refine xcr_T hT ho had hb h1 fun j hj => ?_
  have := h2 j _ (xgetD hj fun n => (.inr (.inl n) : xA))
  rw [Nat.zero_add] at this
  rw [this]
  rfl
/-! the static arrays -/
set_option maxRecDepth 100000 in
theorem xse_1_0 : (xF0.drop 12).take 5 = xsI (Term.static "GridHouse$Net" "MOST" "[I") xsv_1 0 5 := by decide +kernel
theorem xst_1 (hF : ∀ w ∈ xF0, w.before A S = true) (hts : ∀ w ∈ lw_tbl, w.before A S = true) : ∃ t : Nat, va_T .int t xsv_1.length (fun j => .int (Int32.ofNat (xsv_1.getD j 0))) (fun q => S.heap.size ≤ q) S S.heap ∧ va_Z "GridHouse$Net" "MOST" "[I" (.ref t) (fun q => S.heap.size ≤ q) S S.heap := by
  obtain ⟨t, ht, hT⟩ := va_Tof (args := A) (s := S) (tm := (Term.static "GridHouse$Net" "MOST" "[I")) (ty := .int) (N := xsv_1.length) (f := fun j => .int (Int32.ofNat (xsv_1.getD j 0))) (A := fun q => S.heap.size ≤ q) (by decide) (hF (Cond.arrayOf (Term.static "GridHouse$Net" "MOST" "[I") FieldType.int) (xF0_at (k := 10) (by decide +kernel))) (va_eqt (hF (Cond.eq (.length (Term.static "GridHouse$Net" "MOST" "[I")) (.int (Int32.ofNat xsv_1.length))) (xF0_at (k := 11) (by decide +kernel)))) (fun j hj => va_eqt (hF _ (have hj : j < 5 := hj; xF0_mem xse_1_0 (xsI_in (by omega) (by omega))))) (xnoA S)
  exact ⟨t, hT, va_Zof (hts (Cond.laysStatic "GridHouse$Net" "MOST" "[I") (xpc_in (k := 1) (List.mem_of_getElem? (i := 140) (by decide +kernel)))) (hts (Cond.initialized "GridHouse$Net") (xpc_in (k := 1) (List.mem_of_getElem? (i := 7) (by decide +kernel)))) ht (xnoA S)⟩
set_option maxRecDepth 100000 in
theorem xse_2_0 : (xF0.drop 20).take 5 = xsI (Term.static "GridHouse$Net" "WIDTH" "[I") xsv_2 0 5 := by decide +kernel
theorem xst_2 (hF : ∀ w ∈ xF0, w.before A S = true) (hts : ∀ w ∈ lw_tbl, w.before A S = true) : ∃ t : Nat, va_T .int t xsv_2.length (fun j => .int (Int32.ofNat (xsv_2.getD j 0))) (fun q => S.heap.size ≤ q) S S.heap ∧ va_Z "GridHouse$Net" "WIDTH" "[I" (.ref t) (fun q => S.heap.size ≤ q) S S.heap := by
  obtain ⟨t, ht, hT⟩ := va_Tof (args := A) (s := S) (tm := (Term.static "GridHouse$Net" "WIDTH" "[I")) (ty := .int) (N := xsv_2.length) (f := fun j => .int (Int32.ofNat (xsv_2.getD j 0))) (A := fun q => S.heap.size ≤ q) (by decide) (hF (Cond.arrayOf (Term.static "GridHouse$Net" "WIDTH" "[I") FieldType.int) (xF0_at (k := 18) (by decide +kernel))) (va_eqt (hF (Cond.eq (.length (Term.static "GridHouse$Net" "WIDTH" "[I")) (.int (Int32.ofNat xsv_2.length))) (xF0_at (k := 19) (by decide +kernel)))) (fun j hj => va_eqt (hF _ (have hj : j < 5 := hj; xF0_mem xse_2_0 (xsI_in (by omega) (by omega))))) (xnoA S)
  exact ⟨t, hT, va_Zof (hts (Cond.laysStatic "GridHouse$Net" "WIDTH" "[I") (xpc_in (k := 1) (List.mem_of_getElem? (i := 142) (by decide +kernel)))) (hts (Cond.initialized "GridHouse$Net") (xpc_in (k := 1) (List.mem_of_getElem? (i := 7) (by decide +kernel)))) ht (xnoA S)⟩
set_option maxRecDepth 100000 in
theorem xse_3_0 : (xF0.drop 28).take 40 = xsJ (Term.static "GridHouse$Solver" "PRIMES" "[J") xsv_3 0 40 := by decide +kernel
set_option maxRecDepth 100000 in
theorem xse_3_40 : (xF0.drop 68).take 8 = xsJ (Term.static "GridHouse$Solver" "PRIMES" "[J") xsv_3 40 8 := by decide +kernel
theorem xst_3 (hF : ∀ w ∈ xF0, w.before A S = true) (hts : ∀ w ∈ lw_tbl, w.before A S = true) : ∃ t : Nat, va_T .long t xsv_3.length (fun j => .long (Int64.ofNat (xsv_3.getD j 0))) (fun q => S.heap.size ≤ q) S S.heap ∧ va_Z "GridHouse$Solver" "PRIMES" "[J" (.ref t) (fun q => S.heap.size ≤ q) S S.heap := by
  obtain ⟨t, ht, hT⟩ := va_Tof (args := A) (s := S) (tm := (Term.static "GridHouse$Solver" "PRIMES" "[J")) (ty := .long) (N := xsv_3.length) (f := fun j => .long (Int64.ofNat (xsv_3.getD j 0))) (A := fun q => S.heap.size ≤ q) (by decide) (hF (Cond.arrayOf (Term.static "GridHouse$Solver" "PRIMES" "[J") FieldType.long) (xF0_at (k := 26) (by decide +kernel))) (va_eqt (hF (Cond.eq (.length (Term.static "GridHouse$Solver" "PRIMES" "[J")) (.int (Int32.ofNat xsv_3.length))) (xF0_at (k := 27) (by decide +kernel)))) (fun j hj => va_eqtl (hF _ (have hj : j < 48 := hj; if h0 : j < 40 then xF0_mem xse_3_0 (xsJ_in (by omega) (by omega)) else xF0_mem xse_3_40 (xsJ_in (by omega) (by omega))))) (xnoA S)
  exact ⟨t, hT, va_Zof (hts (Cond.laysStatic "GridHouse$Solver" "PRIMES" "[J") (xpc_in (k := 2) (List.mem_of_getElem? (i := 20) (by decide +kernel)))) (hts (Cond.initialized "GridHouse$Solver") (xpc_in (k := 1) (List.mem_of_getElem? (i := 11) (by decide +kernel)))) ht (xnoA S)⟩
set_option maxRecDepth 100000 in
theorem xse_4_0 : (xF0.drop 79).take 17 = xsI (Term.static "GridHouse$Net" "GREATEST" "[I") xsv_4 0 17 := by decide +kernel
theorem xst_4 (hF : ∀ w ∈ xF0, w.before A S = true) (hts : ∀ w ∈ lw_tbl, w.before A S = true) : ∃ t : Nat, va_T .int t xsv_4.length (fun j => .int (Int32.ofNat (xsv_4.getD j 0))) (fun q => S.heap.size ≤ q) S S.heap ∧ va_Z "GridHouse$Net" "GREATEST" "[I" (.ref t) (fun q => S.heap.size ≤ q) S S.heap := by
  obtain ⟨t, ht, hT⟩ := va_Tof (args := A) (s := S) (tm := (Term.static "GridHouse$Net" "GREATEST" "[I")) (ty := .int) (N := xsv_4.length) (f := fun j => .int (Int32.ofNat (xsv_4.getD j 0))) (A := fun q => S.heap.size ≤ q) (by decide) (hF (Cond.arrayOf (Term.static "GridHouse$Net" "GREATEST" "[I") FieldType.int) (xF0_at (k := 77) (by decide +kernel))) (va_eqt (hF (Cond.eq (.length (Term.static "GridHouse$Net" "GREATEST" "[I")) (.int (Int32.ofNat xsv_4.length))) (xF0_at (k := 78) (by decide +kernel)))) (fun j hj => va_eqt (hF _ (have hj : j < 17 := hj; xF0_mem xse_4_0 (xsI_in (by omega) (by omega))))) (xnoA S)
  exact ⟨t, hT, va_Zof (hts (Cond.laysStatic "GridHouse$Net" "GREATEST" "[I") (xpc_in (k := 4) (List.mem_of_getElem? (i := 214) (by decide +kernel)))) (hts (Cond.initialized "GridHouse$Net") (xpc_in (k := 1) (List.mem_of_getElem? (i := 7) (by decide +kernel)))) ht (xnoA S)⟩
set_option maxRecDepth 100000 in
theorem xse_5_0 : (xF0.drop 99).take 5 = xsI (Term.static "GridHouse$Net" "BOUNDS" "[I") xsv_5 0 5 := by decide +kernel
theorem xst_5 (hF : ∀ w ∈ xF0, w.before A S = true) (hts : ∀ w ∈ lw_tbl, w.before A S = true) : ∃ t : Nat, va_T .int t xsv_5.length (fun j => .int (Int32.ofNat (xsv_5.getD j 0))) (fun q => S.heap.size ≤ q) S S.heap ∧ va_Z "GridHouse$Net" "BOUNDS" "[I" (.ref t) (fun q => S.heap.size ≤ q) S S.heap := by
  obtain ⟨t, ht, hT⟩ := va_Tof (args := A) (s := S) (tm := (Term.static "GridHouse$Net" "BOUNDS" "[I")) (ty := .int) (N := xsv_5.length) (f := fun j => .int (Int32.ofNat (xsv_5.getD j 0))) (A := fun q => S.heap.size ≤ q) (by decide) (hF (Cond.arrayOf (Term.static "GridHouse$Net" "BOUNDS" "[I") FieldType.int) (xF0_at (k := 97) (by decide +kernel))) (va_eqt (hF (Cond.eq (.length (Term.static "GridHouse$Net" "BOUNDS" "[I")) (.int (Int32.ofNat xsv_5.length))) (xF0_at (k := 98) (by decide +kernel)))) (fun j hj => va_eqt (hF _ (have hj : j < 5 := hj; xF0_mem xse_5_0 (xsI_in (by omega) (by omega))))) (xnoA S)
  exact ⟨t, hT, va_Zof (hts (Cond.laysStatic "GridHouse$Net" "BOUNDS" "[I") (xpc_in (k := 4) (List.mem_of_getElem? (i := 216) (by decide +kernel)))) (hts (Cond.initialized "GridHouse$Net") (xpc_in (k := 1) (List.mem_of_getElem? (i := 7) (by decide +kernel)))) ht (xnoA S)⟩
set_option maxRecDepth 100000 in
theorem xse_6_0 : (xF0.drop 107).take 5 = xsI (Term.static "GridHouse$Net" "ENDS" "[I") xsv_6 0 5 := by decide +kernel
theorem xst_6 (hF : ∀ w ∈ xF0, w.before A S = true) (hts : ∀ w ∈ lw_tbl, w.before A S = true) : ∃ t : Nat, va_T .int t xsv_6.length (fun j => .int (Int32.ofNat (xsv_6.getD j 0))) (fun q => S.heap.size ≤ q) S S.heap ∧ va_Z "GridHouse$Net" "ENDS" "[I" (.ref t) (fun q => S.heap.size ≤ q) S S.heap := by
  obtain ⟨t, ht, hT⟩ := va_Tof (args := A) (s := S) (tm := (Term.static "GridHouse$Net" "ENDS" "[I")) (ty := .int) (N := xsv_6.length) (f := fun j => .int (Int32.ofNat (xsv_6.getD j 0))) (A := fun q => S.heap.size ≤ q) (by decide) (hF (Cond.arrayOf (Term.static "GridHouse$Net" "ENDS" "[I") FieldType.int) (xF0_at (k := 105) (by decide +kernel))) (va_eqt (hF (Cond.eq (.length (Term.static "GridHouse$Net" "ENDS" "[I")) (.int (Int32.ofNat xsv_6.length))) (xF0_at (k := 106) (by decide +kernel)))) (fun j hj => va_eqt (hF _ (have hj : j < 5 := hj; xF0_mem xse_6_0 (xsI_in (by omega) (by omega))))) (xnoA S)
  exact ⟨t, hT, va_Zof (hts (Cond.laysStatic "GridHouse$Net" "ENDS" "[I") (xpc_in (k := 4) (List.mem_of_getElem? (i := 222) (by decide +kernel)))) (hts (Cond.initialized "GridHouse$Net") (xpc_in (k := 1) (List.mem_of_getElem? (i := 7) (by decide +kernel)))) ht (xnoA S)⟩
set_option maxRecDepth 100000 in
theorem xse_7_0 : (xF0.drop 115).take 5 = xsI (Term.static "GridHouse$Net" "FIRST_END" "[I") xsv_7 0 5 := by decide +kernel
theorem xst_7 (hF : ∀ w ∈ xF0, w.before A S = true) (hts : ∀ w ∈ lw_tbl, w.before A S = true) : ∃ t : Nat, va_T .int t xsv_7.length (fun j => .int (Int32.ofNat (xsv_7.getD j 0))) (fun q => S.heap.size ≤ q) S S.heap ∧ va_Z "GridHouse$Net" "FIRST_END" "[I" (.ref t) (fun q => S.heap.size ≤ q) S S.heap := by
  obtain ⟨t, ht, hT⟩ := va_Tof (args := A) (s := S) (tm := (Term.static "GridHouse$Net" "FIRST_END" "[I")) (ty := .int) (N := xsv_7.length) (f := fun j => .int (Int32.ofNat (xsv_7.getD j 0))) (A := fun q => S.heap.size ≤ q) (by decide) (hF (Cond.arrayOf (Term.static "GridHouse$Net" "FIRST_END" "[I") FieldType.int) (xF0_at (k := 113) (by decide +kernel))) (va_eqt (hF (Cond.eq (.length (Term.static "GridHouse$Net" "FIRST_END" "[I")) (.int (Int32.ofNat xsv_7.length))) (xF0_at (k := 114) (by decide +kernel)))) (fun j hj => va_eqt (hF _ (have hj : j < 5 := hj; xF0_mem xse_7_0 (xsI_in (by omega) (by omega))))) (xnoA S)
  exact ⟨t, hT, va_Zof (hts (Cond.laysStatic "GridHouse$Net" "FIRST_END" "[I") (xpc_in (k := 4) (List.mem_of_getElem? (i := 228) (by decide +kernel)))) (hts (Cond.initialized "GridHouse$Net") (xpc_in (k := 1) (List.mem_of_getElem? (i := 7) (by decide +kernel)))) ht (xnoA S)⟩
set_option maxRecDepth 100000 in
theorem xse_8_0 : (xF0.drop 123).take 5 = xsI (Term.static "GridHouse$Net" "FIRST_NUMBER" "[I") xsv_8 0 5 := by decide +kernel
theorem xst_8 (hF : ∀ w ∈ xF0, w.before A S = true) (hts : ∀ w ∈ lw_tbl, w.before A S = true) : ∃ t : Nat, va_T .int t xsv_8.length (fun j => .int (Int32.ofNat (xsv_8.getD j 0))) (fun q => S.heap.size ≤ q) S S.heap ∧ va_Z "GridHouse$Net" "FIRST_NUMBER" "[I" (.ref t) (fun q => S.heap.size ≤ q) S S.heap := by
  obtain ⟨t, ht, hT⟩ := va_Tof (args := A) (s := S) (tm := (Term.static "GridHouse$Net" "FIRST_NUMBER" "[I")) (ty := .int) (N := xsv_8.length) (f := fun j => .int (Int32.ofNat (xsv_8.getD j 0))) (A := fun q => S.heap.size ≤ q) (by decide) (hF (Cond.arrayOf (Term.static "GridHouse$Net" "FIRST_NUMBER" "[I") FieldType.int) (xF0_at (k := 121) (by decide +kernel))) (va_eqt (hF (Cond.eq (.length (Term.static "GridHouse$Net" "FIRST_NUMBER" "[I")) (.int (Int32.ofNat xsv_8.length))) (xF0_at (k := 122) (by decide +kernel)))) (fun j hj => va_eqt (hF _ (have hj : j < 5 := hj; xF0_mem xse_8_0 (xsI_in (by omega) (by omega))))) (xnoA S)
  exact ⟨t, hT, va_Zof (hts (Cond.laysStatic "GridHouse$Net" "FIRST_NUMBER" "[I") (xpc_in (k := 4) (List.mem_of_getElem? (i := 238) (by decide +kernel)))) (hts (Cond.initialized "GridHouse$Net") (xpc_in (k := 1) (List.mem_of_getElem? (i := 7) (by decide +kernel)))) ht (xnoA S)⟩
set_option maxRecDepth 100000 in
theorem xse_9_0 : (xF0.drop 131).take 5 = xsI (Term.static "GridHouse$Net" "SETTABLE" "[I") xsv_9 0 5 := by decide +kernel
theorem xst_9 (hF : ∀ w ∈ xF0, w.before A S = true) (hts : ∀ w ∈ lw_tbl, w.before A S = true) : ∃ t : Nat, va_T .int t xsv_9.length (fun j => .int (Int32.ofNat (xsv_9.getD j 0))) (fun q => S.heap.size ≤ q) S S.heap ∧ va_Z "GridHouse$Net" "SETTABLE" "[I" (.ref t) (fun q => S.heap.size ≤ q) S S.heap := by
  obtain ⟨t, ht, hT⟩ := va_Tof (args := A) (s := S) (tm := (Term.static "GridHouse$Net" "SETTABLE" "[I")) (ty := .int) (N := xsv_9.length) (f := fun j => .int (Int32.ofNat (xsv_9.getD j 0))) (A := fun q => S.heap.size ≤ q) (by decide) (hF (Cond.arrayOf (Term.static "GridHouse$Net" "SETTABLE" "[I") FieldType.int) (xF0_at (k := 129) (by decide +kernel))) (va_eqt (hF (Cond.eq (.length (Term.static "GridHouse$Net" "SETTABLE" "[I")) (.int (Int32.ofNat xsv_9.length))) (xF0_at (k := 130) (by decide +kernel)))) (fun j hj => va_eqt (hF _ (have hj : j < 5 := hj; xF0_mem xse_9_0 (xsI_in (by omega) (by omega))))) (xnoA S)
  exact ⟨t, hT, va_Zof (hts (Cond.laysStatic "GridHouse$Net" "SETTABLE" "[I") (xpc_in (k := 5) (List.mem_of_getElem? (i := 0) (by decide +kernel)))) (hts (Cond.initialized "GridHouse$Net") (xpc_in (k := 1) (List.mem_of_getElem? (i := 7) (by decide +kernel)))) ht (xnoA S)⟩
set_option maxRecDepth 100000 in
theorem xse_10_0 : (xF0.drop 139).take 17 = xsI (Term.static "GridHouse$Net" "LEAST" "[I") xsv_10 0 17 := by decide +kernel
theorem xst_10 (hF : ∀ w ∈ xF0, w.before A S = true) (hts : ∀ w ∈ lw_tbl, w.before A S = true) : ∃ t : Nat, va_T .int t xsv_10.length (fun j => .int (Int32.ofNat (xsv_10.getD j 0))) (fun q => S.heap.size ≤ q) S S.heap ∧ va_Z "GridHouse$Net" "LEAST" "[I" (.ref t) (fun q => S.heap.size ≤ q) S S.heap := by
  obtain ⟨t, ht, hT⟩ := va_Tof (args := A) (s := S) (tm := (Term.static "GridHouse$Net" "LEAST" "[I")) (ty := .int) (N := xsv_10.length) (f := fun j => .int (Int32.ofNat (xsv_10.getD j 0))) (A := fun q => S.heap.size ≤ q) (by decide) (hF (Cond.arrayOf (Term.static "GridHouse$Net" "LEAST" "[I") FieldType.int) (xF0_at (k := 137) (by decide +kernel))) (va_eqt (hF (Cond.eq (.length (Term.static "GridHouse$Net" "LEAST" "[I")) (.int (Int32.ofNat xsv_10.length))) (xF0_at (k := 138) (by decide +kernel)))) (fun j hj => va_eqt (hF _ (have hj : j < 17 := hj; xF0_mem xse_10_0 (xsI_in (by omega) (by omega))))) (xnoA S)
  exact ⟨t, hT, va_Zof (hts (Cond.laysStatic "GridHouse$Net" "LEAST" "[I") (xpc_in (k := 5) (List.mem_of_getElem? (i := 9) (by decide +kernel)))) (hts (Cond.initialized "GridHouse$Net") (xpc_in (k := 1) (List.mem_of_getElem? (i := 7) (by decide +kernel)))) ht (xnoA S)⟩
set_option maxRecDepth 100000 in
theorem xse_11_0 : (xF0.drop 159).take 6 = xsI (Term.static "GridHouse$Rules" "ACT_SORT" "[I") xsv_11 0 6 := by decide +kernel
theorem xst_11 (hF : ∀ w ∈ xF0, w.before A S = true) (hts : ∀ w ∈ lw_tbl, w.before A S = true) : ∃ t : Nat, va_T .int t xsv_11.length (fun j => .int (Int32.ofNat (xsv_11.getD j 0))) (fun q => S.heap.size ≤ q) S S.heap ∧ va_Z "GridHouse$Rules" "ACT_SORT" "[I" (.ref t) (fun q => S.heap.size ≤ q) S S.heap := by
  obtain ⟨t, ht, hT⟩ := va_Tof (args := A) (s := S) (tm := (Term.static "GridHouse$Rules" "ACT_SORT" "[I")) (ty := .int) (N := xsv_11.length) (f := fun j => .int (Int32.ofNat (xsv_11.getD j 0))) (A := fun q => S.heap.size ≤ q) (by decide) (hF (Cond.arrayOf (Term.static "GridHouse$Rules" "ACT_SORT" "[I") FieldType.int) (xF0_at (k := 157) (by decide +kernel))) (va_eqt (hF (Cond.eq (.length (Term.static "GridHouse$Rules" "ACT_SORT" "[I")) (.int (Int32.ofNat xsv_11.length))) (xF0_at (k := 158) (by decide +kernel)))) (fun j hj => va_eqt (hF _ (have hj : j < 6 := hj; xF0_mem xse_11_0 (xsI_in (by omega) (by omega))))) (xnoA S)
  exact ⟨t, hT, va_Zof (hts (Cond.laysStatic "GridHouse$Rules" "ACT_SORT" "[I") (xpc_in (k := 5) (List.mem_of_getElem? (i := 99) (by decide +kernel)))) (hts (Cond.initialized "GridHouse$Rules") (xpc_in (k := 1) (List.mem_of_getElem? (i := 18) (by decide +kernel)))) ht (xnoA S)⟩
set_option maxRecDepth 100000 in
theorem xse_12_0 : (xF0.drop 168).take 6 = xsI (Term.static "GridHouse$Rules" "ACT_FIELD" "[I") xsv_12 0 6 := by decide +kernel
theorem xst_12 (hF : ∀ w ∈ xF0, w.before A S = true) (hts : ∀ w ∈ lw_tbl, w.before A S = true) : ∃ t : Nat, va_T .int t xsv_12.length (fun j => .int (Int32.ofNat (xsv_12.getD j 0))) (fun q => S.heap.size ≤ q) S S.heap ∧ va_Z "GridHouse$Rules" "ACT_FIELD" "[I" (.ref t) (fun q => S.heap.size ≤ q) S S.heap := by
  obtain ⟨t, ht, hT⟩ := va_Tof (args := A) (s := S) (tm := (Term.static "GridHouse$Rules" "ACT_FIELD" "[I")) (ty := .int) (N := xsv_12.length) (f := fun j => .int (Int32.ofNat (xsv_12.getD j 0))) (A := fun q => S.heap.size ≤ q) (by decide) (hF (Cond.arrayOf (Term.static "GridHouse$Rules" "ACT_FIELD" "[I") FieldType.int) (xF0_at (k := 166) (by decide +kernel))) (va_eqt (hF (Cond.eq (.length (Term.static "GridHouse$Rules" "ACT_FIELD" "[I")) (.int (Int32.ofNat xsv_12.length))) (xF0_at (k := 167) (by decide +kernel)))) (fun j hj => va_eqt (hF _ (have hj : j < 6 := hj; xF0_mem xse_12_0 (xsI_in (by omega) (by omega))))) (xnoA S)
  exact ⟨t, hT, va_Zof (hts (Cond.laysStatic "GridHouse$Rules" "ACT_FIELD" "[I") (xpc_in (k := 7) (List.mem_of_getElem? (i := 203) (by decide +kernel)))) (hts (Cond.initialized "GridHouse$Rules") (xpc_in (k := 1) (List.mem_of_getElem? (i := 18) (by decide +kernel)))) ht (xnoA S)⟩
set_option maxRecDepth 100000 in
theorem xse_13_0 : (xF0.drop 177).take 6 = xsI (Term.static "GridHouse$Rules" "ACT_VALUE" "[I") xsv_13 0 6 := by decide +kernel
theorem xst_13 (hF : ∀ w ∈ xF0, w.before A S = true) (hts : ∀ w ∈ lw_tbl, w.before A S = true) : ∃ t : Nat, va_T .int t xsv_13.length (fun j => .int (Int32.ofNat (xsv_13.getD j 0))) (fun q => S.heap.size ≤ q) S S.heap ∧ va_Z "GridHouse$Rules" "ACT_VALUE" "[I" (.ref t) (fun q => S.heap.size ≤ q) S S.heap := by
  obtain ⟨t, ht, hT⟩ := va_Tof (args := A) (s := S) (tm := (Term.static "GridHouse$Rules" "ACT_VALUE" "[I")) (ty := .int) (N := xsv_13.length) (f := fun j => .int (Int32.ofNat (xsv_13.getD j 0))) (A := fun q => S.heap.size ≤ q) (by decide) (hF (Cond.arrayOf (Term.static "GridHouse$Rules" "ACT_VALUE" "[I") FieldType.int) (xF0_at (k := 175) (by decide +kernel))) (va_eqt (hF (Cond.eq (.length (Term.static "GridHouse$Rules" "ACT_VALUE" "[I")) (.int (Int32.ofNat xsv_13.length))) (xF0_at (k := 176) (by decide +kernel)))) (fun j hj => va_eqt (hF _ (have hj : j < 6 := hj; xF0_mem xse_13_0 (xsI_in (by omega) (by omega))))) (xnoA S)
  exact ⟨t, hT, va_Zof (hts (Cond.laysStatic "GridHouse$Rules" "ACT_VALUE" "[I") (xpc_in (k := 7) (List.mem_of_getElem? (i := 206) (by decide +kernel)))) (hts (Cond.initialized "GridHouse$Rules") (xpc_in (k := 1) (List.mem_of_getElem? (i := 18) (by decide +kernel)))) ht (xnoA S)⟩
set_option maxRecDepth 100000 in
theorem xse_14_0 : (xF0.drop 188).take 40 = xsI (Term.static "GridHouseModel" "PRIME" "[I") xsv_14 0 40 := by decide +kernel
theorem xst_14 (hF : ∀ w ∈ xF0, w.before A S = true) (hts : ∀ w ∈ lw_tbl, w.before A S = true) : ∃ t : Nat, va_T .int t xsv_14.length (fun j => .int (Int32.ofNat (xsv_14.getD j 0))) (fun q => S.heap.size ≤ q) S S.heap ∧ va_Z "GridHouseModel" "PRIME" "[I" (.ref t) (fun q => S.heap.size ≤ q) S S.heap := by
  obtain ⟨t, ht, hT⟩ := va_Tof (args := A) (s := S) (tm := (Term.static "GridHouseModel" "PRIME" "[I")) (ty := .int) (N := xsv_14.length) (f := fun j => .int (Int32.ofNat (xsv_14.getD j 0))) (A := fun q => S.heap.size ≤ q) (by decide) (hF (Cond.arrayOf (Term.static "GridHouseModel" "PRIME" "[I") FieldType.int) (xF0_at (k := 186) (by decide +kernel))) (va_eqt (hF (Cond.eq (.length (Term.static "GridHouseModel" "PRIME" "[I")) (.int (Int32.ofNat xsv_14.length))) (xF0_at (k := 187) (by decide +kernel)))) (fun j hj => va_eqt (hF _ (have hj : j < 40 := hj; xF0_mem xse_14_0 (xsI_in (by omega) (by omega))))) (xnoA S)
  exact ⟨t, hT, va_Zof (hts (Cond.laysStatic "GridHouseModel" "PRIME" "[I") (xpc_in (k := 11) (List.mem_of_getElem? (i := 221) (by decide +kernel)))) (hts (Cond.initialized "GridHouseModel") (xpc_in (k := 1) (List.mem_of_getElem? (i := 19) (by decide +kernel)))) ht (xnoA S)⟩
/-! the texts that are read -/
set_option maxRecDepth 100000 in
theorem xse_16_0 : (xF0.drop 334).take 40 = xsI (Term.field (Term.string "GridHouse$Tape" 19) "java/lang/String" "value" "[B") xsv_16 0 40 := by decide +kernel
set_option maxRecDepth 100000 in
theorem xse_16_40 : (xF0.drop 374).take 40 = xsI (Term.field (Term.string "GridHouse$Tape" 19) "java/lang/String" "value" "[B") xsv_16 40 40 := by decide +kernel
set_option maxRecDepth 100000 in
theorem xse_16_80 : (xF0.drop 414).take 16 = xsI (Term.field (Term.string "GridHouse$Tape" 19) "java/lang/String" "value" "[B") xsv_16 80 16 := by decide +kernel
theorem xtx_15 (hF : ∀ w ∈ xF0, w.before A S = true) (hts : ∀ w ∈ lw_tbl, w.before A S = true) : ∃ a t : Nat, vk_R "GridHouse$Tape" 19 "close earth free tag untag it from to tagged live earthed joined lost over loops above below is " a S ∧ va_O "java/lang/String" a (fun q => S.heap.size ≤ q) S S.heap ∧ va_OF "java/lang/String" "coder" "B" (.int 0) a (fun q => S.heap.size ≤ q) S S.heap ∧ va_OF "java/lang/String" "value" "[B" (.ref t) a (fun q => S.heap.size ≤ q) S S.heap ∧ va_T .byte t xsv_16.length (fun j => .int (Int32.ofNat (xsv_16.getD j 0))) (fun q => S.heap.size ≤ q) S S.heap := by
  obtain ⟨t, ht, hT⟩ := va_Tof (args := A) (s := S) (tm := (Term.field (Term.string "GridHouse$Tape" 19) "java/lang/String" "value" "[B")) (ty := .byte) (N := xsv_16.length) (f := fun j => .int (Int32.ofNat (xsv_16.getD j 0))) (A := fun q => S.heap.size ≤ q) (by decide) (hF (Cond.arrayOf (Term.field (Term.string "GridHouse$Tape" 19) "java/lang/String" "value" "[B") FieldType.byte) (xF0_at (k := 332) (by decide +kernel))) (va_eqt (hF (Cond.eq (.length (Term.field (Term.string "GridHouse$Tape" 19) "java/lang/String" "value" "[B")) (.int (Int32.ofNat xsv_16.length))) (xF0_at (k := 333) (by decide +kernel)))) (fun j hj => va_eqt (hF _ (have hj : j < 96 := hj; if h0 : j < 40 then xF0_mem xse_16_0 (xsI_in (by omega) (by omega)) else if h1 : j < 80 then xF0_mem xse_16_40 (xsI_in (by omega) (by omega)) else xF0_mem xse_16_80 (xsI_in (by omega) (by omega))))) (xnoA S)
  obtain ⟨a, c, cA, kA, q1, q2, q3, q4, q5, q6, -⟩ := Cond.exactly_spec (args := A) (first := S) (o := none) (s := S) (idx := []) (t := (Term.string "GridHouse$Tape" 19)) (cls := "java/lang/String") (hF (Cond.exactly (Term.string "GridHouse$Tape" 19) "java/lang/String") (xF0_at (k := 330) (by decide +kernel)))
  exact ⟨a, t, vk_R.of (hts (Cond.stringRef "GridHouse$Tape" 19 "close earth free tag untag it from to tagged live earthed joined lost over loops above below is ") (xpc_in (k := 1) (List.mem_of_getElem? (i := 42) (by decide +kernel)))) q1, ⟨cA, q3, q5, by rw [q6]; exact q2, xnoA S a (Array.getElem?_eq_some_iff.mp q3).1⟩, vk_OFof q1 (va_eqt (hF (Cond.eq (Term.field (Term.string "GridHouse$Tape" 19) "java/lang/String" "coder" "B") (Term.int 0)) (xF0_at (k := 331) (by decide +kernel)))) (xnoA S), vk_OFof q1 ht (xnoA S), hT⟩
set_option maxRecDepth 100000 in
theorem xse_18_0 : (xF0.drop 434).take 40 = xsI (Term.field (Term.string "GridHouse$Tape" 21) "java/lang/String" "value" "[B") xsv_18 0 40 := by decide +kernel
set_option maxRecDepth 100000 in
theorem xse_18_40 : (xF0.drop 474).take 23 = xsI (Term.field (Term.string "GridHouse$Tape" 21) "java/lang/String" "value" "[B") xsv_18 40 23 := by decide +kernel
theorem xtx_17 (hF : ∀ w ∈ xF0, w.before A S = true) (hts : ∀ w ∈ lw_tbl, w.before A S = true) : ∃ a t : Nat, vk_R "GridHouse$Tape" 21 "bar switch line machine load open closed no if and or not then " a S ∧ va_O "java/lang/String" a (fun q => S.heap.size ≤ q) S S.heap ∧ va_OF "java/lang/String" "coder" "B" (.int 0) a (fun q => S.heap.size ≤ q) S S.heap ∧ va_OF "java/lang/String" "value" "[B" (.ref t) a (fun q => S.heap.size ≤ q) S S.heap ∧ va_T .byte t xsv_18.length (fun j => .int (Int32.ofNat (xsv_18.getD j 0))) (fun q => S.heap.size ≤ q) S S.heap := by
  obtain ⟨t, ht, hT⟩ := va_Tof (args := A) (s := S) (tm := (Term.field (Term.string "GridHouse$Tape" 21) "java/lang/String" "value" "[B")) (ty := .byte) (N := xsv_18.length) (f := fun j => .int (Int32.ofNat (xsv_18.getD j 0))) (A := fun q => S.heap.size ≤ q) (by decide) (hF (Cond.arrayOf (Term.field (Term.string "GridHouse$Tape" 21) "java/lang/String" "value" "[B") FieldType.byte) (xF0_at (k := 432) (by decide +kernel))) (va_eqt (hF (Cond.eq (.length (Term.field (Term.string "GridHouse$Tape" 21) "java/lang/String" "value" "[B")) (.int (Int32.ofNat xsv_18.length))) (xF0_at (k := 433) (by decide +kernel)))) (fun j hj => va_eqt (hF _ (have hj : j < 63 := hj; if h0 : j < 40 then xF0_mem xse_18_0 (xsI_in (by omega) (by omega)) else xF0_mem xse_18_40 (xsI_in (by omega) (by omega))))) (xnoA S)
  obtain ⟨a, c, cA, kA, q1, q2, q3, q4, q5, q6, -⟩ := Cond.exactly_spec (args := A) (first := S) (o := none) (s := S) (idx := []) (t := (Term.string "GridHouse$Tape" 21)) (cls := "java/lang/String") (hF (Cond.exactly (Term.string "GridHouse$Tape" 21) "java/lang/String") (xF0_at (k := 430) (by decide +kernel)))
  exact ⟨a, t, vk_R.of (hts (Cond.stringRef "GridHouse$Tape" 21 "bar switch line machine load open closed no if and or not then ") (xpc_in (k := 1) (List.mem_of_getElem? (i := 43) (by decide +kernel)))) q1, ⟨cA, q3, q5, by rw [q6]; exact q2, xnoA S a (Array.getElem?_eq_some_iff.mp q3).1⟩, vk_OFof q1 (va_eqt (hF (Cond.eq (Term.field (Term.string "GridHouse$Tape" 21) "java/lang/String" "coder" "B") (Term.int 0)) (xF0_at (k := 431) (by decide +kernel)))) (xnoA S), vk_OFof q1 ht (xnoA S), hT⟩
end Entry
