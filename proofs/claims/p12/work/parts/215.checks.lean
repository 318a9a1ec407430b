/-! ===== the checks of the image: by evaluation, and by facts of the law's entry ===== -/
/-- the table's pieces; a word's place is 256 times its piece's number, and its place there -/
def xpcs (k : Nat) : List Cond := match k with
  | 0 => k2_sels lw_privs
  | 1 => tables_1_1
  | 2 => tables_1_2
  | 3 => tables_1_3
  | 4 => tables_1_4
  | 5 => tables_1_5
  | 6 => tables_1_6
  | 7 => tables_1_7
  | 8 => tables_1_8
  | 9 => tables_1_9
  | 10 => tables_1_10
  | 11 => tables_1_11
  | 12 => tables_1_12
  | 13 => tables_1_13
  | 14 => tables_1_14
  | 15 => tables_1_15
  | 16 => tables_1_16
  | _ => []
theorem xpc_in {k : Nat} {w : Cond} (h : w ∈ xpcs k) : w ∈ lw_tbl := by
  have hp : ∀ {a b : List Cond}, w ∈ a → w ∈ a ++ b := fun h => List.mem_append.mpr (Or.inl h)
  have hq : ∀ {a b : List Cond}, w ∈ b → w ∈ a ++ b := fun h => List.mem_append.mpr (Or.inr h)
  show w ∈ k2_sels lw_privs ++ (tables_1_1 ++ (tables_1_2 ++ (tables_1_3 ++ (tables_1_4 ++ (tables_1_5 ++ (tables_1_6 ++ (tables_1_7 ++ (tables_1_8 ++ (tables_1_9 ++ (tables_1_10 ++ (tables_1_11 ++ (tables_1_12 ++ (tables_1_13 ++ (tables_1_14 ++ (tables_1_15 ++ tables_1_16)))))))))))))))
  match k, h with
  | 0, h => exact hp h
  | 1, h => exact hq (hp h)
  | 2, h => exact hq (hq (hp h))
  | 3, h => exact hq (hq (hq (hp h)))
  | 4, h => exact hq (hq (hq (hq (hp h))))
  | 5, h => exact hq (hq (hq (hq (hq (hp h)))))
  | 6, h => exact hq (hq (hq (hq (hq (hq (hp h))))))
  | 7, h => exact hq (hq (hq (hq (hq (hq (hq (hp h)))))))
  | 8, h => exact hq (hq (hq (hq (hq (hq (hq (hq (hp h))))))))
  | 9, h => exact hq (hq (hq (hq (hq (hq (hq (hq (hq (hp h)))))))))
  | 10, h => exact hq (hq (hq (hq (hq (hq (hq (hq (hq (hq (hp h))))))))))
  | 11, h => exact hq (hq (hq (hq (hq (hq (hq (hq (hq (hq (hq (hp h)))))))))))
  | 12, h => exact hq (hq (hq (hq (hq (hq (hq (hq (hq (hq (hq (hq (hp h))))))))))))
  | 13, h => exact hq (hq (hq (hq (hq (hq (hq (hq (hq (hq (hq (hq (hq (hp h)))))))))))))
  | 14, h => exact hq (hq (hq (hq (hq (hq (hq (hq (hq (hq (hq (hq (hq (hq (hp h))))))))))))))
  | 15, h => exact hq (hq (hq (hq (hq (hq (hq (hq (hq (hq (hq (hq (hq (hq (hq (hp h)))))))))))))))
  | 16, h => exact hq (hq (hq (hq (hq (hq (hq (hq (hq (hq (hq (hq (hq (hq (hq (hq (h))))))))))))))))
  | _ + 17, h => cases h
def xmem (i : Nat) (w : Cond) : Bool := decide ((xpcs (i / 256))[i % 256]? = some w) && goodWord w
theorem xmem_ok {i : Nat} {w : Cond} (h : xmem i w = true) : w ∈ xW := by
  obtain ⟨h1, h2⟩ := and_true' h
  exact List.mem_filter.mpr ⟨xpc_in (List.mem_of_getElem? (of_decide_eq_true h1)), h2⟩
/-- facts of the law's entry that no word of the tables alone gives -/
abbrev xSL : Type := List (Nat × Nat) × (List Nat × (List Nat × (List (String × (Nat × Nat)) × (List (String × (String × (String × Nat))) × List (String × (Nat × (Nat × String)))))))
def xSf (S : State) (ad : Nat → Nat) (mt : Nat → xY) (L : xSL) : Prop :=
  (∀ t ∈ L.1, xQw (mt t.1) t.2) ∧ (∀ t ∈ L.2.1, va_AO (xcn t) S) ∧ (∀ t ∈ L.2.2.1, va_AOA (xty1 t) S) ∧ (∀ t ∈ L.2.2.2.1, ∃ tx, vk_R t.1 t.2.1 tx (ad t.2.2) S) ∧ (∀ t ∈ L.2.2.2.2.1, va_Z t.1 t.2.1 t.2.2.1 (.ref (ad t.2.2.2)) (fun q => S.heap.size ≤ q) S S.heap) ∧
  (∀ t ∈ L.2.2.2.2.2, va_Nw (.methodLinkNest t.1 t.2.1 (mt t.2.2.1).1 t.2.2.2) S) ∧ va_Z "java/lang/String" "COMPACT_STRINGS" "Z" (.int 1) (fun q => S.heap.size ≤ q) S S.heap ∧ va_Zq "jdk/internal/util/Preconditions" "SIOOBE_FORMATTER" "Ljava/util/function/BiFunction;" (fun q => S.heap.size ≤ q) S S.heap
/-- an operand's use -/
def xIu (S : State) (ad : Nat → Nat) (mt : Nat → xY) (own : String) (pool : Nat → xP) (u k : Nat) : Prop := match u with
  | 0 => ((pool k).1 = 0 → xPg own k (pool k)) ∧ ((pool k).1 = 24 → Cond.fieldLink own k "java/lang/String" "value" "[B" ∈ xW) ∧ ((pool k).1 = 25 → Cond.fieldLink own k "java/lang/String" "coder" "B" ∈ xW)
  | 1 => (pool k).1 = 0 → xPf own k (pool k)
  | 2 => (pool k).1 = 5 → xPc own k (pool k)
  | 3 => xPa S own k (pool k)
  | 4 => (pool k).1 = 22 → xPm S own k (pool k)
  | 5 => xPk S ad own k (pool k)
  | 6 => xPk S ad own k (pool k)
  | 7 => xPk S ad own k (pool k)
  | 8 => xPs S ad own k (pool k)
  | 9 => (pool k).1 = 1 ∨ (pool k).1 = 28 → xP1 mt own k (pool k)
  | 10 => ((pool k).1 = 2 → xP2 mt own k (pool k)) ∧ ((pool k).1 = 12 → xP12 own k) ∧ ¬ (pool k).1 = 13 ∧ ¬ (pool k).1 = 14 ∧ ¬ (pool k).1 = 15
  | 11 => ((pool k).1 = 3 → xP3 S mt own k (pool k)) ∧ ((pool k).1 = 4 → xP4 own k)
  | _ => False
def xqB (q : xY) (n : Nat) (h0 h1 : Nat) : Bool := xmem h0 (xcw q) && (xmem h1 (.initialized q.1.cls) && (decide (q.1.cls ≠ "java/lang/invoke/MethodHandle" ∧ q.1.cls ≠ "java/lang/invoke/VarHandle") && (decide ((parseMethodDescriptor q.1.desc).map (fun d => d.parameters.length) = some n) && Nat.ble q.2.2.1 45)))
theorem xqB_ok {q : xY} {n h0 h1 : Nat} (h : xqB q n h0 h1 = true) : xQw q n := by
  obtain ⟨a, h⟩ := and_true' h
  obtain ⟨b, h⟩ := and_true' h
  obtain ⟨c, h⟩ := and_true' h
  obtain ⟨d, e⟩ := and_true' h
  exact ⟨xmem_ok a, xmem_ok b, of_decide_eq_true c, of_decide_eq_true d, Nat.le_of_ble_eq_true e⟩
def xfB (own : String) (k : Nat) (P : xP) (h0 : Nat) : Bool := match vwCl[P.2.1]? with
  | some q => Nat.blt P.2.2.1 q.2.2 && (xmem h0 (.fieldLink own k (q.2.1 P.2.2.1).1 (q.2.1 P.2.2.1).2.1 (q.2.1 P.2.2.1).2.2.1) && ((match parseFieldDescriptor (q.2.1 P.2.2.1).2.2.1 with
    | some ty => Nat.beq (xfk ty) (P.2.2.2 % 8)
    | none => false) && (!(q.2.1 P.2.2.1).2.2.2 || (Nat.ble 8 P.2.2.2 && decide ((q.2.1 P.2.2.1).1 = own)))))
  | none => false
theorem xfB_ok {own : String} {k : Nat} {P : xP} {h0 : Nat} (h : xfB own k P h0 = true) : xPf own k P := by
  unfold xfB at h
  split at h
  · next q hq =>
    obtain ⟨C, T, N⟩ := q
    obtain ⟨a, h⟩ := and_true' h
    obtain ⟨b, h⟩ := and_true' h
    obtain ⟨c, d⟩ := and_true' h
    split at c
    · next ty hty =>
      refine ⟨C, T, N, ty, hq, Nat.le_of_ble_eq_true a, xmem_ok b, hty, Nat.eq_of_beq_eq_true c, ?_⟩
      cases hf : (T P.2.2.1).2.2.2 with
      | false => exact Or.inl rfl
      | true =>
        have d : (!(T P.2.2.1).2.2.2 || (Nat.ble 8 P.2.2.2 && decide ((T P.2.2.1).1 = own))) = true := d
        rw [hf] at d
        obtain ⟨d1, d2⟩ := and_true' (show (Nat.ble 8 P.2.2.2 && decide ((T P.2.2.1).1 = own)) = true from d)
        exact Or.inr ⟨rfl, Nat.le_of_ble_eq_true d1, of_decide_eq_true d2⟩
    · cases c
  · cases h
def xgB (own : String) (k : Nat) (P : xP) (h0 : Nat) : Bool := match vwCl[P.2.1]? with
  | some q => Nat.blt P.2.2.1 q.2.2 && xmem h0 (.fieldLink own k (q.2.1 P.2.2.1).1 (q.2.1 P.2.2.1).2.1 (q.2.1 P.2.2.1).2.2.1)
  | none => false
theorem xgB_ok {own : String} {k : Nat} {P : xP} {h0 : Nat} (h : xgB own k P h0 = true) : xPg own k P := by
  unfold xgB at h
  split at h
  · next q hq =>
    obtain ⟨a, b⟩ := and_true' h
    exact ⟨q.1, q.2.1, q.2.2, hq, Nat.le_of_ble_eq_true a, xmem_ok b⟩
  · cases h
def xcB (own : String) (k : Nat) (P : xP) (h0 h1 h2 : Nat) : Bool := match vwCl[P.2.1]? with
  | some q => xmem h0 (.classLink own k q.1) && (xmem h1 (.instantiable q.1 q.2.2) && xmem h2 (.initialized q.1))
  | none => false
theorem xcB_ok {own : String} {k : Nat} {P : xP} {h0 h1 h2 : Nat} (h : xcB own k P h0 h1 h2 = true) : xPc own k P := by
  unfold xcB at h
  split at h
  · next q hq =>
    obtain ⟨a, h⟩ := and_true' h
    obtain ⟨b, c⟩ := and_true' h
    exact ⟨q.1, q.2.1, q.2.2, hq, xmem_ok a, xmem_ok b, xmem_ok c⟩
  · cases h
/-- the check of one use, with the places of its words -/
def xuB (mt : Nat → xY) (L : xSL) (own : String) (pool : Nat → xP) (u k : Nat) (h0 h1 h2 h3 h4 : Nat) : Bool := match u with
  | 0 => match (pool k).1 with
    | 0 => xgB own k (pool k) h0
    | 24 => xmem h0 (.fieldLink own k "java/lang/String" "value" "[B")
    | 25 => xmem h0 (.fieldLink own k "java/lang/String" "coder" "B")
    | _ => true
  | 1 => match (pool k).1 with
    | 0 => xfB own k (pool k) h0
    | _ => true
  | 2 => match (pool k).1 with
    | 5 => xcB own k (pool k) h0 h1 h2
    | _ => true
  | 3 => match (pool k).1 with
    | 5 => Nat.blt (4 + (pool k).2.1) 64 && (xmem h0 (.classLink own k (xcn (pool k).2.1)) && L.2.1.elem (pool k).2.1)
    | 6 => Nat.ble 64 (pool k).2.1 && (xmem h0 (.classLink own k (FieldType.array (xty1 ((pool k).2.1 - 64))).toString) && L.2.2.1.elem ((pool k).2.1 - 64))
    | _ => true
  | 4 => match (pool k).1 with
    | 22 => xmem h0 (.classLink own k ("[" ++ (FieldType.array (xty1 (pool k).2.1)).toString)) && L.2.2.1.elem (pool k).2.1
    | _ => true
  | 5 => match (pool k).1 with
    | 8 => xmem h0 (.constant own k (Int32.ofNat (pool k).2.1))
    | 9 => xmem h0 (.constantLong own k (Int64.ofNat (pool k).2.1))
    | 7 => L.2.2.2.1.elem (own, (k, (pool k).2.1))
    | _ => true
  | 6 => match (pool k).1 with
    | 8 => xmem h0 (.constant own k (Int32.ofNat (pool k).2.1))
    | 9 => xmem h0 (.constantLong own k (Int64.ofNat (pool k).2.1))
    | 7 => L.2.2.2.1.elem (own, (k, (pool k).2.1))
    | _ => true
  | 7 => match (pool k).1 with
    | 8 => xmem h0 (.constant own k (Int32.ofNat (pool k).2.1))
    | 9 => xmem h0 (.constantLong own k (Int64.ofNat (pool k).2.1))
    | 7 => L.2.2.2.1.elem (own, (k, (pool k).2.1))
    | _ => true
  | 8 => match (pool k).1 with
    | 10 => match L.2.2.2.2.1.find? (fun t => Nat.beq t.2.2.2 (pool k).2.1) with
      | some t => xmem h0 (.fieldLink own k t.1 t.2.1 t.2.2.1)
      | none => false
    | 26 => xmem h0 (.fieldLink own k "java/lang/String" "COMPACT_STRINGS" "Z")
    | 27 => xmem h0 (.fieldLink own k "jdk/internal/util/Preconditions" "SIOOBE_FORMATTER" "Ljava/util/function/BiFunction;")
    | _ => true
  | 9 => match (pool k).1 with
    | 1 => L.1.elem ((pool k).2.1, (pool k).2.2.1) && (decide ((mt (pool k).2.1).2.2.2.2 = none) && (xmem h2 (.methodLink own k (mt (pool k).2.1).1) && (xmem h3 (.instanceMethod (mt (pool k).2.1).1) && (match vwCl[(pool k).2.2.2]? with
      | some q => xmem h4 (.selects q.1 (mt (pool k).2.1).1 (mt (pool k).2.1).1)
      | none => false))))
    | 28 => L.1.elem ((pool k).2.1, (pool k).2.2.1) && (decide ((mt (pool k).2.1).2.2.2.2 = none) && (xmem h2 (.methodLink own k (mt (pool k).2.1).1) && (xmem h3 (.instanceMethod (mt (pool k).2.1).1) && xmem h4 (.selects "java/lang/String" (mt (pool k).2.1).1 (mt (pool k).2.1).1))))
    | _ => true
  | 10 => match (pool k).1 with
    | 2 => L.1.elem ((pool k).2.1, (pool k).2.2.1) && (xmem h2 (.methodLink own k (mt (pool k).2.1).1) && xmem h3 (.static (mt (pool k).2.1).1))
    | 12 => xmem h0 (.methodLink own k arraycopyName) && (xmem h1 (.native arraycopyName) && (xmem h2 (.static arraycopyName) && xmem h3 (.initialized "java/lang/System")))
    | 13 => false
    | 14 => false
    | 15 => false
    | _ => true
  | 11 => match (pool k).1 with
    | 3 => L.1.elem ((pool k).2.1, (pool k).2.2.1) && (decide ((mt (pool k).2.1).2.2.2.2 = none ∧ (mt (pool k).2.1).2.2.2.1 = none ∧ (mt (pool k).2.1).1.name = "<init>") && ((xmem h2 (.methodLink own k (mt (pool k).2.1).1) || L.2.2.2.2.2.any (fun t => decide (t.1 = own) && (Nat.beq t.2.1 k && Nat.beq t.2.2.1 (pool k).2.1))) && xmem h3 (.instanceMethod (mt (pool k).2.1).1)))
    | 4 => xmem h0 (.methodLink own k Lib.objectInit) && (xmem h1 (.instanceMethod Lib.objectInit) && xmem h2 (.code Lib.objectInit { data := #[177] } 1 none))
    | _ => true
  | _ => false
set_option maxHeartbeats 1000000 in
theorem xuB_ok {S : State} {ad : Nat → Nat} {mt : Nat → xY} {L : xSL} {own : String} {pool : Nat → xP} {u k h0 h1 h2 h3 h4 : Nat} (Z : xSf S ad mt L) (h : xuB mt L own pool u k h0 h1 h2 h3 h4 = true) : xIu S ad mt own pool u k := by
  obtain ⟨z0, z1, z2, z3, z4, z5, z6, z7⟩ := Z
  have pk : ∀ {t : Nat}, (pool k).1 = t → (match t with
    | 8 => xmem h0 (.constant own k (Int32.ofNat (pool k).2.1))
    | 9 => xmem h0 (.constantLong own k (Int64.ofNat (pool k).2.1))
    | 7 => L.2.2.2.1.elem (own, (k, (pool k).2.1))
    | _ => true) = true → xPk S ad own k (pool k) := by
    intro t ht h
    refine ⟨fun e => ?_, fun e => ?_, fun e => ?_⟩ <;> rw [← ht, e] at h
    · exact xmem_ok h
    · exact xmem_ok h
    · exact z3 _ (List.elem_iff.mp h)
  match u, h with
  | 0, h =>
    refine ⟨fun e => ?_, fun e => ?_, fun e => ?_⟩ <;> (unfold xuB at h; rw [e] at h)
    · exact xgB_ok h
    · exact xmem_ok h
    · exact xmem_ok h
  | 1, h =>
    intro e
    unfold xuB at h
    rw [e] at h
    exact xfB_ok h
  | 2, h =>
    intro e
    unfold xuB at h
    rw [e] at h
    exact xcB_ok h
  | 3, h =>
    refine ⟨fun e => ?_, fun e => ?_⟩ <;> (unfold xuB at h; rw [e] at h)
    · obtain ⟨a, h⟩ := and_true' h
      obtain ⟨b, c⟩ := and_true' h
      exact ⟨Nat.le_of_ble_eq_true a, xmem_ok b, z1 _ (List.elem_iff.mp c)⟩
    · obtain ⟨a, h⟩ := and_true' h
      obtain ⟨b, c⟩ := and_true' h
      exact ⟨Nat.le_of_ble_eq_true a, xmem_ok b, z2 _ (List.elem_iff.mp c)⟩
  | 4, h =>
    intro e
    unfold xuB at h
    rw [e] at h
    obtain ⟨b, c⟩ := and_true' h
    exact ⟨xmem_ok b, z2 _ (List.elem_iff.mp c)⟩
  | 5, h => exact pk rfl h
  | 6, h => exact pk rfl h
  | 7, h => exact pk rfl h
  | 8, h =>
    refine ⟨fun e => ?_, fun e => ?_, fun e => ?_⟩ <;> (unfold xuB at h; rw [e] at h)
    · have h : (match L.2.2.2.2.1.find? (fun t => Nat.beq t.2.2.2 (pool k).2.1) with
        | some t => xmem h0 (.fieldLink own k t.1 t.2.1 t.2.2.1)
        | none => false) = true := h
      split at h
      · next t ht =>
        have h1 := List.mem_of_find?_eq_some ht
        have h2' : Nat.beq t.2.2.2 (pool k).2.1 = true := List.find?_some (p := fun (t : String × (String × (String × Nat))) => Nat.beq t.2.2.2 (pool k).2.1) ht
        have h2 := Nat.eq_of_beq_eq_true h2'
        exact ⟨t.1, t.2.1, t.2.2.1, xmem_ok h, by rw [← h2]; exact z4 t h1⟩
      · cases h
    · exact ⟨_, _, _, xmem_ok h, z6⟩
    · exact ⟨_, _, _, xmem_ok h, z7⟩
  | 9, h =>
    intro hor
    rcases hor with e | e <;> (unfold xuB at h; rw [e] at h)
    · obtain ⟨a, h⟩ := and_true' h
      obtain ⟨b, h⟩ := and_true' h
      obtain ⟨c, h⟩ := and_true' h
      obtain ⟨d, h⟩ := and_true' h
      refine ⟨z0 _ (List.elem_iff.mp a), of_decide_eq_true b, xmem_ok c, xmem_ok d, fun _ => ?_, fun e2 => by rw [e] at e2; cases e2⟩
      split at h
      · next q hq => exact ⟨q.1, q.2.1, q.2.2, hq, xmem_ok h⟩
      · cases h
    · obtain ⟨a, h⟩ := and_true' h
      obtain ⟨b, h⟩ := and_true' h
      obtain ⟨c, h⟩ := and_true' h
      obtain ⟨d, h⟩ := and_true' h
      exact ⟨z0 _ (List.elem_iff.mp a), of_decide_eq_true b, xmem_ok c, xmem_ok d, fun e2 => (by rw [e] at e2; cases e2), fun _ => xmem_ok h⟩
  | 10, h =>
    refine ⟨fun e => ?_, fun e => ?_, fun e => ?_, fun e => ?_, fun e => ?_⟩ <;> (unfold xuB at h; rw [e] at h)
    · obtain ⟨a, h⟩ := and_true' h
      obtain ⟨b, c⟩ := and_true' h
      exact ⟨z0 _ (List.elem_iff.mp a), xmem_ok b, xmem_ok c⟩
    · obtain ⟨a, h⟩ := and_true' h
      obtain ⟨b, h⟩ := and_true' h
      obtain ⟨c, d⟩ := and_true' h
      exact ⟨xmem_ok a, xmem_ok b, xmem_ok c, xmem_ok d⟩
    · cases h
    · cases h
    · cases h
  | 11, h =>
    refine ⟨fun e => ?_, fun e => ?_⟩ <;> (unfold xuB at h; rw [e] at h)
    · obtain ⟨a, h⟩ := and_true' h
      obtain ⟨b, h⟩ := and_true' h
      obtain ⟨c, d⟩ := and_true' h
      obtain ⟨b1, b2, b3⟩ := of_decide_eq_true b
      refine ⟨z0 _ (List.elem_iff.mp a), b1, b2, b3, ?_, xmem_ok d⟩
      cases hm : xmem h2 (.methodLink own k (mt (pool k).2.1).1) with
      | true => exact Or.inl (xmem_ok hm)
      | false =>
        rw [hm, Bool.false_or] at c
        obtain ⟨t, t1, t2⟩ := List.any_eq_true.mp c
        obtain ⟨t3, t4⟩ := and_true' t2
        obtain ⟨t4, t5⟩ := and_true' t4
        refine Or.inr ⟨t.2.2.2, ?_⟩
        have := z5 t t1
        rw [of_decide_eq_true t3, Nat.eq_of_beq_eq_true t4, Nat.eq_of_beq_eq_true t5] at this
        exact this
    · obtain ⟨a, h⟩ := and_true' h
      obtain ⟨b, c⟩ := and_true' h
      exact ⟨xmem_ok a, xmem_ok b, xmem_ok c⟩
  | _ + 12, h => cases h
