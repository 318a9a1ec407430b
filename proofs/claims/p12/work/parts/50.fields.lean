/-! ===== the checker's steps, sound: fields ===== -/
/-- how many roles; between what a role's own number is; roles that are made here -/
abbrev zB : Type := Nat × (Lean.RArray (Int × Int) × Nat)
def zBok (G : zW) (o : Nat) (B : zB) : Prop := (∀ k, k < G.2.2.1 → zro G k < B.1 ∧ (xget B.2.1 (zro G k)).1 ≤ ((zat G k : Nat) : Int) ∧ ((zat G k : Nat) : Int) ≤ (xget B.2.1 (zro G k)).2 ∧ (Nat.testBit B.2.2 (zro G k) = true → o ≤ k)) ∧ zJd G
/-- all roles of a set -/
noncomputable def zallr (mask : Nat) (f : Nat → Bool) : Nat → Bool := fun n => Nat.rec true (fun n ih => ih && (!(Nat.testBit mask n) || f n)) n
theorem zallr_ok {mask : Nat} {f : Nat → Bool} : ∀ {n : Nat}, zallr mask f n = true → ∀ r, r < n → Nat.testBit mask r = true → f r = true := by
  intro n
  induction n with
  | zero => intro _ r hr; exact absurd hr (Nat.not_lt_zero r)
  | succ n ih =>
    intro h r hr hm
    obtain ⟨h1, h2⟩ := and_true' (show (zallr mask f n && (!(Nat.testBit mask n) || f n)) = true from h)
    by_cases e : r = n
    · subst e
      rw [hm, Bool.not_true, Bool.false_or] at h2
      exact h2
    · exact ih h1 r (by omega) hm
noncomputable def zran (RA : Lean.RArray (Int × Int)) (mask : Nat) : Nat → Int × Int := fun n => Nat.rec (2147483647, 0) (fun n ih => cond (Nat.testBit mask n) (cond (decide ((xget RA n).1 < ih.1)) (xget RA n).1 ih.1, cond (decide (ih.2 < (xget RA n).2)) (xget RA n).2 ih.2) ih) n
theorem zran_ok {RA : Lean.RArray (Int × Int)} {mask : Nat} : ∀ {n : Nat} r, r < n → Nat.testBit mask r = true → (zran RA mask n).1 ≤ (xget RA r).1 ∧ (xget RA r).2 ≤ (zran RA mask n).2 := by
  intro n
  induction n with
  | zero => intro r hr; exact absurd hr (Nat.not_lt_zero r)
  | succ n ih =>
    intro r hr hm
    have e : zran RA mask (n + 1) = cond (Nat.testBit mask n) (cond (decide ((xget RA n).1 < (zran RA mask n).1)) (xget RA n).1 (zran RA mask n).1, cond (decide ((zran RA mask n).2 < (xget RA n).2)) (xget RA n).2 (zran RA mask n).2) (zran RA mask n) := rfl
    rw [e]
    by_cases e2 : r = n
    · subst e2
      rw [hm, cond_true]
      constructor
      · show cond _ _ _ ≤ _
        by_cases h : (xget RA r).1 < (zran RA mask r).1
        · rw [decide_eq_true h, cond_true]; omega
        · rw [decide_eq_false h, cond_false]; omega
      · show _ ≤ cond _ _ _
        by_cases h : (zran RA mask r).2 < (xget RA r).2
        · rw [decide_eq_true h, cond_true]; omega
        · rw [decide_eq_false h, cond_false]; omega
    · obtain ⟨h1, h2⟩ := ih r (by omega) hm
      cases Nat.testBit mask n with
      | false => rw [cond_false]; exact ⟨h1, h2⟩
      | true =>
        rw [cond_true]
        constructor
        · show cond _ _ _ ≤ _
          by_cases h : (xget RA n).1 < (zran RA mask n).1
          · rw [decide_eq_true h, cond_true]; omega
          · rw [decide_eq_false h, cond_false]; exact h1
        · show _ ≤ cond _ _ _
          by_cases h : (zran RA mask n).2 < (xget RA n).2
          · rw [decide_eq_true h, cond_true]; omega
          · rw [decide_eq_false h, cond_false]; exact h2
/-- a type within another one -/
def zsubT (t' t : zT) : Bool := match t'.1, t.1 with
  | 0, 0 => decide (t.2.1 ≤ t'.2.1) && decide (t'.2.2 ≤ t.2.2)
  | 1, 1 => decide (t.2.1 ≤ t'.2.1) && decide (t'.2.2 ≤ t.2.2)
  | 2, 2 => Nat.beq (Nat.land t'.2.1.toNat t.2.1.toNat) t'.2.1.toNat && (!(decide (t.2.2 = 1)) || decide (t'.2.2 = 1))
  | 3, 3 => true
  | _, _ => false
theorem zland {a b r : Nat} (h : Nat.beq (Nat.land a b) a = true) (hr : Nat.testBit a r = true) : Nat.testBit b r = true := by
  have e : a &&& b = a := Nat.eq_of_beq_eq_true h
  rw [← e, Nat.testBit_and, Bool.and_eq_true] at hr
  exact hr.2
theorem zsubT_ok {G : zW} {t' t : zT} {a : Nat} {v : xA} (h : zsubT t' t = true) (hv : ztok G t' a v) : ztok G t a v := by
  obtain ⟨n', lo', hi'⟩ := t'
  obtain ⟨n, lo, hi⟩ := t
  unfold zsubT at h
  split at h
  · next e1 e2 =>
    have e1 : n' = 0 := e1
    have e2 : n = 0 := e2
    subst e1; subst e2
    obtain ⟨h1, h2⟩ := and_true' h
    have h1 : lo ≤ lo' := of_decide_eq_true h1
    have h2 : hi' ≤ hi := of_decide_eq_true h2
    obtain ⟨z, a1, a2, a3, a4⟩ := hv
    have a2 : lo' ≤ z := a2
    have a3 : z ≤ hi' := a3
    exact ⟨z, a1, Int.le_trans h1 a2, Int.le_trans a3 h2, a4⟩
  · next e1 e2 =>
    have e1 : n' = 1 := e1
    have e2 : n = 1 := e2
    subst e1; subst e2
    obtain ⟨h1, h2⟩ := and_true' h
    have h1 : lo ≤ lo' := of_decide_eq_true h1
    have h2 : hi' ≤ hi := of_decide_eq_true h2
    obtain ⟨z, a1, a2, a3, a4⟩ := hv
    have a2 : lo' ≤ z := a2
    have a3 : z ≤ hi' := a3
    exact ⟨z, a1, Int.le_trans h1 a2, Int.le_trans a3 h2, a4⟩
  · next e1 e2 =>
    have e1 : n' = 2 := e1
    have e2 : n = 2 := e2
    subst e1; subst e2
    obtain ⟨h1, h2⟩ := and_true' h
    obtain ⟨k, a1, a2, a3, a4⟩ := hv
    refine ⟨k, a1, a2, zland h1 a3, fun e => a4 ?_⟩
    have e : hi = 1 := e
    have h2 : (!(decide (hi = 1)) || decide (hi' = 1)) = true := h2
    rw [decide_eq_true e, Bool.not_true, Bool.false_or] at h2
    exact of_decide_eq_true h2
  · next e1 e2 =>
    have e1 : n' = 3 := e1
    have e2 : n = 3 := e2
    subst e1; subst e2
    exact hv
  · cases h
noncomputable def zinf (X : zQ) (x : Nat) : Option (Nat × (Nat × zE)) := X.2.2.1.find? fun q => Nat.beq q.1 x
noncomputable def zch (X : zQ) (x j : Nat) : Option ((Nat × Nat) × zV) := X.2.2.2.find? fun q => Nat.beq q.1.1 x && Nat.beq q.1.2 j
/-- a value of a type, read from a cell with an own number -/
noncomputable def zbyT (B : zB) (K : zKv) (X : zQ) (t : zT) (a : zE) (os : List zO) : Option (List zO) := match t.1 with
  | 0 => cond (decide (t.2.1 = t.2.2) && (decide (-2147483648 ≤ t.2.1) && decide (t.2.1 ≤ 2147483647))) (K X (.inl (zK t.2.1)) os) (K (X.1 + 1, ((zbtw X.1 t.2.1 t.2.2 ++ []) ++ X.2.1, X.2.2)) (.inl (zX X.1)) os)
  | 1 => K (X.1 + 1, ((zbtw X.1 t.2.1 t.2.2 ++ []) ++ X.2.1, X.2.2)) (.inr (.inl (zX X.1))) os
  | 3 => K (X.1 + 1, ((zbtw X.1 0 2147483647 ++ [zfLe (zX X.1) a]) ++ X.2.1, X.2.2)) (.inl (zX X.1)) os
  | 2 => cond (decide (t.2.2 = 1)) (K (X.1 + 1, (X.2.1, ((X.1, (t.2.1.toNat, a)) :: X.2.2.1, X.2.2.2))) (.inr (.inr X.1)) os)
      (K (X.1 + 1 + 1, (zbtw (X.1 + 1) (zran B.2.1 t.2.1.toNat B.1).1 (zran B.2.1 t.2.1.toNat B.1).2 ++ X.2.1, ((X.1, (t.2.1.toNat, zX (X.1 + 1))) :: X.2.2.1, X.2.2.2))) (.inr (.inr X.1)) os)
  | _ => none
section ZFields
variable {G : zW} {W : zWr} {hp0 : xH} {ν0 : Nat → Int} {g : List zE} {r os : List zO} {ν : Nat → Int} {X : zQ} {hp : xH} {o : Nat} {B : zB}
theorem zRel.info (h : zRel G W hp0 ν0 g ν X hp) {x : Nat} {q : Nat × (Nat × zE)} (hq : zinf X x = some q) : x < X.1 ∧ zlt X.1 q.2.2 ∧ ∃ k : Nat, ν x = (k : Int) ∧ k < G.2.2.1 ∧ Nat.testBit q.2.1 (zro G k) = true ∧ ((zat G k : Nat) : Int) = zv ν q.2.2 := by
  have h1 := List.mem_of_find?_eq_some hq
  have h2' : Nat.beq q.1 x = true := List.find?_some (p := fun (q : Nat × (Nat × zE)) => Nat.beq q.1 x) hq
  have h2 := Nat.eq_of_beq_eq_true h2'
  obtain ⟨a, b, c⟩ := h.2.1 q h1
  rw [h2] at a c
  exact ⟨a, b, c⟩
theorem zRel.refs (h : zRel G W hp0 ν0 g ν X hp) {x m : Nat} {a : zE} {k : Nat} (hx : x < X.1) (ha : zlt X.1 a) (h1 : ν x = (k : Int)) (h2 : k < G.2.2.1) (h3 : Nat.testBit m (zro G k) = true) (h4 : ((zat G k : Nat) : Int) = zv ν a) : zRel G W hp0 ν0 g ν (X.1, (X.2.1, ((x, (m, a)) :: X.2.2.1, X.2.2.2))) hp := by
  obtain ⟨b1, b2, b3⟩ := h
  refine ⟨b1, fun q hq => ?_, b3⟩
  rcases List.mem_cons.mp hq with rfl | hq
  · exact ⟨hx, ha, k, h1, h2, h3, h4⟩
  · exact b2 q hq
theorem zRel.known (h : zRel G W hp0 ν0 g ν X hp) {x j : Nat} {v : zV} {k : Nat} (hx : x < X.1) (hj : j < 256) (h1 : ν x = (k : Int)) (h0 : ziO G k) (h2 : zR X.1 ν v (zsl hp k j)) : zRel G W hp0 ν0 g ν (X.1, (X.2.1, (X.2.2.1, ((x, j), v) :: X.2.2.2))) hp := by
  obtain ⟨b1, b2, b3, b4⟩ := h
  refine ⟨b1, b2, fun q hq => ?_, b4⟩
  rcases List.mem_cons.mp hq with rfl | hq
  · exact ⟨hx, hj, k, h1, h0, h2⟩
  · exact b3 q hq
theorem zbyT_ok {K : zKv} (HB : zBok G o B) (h : zRel G W hp0 ν0 g ν X hp) {t : zT} {a : zE} {k : Nat} (ha : zlt X.1 a) (hk4 : ((zat G k : Nat) : Int) = zv ν a) {u : xA} (hu : ztok G t (zat G k) u) (hk : zbyT B K X t a os = some r) : zRes G W hp0 ν0 g K r ν X hp u := by
  obtain ⟨n, lo, hi⟩ := t
  unfold zbyT at hk
  match n, hu, hk with
  | 0, hu, hk =>
    obtain ⟨z, a1, a2, a3, rfl⟩ := hu
    have a2 : lo ≤ z := a2
    have a3 : z ≤ hi := a3
    have hk : cond (decide (lo = hi) && (decide (-2147483648 ≤ lo) && decide (lo ≤ 2147483647))) (K X (.inl (zK lo)) os) (K (X.1 + 1, ((zbtw X.1 lo hi ++ []) ++ X.2.1, X.2.2)) (.inl (zX X.1)) os) = some r := hk
    cases hb : (decide (lo = hi) && (decide (-2147483648 ≤ lo) && decide (lo ≤ 2147483647))) with
    | true =>
      rw [hb, cond_true] at hk
      have e := of_decide_eq_true (and_true' hb).1
      have e2 : z = lo := by omega
      subst e2
      exact zres_old h (v := .inl (zK z)) ⟨zlt_K _ _, by rw [zK_ok]; exact a1, by rw [zK_ok]⟩ hk
    | false =>
      rw [hb, cond_false] at hk
      exact zres_new32 h a1 a2 a3 [] (fun f hf => by cases hf) hk
  | 1, hu, hk =>
    obtain ⟨z, a1, a2, a3, rfl⟩ := hu
    exact zres_new64 h a1 a2 a3 [] (fun f hf => by cases hf) hk
  | 3, hu, hk =>
    obtain ⟨z, a1, a2, a3, rfl⟩ := hu
    refine zres_new32 h a1 a2 (by have := a1.2; omega) _ (zall1 ?_) hk
    refine ⟨zmad_lt (zlt_X (Nat.lt_succ_self _)) (ha.mono (Nat.le_succ _)), ?_⟩
    have hx : zv (zup ν X.1 z) (zX X.1) = z := (zX_ok _ _).trans zup_new
    unfold zfLe
    rw [zmad_ok, hx, ← zv_same zup_old ha]
    omega
  | 2, hu, hk =>
    obtain ⟨k', rfl, a2, a3, a4⟩ := hu
    have hk : cond (decide (hi = 1)) (K (X.1 + 1, (X.2.1, ((X.1, (lo.toNat, a)) :: X.2.2.1, X.2.2.2))) (.inr (.inr X.1)) os)
      (K (X.1 + 1 + 1, (zbtw (X.1 + 1) (zran B.2.1 lo.toNat B.1).1 (zran B.2.1 lo.toNat B.1).2 ++ X.2.1, ((X.1, (lo.toNat, zX (X.1 + 1))) :: X.2.2.1, X.2.2.2))) (.inr (.inr X.1)) os) = some r := hk
    have f1 := h.fresh (k' : Int) [] (fun f hf => by cases hf)
    have hn : zup ν X.1 (k' : Int) X.1 = (k' : Int) := zup_new
    cases hb : decide (hi = 1) with
    | true =>
      rw [hb, cond_true] at hk
      have e : zat G k' = zat G k := a4 (of_decide_eq_true hb)
      refine ⟨zup ν X.1 (k' : Int), _, _, _, hk, f1.refs (k := k') (Nat.lt_succ_self _) (ha.mono (Nat.le_succ _)) hn a2 a3 ?_, Nat.le_succ _, zup_old, Nat.lt_succ_self _, k', hn, rfl⟩
      rw [← zv_same zup_old ha, e]
      exact hk4
    | false =>
      rw [hb, cond_false] at hk
      obtain ⟨b1, b2, b3, -⟩ := HB.1 k' a2
      obtain ⟨r1, r2⟩ := zran_ok (RA := B.2.1) (mask := lo.toNat) _ b1 a3
      have f2 := f1.fresh ((zat G k' : Nat) : Int) (zbtw (X.1 + 1) (zran B.2.1 lo.toNat B.1).1 (zran B.2.1 lo.toNat B.1).2) (zbtw_ok (Int.le_trans r1 b2) (Int.le_trans b3 r2))
      have hn2 : zup (zup ν X.1 (k' : Int)) (X.1 + 1) ((zat G k' : Nat) : Int) X.1 = (k' : Int) := by
        rw [← zup_old X.1 (Nat.lt_succ_self _)]
        exact hn
      refine ⟨_, _, _, _, hk, f2.refs (k := k') (Nat.lt_succ_of_lt (Nat.lt_succ_self _)) (zlt_X (Nat.lt_succ_self _)) hn2 a2 a3 ?_, Nat.le_succ_of_le (Nat.le_succ _), fun x hx => ?_, Nat.lt_succ_of_lt (Nat.lt_succ_self _), k', hn2, rfl⟩
      · rw [zX_ok]
        exact zup_new.symm
      · rw [← zup_old x (Nat.lt_succ_of_lt hx), ← zup_old x hx]
  | _ + 4, hu, hk => cases hk
end ZFields
