/-! ===== the steps: stack, branches, arrays, fields ===== -/
section Steps3
variable {p : Program} {l : Launch} {e : Env} {R : Room} {s : State} {m : MethodId} {args : Array Value} {below : List Frame} {meth : Method} {c : Code} {cc : ByteArray} {nL : Nat} {own : String} {S : State} {o : Nat} {old : Nat → Nat} {D : va_G} {c0 s0 : Nat} {Q : State → Prop}
variable {pc nx : Nat} {K : xK} {out : xE} {loc : List (Nat × xA)} {stk : List xA} {hp : xH} {ft : Nat → List Nat} {call : xF} {pool : Nat → xP} {hs : List (Nat × (Nat × (Nat × Nat)))}

theorem xtgt_ok {off : Int} {t : Nat} (h : xtgt pc off = some t) : (pc : Int) + off = (t : Int) := by
  unfold xtgt at h
  split at h
  next q hq => cases h; exact hq
  next => cases h
theorem xi_dup (F : xFx p s m args meth c cc nL own S) {len : Nat}  (hd : decode cc pc = .ok (.dup, len)) (hl0 : len = xlen (.dup) len) (hx0 : nx = pc + len) (hst : xsto nL (.dup) = true) (hK : xHyp p l e R s m args below meth c nL S o old D c0 s0 Q K out) (h : xstep o ft call pool hs K (.dup) pc nx loc stk hp = some out) : xG p l e R s m args below meth c nL S o old D c0 s0 Q pc loc stk hp := by
  subst hx0
  have hl1 : len = 1 := hl0
  subst hl1
  intro H locs cells slots ls lv st hlv hl hs1 hh hlo hc hsl
  match stk, hs1, h with
  | [], _, h => cases h
  | a :: rest, hs1, h =>
    obtain ⟨h1, h⟩ := cond_some (show cond _ (K (pc + 1) loc (a :: a :: rest) hp) none = some out from h)
    obtain ⟨va, st2, rfl, ra, hs2⟩ := xs2_cons hs1
    exact lv_dup F.1 F.2.1 hd ((xR_cat ra).trans (Nat.eq_of_beq_eq_true h1)) (hK _ _ _ _ h H locs cells slots ls lv _ hlv hl ⟨ra, ra, hs2⟩ hh hlo hc hsl)
theorem xi_dup_x1 (F : xFx p s m args meth c cc nL own S) {len : Nat}  (hd : decode cc pc = .ok (.dup_x1, len)) (hl0 : len = xlen (.dup_x1) len) (hx0 : nx = pc + len) (hst : xsto nL (.dup_x1) = true) (hK : xHyp p l e R s m args below meth c nL S o old D c0 s0 Q K out) (h : xstep o ft call pool hs K (.dup_x1) pc nx loc stk hp = some out) : xG p l e R s m args below meth c nL S o old D c0 s0 Q pc loc stk hp := by
  subst hx0
  have hl1 : len = 1 := hl0
  subst hl1
  intro H locs cells slots ls lv st hlv hl hs1 hh hlo hc hsl
  match stk, hs1, h with
  | [], _, h => cases h
  | [_], _, h => cases h
  | a :: b :: rest, hs1, h =>
    obtain ⟨h1, h⟩ := cond_some (show cond _ (K (pc + 1) loc (a :: b :: a :: rest) hp) none = some out from h)
    obtain ⟨h2, h3⟩ := and_true' h1
    obtain ⟨va, st2, rfl, ra, hs2⟩ := xs2_cons hs1
    obtain ⟨vb, st3, rfl, rb, hs3⟩ := xs2_cons hs2
    exact lv_dup_x1 F.1 F.2.1 hd ((xR_cat ra).trans (Nat.eq_of_beq_eq_true h2)) ((xR_cat rb).trans (Nat.eq_of_beq_eq_true h3)) (hK _ _ _ _ h H locs cells slots ls lv _ hlv hl ⟨ra, rb, ra, hs3⟩ hh hlo hc hsl)
theorem xi_dup2 (F : xFx p s m args meth c cc nL own S) {len : Nat}  (hd : decode cc pc = .ok (.dup2, len)) (hl0 : len = xlen (.dup2) len) (hx0 : nx = pc + len) (hst : xsto nL (.dup2) = true) (hK : xHyp p l e R s m args below meth c nL S o old D c0 s0 Q K out) (h : xstep o ft call pool hs K (.dup2) pc nx loc stk hp = some out) : xG p l e R s m args below meth c nL S o old D c0 s0 Q pc loc stk hp := by
  subst hx0
  have hl1 : len = 1 := hl0
  subst hl1
  intro H locs cells slots ls lv st hlv hl hs1 hh hlo hc hsl
  match stk, hs1, h with
  | [], _, h => cases h
  | [_], _, h => cases h
  | a :: b :: rest, hs1, h =>
    obtain ⟨h1, h⟩ := cond_some (show cond _ (K (pc + 1) loc (a :: b :: a :: b :: rest) hp) none = some out from h)
    obtain ⟨h2, h3⟩ := and_true' h1
    obtain ⟨va, st2, rfl, ra, hs2⟩ := xs2_cons hs1
    obtain ⟨vb, st3, rfl, rb, hs3⟩ := xs2_cons hs2
    exact lv_dup2_11 F.1 F.2.1 hd ((xR_cat ra).trans (Nat.eq_of_beq_eq_true h2)) ((xR_cat rb).trans (Nat.eq_of_beq_eq_true h3)) (hK _ _ _ _ h H locs cells slots ls lv _ hlv hl ⟨ra, rb, ra, rb, hs3⟩ hh hlo hc hsl)
theorem xi_pop (F : xFx p s m args meth c cc nL own S) {len : Nat}  (hd : decode cc pc = .ok (.pop, len)) (hl0 : len = xlen (.pop) len) (hx0 : nx = pc + len) (hst : xsto nL (.pop) = true) (hK : xHyp p l e R s m args below meth c nL S o old D c0 s0 Q K out) (h : xstep o ft call pool hs K (.pop) pc nx loc stk hp = some out) : xG p l e R s m args below meth c nL S o old D c0 s0 Q pc loc stk hp := by
  subst hx0
  have hl1 : len = 1 := hl0
  subst hl1
  intro H locs cells slots ls lv st hlv hl hs1 hh hlo hc hsl
  match stk, hs1, h with
  | [], _, h => cases h
  | a :: rest, hs1, h =>
    obtain ⟨h1, h⟩ := cond_some (show cond _ (K (pc + 1) loc rest hp) none = some out from h)
    obtain ⟨va, st2, rfl, ra, hs2⟩ := xs2_cons hs1
    exact lv_pop F.1 F.2.1 hd ((xR_cat ra).trans (Nat.eq_of_beq_eq_true h1)) (hK _ _ _ _ h H locs cells slots ls lv _ hlv hl hs2 hh hlo hc hsl)
theorem xi_pop2 (F : xFx p s m args meth c cc nL own S) {len : Nat}  (hd : decode cc pc = .ok (.pop2, len)) (hl0 : len = xlen (.pop2) len) (hx0 : nx = pc + len) (hst : xsto nL (.pop2) = true) (hK : xHyp p l e R s m args below meth c nL S o old D c0 s0 Q K out) (h : xstep o ft call pool hs K (.pop2) pc nx loc stk hp = some out) : xG p l e R s m args below meth c nL S o old D c0 s0 Q pc loc stk hp := by
  subst hx0
  have hl1 : len = 1 := hl0
  subst hl1
  intro H locs cells slots ls lv st hlv hl hs1 hh hlo hc hsl
  match stk, hs1, h with
  | [], _, h => cases h
  | a :: rest, hs1, h =>
    obtain ⟨h1, h⟩ := cond_some (show cond _ (K (pc + 1) loc rest hp) none = some out from h)
    obtain ⟨va, st2, rfl, ra, hs2⟩ := xs2_cons hs1
    exact lv_pop2_2 F.1 F.2.1 hd ((xR_cat ra).trans (Nat.eq_of_beq_eq_true h1)) (hK _ _ _ _ h H locs cells slots ls lv _ hlv hl hs2 hh hlo hc hsl)
theorem xi_goto (F : xFx p s m args meth c cc nL own S) {len : Nat} {off : Int} (hd : decode cc pc = .ok (.goto off, len)) (hl0 : len = xlen (.goto off) len) (hx0 : nx = pc + len) (hst : xsto nL (.goto off) = true) (hK : xHyp p l e R s m args below meth c nL S o old D c0 s0 Q K out) (h : xstep o ft call pool hs K (.goto off) pc nx loc stk hp = some out) : xG p l e R s m args below meth c nL S o old D c0 s0 Q pc loc stk hp := by
  subst hx0
  have hl1 : len = 3 := hl0
  subst hl1
  intro H locs cells slots ls lv st hlv hl hs1 hh hlo hc hsl
  obtain ⟨t, ht, h⟩ := xj_some (show xj (xtgt pc off) _ = some out from h)
  exact lv_goto F.1 F.2.1 hd (xtgt_ok ht) (hK _ _ _ _ h H locs cells slots ls lv _ hlv hl hs1 hh hlo hc hsl)
theorem xif_ok (F : xFx p s m args meth c cc nL own S) {off : Int} {rest : List xA} {b : Option Bool} {P : Prop} (hb : ∀ r, b = some r → (r = true ↔ P)) (hK : xHyp p l e R s m args below meth c nL S o old D c0 s0 Q K out) (h : xif K pc nx off loc rest hp b = some out) :
    ∃ t : Nat, (pc : Int) + off = (t : Int) ∧ (P → xG p l e R s m args below meth c nL S o old D c0 s0 Q t loc rest hp) ∧ (¬ P → xG p l e R s m args below meth c nL S o old D c0 s0 Q nx loc rest hp) := by
  obtain ⟨t, ht, h⟩ := xj_some h
  refine ⟨t, xtgt_ok ht, fun hP => ?_, fun hP => ?_⟩
  · split at h
    · exact hK _ _ _ _ h
    · have := (hb false rfl).mpr hP
      cases this
    · cases h
  · split at h
    · exact absurd ((hb true rfl).mp rfl) hP
    · exact hK _ _ _ _ h
    · cases h
theorem xb0 : xb 0 = 2147483648 := by decide
theorem xcP_int {cd : ClassFile.Cond} {x y : Int32} : xcP cd (xb x) (xb y) ↔ (match cd with
    | .eq => x = y
    | .ne => ¬ x = y
    | .lt => x < y
    | .ge => y ≤ x
    | .gt => y < x
    | .le => x ≤ y) := by
  have e1 : xb x = xb y ↔ x = y := ⟨xb_inj, fun h => by rw [h]⟩
  cases cd
  · exact e1
  · exact not_congr e1
  · exact xb_lt.symm
  · show ¬ xb x < xb y ↔ y ≤ x
    rw [← xb_lt]; exact Int32.not_lt
  · exact xb_lt.symm
  · show ¬ xb y < xb x ↔ x ≤ y
    rw [← xb_lt]; exact Int32.not_lt
theorem xi_ifCond (F : xFx p s m args meth c cc nL own S) {len : Nat} {cd : ClassFile.Cond} {off : Int} (hd : decode cc pc = .ok (.ifCond cd off, len)) (hl0 : len = xlen (.ifCond cd off) len) (hx0 : nx = pc + len) (hst : xsto nL (.ifCond cd off) = true) (hK : xHyp p l e R s m args below meth c nL S o old D c0 s0 Q K out) (h : xstep o ft call pool hs K (.ifCond cd off) pc nx loc stk hp = some out) : xG p l e R s m args below meth c nL S o old D c0 s0 Q pc loc stk hp := by
  subst hx0
  have hl1 : len = 3 := hl0
  subst hl1
  intro H locs cells slots ls lv st hlv hl hs1 hh hlo hc hsl
  match stk, hs1, h with
  | [], _, h => cases h
  | a :: rest, hs1, h =>
    obtain ⟨q, hq, h⟩ := xj_some (show xj (xbd a) _ = some out from h)
    obtain ⟨va, st2, rfl, ra, hs2⟩ := xs2_cons hs1
    obtain ⟨x, rfl, hx⟩ := xR_bd ra hq
    obtain ⟨t, ht, kt, kf⟩ := xif_ok F (P := xcP cd (xb x) (xb 0)) (fun r hr => xcnd_ok hx (by rw [xb0]; exact ⟨Nat.le_refl _, Nat.le_refl _⟩) hr) hK h
    have kt2 : xcP cd (xb x) (xb 0) → W p l e R s m args below meth c H locs cells slots Q (F0 m t ls st2) := fun hP => kt hP H locs cells slots ls lv _ hlv hl hs2 hh hlo hc hsl
    have kf2 : ¬ xcP cd (xb x) (xb 0) → W p l e R s m args below meth c H locs cells slots Q (F0 m (pc + 3) ls st2) := fun hP => kf hP H locs cells slots ls lv _ hlv hl hs2 hh hlo hc hsl
    rw [xcP_int] at kt2 kf2
    cases cd
    · exact lv_if_eq F.1 F.2.1 hd ht kt2 kf2
    · exact lv_if_ne F.1 F.2.1 hd ht kt2 (fun z => kf2 (fun y => y z))
    · exact lv_if_lt F.1 F.2.1 hd ht kt2 kf2
    · exact lv_if_ge F.1 F.2.1 hd ht kt2 kf2
    · exact lv_if_gt F.1 F.2.1 hd ht kt2 kf2
    · exact lv_if_le F.1 F.2.1 hd ht kt2 kf2
theorem xi_if_icmp (F : xFx p s m args meth c cc nL own S) {len : Nat} {cd : ClassFile.Cond} {off : Int} (hd : decode cc pc = .ok (.if_icmp cd off, len)) (hl0 : len = xlen (.if_icmp cd off) len) (hx0 : nx = pc + len) (hst : xsto nL (.if_icmp cd off) = true) (hK : xHyp p l e R s m args below meth c nL S o old D c0 s0 Q K out) (h : xstep o ft call pool hs K (.if_icmp cd off) pc nx loc stk hp = some out) : xG p l e R s m args below meth c nL S o old D c0 s0 Q pc loc stk hp := by
  subst hx0
  have hl1 : len = 3 := hl0
  subst hl1
  intro H locs cells slots ls lv st hlv hl hs1 hh hlo hc hsl
  match stk, hs1, h with
  | [], _, h => cases h
  | [_], _, h => cases h
  | b :: a :: rest, hs1, h =>
    obtain ⟨q, hq, h⟩ := xj_some (show xj (xbd a) _ = some out from h)
    obtain ⟨q2, hq2, h⟩ := xj_some h
    obtain ⟨vb, st1, rfl, rb, hs2⟩ := xs2_cons hs1
    obtain ⟨va, st2, rfl, ra, hs3⟩ := xs2_cons hs2
    obtain ⟨x, rfl, hx⟩ := xR_bd ra hq
    obtain ⟨y, rfl, hy⟩ := xR_bd rb hq2
    obtain ⟨t, ht, kt, kf⟩ := xif_ok F (P := xcP cd (xb x) (xb y)) (fun r hr => xcnd_ok hx hy hr) hK h
    have kt2 : xcP cd (xb x) (xb y) → W p l e R s m args below meth c H locs cells slots Q (F0 m t ls st2) := fun hP => kt hP H locs cells slots ls lv _ hlv hl hs3 hh hlo hc hsl
    have kf2 : ¬ xcP cd (xb x) (xb y) → W p l e R s m args below meth c H locs cells slots Q (F0 m (pc + 3) ls st2) := fun hP => kf hP H locs cells slots ls lv _ hlv hl hs3 hh hlo hc hsl
    rw [xcP_int] at kt2 kf2
    cases cd
    · exact lv_icmp_eq F.1 F.2.1 hd ht kt2 kf2
    · exact lv_icmp_ne F.1 F.2.1 hd ht kt2 (fun z => kf2 (fun y => y z))
    · exact lv_icmp_lt F.1 F.2.1 hd ht kt2 kf2
    · exact lv_icmp_ge F.1 F.2.1 hd ht kt2 kf2
    · exact lv_icmp_gt F.1 F.2.1 hd ht kt2 kf2
    · exact lv_icmp_le F.1 F.2.1 hd ht kt2 kf2
theorem xi_tableswitch (F : xFx p s m args meth c cc nL own S) {len : Nat} {dflt lo hi : Int} {offs : Array Int} (hd : decode cc pc = .ok (.tableswitch dflt lo hi offs, len)) (hl0 : len = xlen (.tableswitch dflt lo hi offs) len) (hx0 : nx = pc + len) (hst : xsto nL (.tableswitch dflt lo hi offs) = true) (hK : xHyp p l e R s m args below meth c nL S o old D c0 s0 Q K out) (h : xstep o ft call pool hs K (.tableswitch dflt lo hi offs) pc nx loc stk hp = some out) : xG p l e R s m args below meth c nL S o old D c0 s0 Q pc loc stk hp := by
  subst hx0
  have hl1 : len = len := hl0
  intro H locs cells slots ls lv st hlv hl hs1 hh hlo hc hsl
  have h' : xtab K pc dflt lo hi offs loc stk hp = some out := h
  unfold xtab at h'
  split at h'
  next n rest =>
    obtain ⟨va, st2, rfl, ra, hs2⟩ := xs2_cons hs1
    cases ra
    cases hb : (decide ((Int32.ofNat n).toInt < lo) || decide (hi < (Int32.ofNat n).toInt)) with
    | true =>
      rw [hb] at h'
      obtain ⟨t, ht, h⟩ := xj_some h'
      rw [Bool.or_eq_true, decide_eq_true_eq, decide_eq_true_eq] at hb
      exact lv_tableOut F.1 F.2.1 hd hb (xtgt_ok ht) (hK _ _ _ _ h H locs cells slots ls lv _ hlv hl hs2 hh hlo hc hsl)
    | false =>
      rw [hb] at h'
      obtain ⟨off, hoff, h⟩ := xj_some h'
      obtain ⟨t, ht, h⟩ := xj_some h
      rw [Bool.or_eq_false_iff, decide_eq_false_iff_not, decide_eq_false_iff_not] at hb
      exact lv_tableIn F.1 F.2.1 hd hb.1 hb.2 hoff (xtgt_ok ht) (hK _ _ _ _ h H locs cells slots ls lv _ hlv hl hs2 hh hlo hc hsl)
  next => cases h'
theorem xix {n size : Nat} (h1 : n < 2147483648) (h2 : n < size) : ¬ (Int32.ofNat n < 0 ∨ size ≤ (Int32.ofNat n).toNatClampNeg) := by
  rw [clamp_of rfl h1]
  rintro (q | q)
  · exact nI_pos h1 q
  · omega
theorem xald_ok {ok : Nat → Bool} {r i a : xA} (h : xald ok hp r i = some a) : ∃ (k n : Nat) (q : Nat × (Nat × (Nat × Lean.RArray xA))), r = .inr (.inr (.inl k)) ∧ i = .inl n ∧ xcell hp k = some (.inr (.inl q)) ∧ ok q.1 = true ∧ n < q.2.1 ∧ n < 2147483648 ∧ a = xget q.2.2.2 n := by
  unfold xald at h
  split at h
  next k n =>
    split at h
    next q hq =>
      obtain ⟨h1, h2⟩ := cond_some h
      obtain ⟨h3, h4⟩ := and_true' h1
      obtain ⟨h5, h6⟩ := and_true' h4
      exact ⟨k, n, q, rfl, rfl, hq, h3, Nat.le_of_ble_eq_true h5, Nat.le_of_ble_eq_true h6, (Option.some.inj h2).symm⟩
    next => cases h
  next => cases h
theorem xk_ald (F : xFx p s m args meth c cc nL own S) {ok : Nat → Bool} (row : ∀ (H : Heap) (locs : List Loc) (cells slots : Nat) (ls : Array Slot) (a : Addr) (cell : Cell) (ty : Nat) (j : Int32) (v : Value) (st : List Value), ok ty = true → H[a]? = some cell → s.isArrayOf cell (xty ty) → cell.vm ≠ .unknown → ¬ (j < 0 ∨ cell.slots.size ≤ j.toNatClampNeg) → cell.slots[j.toNatClampNeg]? = some v → W p l e R s m args below meth c H locs cells slots Q (F0 m nx ls (v :: st)) → W p l e R s m args below meth c H locs cells slots Q (F0 m pc ls (.int j :: .ref a :: st))) (hK : xHyp p l e R s m args below meth c nL S o old D c0 s0 Q K out)
    (h : (match stk with
    | i :: r :: rest => xj (xald ok hp r i) fun v => K nx loc (v :: rest) hp
    | _ => none) = some out) : xG p l e R s m args below meth c nL S o old D c0 s0 Q pc loc stk hp := by
  intro H locs cells slots ls lv st hlv hl hs1 hh hlo hc hsl
  match stk, hs1, h with
  | [], _, h => cases h
  | [_], _, h => cases h
  | i :: r :: rest, hs1, h =>
    obtain ⟨a, ha, h⟩ := xj_some h
    obtain ⟨k, n, q, rfl, rfl, hq, hok, h1, h2, rfl⟩ := xald_ok ha
    obtain ⟨vi, st1, rfl, ri, hs2⟩ := xs2_cons hs1
    obtain ⟨vr, st2, rfl, rr, hs3⟩ := xs2_cons hs2
    cases ri
    cases rr
    have hcr := hh.1 k
    rw [hq] at hcr
    obtain ⟨cell, g1, g2, g3, g4, g5, g6, g7, -, g8⟩ := hcr
    obtain ⟨v, g9, g10⟩ := g8 n h1
    exact row _ _ _ _ _ _ cell q.1 _ v _ hok g1 (State.isArrayOf_alike F.2.2.2.2.2.1.alike g2) g3 (xix h2 (Nat.lt_of_lt_of_le h1 g5)) (by rw [clamp_of rfl h2]; exact g9) (hK _ _ _ _ h H locs cells slots ls lv _ hlv hl ⟨g10, hs3⟩ hh hlo hc hsl)
theorem xi_iaload (F : xFx p s m args meth c cc nL own S) {len : Nat}  (hd : decode cc pc = .ok (.iaload, len)) (hl0 : len = xlen (.iaload) len) (hx0 : nx = pc + len) (hst : xsto nL (.iaload) = true) (hK : xHyp p l e R s m args below meth c nL S o old D c0 s0 Q K out) (h : xstep o ft call pool hs K (.iaload) pc nx loc stk hp = some out) : xG p l e R s m args below meth c nL S o old D c0 s0 Q pc loc stk hp := by
  subst hx0
  have hl1 : len = 1 := hl0
  subst hl1
  refine xk_ald F (ok := fun t => Nat.beq t 0) (fun _ _ _ _ _ a cell ty j v st ho h1 h2 h3 h4 h5 k => ?_) hK h
  have e := Nat.eq_of_beq_eq_true ho
  subst e
  exact W.iald F.1 F.2.1 h1 h2 h3 h4 h5 rfl rfl hd k
theorem xi_laload (F : xFx p s m args meth c cc nL own S) {len : Nat}  (hd : decode cc pc = .ok (.laload, len)) (hl0 : len = xlen (.laload) len) (hx0 : nx = pc + len) (hst : xsto nL (.laload) = true) (hK : xHyp p l e R s m args below meth c nL S o old D c0 s0 Q K out) (h : xstep o ft call pool hs K (.laload) pc nx loc stk hp = some out) : xG p l e R s m args below meth c nL S o old D c0 s0 Q pc loc stk hp := by
  subst hx0
  have hl1 : len = 1 := hl0
  subst hl1
  refine xk_ald F (ok := fun t => Nat.beq t 1) (fun _ _ _ _ _ a cell ty j v st ho h1 h2 h3 h4 h5 k => ?_) hK h
  have e := Nat.eq_of_beq_eq_true ho
  subst e
  exact W.lald F.1 F.2.1 h1 h2 h3 h4 h5 rfl rfl hd k
theorem xi_baload (F : xFx p s m args meth c cc nL own S) {len : Nat}  (hd : decode cc pc = .ok (.baload, len)) (hl0 : len = xlen (.baload) len) (hx0 : nx = pc + len) (hst : xsto nL (.baload) = true) (hK : xHyp p l e R s m args below meth c nL S o old D c0 s0 Q K out) (h : xstep o ft call pool hs K (.baload) pc nx loc stk hp = some out) : xG p l e R s m args below meth c nL S o old D c0 s0 Q pc loc stk hp := by
  subst hx0
  have hl1 : len = 1 := hl0
  subst hl1
  refine xk_ald F (ok := fun t => Nat.beq t 2 || Nat.beq t 3) (fun _ _ _ _ _ a cell ty j v st ho h1 h2 h3 h4 h5 k => ?_) hK h
  rcases Bool.or_eq_true _ _ ▸ ho with ho | ho
  · have e := Nat.eq_of_beq_eq_true ho
    subst e
    exact W.zald F.1 F.2.1 h1 h2 h3 h4 h5 rfl rfl hd k
  · have e := Nat.eq_of_beq_eq_true ho
    subst e
    exact W.bald F.1 F.2.1 h1 h2 h3 h4 h5 rfl rfl hd k
theorem xty_ref {t : Nat} (h : 4 ≤ t) : (xty t).isReference = true := by
  unfold xty
  rw [if_neg (by omega)]
  split <;> rfl
theorem xi_aaload (F : xFx p s m args meth c cc nL own S) {len : Nat}  (hd : decode cc pc = .ok (.aaload, len)) (hl0 : len = xlen (.aaload) len) (hx0 : nx = pc + len) (hst : xsto nL (.aaload) = true) (hK : xHyp p l e R s m args below meth c nL S o old D c0 s0 Q K out) (h : xstep o ft call pool hs K (.aaload) pc nx loc stk hp = some out) : xG p l e R s m args below meth c nL S o old D c0 s0 Q pc loc stk hp := by
  subst hx0
  have hl1 : len = 1 := hl0
  subst hl1
  refine xk_ald F (ok := fun t => Nat.ble 4 t) (fun _ _ _ _ _ a cell ty j v st ho h1 h2 h3 h4 h5 k => ?_) hK h
  exact W.aald F.1 F.2.1 h1 h2 (xty_ref (Nat.le_of_ble_eq_true ho)) h3 h4 h5 rfl rfl hd k
theorem xast_ok {ok : Nat → Bool} {r i v : xA} {h' : xH} (h : xast o ok hp r i v = some h') : ∃ (k n : Nat) (q : Nat × (Nat × (Nat × Lean.RArray xA))) (w : xA), r = .inr (.inr (.inl k)) ∧ i = .inl n ∧ xcell hp k = some (.inr (.inl q)) ∧ xkeep q.1 v = some w ∧ ok q.1 = true ∧ n < q.2.1 ∧ n < 2147483648 ∧ o ≤ k ∧ n < 2 ^ q.2.2.1 ∧ h' = xput hp k (some (.inr (.inl (q.1, (q.2.1, (q.2.2.1, xset w n q.2.2.1 0 q.2.2.2)))))) := by
  unfold xast at h
  split at h
  next k n =>
    split at h
    next q hq =>
      split at h
      next w hw =>
        obtain ⟨h1, h2⟩ := cond_some h
        obtain ⟨h3, h4⟩ := and_true' h1
        obtain ⟨h5, h6⟩ := and_true' h4
        obtain ⟨h7, h8⟩ := and_true' h6
        obtain ⟨h9, h10⟩ := and_true' h8
        exact ⟨k, n, q, w, rfl, rfl, hq, hw, h3, Nat.le_of_ble_eq_true h5, Nat.le_of_ble_eq_true h7, Nat.le_of_ble_eq_true h9, Nat.le_of_ble_eq_true h10, (Option.some.inj h2).symm⟩
      next => cases h
    next => cases h
  next => cases h
theorem xcell_n {H : Heap} {k : Nat} {x : (Nat × Lean.RArray xA) ⊕ ((Nat × (Nat × (Nat × Lean.RArray xA))) ⊕ List Nat)} (hh : xhr o old D S hp H) (hq : xcell hp k = some x) : k < hp.2.1 := by
  rcases Nat.lt_or_ge k hp.2.1 with z | z
  · exact z
  · have := hh.2.2.1 k z
    rw [hq] at this
    cases this
/-- an array with one element written -/
theorem xcr_set {H H' : Heap} {k n : Nat} {q : Nat × (Nat × (Nat × Lean.RArray xA))} {w : xA} {u : Value} {ad : Nat → Nat} {cell : Cell} (h : xcr o ad D S k (some (.inr (.inl q))) H) (hc : H[ad k]? = some cell) (hn : n < q.2.1) (hb : n < 2 ^ q.2.2.1) (hw : xR ad w u) (e : H'[ad k]? = some (cell.setSlot n u)) :
    xcr o ad D S k (some (.inr (.inl (q.1, (q.2.1, (q.2.2.1, xset w n q.2.2.1 0 q.2.2.2)))))) H' := by
  obtain ⟨cell', g1, g2, g3, g4, g5, g6, g7, hb2, g8⟩ := h
  cases Option.some.inj (g1.symm.trans hc)
  have hz : (cell.setSlot n u).slots.size = cell.slots.size := by simp [Cell.setSlot]
  refine ⟨_, e, g2, g3, g4, by rw [hz]; exact g5, by rw [hz]; exact g6, xset_wf _ _ _ _ _ g7, hb2, fun j hj => ?_⟩
  have hj' : j < q.2.1 := hj
  show ∃ v, _ ∧ xR ad (xget (xset w n q.2.2.1 0 q.2.2.2) j) v
  rw [xget_xset w n j q.2.2.1 0 q.2.2.2 g7 (Nat.zero_le _) (by omega) (Nat.zero_le _) (by omega)]
  by_cases hjn : j = n
  · rw [if_pos hjn, hjn]
    exact ⟨u, Cell.slots_setSlot_self u (Nat.lt_of_lt_of_le hn g5), hw⟩
  · rw [if_neg hjn]
    obtain ⟨v, v1, v2⟩ := g8 j hj'
    exact ⟨v, by rw [slot_ne _ _ (Ne.symm hjn)]; exact v1, v2⟩
end Steps3
