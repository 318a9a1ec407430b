/-! ===== the checker's steps, sound: calls ===== -/
def zcats : List zV → Nat
  | [] => 0
  | v :: vs => Nat.add (zcat v) (zcats vs)
theorem zSt.cats {n : Nat} {ν : Nat → Int} : ∀ {st : List zV} {s : List xA}, zSt n ν st s → xcats s = zcats st := by
  intro st
  induction st with
  | nil => intro s h; rw [h.nil]; rfl
  | cons v vs ih =>
    intro s h
    obtain ⟨b, bs, rfl, h1, h2⟩ := h.cons
    show Nat.add (xcat b) (xcats bs) = Nat.add (zcat v) (zcats vs)
    rw [h1.cat, ih h2]
def ztake : Nat → List zV → List zV → Option (List zV × List zV)
  | 0, acc, l => some (acc, l)
  | _ + 1, _, [] => none
  | n + 1, acc, a :: t => ztake n (a :: acc) t
theorem zSt.take {m : Nat} {ν : Nat → Int} : ∀ {n : Nat} {acc l : List zV} {q : List zV × List zV} {acc' s : List xA}, ztake n acc l = some q → zSt m ν acc acc' → zSt m ν l s → ∃ q', xtake n acc' s = some q' ∧ zSt m ν q.1 q'.1 ∧ zSt m ν q.2 q'.2 := by
  intro n
  induction n with
  | zero =>
    intro acc l q acc' s h ha hl
    cases h
    exact ⟨(acc', s), rfl, ha, hl⟩
  | succ n ih =>
    intro acc l q acc' s h ha hl
    cases l with
    | nil => cases h
    | cons v vs =>
      obtain ⟨b, bs, rfl, h1, h2⟩ := hl.cons
      exact ih (acc := v :: acc) (acc' := b :: acc') h ⟨h1, ha⟩ h2
/-- a spec's variables, and the new ones -/
def zth (m nr : Nat) (θ : List zE) : List zE := θ ++ (List.range nr).map fun i => zX (m + i)
def zmu (ν μ : Nat → Int) (m n : Nat) : Nat → Int := fun x => if x < m then ν x else μ (n + (x - m))
theorem zmu_old {ν μ : Nat → Int} {m n : Nat} : ∀ x, x < m → ν x = zmu ν μ m n x := fun x hx => by
  unfold zmu
  rw [if_pos hx]
theorem zgetD_lt {m : Nat} {θ : List zE} (h : ∀ t ∈ θ, zlt m t) (x : Nat) : zlt m (θ.getD x (zK 0)) := by
  rw [List.getD_eq_getElem?_getD]
  cases h9 : θ[x]? with
  | none => exact zlt_K m 0
  | some e => exact h e (List.mem_of_getElem? h9)
theorem zth_lt {m nr : Nat} {θ : List zE} (h : ∀ t ∈ θ, zlt m t) : ∀ t ∈ zth m nr θ, zlt (m + nr) t := by
  intro t ht
  rcases List.mem_append.mp ht with ht | ht
  · exact (h t ht).mono (Nat.le_add_right _ _)
  · obtain ⟨i, hi, rfl⟩ := List.mem_map.mp ht
    exact zlt_X (Nat.add_lt_add_left (List.mem_range.mp hi) m)
theorem zmu_val {ν μ : Nat → Int} {m n nr : Nat} {θ : List zE} (hθ : ∀ t ∈ θ, zlt m t) (hl : θ.length = n) (hμ : ∀ x, x < n → zval ν θ x = μ x) : ∀ x, x < n + nr → μ x = zval (zmu ν μ m n) (zth m nr θ) x := by
  intro x hx
  unfold zval
  by_cases h : x < n
  · have e : (zth m nr θ).getD x (zK 0) = θ.getD x (zK 0) := by
      unfold zth
      rw [List.getD_eq_getElem?_getD, List.getD_eq_getElem?_getD, List.getElem?_append_left (by omega)]
    rw [e, ← zv_same (zmu_old (μ := μ) (n := n)) (zgetD_lt hθ x)]
    exact (hμ x h).symm
  · have e : (zth m nr θ).getD x (zK 0) = zX (m + (x - n)) := by
      unfold zth
      rw [List.getD_eq_getElem?_getD, List.getElem?_append_right (by omega), List.getElem?_map, List.getElem?_range (by omega), hl]
      rfl
    rw [e, zX_ok]
    unfold zmu
    rw [if_neg (by omega)]
    congr 1
    omega
def zsubV (θ : List zE) (v : zV) : Option zV := match v with
  | .inl e => some (.inl (zsub θ e))
  | .inr (.inl e) => some (.inr (.inl (zsub θ e)))
  | .inr (.inr x) => match θ.getD x (zK 0) with
    | ([(y, 1)], 0) => some (.inr (.inr y))
    | _ => none
theorem zsubV_ok {n m : Nat} {ν : Nat → Int} {θ : List zE} {v w : zV} {u : xA} (h : zsubV θ v = some w) (hθ : ∀ t ∈ θ, zlt m t) (hu : zR n (zval ν θ) v u) : zR m ν w u := by
  match v, h, hu with
  | .inl e, h, ⟨_, h2, h3⟩ =>
    cases h
    rw [← zsub_ok] at h2 h3
    exact ⟨zsub_lt hθ e, h2, h3⟩
  | .inr (.inl e), h, ⟨_, h2, h3⟩ =>
    cases h
    rw [← zsub_ok] at h2 h3
    exact ⟨zsub_lt hθ e, h2, h3⟩
  | .inr (.inr x), h, ⟨_, k, h2, h3⟩ =>
    have h : (match θ.getD x (zK 0) with
      | ([(y, 1)], 0) => some (.inr (.inr y))
      | _ => none : Option zV) = some w := h
    split at h
    · next y hy =>
      cases h
      refine ⟨?_, k, ?_, h3⟩
      · have := zgetD_lt hθ x
        rw [hy] at this
        exact this (y, 1) (List.mem_cons_self ..)
      · have e : zval ν θ x = zv ν (([(y, 1)], 0) : zE) := by
          unfold zval
          rw [hy]
        rw [← h2, e]
        exact (zX_ok ν y).symm
    · cases h
noncomputable def zkp (X : zQ) (NR : Nat) (U : zWr) (q : (Nat × Nat) × zV) : Bool := match zinf X q.1.1 with
  | some p => zallr p.2.1 (fun r => !(zwr U r q.1.2)) NR
  | none => false
/-- the state behind a call that ended so -/
noncomputable def zX1 (X : zQ) (n : Nat) (θ : List zE) (NR : Nat) (U : zWr) (al : zAl) : zQ :=
  (X.1 + al.1, (al.2.2.1.map (fun f => zsub (zth X.1 al.1 θ) f) ++ X.2.1, (al.2.2.2.map (fun q => (X.1 + (q.1 - n), (q.2.1, zsub (zth X.1 al.1 θ) q.2.2))) ++ X.2.2.1, X.2.2.2.filter fun q => zkp X NR U q)))
section ZCalls
variable {G : zW} {W U : zWr} {B : zB} {hp0 : xH} {ν0 : Nat → Int} {g : List zE} {o : Nat} {ft : Nat → List Nat} {call : xF} {pool : Nat → xP} {hs : List (Nat × (Nat × (Nat × Nat)))} {tab : Lean.RArray xI} {P : xE → Prop} {N : Nat}
theorem zalt_ok (hB : zBok G o B) {ν μ : Nat → Int} {X : zQ} {hp h : xH} {n : Nat} {θ : List zE} {al : zAl} (hr : zRel G W hp0 ν0 g ν X hp) (hθ : ∀ t ∈ θ, zlt X.1 t) (hl : θ.length = n) (ht : zTJ G h) (hf : zFr G U hp h) (hw : zwin U W = true) (hc : h.2 = hp.2) (hμ : ∀ x, x < n → zval ν θ x = μ x) (h1 : zFs (n + al.1) μ al.2.2.1) (h2 : zIs G (n + al.1) μ al.2.2.2) (h3 : ∀ q ∈ al.2.2.2, n ≤ q.1) : zRel G W hp0 ν0 g (zmu ν μ X.1 n) (zX1 X n θ B.1 U al) h := by
  have hv : ∀ x, x < n + al.1 → μ x = zval (zmu ν μ X.1 n) (zth X.1 al.1 θ) x := zmu_val hθ hl hμ
  have hs9 : ∀ x, x < X.1 → ν x = zmu ν μ X.1 n x := zmu_old
  have hle : X.1 ≤ X.1 + al.1 := Nat.le_add_right _ _
  obtain ⟨r1, r2, r3, r4, r5, r6, r7⟩ := hr
  refine ⟨fun f hf9 => ?_, fun q hq => ?_, fun q hq => ?_, fun i e he => ?_, ht, r6.tr (hf.sub hw), hc.trans r7⟩
  · rcases List.mem_append.mp hf9 with hf9 | hf9
    · obtain ⟨f0, hf0, rfl⟩ := List.mem_map.mp hf9
      obtain ⟨a1, a2⟩ := h1 f0 hf0
      refine ⟨zsub_lt (zth_lt hθ) f0, ?_⟩
      rw [zsub_ok, ← zv_same hv a1]
      exact a2
    · obtain ⟨a1, a2⟩ := r1 f hf9
      exact ⟨a1.mono hle, by rw [← zv_same hs9 a1]; exact a2⟩
  · rcases List.mem_append.mp hq with hq | hq
    · obtain ⟨q0, hq0, rfl⟩ := List.mem_map.mp hq
      obtain ⟨a1, a2, k, a3, a4, a5, a6⟩ := h2 q0 hq0
      have a7 := h3 q0 hq0
      refine ⟨?_, zsub_lt (zth_lt hθ) _, k, ?_, a4, a5, ?_⟩
      · show X.1 + (q0.1 - n) < X.1 + al.1
        omega
      · show zmu ν μ X.1 n (X.1 + (q0.1 - n)) = _
        unfold zmu
        rw [if_neg (by omega), show n + (X.1 + (q0.1 - n) - X.1) = q0.1 by omega]
        exact a3
      · show _ = zv _ (zsub _ q0.2.2)
        rw [zsub_ok, ← zv_same hv a2]
        exact a6
    · obtain ⟨a, b, k, c, d, e, f⟩ := r2 q hq
      exact ⟨Nat.lt_of_lt_of_le a hle, b.mono hle, k, by rw [← hs9 _ a]; exact c, d, e, by rw [← zv_same hs9 b]; exact f⟩
  · obtain ⟨hq, hk⟩ := List.mem_filter.mp hq
    obtain ⟨a, b, k, c, c2, d⟩ := r3 q hq
    have hk : zkp X B.1 U q = true := hk
    unfold zkp at hk
    split at hk
    · next p hp9 =>
      have i1 := List.mem_of_find?_eq_some hp9
      have i2 := Nat.eq_of_beq_eq_true (List.find?_some (p := fun z : Nat × (Nat × zE) => Nat.beq z.1 q.1.1) hp9)
      obtain ⟨_, _, k', e1, e2, e3, _⟩ := r2 p i1
      have e4 : k' = k := by
        rw [i2, c] at e1
        omega
      subst e4
      have e5 : (!(zwr U (zro G k') q.1.2)) = true := zallr_ok hk _ (hB.1 k' e2).1 e3
      have e6 : zwr U (zro G k') q.1.2 = false := by
        cases h9 : zwr U (zro G k') q.1.2 with
        | false => rfl
        | true => rw [h9] at e5; cases e5
      refine ⟨Nat.lt_of_lt_of_le a hle, b, k', by rw [← hs9 _ a]; exact c, c2, ?_⟩
      rw [hf k' q.1.2 e2 e6]
      exact d.mono hle hs9
    · cases hk
  · obtain ⟨a, b⟩ := r4 i e he
    exact ⟨a.mono hle, by rw [← zv_same hs9 a]; exact b⟩
noncomputable def zalt1 (K : zKs) (nx : Nat) (X : zQ) (n : Nat) (θ : List zE) (NR : Nat) (U : zWr) (loc : zLc) (rest : List zV) (al : zAl) (os : List zO) : Option (List zO) := match al.2.1 with
  | none => K nx (zX1 X n θ NR U al) loc rest os
  | some v => match zsubV (zth X.1 al.1 θ) v with
    | some w => K nx (zX1 X n θ NR U al) loc (w :: rest) os
    | none => none
noncomputable def zalts (K : zKs) (nx : Nat) (X : zQ) (n : Nat) (θ : List zE) (NR : Nat) (U : zWr) (loc : zLc) (rest : List zV) : List zAl → List zO → Option (List zO)
  | [], os => some os
  | al :: als, os => match zalt1 K nx X n θ NR U loc rest al os with
    | some os' => zalts K nx X n θ NR U loc rest als os'
    | none => none
theorem zalts_mem {K : zKs} {nx : Nat} {X : zQ} {n : Nat} {θ : List zE} {NR : Nat} {loc : zLc} {rest : List zV} : ∀ {als : List zAl} {os r : List zO}, zalts K nx X n θ NR U loc rest als os = some r → ∀ al ∈ als, ∃ os' r', zalt1 K nx X n θ NR U loc rest al os' = some r' := by
  intro als
  induction als with
  | nil => intro os r _ al hal; cases hal
  | cons a als ih =>
    intro os r h al hal
    have h : (match zalt1 K nx X n θ NR U loc rest a os with
      | some os' => zalts K nx X n θ NR U loc rest als os'
      | none => none) = some r := h
    split at h
    · next os' h1 =>
      rcases List.mem_cons.mp hal with rfl | hal
      · exact ⟨os, os', h1⟩
      · exact ih h al hal
    · cases h
/-- exceptions that a method may end with -/
def zPx (G : zW) (W : zWr) (hp0 : xH) (thr : Nat) (P : xE → Prop) : Prop := ∀ pc rest h E, zTJ G h → zFr G W hp0 h → h.2 = zbump hp0.2 → E < 3 → Nat.testBit thr E = true → P (2, (pc, (rest, (h, E))))
variable {K : zKs} {pc nx len : Nat} {X : zQ} {loc : zLc} {stk rest : List zV} {os r : List zO} {ν : Nat → Int} {l : List (Nat × xA)} {s : List xA} {hp : xH} {i : Instr} {thr : Nat}
theorem zback_ok (hB : zBok G o B) (hK : zHK G W hp0 ν0 g o ft call pool hs tab P N K) (hn : ∀ pc E, xcatch hs pc E = none) (hP : zPx G W hp0 thr P) {sp : zSp} {θ : List zE} (hr : zRel G W hp0 ν0 g ν X hp) (hl : zLo X.1 ν loc l) (hst : zSt X.1 ν rest s) (hθ : ∀ t ∈ θ, zlt X.1 t) (hlen : θ.length = sp.2.1) (hw : zwin sp.2.2.2.2.2.1 W = true) (hthr : Nat.beq (Nat.land sp.2.2.2.2.2.2.2 thr) sp.2.2.2.2.2.2.2 = true) (hnew : ∀ al ∈ sp.2.2.2.2.2.2.1, ∀ q ∈ al.2.2.2, sp.2.1 ≤ q.1) (hk : zalts K nx X sp.2.1 θ B.1 sp.2.2.2.2.2.1 loc rest sp.2.2.2.2.2.2.1 os = some r) {ro : xO} (he : zEnd G sp (zval ν θ) hp ro) {fuel : Nat} (hf : N ≤ fuel) : ∃ out, xback hs (xrun o ft call pool hs tab fuel) pc nx l s (some ro) = some out ∧ P out := by
  obtain ⟨c, rv, h, E⟩ := ro
  obtain ⟨e1, e2, e3⟩ := he
  rcases e3 with ⟨rfl, e4, al, hal, μ, e5, e6, e7, e8⟩ | ⟨rfl, e4, e5, e6⟩
  · obtain ⟨os', r', h9⟩ := zalts_mem hk al hal
    have hrel := zalt_ok hB hr hθ hlen e1 e2 hw e4 e5 e6 e7 (hnew al hal)
    have hle : X.1 ≤ X.1 + al.1 := Nat.le_add_right _ _
    have hv : ∀ x, x < sp.2.1 + al.1 → μ x = zval (zmu ν μ X.1 sp.2.1) (zth X.1 al.1 θ) x := zmu_val hθ hlen e5
    unfold zalt1 at h9
    split at h9
    · next h8 =>
      rw [h8] at e8
      match rv, e8 with
      | none, _ =>
        exact hK _ _ _ _ _ _ h9 _ l s h hrel (hl.mono hle zmu_old) (hst.mono hle zmu_old) fuel hf
    · next v h8 =>
      rw [h8] at e8
      match rv, e8 with
      | some u, e8 =>
        split at h9
        · next w hw9 =>
          have e9 : zR (sp.2.1 + al.1) μ v u := e8
          have e10 := zsubV_ok hw9 (zth_lt hθ) (e9.mono (Nat.le_refl _) hv)
          exact hK _ _ _ _ _ _ h9 _ l (u :: s) h hrel (hl.mono hle zmu_old) ⟨e10, hst.mono hle zmu_old⟩ fuel hf
        · cases h9
  · refine ⟨(2, (pc, (s, (h, E)))), ?_, hP pc s h E e1 (hr.2.2.2.2.2.1.tr (e2.sub hw)) ?_ e4 ?_⟩
    · show (match xcatch hs pc E with
        | some t => xrun o ft call pool hs tab fuel t l [.inr (.inr (.inr (.inr (.inr (.inl true)))))] h
        | none => some (2, (pc, (s, (h, E))))) = _
      rw [hn]
    · rw [← hr.2.2.2.2.2.2]
      exact e6
    · exact zland hthr e5
/-- a call -/
noncomputable def zcl2 (W : zWr) (B : zB) (K : zKs) (ok : Nat → Bool) (thr : Nat) (m : Nat) (X : zQ) (nx : Nat) (loc : zLc) (args rest : List zV) (cs : List zC) (θ : List zE) (i : Nat) (sp : zSp) (os : List zO) : Option (List zO) :=
  cond (ok i && (Nat.beq sp.1 m && (Nat.ble (zcats rest) 8 && (zwin sp.2.2.2.2.2.1 W && (Nat.beq (Nat.land sp.2.2.2.2.2.2.2 thr) sp.2.2.2.2.2.2.2 && zaskB X sp θ args cs)))))
    (zalts K nx X sp.2.1 θ B.1 sp.2.2.2.2.2.1 loc rest sp.2.2.2.2.2.2.1 os) none
theorem zcl2_ok {S : Lean.RArray zSp} {ok : Nat → Bool} (hS : ∀ i, ok i = true → zSpOk G call (xget S i)) (hB : zBok G o B) (hK : zHK G W hp0 ν0 g o ft call pool hs tab P N K) (hn : ∀ pc E, xcatch hs pc E = none) (hP : zPx G W hp0 thr P) {m i : Nat} {args : List zV} {us : List xA} {cs : List zC} {θ : List zE} (hr : zRel G W hp0 ν0 g ν X hp) (hl : zLo X.1 ν loc l) (hst : zSt X.1 ν rest s) (ha : zSt X.1 ν args us) (h : zcl2 W B K ok thr m X nx loc args rest cs θ i (xget S i) os = some r) : Nat.ble (xcats s) 8 = true ∧ ∀ fuel, N ≤ fuel → ∃ out, xback hs (xrun o ft call pool hs tab fuel) pc nx l s (call m us hp) = some out ∧ P out := by
  obtain ⟨h1, h⟩ := cond_some h
  obtain ⟨b1, h1⟩ := and_true' h1
  obtain ⟨b2, h1⟩ := and_true' h1
  obtain ⟨b3, h1⟩ := and_true' h1
  obtain ⟨b4, h1⟩ := and_true' h1
  obtain ⟨b5, b6⟩ := and_true' h1
  obtain ⟨a1, a2, a3, a4, a5, a6⟩ := zask_ok hr b6 ha
  refine ⟨by rw [hst.cats]; exact b3, fun fuel hf => ?_⟩
  obtain ⟨ro, c1, c2⟩ := hS i b1 (zval ν θ) us hp hr.2.2.2.2.1 a1 a2 a3
  rw [Nat.eq_of_beq_eq_true b2] at c1
  rw [c1]
  exact zback_ok hB hK hn hP hr hl hst a5 a4 b4 b5 a6 h c2 hf
end ZCalls
