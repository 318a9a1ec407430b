/-! ===== the checker's steps, sound: getfield, putfield ===== -/
noncomputable def zclsB (G : zW) (P : xP) (r : Nat) : Bool := match xget G.1 r with
  | .inl q => Nat.beq q.1 P.2.1
  | _ => false
noncomputable def zfldB (G : zW) (P : xP) (t : zT) (r : Nat) : Bool := match xget G.1 r with
  | .inl q => match q.2[P.2.2.1]? with
    | some t' => zsubT t' t
    | none => false
  | _ => false
noncomputable def zputB (G : zW) (W : zWr) (B : zB) (P : xP) (t : zT) (r : Nat) : Bool := match xget G.1 r with
  | .inl q => match q.2[P.2.2.1]? with
    | some t' => zsubT t t' && (zwr W r P.2.2.1 && (Nat.testBit B.2.2 r && !(zwr G.2.2.2.1 r P.2.2.1)))
    | none => false
  | _ => false
noncomputable def zgetf (G : zW) (B : zB) (K : zKs) (P : xP) (X : zQ) (x nx : Nat) (loc : zLc) (rest : List zV) (os : List zO) : Option (List zO) := match zinf X x with
  | none => none
  | some q => cond (Nat.beq P.1 0 && zallr q.2.1 (zclsB G P) B.1) (match zch X x P.2.2.1 with
    | some c => K nx X loc (c.2 :: rest) os
    | none => match os with
      | (20, (_, (_, t))) :: os' => cond (zallr q.2.1 (zfldB G P t) B.1)
        (zbyT B (fun X' v o' => K nx (X'.1, (X'.2.1, (X'.2.2.1, ((x, P.2.2.1), v) :: X'.2.2.2))) loc (v :: rest) o') X t q.2.2 os') none
      | _ => none) none
/-- a value fits a type, and a field's kind -/
noncomputable def zfitV (X : zQ) (v : zV) (t : zT) (a : zE) (k : Nat) (os : List zO) : Option (List zO) := match t.1, v with
  | 0, .inl e => cond (Nat.beq k 0 || (Nat.beq k 2 && (decide (0 ≤ t.2.1) && decide (t.2.2 ≤ 1)))) (zin t.2.1 t.2.2 X.2.1 e os) none
  | 1, .inr (.inl e) => cond (Nat.beq k 1) (zin t.2.1 t.2.2 X.2.1 e os) none
  | 3, .inl e => match os with
    | (0, (c1 :: c2 :: _, _)) :: r => cond (Nat.beq k 0 && (zent X.2.1 e c1 && zent X.2.1 (zfLe e a) c2)) (some r) none
    | _ => none
  | 2, .inr (.inr y) => match zinf X y with
    | some q => cond (Nat.beq k 3 && (Nat.beq (Nat.land q.2.1 t.2.1.toNat) q.2.1 && (!(decide (t.2.2 = 1)) || decide (q.2.2 = a)))) (some os) none
    | none => none
  | _, _ => none
noncomputable def zputf (G : zW) (W : zWr) (B : zB) (K : zKs) (P : xP) (X : zQ) (x nx : Nat) (v : zV) (loc : zLc) (rest : List zV) (os : List zO) : Option (List zO) := match zinf X x with
  | none => none
  | some q => match os with
    | (20, (_, (_, t))) :: os1 => cond (Nat.beq P.1 0 && (zallr q.2.1 (zclsB G P) B.1 && zallr q.2.1 (zputB G W B P t) B.1))
      (xj (zfitV X v t q.2.2 (Nat.mod P.2.2.2 8) os1) fun os2 => K nx (X.1, (X.2.1, (X.2.2.1, ((x, P.2.2.1), v) :: X.2.2.2.filter fun c => !(Nat.beq c.1.2 P.2.2.1)))) loc rest os2) none
    | _ => none
section ZGet
variable {G : zW} {W : zWr} {B : zB} {hp0 : xH} {ν0 : Nat → Int} {g : List zE} {o : Nat} {ft : Nat → List Nat} {call : xF} {pool : Nat → xP} {hs : List (Nat × (Nat × (Nat × Nat)))} {tab : Lean.RArray xI} {P : xE → Prop} {N : Nat}
variable {K : zKs} {pc nx len : Nat} {X : zQ} {loc : zLc} {stk rest : List zV} {os r : List zO} {ν : Nat → Int} {l : List (Nat × xA)} {s : List xA} {hp : xH} {u : xA} {i : Instr}
theorem zclsB_ok {PP : xP} {rr : Nat} (h : zclsB G PP rr = true) : ∃ q, xget G.1 rr = .inl q ∧ q.1 = PP.2.1 := by
  unfold zclsB at h
  split at h
  · next q hq => exact ⟨q, hq, Nat.eq_of_beq_eq_true h⟩
  · cases h
theorem zch_ok {x j : Nat} {c : (Nat × Nat) × zV} (h : zch X x j = some c) : c ∈ X.2.2.2 ∧ c.1.1 = x ∧ c.1.2 = j := by
  have h1 := List.mem_of_find?_eq_some h
  have h2 : (Nat.beq c.1.1 x && Nat.beq c.1.2 j) = true := List.find?_some (p := fun (q : (Nat × Nat) × zV) => Nat.beq q.1.1 x && Nat.beq q.1.2 j) h
  obtain ⟨h3, h4⟩ := and_true' h2
  exact ⟨h1, Nat.eq_of_beq_eq_true h3, Nat.eq_of_beq_eq_true h4⟩
theorem xgetf_eq {K9 : xK} {kk k : Nat} {s1 : List xA} {c : Nat × Lean.RArray xA} (h0 : Nat.beq (pool kk).1 0 = true) (hc : xcell hp k = some (.inl c)) (h1 : c.1 = (pool kk).2.1) : xstep o ft call pool hs K9 (.getfield kk) pc nx l (.inr (.inr (.inl k)) :: s1) hp = K9 nx l (xget c.2 (pool kk).2.2.1 :: s1) hp := by
  show cond (Nat.beq (pool kk).1 0) (match xcell hp k with
      | some (.inl c) => cond (Nat.beq c.1 (pool kk).2.1) (K9 nx l (xget c.2 (pool kk).2.2.1 :: s1) hp) none
      | _ => none) (match xcell hp k with
      | some (.inr (.inr [j])) => cond (Nat.beq (pool kk).1 24) (K9 nx l (.inr (.inr (.inl j)) :: s1) hp) (cond (Nat.beq (pool kk).1 25) (K9 nx l (.inl 0 :: s1) hp) none)
      | _ => none) = _
  rw [h0, cond_true, hc]
  show cond (Nat.beq c.1 (pool kk).2.1) _ none = _
  rw [h1, Nat.beq_refl]
  rfl
theorem zi_getf {kk x : Nat} (HB : zBok G o B) (hK : zHK G W hp0 ν0 g o ft call pool hs tab P N K) (ht : xget tab pc = (pc, (.getfield kk, (len, nx)))) (h : zgetf G B K (pool kk) X x nx loc rest os = some r) : zOk G W hp0 ν0 g o ft call pool hs tab P (N + 1) pc X loc (.inr (.inr x) :: rest) := by
  intro ν l s hp hr hl hst
  obtain ⟨ux, s1, rfl, ⟨x1, k, x2, rfl⟩, h2⟩ := hst.cons
  unfold zgetf at h
  split at h
  · cases h
  next q hq =>
    obtain ⟨_, i2, k', i3, i4, i5, i6⟩ := hr.info hq
    have ek : k' = k := by omega
    subst ek
    obtain ⟨h3, h⟩ := cond_some h
    obtain ⟨h0, h3⟩ := and_true' h3
    have hb := HB.1 k' i4
    obtain ⟨qd, d1, d2⟩ := zclsB_ok (zallr_ok h3 _ hb.1 i5)
    obtain ⟨f, f1, f2, f3, f4⟩ := hr.2.2.2.2.1.1.obj i4 d1
    split at h
    · next c hc =>
      obtain ⟨c1, c2, c3⟩ := zch_ok hc
      obtain ⟨_, c5, k9, c6, _, c7⟩ := hr.2.2.1 c c1
      rw [c2] at c6
      have e9 : k9 = k' := by omega
      rw [e9, c3, zsl_obj f1, blt_true (by rw [← c3]; exact c5), cond_true] at c7
      exact zG.step ht (fun K9 => xgetf_eq h0 f1 d2) (hK _ _ _ _ _ _ h ν l _ hp hr hl ⟨c7, h2⟩)
    · split at h
      · next t os' =>
        obtain ⟨h5, h⟩ := cond_some h
        have h6 := zallr_ok h5 _ hb.1 i5
        unfold zfldB at h6
        rw [d1] at h6
        split at h6
        · next q9 hq9 =>
          cases hq9
          split at h6
          · next t' ht' =>
            have hty := zsubT_ok h6 (f4 _ _ ht')
            have hj : (pool kk).2.2.1 < 256 := Nat.lt_of_lt_of_le (List.getElem?_eq_some_iff.mp ht').1 f3
            obtain ⟨ν', X', v, o', k1, k2, k3, k4, k5⟩ := zbyT_ok HB hr i2 i6 hty h
            have k6 : zR X'.1 ν' v (zsl hp k' (pool kk).2.2.1) := by
              rw [zsl_obj f1, blt_true hj, cond_true]
              exact k5
            refine zG.step ht (fun K9 => xgetf_eq h0 f1 d2) (hK _ _ _ _ _ _ k1 ν' l _ hp (k2.known (k := k') (Nat.lt_of_lt_of_le x1 k3) hj (by rw [← k4 x x1]; exact x2) ⟨i4, _, d1⟩ k6) (hl.mono k3 k4) ⟨k5, h2.mono k3 k4⟩)
          · cases h6
        · next hno => exact absurd rfl (hno qd)
      · cases h
theorem zfitV_ok {v : zV} {t : zT} {a : zE} {kd k : Nat} (HB : zBok G o B) (h : zRel G W hp0 ν0 g ν X hp) (ha : ((zat G k : Nat) : Int) = zv ν a) (hv : zR X.1 ν v u) (hz : zfitV X v t a kd os = some r) : ztok G t (zat G k) u ∧ xfit kd u = true := by
  have hF : ∀ f ∈ X.2.1, 0 ≤ zv ν f := fun f hf => (h.1 f hf).2
  obtain ⟨n, lo, hi⟩ := t
  unfold zfitV at hz
  split at hz
  · next e e1 =>
    have e1 : n = 0 := e1
    subst e1
    obtain ⟨a1, a2, rfl⟩ := hv
    obtain ⟨h1, hz⟩ := cond_some hz
    obtain ⟨h2, h3⟩ := zin_ok hF hz
    have h2 : lo ≤ zv ν e := h2
    have h3 : zv ν e ≤ hi := h3
    refine ⟨⟨zv ν e, a2, h2, h3, rfl⟩, ?_⟩
    rcases Bool.or_eq_true _ _ ▸ h1 with h4 | h4
    · rw [Nat.eq_of_beq_eq_true h4]
      rfl
    · obtain ⟨h5, h6⟩ := and_true' h4
      obtain ⟨h6, h7⟩ := and_true' h6
      have h6 : 0 ≤ lo := of_decide_eq_true h6
      have h7 : hi ≤ 1 := of_decide_eq_true h7
      rw [Nat.eq_of_beq_eq_true h5]
      have h8 : zv ν e = 0 ∨ zv ν e = 1 := by omega
      rcases h8 with h8 | h8 <;> rw [h8] <;> rfl
  · next e e1 =>
    have e1 : n = 1 := e1
    subst e1
    obtain ⟨a1, a2, rfl⟩ := hv
    obtain ⟨h1, hz⟩ := cond_some hz
    obtain ⟨h2, h3⟩ := zin_ok hF hz
    rw [Nat.eq_of_beq_eq_true h1]
    exact ⟨⟨zv ν e, a2, h2, h3, rfl⟩, rfl⟩
  · next e e1 =>
    have e1 : n = 3 := e1
    subst e1
    obtain ⟨a1, a2, rfl⟩ := hv
    split at hz
    · obtain ⟨h1, hz⟩ := cond_some hz
      obtain ⟨h1, h2⟩ := and_true' h1
      obtain ⟨h2, h3⟩ := and_true' h2
      have h2 := zent_ok hF h2
      have h3 := zent_ok hF h3
      unfold zfLe at h3
      rw [zmad_ok] at h3
      rw [Nat.eq_of_beq_eq_true h1]
      exact ⟨⟨zv ν e, a2, h2, by rw [ha]; omega, rfl⟩, rfl⟩
    · cases hz
  · next y e1 =>
    have e1 : n = 2 := e1
    subst e1
    obtain ⟨y1, k1, y2, rfl⟩ := hv
    split at hz
    · next q hq =>
      obtain ⟨h1, hz⟩ := cond_some hz
      obtain ⟨h1, h2⟩ := and_true' h1
      obtain ⟨h2, h3⟩ := and_true' h2
      obtain ⟨_, i2, k', i3, i4, i5, i6⟩ := h.info hq
      have ek : k' = k1 := by omega
      subst ek
      rw [Nat.eq_of_beq_eq_true h1]
      refine ⟨⟨k', rfl, i4, zland h2 i5, fun e => ?_⟩, rfl⟩
      have e : hi = 1 := e
      have h3 : (!(decide (hi = 1)) || decide (q.2.2 = a)) = true := h3
      rw [decide_eq_true e, Bool.not_true, Bool.false_or] at h3
      have e3 : q.2.2 = a := of_decide_eq_true h3
      rw [e3, ← ha] at i6
      omega
    · cases hz
  · cases hz
theorem zi_putf {kk x : Nat} {v : zV} (HB : zBok G o B) (hK : zHK G W hp0 ν0 g o ft call pool hs tab P N K) (ht : xget tab pc = (pc, (.putfield kk, (len, nx)))) (h : zputf G W B K (pool kk) X x nx v loc rest os = some r) : zOk G W hp0 ν0 g o ft call pool hs tab P (N + 1) pc X loc (v :: .inr (.inr x) :: rest) := by
  intro ν l s hp hr hl hst
  obtain ⟨u, s0, rfl, hv, h9⟩ := hst.cons
  obtain ⟨ux, s1, rfl, ⟨x1, k, x2, rfl⟩, h2⟩ := h9.cons
  unfold zputf at h
  split at h
  · cases h
  next q hq =>
    split at h
    · next t os1 =>
      obtain ⟨_, i2, k', i3, i4, i5, i6⟩ := hr.info hq
      have ek : k' = k := by omega
      subst ek
      obtain ⟨h3, h⟩ := cond_some h
      obtain ⟨h0, h3⟩ := and_true' h3
      obtain ⟨h3, h4⟩ := and_true' h3
      obtain ⟨os2, h5, h⟩ := xj_some h
      have hb := HB.1 k' i4
      obtain ⟨qd, d1, d2⟩ := zclsB_ok (zallr_ok h3 _ hb.1 i5)
      have hTy := hr.2.2.2.2.1.1
      obtain ⟨f, f1, f2, f3, f4⟩ := hTy.obj i4 d1
      have h6 := zallr_ok h4 _ hb.1 i5
      unfold zputB at h6
      rw [d1] at h6
      split at h6
      · next q9 hq9 =>
        cases hq9
        split at h6
        · next t' ht' =>
          obtain ⟨h6, h7⟩ := and_true' h6
          obtain ⟨h7, h8⟩ := and_true' h7
          obtain ⟨h8, h12⟩ := and_true' h8
          obtain ⟨v1, v2⟩ := zfitV_ok (k := k') HB hr i6 hv h5
          obtain ⟨w1, w2⟩ := hTy.putf i4 d1 f1 ht' (zsubT_ok h6 v1)
          have hj : (pool kk).2.2.1 < 256 := Nat.lt_of_lt_of_le (List.getElem?_eq_some_iff.mp ht').1 f3
          have ho : o ≤ k' := hb.2.2.2 h8
          refine zG.step (hp' := xput hp k' (some (.inl (qd.1, xset u (pool kk).2.2.1 8 0 f)))) ht (fun K9 => ?_) (hK _ _ _ _ _ _ h ν l s1 _ ?_ hl h2)
          · show cond (Nat.beq (pool kk).1 0 && Nat.ble o k') (match xcell hp k' with
              | some (.inl c) => cond (Nat.beq c.1 (pool kk).2.1 && xfit (Nat.mod (pool kk).2.2.2 8) u) (K9 nx l s1 (xput hp k' (some (.inl (c.1, xset u (pool kk).2.2.1 8 0 c.2))))) none
              | _ => none) none = _
            rw [h0, Nat.ble_eq_true_of_le ho, Bool.and_self, cond_true, f1]
            show cond (Nat.beq qd.1 (pool kk).2.1 && xfit (Nat.mod (pool kk).2.2.2 8) u) _ none = _
            rw [d2, Nat.beq_refl, v2]
            rfl
          · obtain ⟨b1, b2, b3, b4, b5, b6, b7⟩ := hr
            refine ⟨b1, b2, fun c hc => ?_, b4, ⟨w1, HB.2 _ _ (fun k2 j2 _ hj2 => by
              rw [w2, if_neg]
              rintro ⟨rfl, rfl⟩
              rw [hj2] at h12
              cases h12) b5.2⟩, fun k2 j2 hk2 hw2 => ?_, b7⟩
            · rcases List.mem_cons.mp hc with rfl | hc
              · refine ⟨x1, hj, k', x2, ⟨i4, _, d1⟩, ?_⟩
                rw [w2, if_pos ⟨rfl, rfl⟩]
                exact hv
              · obtain ⟨c1, c2⟩ := List.mem_filter.mp hc
                obtain ⟨c3, c4, k9, c5, c7, c6⟩ := b3 c c1
                refine ⟨c3, c4, k9, c5, c7, ?_⟩
                rw [w2, if_neg fun z => ?_]
                · exact c6
                · rw [z.2, Nat.beq_refl] at c2
                  cases c2
            · rw [w2, if_neg fun z => ?_]
              · exact b6 k2 j2 hk2 hw2
              · rw [z.1, z.2, h7] at hw2
                cases hw2
        · cases h6
      · next hno => exact absurd rfl (hno qd)
    · cases h
end ZGet
