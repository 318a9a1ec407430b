/-! ===== the checker's steps, sound: arrays ===== -/
/-- a multiple of w and a number: what is left by w -/
def zdvd (w : Nat) (e : zE) : Bool := Nat.blt 0 w && e.1.all fun q => decide (q.2 % (w : Int) = 0)
theorem zdvd_ok {ν : Nat → Int} {w : Nat} {e : zE} (h : zdvd w e = true) : 0 < w ∧ zv ν e % (w : Int) = e.2 % (w : Int) := by
  obtain ⟨h1, h2⟩ := and_true' h
  refine ⟨Nat.le_of_ble_eq_true h1, ?_⟩
  obtain ⟨l, k⟩ := e
  have key : ∀ l : zL, (l.all fun q => decide (q.2 % (w : Int) = 0)) = true → zvl ν l % (w : Int) = 0 := by
    intro l
    induction l with
    | nil => intro _; rfl
    | cons q t ih =>
      intro h
      rw [List.all_cons] at h
      obtain ⟨a, b⟩ := and_true' h
      have a := of_decide_eq_true a
      have b := ih b
      show (q.2 * ν q.1 + zvl ν t) % (w : Int) = 0
      rw [Int.add_emod, b, Int.mul_emod, a, Int.zero_mul, Int.zero_emod, Int.add_zero, Int.zero_emod]
  show (zvl ν l + k) % (w : Int) = k % (w : Int)
  rw [Int.add_emod, key l h2, Int.zero_add, Int.emod_emod]
noncomputable def zarrB (G : zW) (r : Nat) : Bool := match xget G.1 r with
  | .inr (.inl _) => true
  | _ => false
/-- the types of an array's elements at a place, all that come in question -/
def zelT (w : Nat) (ts : List zT) (e : zE) (f : zT → Bool) : Bool := cond (zdvd w e) (match ts[(e.2 % (w : Int)).toNat]? with
  | some t => f t
  | none => false) (ts.all f)
theorem zelT_ok {ν : Nat → Int} {w : Nat} {ts : List zT} {e : zE} {f : zT → Bool} (h : zelT w ts e f = true) {i : Nat} (hi : zv ν e = (i : Int)) {t : zT} (ht : ts[i % w]? = some t) : f t = true := by
  unfold zelT at h
  cases hd : zdvd w e with
  | true =>
    rw [hd, cond_true] at h
    obtain ⟨h1, h2⟩ := zdvd_ok (ν := ν) hd
    have e1 : (e.2 % (w : Int)).toNat = i % w := by
      rw [← h2, hi, ← Int.natCast_emod]
      rfl
    rw [e1, ht] at h
    exact h
  | false =>
    rw [hd, cond_false] at h
    exact List.all_eq_true.mp h t (List.mem_of_getElem? ht)
noncomputable def zldB (G : zW) (ok : Nat → Bool) (e : zE) (t : zT) (r : Nat) : Bool := match xget G.1 r with
  | .inr (.inl q) => ok q.1 && zelT q.2.1 q.2.2 e fun t' => zsubT t' t
  | _ => false
noncomputable def zstB (G : zW) (W : zWr) (B : zB) (ok : Nat → Bool) (e : zE) (t : zT) (r : Nat) : Bool := match xget G.1 r with
  | .inr (.inl q) => ok q.1 && (zelT q.2.1 q.2.2 e (fun t' => zsubT t t') && (W.any (fun z => Nat.testBit z.1 r && Nat.beq z.2 256) && (Nat.testBit B.2.2 r && !(G.2.2.2.1.any fun z => Nat.testBit z.1 r))))
  | _ => false
noncomputable def zaldf (G : zW) (B : zB) (ok : Nat → Bool) (K : zKs) (X : zQ) (x : Nat) (e : zE) (nx : Nat) (loc : zLc) (rest : List zV) (os : List zO) : Option (List zO) := match zinf X x, os with
  | some q, (22, (c1 :: c2 :: _, (_, t))) :: os' => cond (zent X.2.1 e c1 && (zent X.2.1 (zfLt e q.2.2) c2 && zallr q.2.1 (zldB G ok e t) B.1))
      (zbyT B (fun X' v o' => K nx X' loc (v :: rest) o') X t q.2.2 os') none
  | _, _ => none
noncomputable def zastf (G : zW) (W : zWr) (B : zB) (ok : Nat → Bool) (kd : Nat) (K : zKs) (X : zQ) (x : Nat) (e : zE) (v : zV) (nx : Nat) (loc : zLc) (rest : List zV) (os : List zO) : Option (List zO) := match zinf X x, os with
  | some q, (22, (c1 :: c2 :: _, (_, t))) :: os' => cond (zent X.2.1 e c1 && (zent X.2.1 (zfLt e q.2.2) c2 && zallr q.2.1 (zstB G W B ok e t) B.1))
      (xj (zfitV X v t q.2.2 kd os') fun o2 => K nx X loc rest o2) none
  | _, _ => none
section ZArrays
variable {G : zW} {W : zWr} {B : zB} {hp0 : xH} {ν0 : Nat → Int} {g : List zE} {o : Nat} {ft : Nat → List Nat} {call : xF} {pool : Nat → xP} {hs : List (Nat × (Nat × (Nat × Nat)))} {tab : Lean.RArray xI} {P : xE → Prop} {N : Nat}
variable {K : zKs} {pc nx len : Nat} {X : zQ} {loc : zLc} {stk rest : List zV} {os r : List zO} {ν : Nat → Int} {l : List (Nat × xA)} {s : List xA} {hp : xH} {u : xA} {i : Instr}
theorem zc32_nat {n : Nat} (h : n < 2147483648) : zc32 (n : Int) = n := by
  unfold zc32
  omega
theorem zi_alen {x : Nat} (HB : zBok G o B) (hK : zHK G W hp0 ν0 g o ft call pool hs tab P N K) (ht : xget tab pc = (pc, (.arraylength, (len, nx)))) (h : (xj (zinf X x) fun q => cond (zallr q.2.1 (zarrB G) B.1) (K nx X loc (.inl q.2.2 :: rest) os) none) = some r) : zOk G W hp0 ν0 g o ft call pool hs tab P (N + 1) pc X loc (.inr (.inr x) :: rest) := by
  intro ν l s hp hr hl hst
  obtain ⟨ux, s1, rfl, ⟨x1, k, x2, rfl⟩, h2⟩ := hst.cons
  obtain ⟨q, hq, h⟩ := xj_some h
  obtain ⟨_, i2, k', i3, i4, i5, i6⟩ := hr.info hq
  have ek : k' = k := by omega
  subst ek
  obtain ⟨h3, h⟩ := cond_some h
  have h4 := zallr_ok h3 _ (HB.1 k' i4).1 i5
  unfold zarrB at h4
  split at h4
  · next qd hqd =>
    obtain ⟨bb, f, f1, f2, f3, f5, f4⟩ := hr.2.2.2.2.1.1.arr i4 hqd
    refine zG.step (stk' := .inl (zat G k') :: s1) ht (fun K9 => ?_) (hK _ _ _ _ _ _ h ν l _ hp hr hl ⟨⟨i2, ?_, ?_⟩, h2⟩)
    · show (match xcell hp k' with
        | some (.inr (.inl c)) => K9 nx l (.inl c.2.1 :: s1) hp
        | _ => none) = _
      rw [f1]
    · rw [← i6]
      exact ⟨by omega, by omega⟩
    · rw [← i6, zc32_nat f5]
  · cases h4
theorem zi_ald {ok : Nat → Bool} {x : Nat} {e : zE} (HB : zBok G o B) (hK : zHK G W hp0 ν0 g o ft call pool hs tab P N K) (ht : xget tab pc = (pc, (i, (len, nx)))) (he : ∀ K l s hp, xstep o ft call pool hs K i pc nx l s hp = (match s with
    | i :: r :: rest => xj (xald ok hp r i) fun v => K nx l (v :: rest) hp
    | _ => none)) (h : zaldf G B ok K X x e nx loc rest os = some r) : zOk G W hp0 ν0 g o ft call pool hs tab P (N + 1) pc X loc (.inl e :: .inr (.inr x) :: rest) := by
  intro ν l s hp hr hl hst
  obtain ⟨ue, s0, rfl, ⟨e1, e2, rfl⟩, h9⟩ := hst.cons
  obtain ⟨ux, s1, rfl, ⟨x1, k, x2, rfl⟩, h2⟩ := h9.cons
  have hF : ∀ f ∈ X.2.1, 0 ≤ zv ν f := fun f hf => (hr.1 f hf).2
  unfold zaldf at h
  split at h
  · next q c1 c2 _ _ t os' hq =>
    obtain ⟨h3, h⟩ := cond_some h
    obtain ⟨h3, h4⟩ := and_true' h3
    obtain ⟨h4, h5⟩ := and_true' h4
    have h3 := zent_ok hF h3
    have h4 := zent_ok hF h4
    obtain ⟨_, i2, k', i3, i4, i5, i6⟩ := hr.info hq
    have ek : k' = k := by omega
    subst ek
    unfold zfLt at h4
    rw [zmad_ok, zmad_ok, zK_ok, ← i6] at h4
    have h6 := zallr_ok h5 _ (HB.1 k' i4).1 i5
    unfold zldB at h6
    split at h6
    · next qd hqd =>
      obtain ⟨h6, h7⟩ := and_true' h6
      obtain ⟨bb, f, f1, f2, f3, f5, f4⟩ := hr.2.2.2.2.1.1.arr i4 hqd
      obtain ⟨n, hn⟩ : ∃ n : Nat, zv ν e = (n : Int) := ⟨(zv ν e).toNat, by omega⟩
      have hn2 : n < zat G k' := by omega
      obtain ⟨t', t1, t2⟩ := f4 n hn2
      have hty := zsubT_ok (zelT_ok h7 hn t1) t2
      have hr9 := zbyT_ok HB hr i2 i6 hty h
      rw [hn, zc32_nat (by omega)]
      refine zG.step ht (fun K9 => ?_) (zgo hK hr9 hl h2)
      rw [he]
      show xj (match xcell hp k' with
        | some (.inr (.inl c)) => cond (ok c.1 && (Nat.blt n c.2.1 && Nat.blt n 2147483648)) (some (xget c.2.2.2 n)) none
        | _ => none) (fun v => K9 nx l (v :: s1) hp) = _
      rw [f1]
      show xj (cond (ok qd.1 && (Nat.blt n (zat G k') && Nat.blt n 2147483648)) (some (xget f n)) none) _ = _
      rw [h6, blt_true hn2, blt_true (show n < 2147483648 by omega)]
      rfl
    · cases h6
  · cases h
theorem zi_ast {ok : Nat → Bool} {kd x : Nat} {e : zE} {v : zV} (hkd : ∀ c u, ok c = true → xfit kd u = true → xkeep c u = some u) (HB : zBok G o B) (hK : zHK G W hp0 ν0 g o ft call pool hs tab P N K) (ht : xget tab pc = (pc, (i, (len, nx)))) (he : ∀ K l s hp, xstep o ft call pool hs K i pc nx l s hp = (match s with
    | v :: i :: r :: rest => xj (xast o ok hp r i v) fun h => K nx l rest h
    | _ => none)) (h : zastf G W B ok kd K X x e v nx loc rest os = some r) : zOk G W hp0 ν0 g o ft call pool hs tab P (N + 1) pc X loc (v :: .inl e :: .inr (.inr x) :: rest) := by
  intro ν l s hp hr hl hst
  obtain ⟨u, s9, rfl, hv, h8⟩ := hst.cons
  obtain ⟨ue, s0, rfl, ⟨e1, e2, rfl⟩, h9⟩ := h8.cons
  obtain ⟨ux, s1, rfl, ⟨x1, k, x2, rfl⟩, h2⟩ := h9.cons
  have hF : ∀ f ∈ X.2.1, 0 ≤ zv ν f := fun f hf => (hr.1 f hf).2
  unfold zastf at h
  split at h
  · next q c1 c2 _ _ t os' hq =>
    obtain ⟨h3, h⟩ := cond_some h
    obtain ⟨o2, hfit, h⟩ := xj_some h
    obtain ⟨h3, h4⟩ := and_true' h3
    obtain ⟨h4, h5⟩ := and_true' h4
    have h3 := zent_ok hF h3
    have h4 := zent_ok hF h4
    obtain ⟨_, i2, k', i3, i4, i5, i6⟩ := hr.info hq
    have ek : k' = k := by omega
    subst ek
    unfold zfLt at h4
    rw [zmad_ok, zmad_ok, zK_ok, ← i6] at h4
    have hb := HB.1 k' i4
    have h6 := zallr_ok h5 _ hb.1 i5
    unfold zstB at h6
    split at h6
    · next qd hqd =>
      obtain ⟨h6, h7⟩ := and_true' h6
      obtain ⟨h7, h10⟩ := and_true' h7
      obtain ⟨h10, h11⟩ := and_true' h10
      obtain ⟨h11, h12⟩ := and_true' h11
      have hTy := hr.2.2.2.2.1.1
      obtain ⟨bb, f, f1, f2, f3, f5, f4⟩ := hTy.arr i4 hqd
      obtain ⟨n, hn⟩ : ∃ n : Nat, zv ν e = (n : Int) := ⟨(zv ν e).toNat, by omega⟩
      have hn2 : n < zat G k' := by omega
      obtain ⟨t', t1, -⟩ := f4 n hn2
      obtain ⟨v1, v2⟩ := zfitV_ok (k := k') HB hr i6 hv hfit
      obtain ⟨w1, w2⟩ := hTy.puta i4 hqd f1 hn2 t1 (zsubT_ok (zelT_ok h7 hn t1) v1)
      have ho : o ≤ k' := hb.2.2.2 h11
      rw [hn, zc32_nat (by omega)]
      refine zG.step (hp' := xput hp k' (some (.inr (.inl (qd.1, (zat G k', (bb, xset u n bb 0 f))))))) ht (fun K9 => ?_) (hK _ _ _ _ _ _ h ν l s1 _ ?_ hl h2)
      · rw [he]
        show xj (match xcell hp k' with
          | some (.inr (.inl c)) => match xkeep c.1 u with
            | some w => cond (ok c.1 && (Nat.blt n c.2.1 && (Nat.blt n 2147483648 && (Nat.ble o k' && Nat.blt n (Nat.pow 2 c.2.2.1))))) (some (xput hp k' (some (.inr (.inl (c.1, (c.2.1, (c.2.2.1, xset w n c.2.2.1 0 c.2.2.2)))))))) none
            | none => none
          | _ => none) (fun h => K9 nx l s1 h) = _
        rw [f1]
        show xj (match xkeep qd.1 u with
            | some w => cond (ok qd.1 && (Nat.blt n (zat G k') && (Nat.blt n 2147483648 && (Nat.ble o k' && Nat.blt n (Nat.pow 2 bb))))) (some (xput hp k' (some (.inr (.inl (qd.1, (zat G k', (bb, xset w n bb 0 f)))))))) none
            | none => none) (fun h => K9 nx l s1 h) = _
        rw [hkd _ _ h6 v2]
        show xj (cond (ok qd.1 && (Nat.blt n (zat G k') && (Nat.blt n 2147483648 && (Nat.ble o k' && Nat.blt n (Nat.pow 2 bb))))) (some _) none) (fun h => K9 nx l s1 h) = _
        rw [h6, blt_true hn2, blt_true (show n < 2147483648 by omega), Nat.ble_eq_true_of_le ho, blt_true (show n < Nat.pow 2 bb from Nat.lt_of_lt_of_le hn2 f3)]
        rfl
      · obtain ⟨b1, b2, b3, b4, b5, b6, b7⟩ := hr
        refine ⟨b1, b2, fun c hc => ?_, b4, ⟨w1, HB.2 _ _ (fun k2 j2 _ hj2 => by
          rw [w2, if_neg]
          rintro ⟨rfl, rfl⟩
          obtain ⟨z9, z1, z2⟩ := List.any_eq_true.mp hj2
          obtain ⟨z2, -⟩ := and_true' z2
          rw [List.any_eq_true.mpr ⟨z9, z1, z2⟩] at h12
          cases h12) b5.2⟩, fun k2 j2 hk2 hw2 => ?_, b7⟩
        · obtain ⟨c3, c4, k9, c5, c7, c6⟩ := b3 c hc
          refine ⟨c3, c4, k9, c5, c7, ?_⟩
          rw [w2, if_neg fun z => ?_]
          · exact c6
          · obtain ⟨-, q9, hq9⟩ := c7
            rw [z.1, hqd] at hq9
            cases hq9
        · rw [w2, if_neg fun z => ?_]
          · exact b6 k2 j2 hk2 hw2
          · obtain ⟨z9, hz9, hz8⟩ := List.any_eq_true.mp h10
            obtain ⟨hz7, hz6⟩ := and_true' hz8
            have : zwr W (zro G k2) j2 = true := by
              refine List.any_eq_true.mpr ⟨z9, hz9, ?_⟩
              rw [z.1, hz7, hz6, Bool.or_true]
              rfl
            rw [this] at hw2
            cases hw2
    · cases h6
  · cases h
end ZArrays
