/-! ===== the checker's steps, sound: branches, the stack ===== -/
def zaddf (X : zQ) (Fs : List zE) : zQ := (X.1, (Fs ++ X.2.1, X.2.2))
/-- a is not above b; a is below b -/
def zfLe (a b : zE) : zE := zmad (-1) a b
def zfLt (a b : zE) : zE := zmad (-1) a (zmad 1 b (zK (-1)))
def zbr (K : zKs) (X : zQ) (c : ClassFile.Cond) (a b : zE) (tgt nx : Nat) (loc : zLc) (rest : List zV) (os : List zO) : Option (List zO) := match zisK a, zisK b with
  | some x, some y => cond (zcp c x y) (K tgt X loc rest os) (K nx X loc rest os)
  | _, _ => match c with
    | .eq => xj (K tgt (zaddf X [zfLe a b, zfLe b a]) loc rest os) fun o1 => xj (K nx (zaddf X [zfLt a b]) loc rest o1) fun o2 => K nx (zaddf X [zfLt b a]) loc rest o2
    | .ne => xj (K nx (zaddf X [zfLe a b, zfLe b a]) loc rest os) fun o1 => xj (K tgt (zaddf X [zfLt a b]) loc rest o1) fun o2 => K tgt (zaddf X [zfLt b a]) loc rest o2
    | .lt => xj (K tgt (zaddf X [zfLt a b]) loc rest os) fun o1 => K nx (zaddf X [zfLe b a]) loc rest o1
    | .ge => xj (K nx (zaddf X [zfLt a b]) loc rest os) fun o1 => K tgt (zaddf X [zfLe b a]) loc rest o1
    | .gt => xj (K tgt (zaddf X [zfLt b a]) loc rest os) fun o1 => K nx (zaddf X [zfLe a b]) loc rest o1
    | .le => xj (K nx (zaddf X [zfLt b a]) loc rest os) fun o1 => K tgt (zaddf X [zfLe a b]) loc rest o1
section ZBranch
variable {G : zW} {W : zWr} {hp0 : xH} {ν0 : Nat → Int} {g : List zE} {o : Nat} {ft : Nat → List Nat} {call : xF} {pool : Nat → xP} {hs : List (Nat × (Nat × (Nat × Nat)))} {tab : Lean.RArray xI} {P : xE → Prop} {N : Nat}
variable {K : zKs} {pc nx len : Nat} {X : zQ} {loc : zLc} {stk rest : List zV} {os r : List zO} {ν : Nat → Int} {l : List (Nat × xA)} {s : List xA} {hp : xH} {u : xA} {i : Instr}
theorem zrun (hK : zHK G W hp0 ν0 g o ft call pool hs tab P N K) {pc' : Nat} {Fs : List zE} (hk : K pc' (zaddf X Fs) loc rest os = some r) (hF : ∀ f ∈ Fs, zlt X.1 f ∧ 0 ≤ zv ν f) (hr : zRel G W hp0 ν0 g ν X hp) (hl : zLo X.1 ν loc l) (hst : zSt X.1 ν rest s) : zG o ft call pool hs tab P N pc' l s hp := hK _ _ _ _ _ _ hk ν l s hp (hr.fact Fs hF) hl hst
theorem zfLe_ok {n : Nat} {a b : zE} (ha : zlt n a) (hb : zlt n b) (h : zv ν a ≤ zv ν b) : zlt n (zfLe a b) ∧ 0 ≤ zv ν (zfLe a b) := ⟨zmad_lt ha hb, by unfold zfLe; rw [zmad_ok]; omega⟩
theorem zfLt_ok {n : Nat} {a b : zE} (ha : zlt n a) (hb : zlt n b) (h : zv ν a < zv ν b) : zlt n (zfLt a b) ∧ 0 ≤ zv ν (zfLt a b) := ⟨zmad_lt ha (zmad_lt hb (zlt_K _ _)), by unfold zfLt; rw [zmad_ok, zmad_ok, zK_ok]; omega⟩
theorem zall1 {Q : zE → Prop} {a : zE} (h : Q a) : ∀ f ∈ [a], Q f := fun f hf => by
  rcases List.mem_cons.mp hf with rfl | hf
  · exact h
  · cases hf
theorem zall2 {Q : zE → Prop} {a b : zE} (h : Q a) (h2 : Q b) : ∀ f ∈ [a, b], Q f := fun f hf => by
  rcases List.mem_cons.mp hf with rfl | hf
  · exact h
  · exact zall1 h2 f hf
theorem zbr_ok (hK : zHK G W hp0 ν0 g o ft call pool hs tab P N K) {c : ClassFile.Cond} {a b : zE} {tgt : Nat} (hk : zbr K X c a b tgt nx loc rest os = some r) (ha : zlt X.1 a) (hb : zlt X.1 b) (hr : zRel G W hp0 ν0 g ν X hp) (hl : zLo X.1 ν loc l) (hst : zSt X.1 ν rest s) : zG o ft call pool hs tab P N (cond (zcp c (zv ν a) (zv ν b)) tgt nx) l s hp := by
  unfold zbr at hk
  split at hk
  · next x y h1 h2 =>
    rw [zisK_ok (ν := ν) h1, zisK_ok (ν := ν) h2]
    cases hz : zcp c x y with
    | true => rw [hz, cond_true] at hk; exact hK _ _ _ _ _ _ hk ν l s hp hr hl hst
    | false => rw [hz, cond_false] at hk; exact hK _ _ _ _ _ _ hk ν l s hp hr hl hst
  · have tri : zv ν a < zv ν b ∨ zv ν a = zv ν b ∨ zv ν b < zv ν a := Int.lt_trichotomy _ _
    have Lt : zv ν a < zv ν b → ∀ f ∈ [zfLt a b], zlt X.1 f ∧ 0 ≤ zv ν f := fun h => zall1 (zfLt_ok ha hb h)
    have Gt : zv ν b < zv ν a → ∀ f ∈ [zfLt b a], zlt X.1 f ∧ 0 ≤ zv ν f := fun h => zall1 (zfLt_ok hb ha h)
    have Le : zv ν a ≤ zv ν b → ∀ f ∈ [zfLe a b], zlt X.1 f ∧ 0 ≤ zv ν f := fun h => zall1 (zfLe_ok ha hb h)
    have Ge : zv ν b ≤ zv ν a → ∀ f ∈ [zfLe b a], zlt X.1 f ∧ 0 ≤ zv ν f := fun h => zall1 (zfLe_ok hb ha h)
    have Eq : zv ν a = zv ν b → ∀ f ∈ [zfLe a b, zfLe b a], zlt X.1 f ∧ 0 ≤ zv ν f := fun h => zall2 (zfLe_ok ha hb (by omega)) (zfLe_ok hb ha (by omega))
    cases c with
    | eq =>
      obtain ⟨o1, k1, hk⟩ := xj_some hk
      obtain ⟨o2, k2, k3⟩ := xj_some hk
      rcases tri with h | h | h
      · rw [show zcp .eq (zv ν a) (zv ν b) = false from decide_eq_false (by omega)]
        exact zrun hK k2 (Lt h) hr hl hst
      · rw [show zcp .eq (zv ν a) (zv ν b) = true from decide_eq_true h]
        exact zrun hK k1 (Eq h) hr hl hst
      · rw [show zcp .eq (zv ν a) (zv ν b) = false from decide_eq_false (by omega)]
        exact zrun hK k3 (Gt h) hr hl hst
    | ne =>
      obtain ⟨o1, k1, hk⟩ := xj_some hk
      obtain ⟨o2, k2, k3⟩ := xj_some hk
      rcases tri with h | h | h
      · rw [show zcp .ne (zv ν a) (zv ν b) = true from congrArg (!·) (decide_eq_false (show ¬ zv ν a = zv ν b by omega))]
        exact zrun hK k2 (Lt h) hr hl hst
      · rw [show zcp .ne (zv ν a) (zv ν b) = false from congrArg (!·) (decide_eq_true h)]
        exact zrun hK k1 (Eq h) hr hl hst
      · rw [show zcp .ne (zv ν a) (zv ν b) = true from congrArg (!·) (decide_eq_false (show ¬ zv ν a = zv ν b by omega))]
        exact zrun hK k3 (Gt h) hr hl hst
    | lt =>
      obtain ⟨o1, k1, k2⟩ := xj_some hk
      by_cases h : zv ν a < zv ν b
      · rw [show zcp .lt (zv ν a) (zv ν b) = true from decide_eq_true h]
        exact zrun hK k1 (Lt h) hr hl hst
      · rw [show zcp .lt (zv ν a) (zv ν b) = false from decide_eq_false h]
        exact zrun hK k2 (Ge (by omega)) hr hl hst
    | ge =>
      obtain ⟨o1, k1, k2⟩ := xj_some hk
      by_cases h : zv ν a < zv ν b
      · rw [show zcp .ge (zv ν a) (zv ν b) = false from congrArg (!·) (decide_eq_true h)]
        exact zrun hK k1 (Lt h) hr hl hst
      · rw [show zcp .ge (zv ν a) (zv ν b) = true from congrArg (!·) (decide_eq_false h)]
        exact zrun hK k2 (Ge (by omega)) hr hl hst
    | gt =>
      obtain ⟨o1, k1, k2⟩ := xj_some hk
      by_cases h : zv ν b < zv ν a
      · rw [show zcp .gt (zv ν a) (zv ν b) = true from decide_eq_true h]
        exact zrun hK k1 (Gt h) hr hl hst
      · rw [show zcp .gt (zv ν a) (zv ν b) = false from decide_eq_false h]
        exact zrun hK k2 (Le (by omega)) hr hl hst
    | le =>
      obtain ⟨o1, k1, k2⟩ := xj_some hk
      by_cases h : zv ν b < zv ν a
      · rw [show zcp .le (zv ν a) (zv ν b) = false from congrArg (!·) (decide_eq_true h)]
        exact zrun hK k1 (Gt h) hr hl hst
      · rw [show zcp .le (zv ν a) (zv ν b) = true from congrArg (!·) (decide_eq_false h)]
        exact zrun hK k2 (Le (by omega)) hr hl hst
theorem xif_eq {K9 : xK} {off : Int} {tgt : Nat} (ht : xtgt pc off = some tgt) (b : Bool) : xif K9 pc nx off l s hp (some b) = K9 (cond b tgt nx) l s hp := by
  unfold xif
  rw [ht]
  cases b <;> rfl
theorem zi_ifc {c : ClassFile.Cond} {off : Int} {a : zE} (hK : zHK G W hp0 ν0 g o ft call pool hs tab P N K) (ht : xget tab pc = (pc, (.ifCond c off, (len, nx)))) (h : (xj (xtgt pc off) fun tgt => zbr K X c a (zK 0) tgt nx loc rest os) = some r) : zOk G W hp0 ν0 g o ft call pool hs tab P (N + 1) pc X loc (.inl a :: rest) := by
  intro ν l s hp hr hl hst
  obtain ⟨ua, s1, rfl, ⟨a1, a2, rfl⟩, h2⟩ := hst.cons
  obtain ⟨tgt, h3, h4⟩ := xj_some h
  have h5 := zbr_ok hK h4 a1 (zlt_K _ _) hr hl h2
  rw [zK_ok] at h5
  refine zG.step ht (fun K9 => ?_) h5
  show xj (xbd (.inl (zc32 (zv ν a)))) (fun p => xif K9 pc nx off l s1 hp (xcnd c p (2147483648, 2147483648))) = _
  rw [zbd a2]
  show xif K9 pc nx off l s1 hp (xcnd c ((zv ν a + 2147483648).toNat, (zv ν a + 2147483648).toNat) ((0 + 2147483648 : Int).toNat, (0 + 2147483648 : Int).toNat)) = _
  rw [zxcnd c a2 ⟨by omega, by omega⟩]
  exact xif_eq h3 _
theorem zi_icmp {c : ClassFile.Cond} {off : Int} {a b : zE} (hK : zHK G W hp0 ν0 g o ft call pool hs tab P N K) (ht : xget tab pc = (pc, (.if_icmp c off, (len, nx)))) (h : (xj (xtgt pc off) fun tgt => zbr K X c a b tgt nx loc rest os) = some r) : zOk G W hp0 ν0 g o ft call pool hs tab P (N + 1) pc X loc (.inl b :: .inl a :: rest) := by
  intro ν l s hp hr hl hst
  obtain ⟨ub, s1, rfl, ⟨b1, b2, rfl⟩, h9⟩ := hst.cons
  obtain ⟨ua, s2, rfl, ⟨a1, a2, rfl⟩, h2⟩ := h9.cons
  obtain ⟨tgt, h3, h4⟩ := xj_some h
  have h5 := zbr_ok hK h4 a1 b1 hr hl h2
  refine zG.step ht (fun K9 => ?_) h5
  show xj (xbd (.inl (zc32 (zv ν a)))) (fun p => xj (xbd (.inl (zc32 (zv ν b)))) fun q => xif K9 pc nx off l s2 hp (xcnd c p q)) = _
  rw [zbd a2, zbd b2]
  show xif K9 pc nx off l s2 hp (xcnd c ((zv ν a + 2147483648).toNat, (zv ν a + 2147483648).toNat) ((zv ν b + 2147483648).toNat, (zv ν b + 2147483648).toNat)) = _
  rw [zxcnd c a2 b2]
  exact xif_eq h3 _
theorem zi_goto {off : Int} (hK : zHK G W hp0 ν0 g o ft call pool hs tab P N K) (ht : xget tab pc = (pc, (.goto off, (len, nx)))) (h : (xj (xtgt pc off) fun tgt => K tgt X loc stk os) = some r) : zOk G W hp0 ν0 g o ft call pool hs tab P (N + 1) pc X loc stk := by
  intro ν l s hp hr hl hst
  obtain ⟨tgt, h3, h4⟩ := xj_some h
  exact zG.step ht (fun K9 => by show xj (xtgt pc off) _ = _; rw [h3]; rfl) (hK _ _ _ _ _ _ h4 ν l s hp hr hl hst)
/-- a comparison of longs -/
def zcmp3 (K : zKs) (X : zQ) (a b : zE) (nx : Nat) (loc : zLc) (rest : List zV) (os : List zO) : Option (List zO) := match zisK a, zisK b with
  | some x, some y => K nx X loc (.inl (zK (cond (decide (x < y)) (-1) (cond (decide (x = y)) 0 1))) :: rest) os
  | _, _ => xj (K nx (zaddf X [zfLt a b]) loc (.inl (zK (-1)) :: rest) os) fun o1 => xj (K nx (zaddf X [zfLe a b, zfLe b a]) loc (.inl (zK 0) :: rest) o1) fun o2 => K nx (zaddf X [zfLt b a]) loc (.inl (zK 1) :: rest) o2
theorem xlcmp_of {a b : xA} {p q : Nat} (ha : xbdl a = some (p, p)) (hb : xbdl b = some (q, q)) : xlcmp a b = some (.inl (cond (decide (p < q)) 4294967295 (cond (decide (p = q)) 0 1))) := by
  unfold xlcmp
  rw [ha, hb]
  show (match xeq (p, p) (q, q) with
    | some true => some (Sum.inl 0)
    | some false => match xlt (p, p) (q, q) with
      | some true => some (Sum.inl 4294967295)
      | some false => some (Sum.inl 1)
      | none => none
    | none => none) = _
  rw [zxeq, zxlt]
  by_cases h : p = q
  · rw [decide_eq_true h, decide_eq_false (show ¬ p < q by omega)]
    rfl
  · rw [decide_eq_false h]
    by_cases h2 : p < q
    · rw [decide_eq_true h2]
      rfl
    · rw [decide_eq_false h2]
      rfl
theorem zb64_lt {a b : Int} (ha : zi64 a) (hb : zi64 b) : ((a + 9223372036854775808).toNat < (b + 9223372036854775808).toNat) ↔ a < b := by
  obtain ⟨a1, a2⟩ := ha
  obtain ⟨b1, b2⟩ := hb
  omega
theorem zb64_eq {a b : Int} (ha : zi64 a) (hb : zi64 b) : ((a + 9223372036854775808).toNat = (b + 9223372036854775808).toNat) ↔ a = b := by
  obtain ⟨a1, a2⟩ := ha
  obtain ⟨b1, b2⟩ := hb
  omega
theorem zc32_m1 : zc32 (-1) = 4294967295 := by decide
theorem xlcmp_eq {a b : Int} (ha : zi64 a) (hb : zi64 b) : xlcmp (.inr (.inl (zc64 a))) (.inr (.inl (zc64 b))) = some (.inl (zc32 (cond (decide (a < b)) (-1) (cond (decide (a = b)) 0 1)))) := by
  have h1 := zbdl ha
  have h2 := zbdl hb
  have e1 := zb64_lt ha hb
  have e2 := zb64_eq ha hb
  generalize (a + 9223372036854775808).toNat = p at h1 e1 e2
  generalize (b + 9223372036854775808).toNat = q at h2 e1 e2
  rw [xlcmp_of h1 h2, decide_eq_decide.mpr e1, decide_eq_decide.mpr e2]
  cases decide (a < b) with
  | true => rw [cond_true, cond_true, zc32_m1]
  | false =>
    rw [cond_false, cond_false]
    cases decide (a = b) <;> rfl
theorem zi_lcmp {a b : zE} (hK : zHK G W hp0 ν0 g o ft call pool hs tab P N K) (ht : xget tab pc = (pc, (.lcmp, (len, nx)))) (h : zcmp3 K X a b nx loc rest os = some r) : zOk G W hp0 ν0 g o ft call pool hs tab P (N + 1) pc X loc (.inr (.inl b) :: .inr (.inl a) :: rest) := by
  intro ν l s hp hr hl hst
  obtain ⟨ub, s1, rfl, ⟨b1, b2, rfl⟩, h9⟩ := hst.cons
  obtain ⟨ua, s2, rfl, ⟨a1, a2, rfl⟩, h2⟩ := h9.cons
  have lit : ∀ z : Int, zi32 z → zR X.1 ν (.inl (zK z)) (.inl (zc32 z)) := fun z hz => ⟨zlt_K _ _, by rw [zK_ok]; exact hz, by rw [zK_ok]⟩
  refine zG.step (pc' := nx) (loc' := l) (stk' := .inl (zc32 (cond (decide (zv ν a < zv ν b)) (-1) (cond (decide (zv ν a = zv ν b)) 0 1))) :: s2) (hp' := hp) ht (fun K9 => ?_) ?_
  · show xj (xlcmp (.inr (.inl (zc64 (zv ν a)))) (.inr (.inl (zc64 (zv ν b))))) (fun v => K9 nx l (v :: s2) hp) = _
    rw [xlcmp_eq a2 b2]
    rfl
  unfold zcmp3 at h
  split at h
  · next x y h3 h4 =>
    rw [zisK_ok (ν := ν) h3, zisK_ok (ν := ν) h4]
    refine hK _ _ _ _ _ _ h ν l _ hp hr hl ⟨lit _ ?_, h2⟩
    cases decide (x < y) <;> cases decide (x = y) <;> (constructor <;> decide)
  · obtain ⟨o1, k1, h⟩ := xj_some h
    obtain ⟨o2, k2, k3⟩ := xj_some h
    rcases Int.lt_trichotomy (zv ν a) (zv ν b) with h | h | h
    · rw [decide_eq_true h]
      exact zrun hK k1 (zall1 (zfLt_ok a1 b1 h)) hr hl ⟨lit (-1) ⟨by omega, by omega⟩, h2⟩
    · rw [decide_eq_false (show ¬ zv ν a < zv ν b by omega), decide_eq_true h]
      exact zrun hK k2 (zall2 (zfLe_ok a1 b1 (by omega)) (zfLe_ok b1 a1 (by omega))) hr hl ⟨lit 0 ⟨by omega, by omega⟩, h2⟩
    · rw [decide_eq_false (show ¬ zv ν a < zv ν b by omega), decide_eq_false (show ¬ zv ν a = zv ν b by omega)]
      exact zrun hK k3 (zall1 (zfLt_ok b1 a1 h)) hr hl ⟨lit 1 ⟨by omega, by omega⟩, h2⟩
/-- the stack -/
theorem zi_dup {v : zV} (hK : zHK G W hp0 ν0 g o ft call pool hs tab P N K) (ht : xget tab pc = (pc, (.dup, (len, nx)))) (h : cond (Nat.beq (zcat v) 1) (K nx X loc (v :: v :: rest) os) none = some r) : zOk G W hp0 ν0 g o ft call pool hs tab P (N + 1) pc X loc (v :: rest) := by
  intro ν l s hp hr hl hst
  obtain ⟨u, s1, rfl, h1, h2⟩ := hst.cons
  obtain ⟨h3, h4⟩ := cond_some h
  exact zG.step ht (fun K9 => by show cond (Nat.beq (xcat u) 1) _ none = _; rw [h1.cat, h3]; rfl) (hK _ _ _ _ _ _ h4 ν l (u :: u :: s1) hp hr hl ⟨h1, h1, h2⟩)
theorem zi_dup_x1 {v w : zV} (hK : zHK G W hp0 ν0 g o ft call pool hs tab P N K) (ht : xget tab pc = (pc, (.dup_x1, (len, nx)))) (h : cond (Nat.beq (zcat v) 1 && Nat.beq (zcat w) 1) (K nx X loc (v :: w :: v :: rest) os) none = some r) : zOk G W hp0 ν0 g o ft call pool hs tab P (N + 1) pc X loc (v :: w :: rest) := by
  intro ν l s hp hr hl hst
  obtain ⟨u, s1, rfl, h1, h2⟩ := hst.cons
  obtain ⟨t, s2, rfl, h5, h6⟩ := h2.cons
  obtain ⟨h3, h4⟩ := cond_some h
  exact zG.step ht (fun K9 => by show cond (Nat.beq (xcat u) 1 && Nat.beq (xcat t) 1) _ none = _; rw [h1.cat, h5.cat, h3]; rfl) (hK _ _ _ _ _ _ h4 ν l (u :: t :: u :: s2) hp hr hl ⟨h1, h5, h1, h6⟩)
theorem zi_dup2 {v w : zV} (hK : zHK G W hp0 ν0 g o ft call pool hs tab P N K) (ht : xget tab pc = (pc, (.dup2, (len, nx)))) (h : cond (Nat.beq (zcat v) 1 && Nat.beq (zcat w) 1) (K nx X loc (v :: w :: v :: w :: rest) os) none = some r) : zOk G W hp0 ν0 g o ft call pool hs tab P (N + 1) pc X loc (v :: w :: rest) := by
  intro ν l s hp hr hl hst
  obtain ⟨u, s1, rfl, h1, h2⟩ := hst.cons
  obtain ⟨t, s2, rfl, h5, h6⟩ := h2.cons
  obtain ⟨h3, h4⟩ := cond_some h
  exact zG.step ht (fun K9 => by show cond (Nat.beq (xcat u) 1 && Nat.beq (xcat t) 1) _ none = _; rw [h1.cat, h5.cat, h3]; rfl) (hK _ _ _ _ _ _ h4 ν l (u :: t :: u :: t :: s2) hp hr hl ⟨h1, h5, h1, h5, h6⟩)
theorem zi_pop {v : zV} (hK : zHK G W hp0 ν0 g o ft call pool hs tab P N K) (ht : xget tab pc = (pc, (.pop, (len, nx)))) (h : cond (Nat.beq (zcat v) 1) (K nx X loc rest os) none = some r) : zOk G W hp0 ν0 g o ft call pool hs tab P (N + 1) pc X loc (v :: rest) := by
  intro ν l s hp hr hl hst
  obtain ⟨u, s1, rfl, h1, h2⟩ := hst.cons
  obtain ⟨h3, h4⟩ := cond_some h
  exact zG.step ht (fun K9 => by show cond (Nat.beq (xcat u) 1) _ none = _; rw [h1.cat, h3]; rfl) (hK _ _ _ _ _ _ h4 ν l s1 hp hr hl h2)
theorem zi_pop2 {v : zV} (hK : zHK G W hp0 ν0 g o ft call pool hs tab P N K) (ht : xget tab pc = (pc, (.pop2, (len, nx)))) (h : cond (Nat.beq (zcat v) 2) (K nx X loc rest os) none = some r) : zOk G W hp0 ν0 g o ft call pool hs tab P (N + 1) pc X loc (v :: rest) := by
  intro ν l s hp hr hl hst
  obtain ⟨u, s1, rfl, h1, h2⟩ := hst.cons
  obtain ⟨h3, h4⟩ := cond_some h
  exact zG.step ht (fun K9 => by show cond (Nat.beq (xcat u) 2) _ none = _; rw [h1.cat, h3]; rfl) (hK _ _ _ _ _ _ h4 ν l s1 hp hr hl h2)
end ZBranch
