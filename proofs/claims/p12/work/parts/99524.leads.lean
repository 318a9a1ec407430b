/-! ===== the reference: rows and their leads ===== -/
section MLeads
variable {hp hq h1 h2 : xH} {P y z f : Int} {R r k n c : Nat}
/-- the first of a row that is not 0 -/
def mFst (hp : xH) (n r c : Nat) : Prop := c < n ∧ mmM hp r c ≠ 0 ∧ ∀ j, j < c → mmM hp r j = 0
theorem mFst.uq {c2 : Nat} (h : mFst hp n r c) (g : mFst hp n r c2) : c2 = c := by
  rcases Nat.lt_trichotomy c2 c with e | e | e
  · exact absurd (h.2.2 c2 e) g.2.1
  · exact e
  · exact absurd (g.2.2 c e) h.2.1
theorem mFst_of (hp : xH) (n r : Nat) : ∀ m k, k < m → k < n → mmM hp r k ≠ 0 → ∃ c, mFst hp n r c
  | 0, k, hk, _, _ => absurd hk (by omega)
  | m + 1, k, hk, hn, h0 => by
    rcases Classical.em (∃ j, j < k ∧ mmM hp r j ≠ 0) with e | e
    · obtain ⟨j, j1, j2⟩ := e
      exact mFst_of hp n r m j (by omega) (by omega) j2
    · exact ⟨k, hn, h0, fun j hj => Decidable.byContradiction fun g => e ⟨j, hj, g⟩⟩
theorem mFst.cg (h : mFst hp n r c) (hn : n ≤ 48) (e : ∀ j, j < 48 → mmM hq r j = mmM hp r j) : mFst hq n r c :=
  ⟨h.1, by rw [e c (by have := h.1; omega)]; exact h.2.1, fun j hj => by rw [e j (by have := h.1; omega)]; exact h.2.2 j hj⟩
/-- each of the first rows has a lead, and those behind it are 0 there -/
def mLd (hp : xH) (P : Int) (n R : Nat) : Prop := mRng hp P R n ∧ ∀ r, r < R → (∃ c, mFst hp n r c) ∧ ∀ s, r < s → s < R → ∀ c, mFst hp n r c → mmM hp s c = 0
theorem mLd.zero : mLd hp P n 0 := ⟨fun r hr => absurd hr (by omega), fun r hr => absurd hr (by omega)⟩
theorem mLd.cg (h : mLd hp P n R) (hn : n ≤ 48) (e : ∀ s, s < R → ∀ j, j < 48 → mmM hq s j = mmM hp s j) : mLd hq P n R := by
  refine ⟨fun r hr k hk => by rw [e r hr k (by omega)]; exact h.1 r hr k hk, fun r hr => ⟨?_, fun s h1 h2 c hc => ?_⟩⟩
  · obtain ⟨c, hc⟩ := (h.2 r hr).1
    exact ⟨c, hc.cg hn (e r hr)⟩
  · have hc2 : mFst hp n r c := hc.cg hn fun j hj => (e r hr j hj).symm
    rw [e s h2 c (by have := hc.1; omega)]
    exact (h.2 r hr).2 s h1 h2 c hc2
theorem mLd.rank (h : mLd hp P n R) : R ≤ n := by
  apply Decidable.byContradiction
  intro hn
  have hc : ∀ r, ∃ c, r < R → mFst hp n r c := fun r => by
    by_cases e : r < R
    · obtain ⟨c, hc⟩ := (h.2 r e).1
      exact ⟨c, fun _ => hc⟩
    · exact ⟨0, fun g => absurd g e⟩
  have hf : ∀ r, r < R → mFst hp n r (Classical.choose (hc r)) := fun r => Classical.choose_spec (hc r)
  obtain ⟨i, j, h1, h2, h3⟩ := mPigeon n R (fun r => Classical.choose (hc r)) (fun i hi => (hf i hi).1) (by omega)
  have h3 : Classical.choose (hc i) = Classical.choose (hc j) := h3
  have a := (h.2 i (by omega)).2 j h1 h2 _ (hf i (by omega))
  have b := (hf j h2).2.1
  rw [← h3] at b
  exact b a
theorem mLd.lt {K : Int} (h : mLd hp P n R) (hr : r < R) (hz : ∀ j : Nat, (j : Int) < K → mmM hp r j = 0) : K ≤ (n : Int) - 1 := by
  obtain ⟨c, hc⟩ := (h.2 r hr).1
  apply Decidable.byContradiction
  intro g
  exact hc.2.1 (hz c (by have := hc.1; omega))
/-- a row is of the prime, up to a column -/
def mRo (hp : xH) (P : Int) (R : Nat) (K : Int) : Prop := ∀ k : Nat, (k : Int) < K → 0 ≤ mmM hp R k ∧ mmM hp R k < P
theorem mRo.start : mRo hp P R 0 := fun k hk => absurd hk (by omega)
theorem mRo.up {K J : Int} (h : mRo hp P R K) (hJ : J ≤ K) : mRo hp P R J := fun k hk => h k (by omega)
theorem mRo.put {i K : Int} (h : mRo hq P R K) (hK : K = (k : Int)) (hk : k < 48) (hy : ∀ x t, ys h2 x t = if x = 2083 ∧ t = i.toNat then z else ys hq x t) (hi : i = 48 * (R : Int) + (k : Int)) (h0 : 0 ≤ z) (h1 : z < P) : mRo h2 P R (K + 1) := fun j hj => by
  rw [mmM_put hy hi hk R j (by omega)]
  by_cases e : j = k
  · rw [if_pos ⟨rfl, e⟩]; exact ⟨h0, h1⟩
  · rw [if_neg (fun g => e g.2)]; exact h j (by omega)
theorem mLd.put {i : Int} {r : Nat} (h : mLd hq P n R) (hn : n ≤ 48) (hr : R ≤ r) (hk : k < 48) (hy : ∀ x t, ys h2 x t = if x = 2083 ∧ t = i.toNat then z else ys hq x t) (hi : i = 48 * (r : Int) + (k : Int)) : mLd h2 P n R := h.cg hn fun s hs j hj => by
  rw [mmM_put hy hi hk s j hj, if_neg (by omega)]
/-- the row behind is 0 at the leads of the first F rows -/
def mIs (hp hq : xH) (P : Int) (n R : Nat) (F : Int) : Prop := (∀ s, s < R → ∀ j, j < 48 → mmM hq s j = mmM hp s j) ∧ mRo hq P R n ∧ ∀ r : Nat, (r : Int) < F → ∀ c, mFst hq n r c → mmM hq R c = 0
theorem mIs.start (h : mRo hp P R n) : mIs hp hp P n R 0 := ⟨fun _ _ _ _ => rfl, h, fun r hr => absurd hr (by omega)⟩
def mIt (hp hq : xH) (P : Int) (n R : Nat) (F K f : Int) : Prop := (∀ s, s < R → ∀ j, j < 48 → mmM hq s j = mmM hp s j) ∧ ∃ (r c : Nat) (u : Nat → Int), F = (r : Int) ∧ mFst hq n r c ∧ (∀ k, k < n → 0 ≤ u k ∧ u k < P) ∧ (∀ s, s < r → ∀ e, mFst hq n s e → u e = 0) ∧ P ∣ u c - f * mmM hq r c ∧ (∀ k : Nat, (k : Int) < K → (P ∣ mmM hq R k - (u k - f * mmM hq r k)) ∧ 0 ≤ mmM hq R k ∧ mmM hq R k < P) ∧ ∀ k : Nat, K ≤ (k : Int) → k < 48 → mmM hq R k = u k
theorem mIs.go {C F b m a : Int} (h : mIs hp hq P n R F) (hF : F = (r : Int)) (hC : C = (c : Int)) (hcn : c < n) (hn : n ≤ 48) (hz : ∀ j : Nat, (j : Int) < C → mmM hq r j = 0) (hm : m = mmM hq r c) (ha : a = mmM hq R c) (h0 : m ≠ 0) (hf : P ∣ f - a * b) (hb : P ∣ m * b - 1) : mIt hp hq P n R F 0 f := by
  subst hF hC hm ha
  refine ⟨h.1, r, c, fun k => mmM hq R k, rfl, ⟨hcn, h0, fun j hj => hz j (by omega)⟩, fun k hk => h.2.1 k (by omega), fun s hs e he => h.2.2 s (by omega) e he, ?_, fun k hk => absurd hk (by omega), fun _ _ _ => rfl⟩
  show P ∣ mmM hq R c - f * mmM hq r c
  have e1 := mdv_mul hf (mdv_rf P (mmM hq r c))
  have e2 : P ∣ mmM hq R c * (mmM hq r c * b) - mmM hq R c * 1 := mdv_mul (mdv_rf P _) hb
  have e3 := mdv_tr e1 (by rw [show mmM hq R c * b * mmM hq r c = mmM hq R c * (mmM hq r c * b) by rw [Int.mul_assoc, Int.mul_comm b]]; exact e2)
  rw [Int.mul_one] at e3
  exact mdv_sy e3
theorem mIt.step {i m s9 F K : Int} {r0 : Nat} (h : mIt hp hq P n R F K f) (hF : F = (r0 : Int)) (hR : r0 < R) (hn : n ≤ 48) (hK : K = (k : Int)) (hk : k < 48) (hy : ∀ x t, ys h2 x t = if x = 2083 ∧ t = i.toNat then z else ys hq x t) (hi : i = 48 * (R : Int) + (k : Int)) (hm : m = mmM hq R k) (hs : s9 = mmM hq r0 k) (hz : P ∣ z - (m - f * s9)) (hz0 : 0 ≤ z) (hz1 : z < P) : mIt hp h2 P n R F (K + 1) f := by
  obtain ⟨a1, r, c, u, b1, b3, b4, b5, b6, b7, b8⟩ := h
  have hr : r = r0 := by omega
  subst hr
  have e := mmM_put hy hi hk
  have es : ∀ s, s < R → ∀ j, j < 48 → mmM h2 s j = mmM hq s j := fun s hs j hj => by rw [e s j hj, if_neg (by omega)]
  refine ⟨fun s hs j hj => by rw [es s hs j hj]; exact a1 s hs j hj, r, c, u, b1, b3.cg hn (es r hR), b4, fun s hs e9 he => b5 s hs e9 (he.cg hn fun j hj => (es s (by omega) j hj).symm), ?_, fun j hj => ?_, fun j j1 j2 => ?_⟩
  · rw [es r hR c (by have := b3.1; omega)]
    exact b6
  · rw [e R j (by omega), es r hR j (by omega)]
    by_cases g : j = k
    · subst g
      rw [if_pos ⟨rfl, rfl⟩, ← hs]
      have := b8 j (by omega) hk
      rw [← this, ← hm]
      exact ⟨hz, hz0, hz1⟩
    · rw [if_neg (fun x => g x.2)]
      exact b7 j (by omega)
  · rw [e R j j2, if_neg (by omega)]
    exact b8 j (by omega) j2
theorem mIt.done {F K : Int} {r0 : Nat} (h : mIt hp hq P n R F K f) (hL : mLd hp P n R) (hF : F = (r0 : Int)) (hR : r0 < R) (hn : n ≤ 48) (he : (n : Int) ≤ K ∨ f = 0) : mIs hp hq P n R (F + 1) := by
  obtain ⟨a1, r, c, u, b1, b3, b4, b5, b6, b7, b8⟩ := h
  have hr : r = r0 := by omega
  subst hr
  have hL2 := hL.cg hn a1
  -- all columns are as after the loop
  have key : ∀ k, k < n → (P ∣ mmM hq R k - (u k - f * mmM hq r k)) ∧ 0 ≤ mmM hq R k ∧ mmM hq R k < P := fun k hk => by
    by_cases g : (k : Int) < K
    · exact b7 k g
    · have hf : f = 0 := by rcases he with x | x <;> omega
      rw [b8 k (by omega) (by omega), hf, Int.zero_mul, Int.sub_zero, Int.sub_self]
      exact ⟨Int.dvd_zero _, b4 k hk⟩
  have z0 : ∀ k, k < n → P ∣ u k - f * mmM hq r k → mmM hq R k = 0 := fun k hk hd => by
    have q := key k hk
    refine mdv_rng (P := P) ?_ q.2 ⟨Int.le_refl 0, by omega⟩
    have := Int.dvd_add q.1 hd
    rwa [show mmM hq R k - (u k - f * mmM hq r k) + (u k - f * mmM hq r k) = mmM hq R k - 0 by omega] at this
  refine ⟨a1, fun k hk => (key k (by omega)).2, fun s hs e hse => ?_⟩
  have en := hse.1
  by_cases g : s = r
  · subst g
    have := b3.uq hse
    subst this
    exact z0 _ en b6
  · refine z0 e en ?_
    rw [b5 s (by omega) e hse, (hL2.2 s (by omega)).2 r (by omega) hR e hse, Int.mul_zero, Int.sub_self]
    exact Int.dvd_zero _
theorem mIs.ld {F : Int} (h : mIs hp hq P n R F) (hL : mLd hp P n R) (hn : n ≤ 48) : mLd hq P n R := hL.cg hn h.1
theorem mIs.next {F : Int} (h : mIs hp hq P n R F) (hF : (R : Int) ≤ F) (hL : mLd hp P n R) (hn : n ≤ 48) (hk : k < n) (h0 : mmM hq R k ≠ 0) : mLd hq P n (R + 1) := by
  have hL2 := hL.cg hn h.1
  refine ⟨fun s hs j hj => ?_, fun s hs => ⟨?_, fun t t1 t2 c hc => ?_⟩⟩
  · by_cases g : s = R
    · subst g; exact h.2.1 j (by omega)
    · exact hL2.1 s (by omega) j hj
  · by_cases g : s = R
    · subst g; exact mFst_of hq n s (k + 1) k (by omega) hk h0
    · exact (hL2.2 s (by omega)).1
  · by_cases g : t = R
    · subst g; exact h.2.2 s (by omega) c hc
    · exact (hL2.2 s (by omega)).2 t t1 (by omega) c hc
/-- a row is not 0 -/
def mSm (hp : xH) (n R : Nat) : Prop := ∃ k, k < n ∧ mmM hp R k ≠ 0
theorem mSm.of {i : Int} (hz : z = ys hq 2083 i.toNat) (hi : i = 48 * (R : Int) + (k : Int)) (hk : k < n) (h0 : z ≠ 0) : mSm hq n R := ⟨k, hk, by rw [← mmM_at hz hi]; exact h0⟩
theorem mIs.all {F : Int} (h : mIs hp hq P n R F) (hF : (R : Int) ≤ F) : mIs hp hq P n R (R : Int) := ⟨h.1, h.2.1, fun r hr => h.2.2 r (by omega)⟩
theorem mIs.some (h : mIs hp hq P n R (R : Int)) (hL : mLd hp P n R) (hn : n ≤ 48) (hs : mSm hq n R) : mLd hq P n (R + 1) := by
  obtain ⟨k, k1, k2⟩ := hs
  exact h.next (Int.le_refl _) hL hn k1 k2
end MLeads
theorem yIinj {a b : Int} (h : some (yI a) = some (yI b)) (h1 : -2147483648 ≤ a) (h2 : a ≤ 2147483647) (h3 : -2147483648 ≤ b) (h4 : b ≤ 2147483647) : b = a := by
  have e : zc32 a = zc32 b := by
    have h := Option.some.inj h
    exact Sum.inl.inj h
  have e1 := zof32 (show zi32 a from ⟨by omega, by omega⟩)
  have e2 := zof32 (show zi32 b from ⟨by omega, by omega⟩)
  rw [← e1, ← e2, ← zc32_of, ← zc32_of, e]
section MShows
variable {hp hq h1 h2 : xH} {P h z : Int}
/-- an island of a meter -/
noncomputable def gIm (hp : xH) (m : Nat) : Int := if ys hp 2115 m = 0 then gIl hp (gA hp (ys hp 2116 m).toNat) else gIl hp (ys hp 2116 m).toNat
/-- what is shown is of the prime; each that was so is so still -/
def gOk (hp : xH) (P : Int) (t : Nat) : Prop := 0 ≤ ys hp 2122 t ∧ ys hp 2122 t < P
def gAs (hp hq : xH) (P : Int) : Prop := ∀ t, ys hq 2122 t = ys hp 2122 t ∨ gOk hq P t
theorem gAs.rf : gAs hp hp P := fun _ => .inl rfl
theorem gAs.tr (h : gAs hp hq P) (g : gAs hq h2 P) : gAs hp h2 P := fun t => by
  rcases g t with e | e
  · rcases h t with e2 | e2
    · exact .inl (e.trans e2)
    · refine .inr ?_
      unfold gOk at *
      rw [e]; exact e2
  · exact .inr e
theorem gAs.eq (h : ∀ t, ys hq 2122 t = ys hp 2122 t) : gAs hp hq P := fun t => .inl (h t)
theorem gAs.ok {t : Nat} (h : gAs hp hq P) (g : gOk hp P t) : gOk hq P t := by
  rcases h t with e | e
  · unfold gOk at *
    rw [e]; exact g
  · exact e
theorem gAs.put {i : Int} (hy : ∀ x t, ys h2 x t = if x = 2122 ∧ t = i.toNat then z else ys hq x t) (h0 : 0 ≤ z) (h1 : z < P) : gAs hq h2 P := fun t => by
  by_cases e : t = i.toNat
  · refine .inr ?_
    unfold gOk
    rw [hy, if_pos ⟨rfl, e⟩]
    exact ⟨h0, h1⟩
  · exact .inl (by rw [hy, if_neg fun g => e g.2])
/-- the first K meters of an island show numbers of the prime; a meter's first k -/
def gSh (hp hq : xH) (P h : Int) (K : Int) : Prop := ∀ m : Nat, (m : Int) < K → gIm hp m = h → ∀ k, k < 16 → gOk hq P (16 * m + k)
def gSk (hq : xH) (P K : Int) (m : Nat) : Prop := ∀ k : Nat, (k : Int) < K → gOk hq P (16 * m + k)
theorem gSh.start : gSh hp hq P h 0 := fun m hm => absurd hm (by omega)
theorem gSk.start {m : Nat} : gSk hq P 0 m := fun m hm => absurd hm (by omega)
theorem gSh.mo {K : Int} (g : gSh hp hq P h K) (a : gAs hq h2 P) : gSh hp h2 P h K := fun m hm e k hk => a.ok (g m hm e k hk)
theorem gSk.mo {K : Int} {m : Nat} (g : gSk hq P K m) (a : gAs hq h2 P) : gSk h2 P K m := fun k hk => a.ok (g k hk)
theorem gSk.put {i K : Int} {m k : Nat} (g : gSk hq P K m) (hK : K = (k : Int)) (hy : ∀ x t, ys h2 x t = if x = 2122 ∧ t = i.toNat then z else ys hq x t) (hi : i = 16 * (m : Int) + (k : Int)) (h0 : 0 ≤ z) (h1 : z < P) : gSk h2 P (K + 1) m := fun j hj => by
  by_cases e : j = k
  · unfold gOk
    rw [hy, if_pos ⟨rfl, by omega⟩]
    exact ⟨h0, h1⟩
  · exact (gAs.put hy h0 h1).ok (g j (by omega))
theorem gSk.up {K : Int} {m : Nat} (g : gSk hq P K m) (hK : 16 ≤ K) : gSk hq P 16 m := fun k hk => g k (by omega)
theorem gIm_cg (k1 : ∀ j, ys h2 2101 j = ys h1 2101 j) (k2 : ∀ j, ys h2 2089 j = ys h1 2089 j) (k3 : ∀ j, ys h2 2115 j = ys h1 2115 j) (k4 : ∀ j, ys h2 2116 j = ys h1 2116 j) : gIm h2 = gIm h1 := funext fun m => by
  unfold gIm gIl gA
  simp only [k1, k2, k3, k4]
theorem gSh.cg {h3 : xH} {K : Int} (g : gSh hp hq P h K) (e1 : gIm h3 = gIm hp) (e2 : ∀ t, ys h2 2122 t = ys hq 2122 t) : gSh h3 h2 P h K := fun m hm e k hk => by
  rw [e1] at e
  have := g m hm e k hk
  unfold gOk at *
  rw [e2]; exact this
theorem gSk.cg {K : Int} {m : Nat} (g : gSk hq P K m) (e2 : ∀ t, ys h2 2122 t = ys hq 2122 t) : gSk h2 P K m := fun k hk => by
  have := g k hk
  unfold gOk at *
  rw [e2]; exact this
theorem gSk.at {i z : Int} {m k : Nat} (g : gSk hq P 16 m) (hk : k < 16) (hz : z = ys hq 2122 i.toNat) (hi : i = 16 * (m : Int) + (k : Int)) : 0 ≤ z ∧ z < P := by
  have := g k (by omega)
  unfold gOk at this
  rw [hz, show i.toNat = 16 * m + k by omega]
  exact this
theorem gSh.next {K : Int} {m : Nat} (g : gSh hp hq P h K) (hK : K = (m : Int)) (f : gIm hp m = h → gSk hq P 16 m) : gSh hp hq P h (K + 1) := fun j hj e k hk => by
  by_cases x : j = m
  · subst x; exact f e k (by omega)
  · exact g j (by omega) e k hk
end MShows
