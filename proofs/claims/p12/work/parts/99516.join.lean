/-! ===== the reference: a net's equations ===== -/
section MJoin
variable {G : zW} {hp hq h1 h2 : xH} {P : Int} {n : Nat} {w : Nat → Int}
noncomputable def mDot (hp : xH) (w : Nat → Int) (n r : Nat) : Int := mSi (fun k => mmM hp r k * w k) n
theorem mDot_cg {r : Nat} (h : ∀ k, k < n → mmM h2 r k = mmM hp r k) : mDot h2 w n r = mDot hp w n r := mSi_congr n fun k hk => by rw [h k hk]
/-- one number of the matrix becomes another one -/
theorem mDp {r0 k0 r : Nat} {i z m d D : Int} (hD : P ∣ mDot hq w n r - (mDot hp w n r + D)) (hy : ∀ x t, ys h2 x t = if x = 2083 ∧ t = i.toNat then z else ys hq x t) (hi : i = 48 * (r0 : Int) + (k0 : Int)) (hk : k0 < n) (hn : n ≤ 48) (hm : m = mmM hq r0 k0) (hz : P ∣ z - (m + d)) : P ∣ mDot h2 w n r - (mDot hp w n r + (D + if r = r0 then d * w k0 else 0)) := by
  have e : ∀ k, k < n → mmM h2 r k = if r = r0 ∧ k = k0 then z else mmM hq r k := fun k hk9 => mmM_put hy hi (by omega) r k (by omega)
  have e1 : mDot h2 w n r = mDot hq w n r + (if r = r0 then (z - m) * w k0 else 0) := by
    by_cases g : r = r0
    · rw [if_pos g]
      have e2 : mDot h2 w n r = mSi (fun k => mmM hq r k * w k + (if k = k0 then (z - m) * w k0 else 0)) n := mSi_congr n fun k hk9 => by
        show mmM h2 r k * w k = mmM hq r k * w k + (if k = k0 then (z - m) * w k0 else 0)
        rw [e k hk9]
        by_cases g2 : k = k0
        · rw [if_pos ⟨g, g2⟩, if_pos g2, g2, g, ← hm, Int.sub_mul]; omega
        · rw [if_neg (fun x => g2 x.2), if_neg g2]; omega
      rw [e2, mSi_add, mSi_one (c := k0) n hk fun k _ h => if_neg h, if_pos rfl]
      rfl
    · rw [if_neg g]
      have : mDot h2 w n r = mDot hq w n r := mSi_congr n fun k hk9 => by rw [e k hk9, if_neg (fun x => g x.1)]
      omega
  rw [e1]
  by_cases g : r = r0
  · rw [if_pos g, if_pos g]
    have h3 : P ∣ (z - m) * w k0 - d * w k0 := by
      rw [← Int.sub_mul]
      exact Int.dvd_trans (by rwa [show z - m - d = z - (m + d) by omega]) (Int.dvd_mul_right _ _)
    have := Int.dvd_add hD h3
    rwa [show mDot hq w n r - (mDot hp w n r + D) + ((z - m) * w k0 - d * w k0) = mDot hq w n r + (z - m) * w k0 - (mDot hp w n r + (D + d * w k0)) by omega] at this
  · rw [if_neg g, if_neg g, Int.add_zero, Int.add_zero]
    exact hD
/-- what a conductance adds to a row -/
def mJn (w : Nat → Int) (a b y : Int) (r : Nat) : Int := ((if a = (r : Int) then 1 else 0) - (if b = (r : Int) then 1 else 0)) * (y * (gx w a - gx w b))
theorem mJn4 {a b y : Int} {r : Nat} (ha : 0 ≤ a) (hb : 0 ≤ b) : (((0 : Int) + (if r = a.toNat then y * w a.toNat else 0)) + (if r = b.toNat then y * w b.toNat else 0) + (if r = a.toNat then -y * w b.toNat else 0)) + (if r = b.toNat then -y * w a.toNat else 0) = mJn w a b y r := by
  have ga : gx w a = w a.toNat := if_pos ha
  have gb : gx w b = w b.toNat := if_pos hb
  unfold mJn
  rw [ga, gb]
  have e1 : (r = a.toNat) ↔ a = (r : Int) := by omega
  have e2 : (r = b.toNat) ↔ b = (r : Int) := by omega
  simp only [e1, e2]
  generalize w a.toNat = u
  generalize w b.toNat = v
  split <;> split <;> grind
theorem mJna {a b y : Int} {r : Nat} (ha : 0 ≤ a) (hb : b < 0) : (0 : Int) + (if r = a.toNat then y * w a.toNat else 0) = mJn w a b y r := by
  have ga : gx w a = w a.toNat := if_pos ha
  have gb : gx w b = 0 := if_neg (by omega)
  unfold mJn
  rw [ga, gb]
  have e1 : (r = a.toNat) ↔ a = (r : Int) := by omega
  have e2 : ¬ b = (r : Int) := by omega
  simp only [e1, if_neg e2]
  generalize w a.toNat = u
  split <;> grind
theorem mJnb {a b y : Int} {r : Nat} (ha : a < 0) (hb : 0 ≤ b) : (0 : Int) + (if r = b.toNat then y * w b.toNat else 0) = mJn w a b y r := by
  have ga : gx w a = 0 := if_neg (by omega)
  have gb : gx w b = w b.toNat := if_pos hb
  unfold mJn
  rw [ga, gb]
  have e1 : (r = b.toNat) ↔ b = (r : Int) := by omega
  have e2 : ¬ a = (r : Int) := by omega
  simp only [e1, if_neg e2]
  generalize w b.toNat = u
  split <;> grind
theorem mJn0 {a b y : Int} {r : Nat} (ha : a < 0) (hb : b < 0) : (0 : Int) = mJn w a b y r := by
  unfold mJn
  rw [if_neg (by omega), if_neg (by omega)]
  omega
theorem mNegD {p z m y : Int} (h : p ∣ z - (m - y)) : p ∣ z - (m + -y) := by rwa [show m + -y = m - y by omega]
/-- lines of an island, between two nodes -/
noncomputable def cntL (hp : xH) (h : Int) (k : Nat) : Bool := decide ((k : Int) < ys hp 2088 2 ∧ gIl hp (gA hp k) = h ∧ gIn hp k = 1 ∧ gNd hp (gA hp k) ≠ gNd hp (gB hp k))
noncomputable def paL (hp : xH) (k : Nat) : Int := ys hp 2104 (gNd hp (gA hp k)).toNat
noncomputable def pbL (hp : xH) (k : Nat) : Int := ys hp 2104 (gNd hp (gB hp k)).toNat
noncomputable def lX (hp : xH) (k : Nat) : Int := ys hp 2089 (529 + 11 * k)
/-- the first lines are joined -/
def mJl (hp hq : xH) (P h : Int) (n : Nat) (K all : Int) : Prop := (∃ z : Nat → Int, (∀ k : Nat, (k : Int) < K → cntL hp h k = true → P ∣ lX hp k * z k - 1) ∧ ∀ (w : Nat → Int) (r : Nat), r < n → P ∣ mDot hq w n r - (mDot hp w n r + gNet (cntL hp h) (paL hp) (pbL hp) (fun k => z k * (gx w (paL hp k) - gx w (pbL hp k))) K.toNat r)) ∧ ¬ P ∣ all ∧ (mRng hp P n (n + 1) → mRng hq P n (n + 1))
theorem mJl.start {h : Int} (hP : 2 ≤ P) : mJl hp hp P h n 0 1 := ⟨⟨fun _ => 0, fun k hk => absurd hk (by omega), fun w r hr => by
  show P ∣ mDot hp w n r - (mDot hp w n r + 0)
  rw [Int.add_zero]
  exact mdv_rf _ _⟩, mNdvd (by omega) (by omega), fun h => h⟩
theorem mJl.skip {h K all : Int} {k : Nat} (hj : mJl hp hq P h n K all) (hK : K = (k : Int)) (hc : cntL hp h k = false) : mJl hp hq P h n (K + 1) all := by
  obtain ⟨⟨z, j1, j2⟩, j3⟩ := hj
  refine ⟨⟨z, fun j hj9 hc9 => ?_, fun w r hr => ?_⟩, j3⟩
  · by_cases e : j = k
    · subst e; rw [hc] at hc9; cases hc9
    · exact j1 j (by omega) hc9
  · have e : (K + 1).toNat = K.toNat + 1 := by omega
    have ek : K.toNat = k := by omega
    rw [e]
    show P ∣ mDot hq w n r - (mDot hp w n r + (gNet _ _ _ _ K.toNat r + (if cntL hp h K.toNat = true then _ else 0)))
    rw [if_neg (by rw [ek, hc]; exact Bool.false_ne_true), Int.add_zero]
    exact j2 w r hr
theorem mJl.step {h K all all2 x z9 a b : Int} {k : Nat} (hj : mJl hp hq P h n K all) (hK : K = (k : Int)) (hp9 : mPr P.toNat) (hc : cntL hp h k = true) (hx : x = lX hp k) (hx1 : 1 ≤ x) (hx2 : x ≤ 99) (hP : 100 < P) (hz : P ∣ x * z9 - 1) (ha : a = paL hp k) (hb : b = pbL hp k) (hd : ∀ (w : Nat → Int) (r : Nat), r < n → P ∣ mDot h2 w n r - (mDot hq w n r + mJn w a b z9 r)) (hall : P ∣ all2 - all * x) (hrg : mRng hq P n (n + 1) → mRng h2 P n (n + 1)) : mJl hp h2 P h n (K + 1) all2 := by
  obtain ⟨⟨z, j1, j2⟩, j3, j4⟩ := hj
  refine ⟨⟨fun j => if j = k then z9 else z j, fun j hj9 hc9 => ?_, fun w r hr => ?_⟩, fun g => ?_, fun g => hrg (j4 g)⟩
  · show P ∣ lX hp j * (if j = k then z9 else z j) - 1
    by_cases e : j = k
    · rw [if_pos e, e, ← hx]; exact hz
    · rw [if_neg e]; exact j1 j (by omega) hc9
  · have e : (K + 1).toNat = K.toNat + 1 := by omega
    have ek : K.toNat = k := by omega
    rw [e]
    have e1 : gNet (cntL hp h) (paL hp) (pbL hp) (fun j => (if j = k then z9 else z j) * (gx w (paL hp j) - gx w (pbL hp j))) (K.toNat + 1) r = gNet (cntL hp h) (paL hp) (pbL hp) (fun j => z j * (gx w (paL hp j) - gx w (pbL hp j))) K.toNat r + mJn w a b z9 r := by
      show gNet (cntL hp h) (paL hp) (pbL hp) (fun j => (if j = k then z9 else z j) * (gx w (paL hp j) - gx w (pbL hp j))) K.toNat r + (if cntL hp h K.toNat = true then _ * ((if K.toNat = k then z9 else z K.toNat) * _) else 0) = _
      rw [ek, if_pos hc, if_pos rfl, gNet_cg (y := fun j => z j * (gx w (paL hp j) - gx w (pbL hp j))) fun j hj9 _ => by
        show (if j = k then z9 else z j) * _ = z j * _
        rw [if_neg (by omega)], ← ha, ← hb]
      rfl
    rw [e1]
    have := Int.dvd_add (hd w r hr) (j2 w r hr)
    rwa [show mDot h2 w n r - (mDot hq w n r + mJn w a b z9 r) + (mDot hq w n r - (mDot hp w n r + gNet (cntL hp h) (paL hp) (pbL hp) (fun k => z k * (gx w (paL hp k) - gx w (pbL hp k))) K.toNat r)) = mDot h2 w n r - (mDot hp w n r + (gNet (cntL hp h) (paL hp) (pbL hp) (fun j => z j * (gx w (paL hp j) - gx w (pbL hp j))) K.toNat r + mJn w a b z9 r)) by omega] at this
  · exact mdv_pr hp9 (by omega) j3 (mNdvd (by omega) (by omega)) (mdv_sub g hall)
/-- by a prime all is singular: a vector -/
def gSg (hp : xH) (h : Int) (n : Nat) (p : Int) : Prop := ∃ w z : Nat → Int, (∀ k, k < 20 → cntL hp h k = true → p ∣ lX hp k * z k - 1) ∧ (∃ c, c < n ∧ w c = 1) ∧ ∀ r, r < n → p ∣ gNet (cntL hp h) (paL hp) (pbL hp) (fun k => z k * (gx w (paL hp k) - gx w (pbL hp k))) 20 r
theorem gNet_more {cnt : Nat → Bool} {pa pb y : Nat → Int} {r : Nat} {m : Nat} : ∀ d, (∀ k, m ≤ k → cnt k = false) → gNet cnt pa pb y (m + d) r = gNet cnt pa pb y m r
  | 0, _ => rfl
  | d + 1, h => by
    show gNet cnt pa pb y (m + d) r + (if cnt (m + d) = true then _ else 0) = _
    rw [if_neg (by rw [h (m + d) (by omega)]; exact Bool.false_ne_true), Int.add_zero]
    exact gNet_more d h
theorem cntL_lt {h : Int} {k : Nat} (e : cntL hp h k = true) : (k : Int) < ys hp 2088 2 ∧ gIl hp (gA hp k) = h ∧ gIn hp k = 1 ∧ gNd hp (gA hp k) ≠ gNd hp (gB hp k) := of_decide_eq_true e
/-- from the equations that can't be solved -/
theorem mJl.sg {h K all : Int} (hj : mJl hp hq P h n K all) (hK : ys hp 2088 2 ≤ K) (hK2 : K ≤ 20) (hK0 : 0 ≤ K) (h0 : ∀ r, r < n → ∀ k, k < n → mmM hp r k = 0) (he : ∀ r, r < n → ∀ k, k < n → mmM h1 r k = mmM hq r k) (hs : ∃ (c : Nat) (w : Nat → Int), c < n ∧ w c = 1 ∧ (∀ k, n ≤ k → w k = 0) ∧ mKer h1 P w n (n + 1)) : gSg hp h n P := by
  obtain ⟨⟨z, h9, j2⟩, j3⟩ := hj
  obtain ⟨c, w, hc, hw, hw0, hk⟩ := hs
  refine ⟨w, z, fun k hk9 hc9 => h9 k (by have := (cntL_lt hc9).1; omega) hc9, ⟨c, hc, hw⟩, fun r hr => ?_⟩
  have e1 := hk r hr
  have e2 : mSi (fun k => mmM h1 r k * w k) (n + 1) = mDot hq w n r := by
    show mSi (fun k => mmM h1 r k * w k) n + mmM h1 r n * w n = _
    rw [hw0 n (Nat.le_refl n), Int.mul_zero, Int.add_zero]
    exact mDot_cg (he r hr)
  rw [e2] at e1
  have e3 := mdv_sub e1 (j2 w r hr)
  have e4 : mDot hp w n r = 0 := mSi_zero n fun k hk9 => by rw [h0 r hr k hk9, Int.zero_mul]
  rw [e4, Int.zero_add] at e3
  have e5 := gNet_more (cnt := cntL hp h) (pa := paL hp) (pb := pbL hp) (y := fun k => z k * (gx w (paL hp k) - gx w (pbL hp k))) (r := r) (m := K.toNat) (20 - K.toNat) fun k hk9 => by
    cases e : cntL hp h k with
    | false => rfl
    | true => have := (cntL_lt e).1; omega
  rw [show K.toNat + (20 - K.toNat) = 20 by omega] at e5
  rw [e5]
  exact e3
theorem gSg.cg {h p : Int} (g : gSg hp h n p) (e0 : ∀ j, ys hq 2088 j = ys hp 2088 j) (e1 : ∀ j, ys hq 2100 j = ys hp 2100 j) (e2 : ∀ j, ys hq 2101 j = ys hp 2101 j) (e3 : ∀ j, ys hq 2099 j = ys hp 2099 j) (e4 : ∀ j, ys hq 2089 j = ys hp 2089 j) (e5 : ∀ j, ys hq 2104 j = ys hp 2104 j) : gSg hq h n p := by
  have a1 : gNd hq = gNd hp := funext e1
  have a2 : gIl hq = gIl hp := funext e2
  have a3 : gIn hq = gIn hp := funext e3
  have a4 : gA hq = gA hp := funext fun k => by unfold gA; rw [e4]
  have a5 : gB hq = gB hp := funext fun k => by unfold gB; rw [e4]
  have b1 : cntL hq h = cntL hp h := funext fun k => by unfold cntL; rw [e0, a1, a2, a3, a4, a5]
  have b2 : paL hq = paL hp := funext fun k => by unfold paL; rw [a1, a4, e5]
  have b3 : pbL hq = pbL hp := funext fun k => by unfold pbL; rw [a1, a5, e5]
  have b4 : lX hq = lX hp := funext fun k => by unfold lX; rw [e4]
  unfold gSg
  rw [b1, b2, b3, b4]
  exact g
/-- the primes at hand -/
def bPr (_ : zW) (hp : xH) : Prop := ∀ j : Nat, j < 40 → ∀ v, mPs[j]? = some v → ys hp 14 j = (v : Int)
theorem bPr.fr {Wl : zWr} {a b : xH} (h : bPr G a) (hA : bAx G Wl a b) (hw : bNo Wl 13 = true) (W : mW G := by assumption) : bPr G b := fun j hj v hv => by
  rw [hA.ys (s_M_PRIME W) (bNo_ok hw j)]
  exact h j hj v hv
/-- what listNodes leaves: rows of an island's nodes -/
def gLs (hp : xH) (h : Int) (n : Nat) : Prop := (∀ b : Nat, (b : Int) < ys hp 2088 0 → gIl hp b = h → gNd hp b = b → -1 ≤ ys hp 2104 b ∧ ys hp 2104 b < (n : Int)) ∧ (0 ≤ h → h < ys hp 2088 0 → gIl hp h.toNat = h → gNd hp h.toNat = h → ys hp 2104 h.toNat = -1) ∧ ∀ c, c < n → ∃ b : Nat, (b : Int) < ys hp 2088 0 ∧ gIl hp b = h ∧ gNd hp b = b ∧ ys hp 2104 b = (c : Int)
theorem gLs.place {h : Int} {k : Nat} (hl : gLs hp h n) (ht : bTq G hp) (hc : cntL hp h k = true) (ha : ((gA hp k : Nat) : Int) < ys hp 2088 0) (hb : ((gB hp k : Nat) : Int) < ys hp 2088 0) (bn : ∀ b : Nat, b < 16 → 0 ≤ gNd hp b ∧ gNd hp b ≤ b) (hN : ys hp 2088 0 ≤ 16) : (-1 ≤ paL hp k ∧ paL hp k < n) ∧ (-1 ≤ pbL hp k ∧ pbL hp k < n) := by
  obtain ⟨c1, c2, c3, c4⟩ := cntL_lt hc
  obtain ⟨t1, t2, t3⟩ := ht
  obtain ⟨i1, i2, i3⟩ := t2
  have e := i2 k c1 c3
  have x1 := bn (gA hp k) (by omega)
  have x2 := bn (gB hp k) (by omega)
  have A := hl.1 (gNd hp (gA hp k)).toNat (by omega) (by rw [(i1 _ ha).2.1]; exact c2) (by rw [t1 _ ha]; omega)
  have B := hl.1 (gNd hp (gB hp k)).toNat (by omega) (by rw [(i1 _ hb).2.1, ← e]; exact c2) (by rw [t1 _ hb]; omega)
  exact ⟨A, B⟩
/-- a net's equations can be solved by some of the forty primes -/
theorem gLs.no {h : Int} (hl : gLs hp h n) (ht : bTq G hp) (hw : bWf G hp) (h0 : 0 ≤ h) (h1 : h < ys hp 2088 0) (h2 : gIl hp h.toNat = h) (hn : 1 ≤ n) (hn2 : n ≤ 17) (bn : ∀ b : Nat, b < 16 → 0 ≤ gNd hp b ∧ gNd hp b ≤ b) (bi : ∀ b : Nat, b < 16 → 0 ≤ gIl hp b ∧ gIl hp b ≤ b) (hN : ys hp 2088 0 ≤ 16) (hL : ys hp 2088 2 ≤ 20) (hX : ∀ k, k < 20 → lX hp k ≤ 99) (hs : ∀ p, p ∈ mPs → gSg hp h n (p : Int)) : False := by
  have ends : ∀ k, cntL hp h k = true → ((gA hp k : Nat) : Int) < ys hp 2088 0 ∧ ((gB hp k : Nat) : Int) < ys hp 2088 0 := fun k hc => by
    have := (cntL_lt hc).1
    exact hw.ends this (by omega) (by omega)
  have pl : ∀ k, cntL hp h k = true → (-1 ≤ paL hp k ∧ paL hp k < n) ∧ (-1 ≤ pbL hp k ∧ pbL hp k < n) := fun k hc => hl.place ht hc (ends k hc).1 (ends k hc).2 bn hN
  obtain ⟨x, ⟨c, hc, hxc⟩, hx⟩ := mNet (n := n) (m := 20) (cnt := cntL hp h) (pa := paL hp) (pb := pbL hp) (X := lX hp) (N9 := fun _ => 1) hn2 (by decide) (fun k _ g => (pl k g).1) (fun k _ g => (pl k g).2) (fun k hk g => ⟨by
    have := (cntL_lt g).1
    exact hw.x (s := 2) (k := 1) (j := 529 + 11 * k) (i := (k : Int)) (.inl ⟨rfl, .inl rfl⟩) (by omega) (by omega) this rfl (by omega), by have := hX k hk; omega⟩) (fun _ _ _ => ⟨by decide, by decide⟩) (fun p hp9 => by
      obtain ⟨w, z, a, b, c9⟩ := hs p hp9
      exact ⟨w, z, a, b, c9⟩)
  obtain ⟨b, b1, b2, b3, b4⟩ := hl.2.2 c hc
  obtain ⟨t1, t2, -⟩ := ht
  obtain ⟨i1, i2, i3⟩ := t2
  let g : Nat → Int := fun b => if gIl hp b = h then gx x (ys hp 2104 b) else 0
  have key := i3 g (fun k hk hin => by
    obtain ⟨e1, e2⟩ := hw.ends (k := k) hk (by omega) (by omega)
    have e := i2 k hk hin
    show (if gIl hp (gNd hp (gA hp k)).toNat = h then gx x (ys hp 2104 (gNd hp (gA hp k)).toNat) else 0) = (if gIl hp (gNd hp (gB hp k)).toNat = h then gx x (ys hp 2104 (gNd hp (gB hp k)).toNat) else 0)
    rw [(i1 _ e1).2.1, (i1 _ e2).2.1, ← e]
    by_cases q : gIl hp (gA hp k) = h
    · rw [if_pos q, if_pos q]
      by_cases q2 : gNd hp (gA hp k) = gNd hp (gB hp k)
      · rw [q2]
      · exact hx k (by omega) (decide_eq_true ⟨hk, q, hin, q2⟩)
    · rw [if_neg q, if_neg q]) b b1
  have key : (if gIl hp (gNd hp b).toNat = h then gx x (ys hp 2104 (gNd hp b).toNat) else 0) = (if gIl hp (gIl hp b).toNat = h then gx x (ys hp 2104 (gIl hp b).toNat) else 0) := key
  have b5 : (gNd hp b).toNat = b := by omega
  rw [b5, b2, if_pos rfl, if_pos h2, b4] at key
  have h3 : gNd hp h.toNat = h := by
    have := (i1 b b1).2.2
    rwa [b2] at this
  rw [hl.2.1 h0 h1 h2 h3] at key
  have e6 : gx x (c : Int) = x c := by
    unfold gx
    rw [if_pos (by omega)]
    rfl
  have e7 : gx x (-1) = 0 := rfl
  rw [e6, e7] at key
  exact hxc key
end MJoin
section MInj
theorem yJinj {a b : Int} (h : some (yJ a) = some (yJ b)) (h1 : -9223372036854775808 ≤ a) (h2 : a ≤ 9223372036854775807) (h3 : -9223372036854775808 ≤ b) (h4 : b ≤ 9223372036854775807) : b = a := by
  have e : zc64 a = zc64 b := by
    have h := Option.some.inj h
    have h := Sum.inr.inj h
    exact Sum.inl.inj h
  have e1 := zof64 (show zi64 a from ⟨by omega, by omega⟩)
  have e2 := zof64 (show zi64 b from ⟨by omega, by omega⟩)
  rw [← e1, ← e2, ← zc64_of, ← zc64_of, e]
theorem mRng_put {hq h2 : xH} {P z : Int} {n C : Nat} {i : Int} (h : mRng hq P n C) (hy : ∀ x t, ys h2 x t = if x = 2083 ∧ t = i.toNat then z else ys hq x t) (hz0 : 0 ≤ z) (hz1 : z < P) : mRng h2 P n C := fun r hr k hk => by
  have e : mmM h2 r k = if 2083 = 2083 ∧ 48 * r + k = i.toNat then z else ys hq 2083 (48 * r + k) := hy 2083 (48 * r + k)
  rw [e]
  split
  · exact ⟨hz0, hz1⟩
  · exact h r hr k hk
end MInj
