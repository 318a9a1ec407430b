/-! ===== the reference: a net with branches of any order ===== -/
section MPots
variable {hp hq h1 h2 : xH} {P : Int} {n m : Nat} {cnt : Nat → Bool} {pa pb X N9 : Nat → Int}
/-- one branch more -/
def gUp (cnt : Nat → Bool) (b : Nat) : Nat → Bool := fun k => if k = b then true else cnt k
theorem gNet_up {y : Nat → Int} {b r : Nat} (hb : cnt b = false) : ∀ m, gNet (gUp cnt b) pa pb y m r = gNet cnt pa pb y m r + (if b < m then ((if pa b = (r : Int) then 1 else 0) - (if pb b = (r : Int) then 1 else 0)) * y b else 0)
  | 0 => by
    show (0 : Int) = 0 + _
    rw [if_neg (by omega)]
    rfl
  | m + 1 => by
    show gNet (gUp cnt b) pa pb y m r + (if gUp cnt b m = true then ((if pa m = (r : Int) then 1 else 0) - (if pb m = (r : Int) then 1 else 0)) * y m else 0) = gNet cnt pa pb y m r + (if cnt m = true then ((if pa m = (r : Int) then 1 else 0) - (if pb m = (r : Int) then 1 else 0)) * y m else 0) + _
    rw [gNet_up hb m]
    by_cases e : m = b
    · subst e
      have e1 : gUp cnt m m = true := if_pos rfl
      rw [e1, hb, if_neg (show ¬ m < m by omega), if_pos rfl, if_neg (show ¬ (false = true) from Bool.false_ne_true), if_pos (show m < m + 1 by omega), Int.add_zero]
    · have e1 : gUp cnt b m = cnt m := if_neg e
      rw [e1]
      by_cases q : b < m
      · rw [if_pos q, if_pos (show b < m + 1 by omega), Int.add_right_comm]
      · rw [if_neg q, if_neg (show ¬ b < m + 1 by omega), Int.add_zero, Int.add_zero]
/-- branches that are joined so far, in any order -/
def mPl (hp hq : xH) (P : Int) (n : Nat) (cnt : Nat → Bool) (pa pb X N9 : Nat → Int) (all : Int) : Prop := (∃ z : Nat → Int, (∀ k, k < 27 → cnt k = true → P ∣ X k * z k - N9 k) ∧ ∀ (w : Nat → Int) (r : Nat), r < n → P ∣ mDot hq w n r - (mDot hp w n r + gNet cnt pa pb (fun k => z k * (gx w (pa k) - gx w (pb k))) 27 r)) ∧ ¬ P ∣ all ∧ (mRng hp P n (n + 1) → mRng hq P n (n + 1))
theorem gNet_no {y : Nat → Int} {r : Nat} : ∀ m, (∀ k, k < m → cnt k = false) → gNet cnt pa pb y m r = 0
  | 0, _ => rfl
  | m + 1, h => by
    show gNet cnt pa pb y m r + (if cnt m = true then _ else 0) = 0
    rw [if_neg (by rw [h m (by omega)]; exact Bool.false_ne_true), Int.add_zero]
    exact gNet_no m fun k hk => h k (by omega)
theorem mPl.start (hP : 2 ≤ P) (hc : ∀ k, k < 27 → cnt k = false) : mPl hp hp P n cnt pa pb X N9 1 := ⟨⟨fun _ => 0, fun k hk e => absurd (hc k hk ▸ e) Bool.false_ne_true, fun w r hr => by
  rw [gNet_no 27 hc, Int.add_zero]
  exact mdv_rf _ _⟩, mNdvd (by omega) (by omega), fun h => h⟩
theorem gNet_cc {cnt2 : Nat → Bool} {y : Nat → Int} {r : Nat} : ∀ m, (∀ k, k < m → cnt2 k = cnt k) → gNet cnt2 pa pb y m r = gNet cnt pa pb y m r
  | 0, _ => rfl
  | m + 1, h => by
    show gNet cnt2 pa pb y m r + (if cnt2 m = true then _ else 0) = gNet cnt pa pb y m r + _
    rw [gNet_cc m fun k hk => h k (by omega), h m (by omega)]
theorem mPl.cc {cnt2 : Nat → Bool} {all : Int} (h : mPl hp hq P n cnt pa pb X N9 all) (e : ∀ k, k < 27 → cnt2 k = cnt k) : mPl hp hq P n cnt2 pa pb X N9 all := by
  obtain ⟨⟨z, a1, a2⟩, a3⟩ := h
  refine ⟨⟨z, fun k hk hc => a1 k hk (by rw [← e k hk]; exact hc), fun w r hr => ?_⟩, a3⟩
  rw [gNet_cc 27 e]
  exact a2 w r hr
theorem mPl.all {all all2 : Int} (h : mPl hp hq P n cnt pa pb X N9 all) (ha : ¬ P ∣ all2) : mPl hp hq P n cnt pa pb X N9 all2 := ⟨h.1, ha, h.2.2⟩
/-- one branch more is joined -/
theorem mPl.step {all z9 a b : Int} {k : Nat} (hj : mPl hp hq P n cnt pa pb X N9 all) (hk : k < 27) (hc : cnt k = false) (hz : P ∣ X k * z9 - N9 k) (ha : a = pa k) (hb : b = pb k) (hd : ∀ (w : Nat → Int) (r : Nat), r < n → P ∣ mDot h2 w n r - (mDot hq w n r + mJn w a b z9 r)) (hR : mRng hq P n (n + 1) → mRng h2 P n (n + 1)) : mPl hp h2 P n (gUp cnt k) pa pb X N9 all := by
  obtain ⟨⟨z, a1, a2⟩, a3, a4⟩ := hj
  subst ha hb
  have hne : ∀ j, cnt j = true → j ≠ k := fun j e x => by subst x; rw [hc] at e; exact Bool.false_ne_true e
  refine ⟨⟨fun j => if j = k then z9 else z j, fun j hj hcj => ?_, fun w r hr => ?_⟩, a3, fun h => hR (a4 h)⟩
  · by_cases e : j = k
    · subst e
      show P ∣ X j * (if j = j then z9 else z j) - N9 j
      rw [if_pos rfl]
      exact hz
    · show P ∣ X j * (if j = k then z9 else z j) - N9 j
      rw [if_neg e]
      have : gUp cnt k j = cnt j := if_neg e
      exact a1 j hj (by rw [← this]; exact hcj)
  · have e1 : gNet (gUp cnt k) pa pb (fun j => (if j = k then z9 else z j) * (gx w (pa j) - gx w (pb j))) 27 r = gNet cnt pa pb (fun j => z j * (gx w (pa j) - gx w (pb j))) 27 r + mJn w (pa k) (pb k) z9 r := by
      rw [gNet_up hc, if_pos hk]
      congr 1
      · exact gNet_cg fun j _ hcj => by rw [if_neg (hne j hcj)]
      · show _ * ((if k = k then z9 else z k) * (gx w (pa k) - gx w (pb k))) = _
        rw [if_pos rfl]
        rfl
    rw [e1]
    have := Int.dvd_add (hd w r hr) (a2 w r hr)
    rwa [show mDot h2 w n r - (mDot hq w n r + mJn w (pa k) (pb k) z9 r) + (mDot hq w n r - (mDot hp w n r + gNet cnt pa pb (fun j => z j * (gx w (pa j) - gx w (pb j))) 27 r)) = mDot h2 w n r - (mDot hp w n r + (gNet cnt pa pb (fun j => z j * (gx w (pa j) - gx w (pb j))) 27 r + mJn w (pa k) (pb k) z9 r)) by omega] at this
/-- by a prime all is singular: a vector -/
def mSb (P : Int) (n : Nat) (cnt : Nat → Bool) (pa pb X N9 : Nat → Int) : Prop := ∃ w z : Nat → Int, (∀ k, k < 27 → cnt k = true → P ∣ X k * z k - N9 k) ∧ (∃ c, c < n ∧ w c = 1) ∧ ∀ r, r < n → P ∣ gNet cnt pa pb (fun k => z k * (gx w (pa k) - gx w (pb k))) 27 r
theorem mPl.sn {all : Int} (hj : mPl hp hq P n cnt pa pb X N9 all) (h0 : ∀ r, r < n → ∀ k, k < n → mmM hp r k = 0) (he : ∀ r, r < n → ∀ k, k < n → mmM h1 r k = mmM hq r k) (hs : mSgv h1 P n (n + 1)) : mSb P n cnt pa pb X N9 := by
  obtain ⟨⟨z, h9, j2⟩, -⟩ := hj
  obtain ⟨c, w, hc, hw, hw0, hk⟩ := hs
  refine ⟨w, z, h9, ⟨c, hc, hw⟩, fun r hr => ?_⟩
  have e1 := hk r hr
  have e2 : mSi (fun k => mmM h1 r k * w k) (n + 1) = mDot hq w n r := by
    show mSi (fun k => mmM h1 r k * w k) n + mmM h1 r n * w n = _
    rw [hw0 n (Nat.le_refl n), Int.mul_zero, Int.add_zero]
    exact mDot_cg (he r hr)
  rw [e2] at e1
  have e3 := mdv_sub e1 (j2 w r hr)
  have e4 : mDot hp w n r = 0 := mSi_zero n fun k hk9 => by rw [h0 r hr k hk9, Int.zero_mul]
  rwa [e4, Int.zero_add] at e3
/-- the row of a node; the branches of a short's net: lines (the short's line: its first part), its second part, machines -/
noncomputable def gPl (hp : xH) (b : Nat) : Int := ys hp 2104 b + 1
noncomputable def gMb (hp : xH) (k : Nat) : Nat := (ys hp 2089 (802 + 11 * k)).toNat
noncomputable def paP (hp : xH) (sp : Nat) (k : Nat) : Int := if k < 20 then gPl hp (gNd hp (gA hp k)).toNat else if k = 20 then gPl hp (gNd hp (gB hp sp)).toNat else gPl hp (gNd hp (gMb hp (k - 21))).toNat
noncomputable def pbP (hp : xH) (on nd : Int) (sp : Nat) (k : Nat) : Int := if k < 20 then (if on = 1 ∧ k = sp then nd else gPl hp (gNd hp (gB hp k)).toNat) else if k = 20 then nd else -1
noncomputable def cntP (hp : xH) (h on nd : Int) (sp : Nat) (f : Nat) (k : Nat) : Bool := if k < 20 then decide ((k : Int) < ys hp 2088 2 ∧ gIl hp (gA hp k) = h ∧ gIn hp k = 1 ∧ paP hp sp k ≠ pbP hp on nd sp k) else if k = 20 then decide (on = 1) else decide ((k : Int) - 21 < ys hp 2088 3 ∧ ys hp 2089 (792 + 11 * (k - 21)) = 1 ∧ gIl hp (gMb hp (k - 21)) = h ∧ 0 < ys hp 2089 (793 + f + 11 * (k - 21)))
/-- potentials that are alike along all branches are 0 -/
theorem gPo.no {G : zW} {h on : Int} {sp f n0 : Nat} {x : Nat → Int} (hl : gLs hp h n0) (ht : bTq G hp) (hw : bWf G hp) (h0 : 0 ≤ h) (h1 : h < ys hp 2088 0) (h2 : gIl hp h.toNat = h) (bn : ∀ b : Nat, b < 16 → 0 ≤ gNd hp b ∧ gNd hp b ≤ b) (bi : ∀ b : Nat, b < 16 → 0 ≤ gIl hp b ∧ gIl hp b ≤ b) (hN : ys hp 2088 0 ≤ 16) (hL : ys hp 2088 2 ≤ 20) (hM : ys hp 2088 3 ≤ 6) (hsp : on = 1 → (sp : Int) < ys hp 2088 2 ∧ gIl hp (gA hp sp) = h ∧ gIn hp sp = 1) (hon : on = 0 ∨ on = 1)
    (hm : ∃ k : Nat, (k : Int) < ys hp 2088 3 ∧ ys hp 2089 (792 + 11 * k) = 1 ∧ gIl hp (gMb hp k) = h ∧ 0 < ys hp 2089 (793 + f + 11 * k) ∧ ((gMb hp k : Nat) : Int) < ys hp 2088 0)
    (hx : ∀ k, k < 27 → cntP hp h on ((n0 : Int) + 1) sp f k = true → gx x (paP hp sp k) = gx x (pbP hp on ((n0 : Int) + 1) sp k)) : ∀ c : Nat, (c : Int) < (n0 : Int) + 1 + on → x c = 0 := by
  obtain ⟨t1, t2, -⟩ := ht
  obtain ⟨i1, i2, i3⟩ := t2
  have line : ∀ k : Nat, (k : Int) < ys hp 2088 2 → gIl hp (gA hp k) = h → gIn hp k = 1 → gx x (paP hp sp k) = gx x (pbP hp on ((n0 : Int) + 1) sp k) := fun k hk e hin => by
    by_cases q : paP hp sp k = pbP hp on ((n0 : Int) + 1) sp k
    · rw [q]
    · refine hx k (by omega) ?_
      unfold cntP
      rw [if_pos (show k < 20 by omega)]
      exact decide_eq_true ⟨hk, e, hin, q⟩
  have part : on = 1 → gx x (gPl hp (gNd hp (gB hp sp)).toNat) = gx x ((n0 : Int) + 1) := fun e => by
    have := hx 20 (by decide) (by unfold cntP; rw [if_neg (by decide), if_pos rfl]; exact decide_eq_true e)
    unfold paP pbP at this
    rwa [if_neg (by decide), if_pos rfl, if_neg (by decide), if_pos rfl] at this
  have alike : ∀ k : Nat, (k : Int) < ys hp 2088 2 → gIl hp (gA hp k) = h → gIn hp k = 1 → gx x (gPl hp (gNd hp (gA hp k)).toNat) = gx x (gPl hp (gNd hp (gB hp k)).toNat) := fun k hk e hin => by
    have q := line k hk e hin
    unfold paP pbP at q
    rw [if_pos (show k < 20 by omega), if_pos (show k < 20 by omega)] at q
    by_cases s : on = 1 ∧ k = sp
    · rw [if_pos s] at q
      rw [q, s.2, part s.1]
    · rwa [if_neg s] at q
  let g : Nat → Int := fun b => if gIl hp b = h then gx x (gPl hp b) else 0
  have key : ∀ b : Nat, (b : Int) < ys hp 2088 0 → gIl hp b = h → gx x (gPl hp (gNd hp b).toNat) = gx x (gPl hp h.toNat) := fun b hb eb => by
    have key := i3 g (fun k hk hin => by
      obtain ⟨e1, e2⟩ := hw.ends (k := k) hk (by omega) (by omega)
      have e := i2 k hk hin
      show (if gIl hp (gNd hp (gA hp k)).toNat = h then gx x (gPl hp (gNd hp (gA hp k)).toNat) else 0) = (if gIl hp (gNd hp (gB hp k)).toNat = h then gx x (gPl hp (gNd hp (gB hp k)).toNat) else 0)
      rw [(i1 _ e1).2.1, (i1 _ e2).2.1, ← e]
      by_cases q : gIl hp (gA hp k) = h
      · rw [if_pos q, if_pos q]
        exact alike k hk q hin
      · rw [if_neg q, if_neg q]) b hb
    have key : (if gIl hp (gNd hp b).toNat = h then gx x (gPl hp (gNd hp b).toNat) else 0) = (if gIl hp (gIl hp b).toNat = h then gx x (gPl hp (gIl hp b).toNat) else 0) := key
    rwa [(i1 b hb).2.1, eb, if_pos rfl, if_pos h2] at key
  have zero : gx x (gPl hp h.toNat) = 0 := by
    obtain ⟨k, k1, k2, k3, k4, k5⟩ := hm
    rw [← key (gMb hp k) k5 k3]
    have := hx (21 + k) (by omega) (by
      unfold cntP
      rw [if_neg (show ¬ 21 + k < 20 by omega), if_neg (show ¬ 21 + k = 20 by omega), show 21 + k - 21 = k by omega]
      exact decide_eq_true ⟨by omega, k2, k3, k4⟩)
    unfold paP pbP at this
    rw [if_neg (show ¬ 21 + k < 20 by omega), if_neg (show ¬ 21 + k = 20 by omega), if_neg (show ¬ 21 + k < 20 by omega), if_neg (show ¬ 21 + k = 20 by omega), show 21 + k - 21 = k by omega] at this
    exact this
  have gxc : ∀ c : Nat, gx x (c : Int) = x c := fun c => by
    unfold gx
    rw [if_pos (by omega)]
    rfl
  intro c hc
  have hnd : gNd hp h.toNat = h := by
    have := (i1 h.toNat (by omega)).2.2
    rwa [h2] at this
  have hpl : gPl hp h.toNat = 0 := by
    unfold gPl
    rw [hl.2.1 h0 h1 h2 hnd]
    rfl
  by_cases c0 : c = 0
  · subst c0
    rw [hpl] at zero
    rw [← gxc 0]
    exact zero
  · by_cases cn : c < n0 + 1
    · obtain ⟨b, b1, b2, b3, b4⟩ := hl.2.2 (c - 1) (by omega)
      have := key b b1 b2
      rw [zero, show (gNd hp b).toNat = b by omega] at this
      unfold gPl at this
      rw [b4, show ((c - 1 : Nat) : Int) + 1 = (c : Int) by omega, gxc] at this
      exact this
    · have on1 : on = 1 := by omega
      have ec : (c : Int) = (n0 : Int) + 1 := by omega
      obtain ⟨s1, s2, s3⟩ := hsp on1
      obtain ⟨e1, e2⟩ := hw.ends (k := sp) s1 (by omega) (by omega)
      have e3 := i2 sp s1 s3
      rw [← gxc, ec, ← part on1, key (gB hp sp) e2 (by rw [← e3]; exact s2)]
      exact zero
noncomputable def xPt (hp : xH) (on : Int) (sp : Nat) (sk : Int) (f k : Nat) : Int := if k < 20 then (if on = 1 ∧ k = sp then ys hp 2089 (528 + f + 11 * k) * sk else ys hp 2089 (528 + f + 11 * k)) else if k = 20 then ys hp 2089 (528 + f + 11 * sp) * (16 - sk) else ys hp 2089 (793 + f + 11 * (k - 21))
noncomputable def nPt (on : Int) (sp k : Nat) : Int := if k < 20 then (if on = 1 ∧ k = sp then 16 else 1) else if k = 20 then 16 else 1
theorem mul_bd {a b : Int} (h1 : 1 ≤ a) (h2 : a ≤ 299) (h3 : 1 ≤ b) (h4 : b ≤ 15) : 1 ≤ a * b ∧ a * b ≤ 4500 := by
  have e1 := Int.mul_le_mul_of_nonneg_left h3 (show 0 ≤ a by omega)
  have e2 := Int.mul_le_mul_of_nonneg_left h4 (show 0 ≤ a by omega)
  omega
/-- a short's net can be solved by some of the forty primes -/
theorem gPo.sing {G : zW} {h on sk : Int} {sp f n0 : Nat} (hl : gLs hp h n0) (ht : bTq G hp) (hw : bWf G hp) (h0 : 0 ≤ h) (h1 : h < ys hp 2088 0) (h2 : gIl hp h.toNat = h) (bn : ∀ b : Nat, b < 16 → 0 ≤ gNd hp b ∧ gNd hp b ≤ b) (bi : ∀ b : Nat, b < 16 → 0 ≤ gIl hp b ∧ gIl hp b ≤ b) (hN : ys hp 2088 0 ≤ 16) (hL : ys hp 2088 2 ≤ 20) (hM : ys hp 2088 3 ≤ 6) (hsp : on = 1 → (sp : Int) < ys hp 2088 2 ∧ gIl hp (gA hp sp) = h ∧ gIn hp sp = 1) (hon : on = 0 ∨ on = 1) (hsk : on = 1 → 1 ≤ sk ∧ sk ≤ 15)
    (hm : ∃ k : Nat, (k : Int) < ys hp 2088 3 ∧ ys hp 2089 (792 + 11 * k) = 1 ∧ gIl hp (gMb hp k) = h ∧ 0 < ys hp 2089 (793 + f + 11 * k))
    (hmb : ∀ k : Nat, (k : Int) < ys hp 2088 3 → ((gMb hp k : Nat) : Int) < ys hp 2088 0)
    (hXl : ∀ k : Nat, (k : Int) < ys hp 2088 2 → 1 ≤ ys hp 2089 (528 + f + 11 * k) ∧ ys hp 2089 (528 + f + 11 * k) ≤ 299) (hXm : ∀ k : Nat, k < 6 → ys hp 2089 (793 + f + 11 * k) ≤ 299)
    (hn : (n : Int) = (n0 : Int) + 1 + on) (hn0 : n0 ≤ 15)
    (hs : ∀ p, p ∈ mPs → mSb (p : Int) n (cntP hp h on ((n0 : Int) + 1) sp f) (paP hp sp) (pbP hp on ((n0 : Int) + 1) sp) (xPt hp on sp sk f) (nPt on sp)) : False := by
  have t1 := ht.1
  have i1 := ht.2.1.1
  have i2 := ht.2.1.2.1
  have pl : ∀ b : Nat, (b : Int) < ys hp 2088 0 → gIl hp b = h → 0 ≤ gPl hp (gNd hp b).toNat ∧ gPl hp (gNd hp b).toNat < (n0 : Int) + 1 := fun b hb e => by
    have x1 := bn b (by omega)
    have := hl.1 (gNd hp b).toNat (by omega) (by rw [(i1 b hb).2.1]; exact e) (by rw [t1 b hb]; omega)
    unfold gPl
    omega
  have fld : ∀ k, k < 27 → cntP hp h on ((n0 : Int) + 1) sp f k = true → (-1 ≤ paP hp sp k ∧ paP hp sp k < n) ∧ (-1 ≤ pbP hp on ((n0 : Int) + 1) sp k ∧ pbP hp on ((n0 : Int) + 1) sp k < n) ∧ (1 ≤ xPt hp on sp sk f k ∧ xPt hp on sp sk f k ≤ 4500) ∧ (1 ≤ nPt on sp k ∧ nPt on sp k ≤ 16) := fun k hk hc => by
    unfold cntP at hc
    by_cases k20 : k < 20
    · rw [if_pos k20] at hc
      obtain ⟨c1, c2, c3, -⟩ := of_decide_eq_true hc
      obtain ⟨e1, e2⟩ := hw.ends (k := k) c1 (by omega) (by omega)
      have A := pl _ e1 c2
      have B := pl _ e2 (by rw [← i2 k c1 c3]; exact c2)
      have X := hXl k c1
      unfold paP pbP xPt nPt
      rw [if_pos k20, if_pos k20, if_pos k20, if_pos k20]
      by_cases s : on = 1 ∧ k = sp
      · rw [if_pos s, if_pos s, if_pos s]
        have := mul_bd X.1 X.2 (hsk s.1).1 (hsk s.1).2
        omega
      · rw [if_neg s, if_neg s, if_neg s]
        omega
    · rw [if_neg k20] at hc
      by_cases k21 : k = 20
      · rw [if_pos k21] at hc
        have on1 : on = 1 := of_decide_eq_true hc
        obtain ⟨c1, c2, c3⟩ := hsp on1
        obtain ⟨e1, e2⟩ := hw.ends (k := sp) c1 (by omega) (by omega)
        have B := pl _ e2 (by rw [← i2 sp c1 c3]; exact c2)
        have X := hXl sp c1
        have Y := hsk on1
        have := mul_bd X.1 X.2 (show 1 ≤ 16 - sk by omega) (by omega)
        unfold paP pbP xPt nPt
        rw [if_neg k20, if_neg k20, if_neg k20, if_neg k20, if_pos k21, if_pos k21, if_pos k21, if_pos k21]
        omega
      · rw [if_neg k21] at hc
        obtain ⟨c1, c2, c3, c4⟩ := of_decide_eq_true hc
        have A := pl _ (hmb (k - 21) (by omega)) c3
        have X := hXm (k - 21) (by omega)
        unfold paP pbP xPt nPt
        rw [if_neg k20, if_neg k20, if_neg k20, if_neg k20, if_neg k21, if_neg k21, if_neg k21, if_neg k21]
        omega
  obtain ⟨x, ⟨c, hc, hxc⟩, hx⟩ := mNet (n := n) (m := 27) (cnt := cntP hp h on ((n0 : Int) + 1) sp f) (pa := paP hp sp) (pb := pbP hp on ((n0 : Int) + 1) sp) (X := xPt hp on sp sk f) (N9 := nPt on sp) (by omega) (by decide) (fun k hk g => (fld k hk g).1) (fun k hk g => (fld k hk g).2.1) (fun k hk g => (fld k hk g).2.2.1) (fun k hk g => (fld k hk g).2.2.2) (fun p hp9 => by
    obtain ⟨w, z, a, b, c9⟩ := hs p hp9
    exact ⟨w, z, a, b, c9⟩)
  obtain ⟨k, k1, k2, k3, k4⟩ := hm
  exact hxc (gPo.no (f := f) hl ht hw h0 h1 h2 bn bi hN hL hM hsp hon ⟨k, k1, k2, k3, k4, hmb k k1⟩ hx c (by omega))
end MPots
section MJoinP
variable {hp hq h1 h2 : xH} {P on nd a b x sk z : Int} {sp k : Nat}
theorem mJy {m i r : Int} (h1 : P ∣ m * i - 1) (h2 : P ∣ r - 16 * i) : P ∣ m * r - 16 := by
  have e1 := mdv_mul (mdv_rf P m) h2
  have e2 := mdv_mul (mdv_rf P 16) h1
  rw [Int.mul_one] at e2
  exact mdv_tr e1 (by rw [Int.mul_left_comm]; exact e2)
/-- what a line joins -/
def mJp (hp hq : xH) (P on nd : Int) (sp k : Nat) (a b x sk z : Int) : Prop := (∀ n C, mRng hp P n C → mRng hq P n C) ∧ (on = 1 ∧ k = sp → ∃ (h1 : xH) (y1 y2 : Int), P ∣ x * sk * y1 - 16 ∧ P ∣ x * (16 - sk) * y2 - 16 ∧ P ∣ z - x * sk * (x * (16 - sk)) ∧ ((∀ (w : Nat → Int) (n : Nat), a < n → nd < n → n ≤ 48 → ∀ r, P ∣ mDot h1 w n r - (mDot hp w n r + mJn w a nd y1 r)) ∧ ∀ n C, mRng hp P n C → mRng h1 P n C) ∧ ((∀ (w : Nat → Int) (n : Nat), b < n → nd < n → n ≤ 48 → ∀ r, P ∣ mDot hq w n r - (mDot h1 w n r + mJn w b nd y2 r)) ∧ ∀ n C, mRng h1 P n C → mRng hq P n C)) ∧ (¬ (on = 1 ∧ k = sp) → a ≠ b → z = x ∧ ∃ y, P ∣ x * y - 1 ∧ ∀ (w : Nat → Int) (n : Nat), a < n → b < n → n ≤ 48 → ∀ r, P ∣ mDot hq w n r - (mDot hp w n r + mJn w a b y r)) ∧ (¬ (on = 1 ∧ k = sp) → a = b → z = 1 ∧ ∀ (w : Nat → Int) (n : Nat) r, P ∣ mDot hq w n r - mDot hp w n r)
theorem mJp.two {y1 y2 : Int} (h : on = 1 ∧ k = sp) (d1 : (∀ (w : Nat → Int) (n : Nat), a < n → nd < n → n ≤ 48 → ∀ r, P ∣ mDot h1 w n r - (mDot hp w n r + mJn w a nd y1 r)) ∧ ∀ n C, mRng hp P n C → mRng h1 P n C) (d2 : (∀ (w : Nat → Int) (n : Nat), b < n → nd < n → n ≤ 48 → ∀ r, P ∣ mDot hq w n r - (mDot h1 w n r + mJn w b nd y2 r)) ∧ ∀ n C, mRng h1 P n C → mRng hq P n C) (e1 : P ∣ x * sk * y1 - 16) (e2 : P ∣ x * (16 - sk) * y2 - 16) (e3 : P ∣ z - x * sk * (x * (16 - sk))) : mJp hp hq P on nd sp k a b x sk z := ⟨fun n C g => d2.2 n C (d1.2 n C g), fun _ => ⟨h1, y1, y2, e1, e2, e3, d1, d2⟩, fun h9 => absurd h h9, fun h9 => absurd h h9⟩
theorem mJp.one {y : Int} (h : ¬ (on = 1 ∧ k = sp)) (hab : a ≠ b) (d : (∀ (w : Nat → Int) (n : Nat), a < n → b < n → n ≤ 48 → ∀ r, P ∣ mDot hq w n r - (mDot hp w n r + mJn w a b y r)) ∧ ∀ n C, mRng hp P n C → mRng hq P n C) (e : P ∣ x * y - 1) : mJp hp hq P on nd sp k a b x sk x := ⟨d.2, fun h9 => absurd h9 h, fun _ _ => ⟨rfl, y, e, d.1⟩, fun _ h9 => absurd h9 hab⟩
theorem mJp.nil (h : ¬ (on = 1 ∧ k = sp)) (hab : a = b) : mJp hp hp P on nd sp k a b x sk 1 := ⟨fun _ _ g => g, fun h9 => absurd h9 h, fun _ h9 => absurd hab h9, fun _ _ => ⟨rfl, fun w n r => mdv_rf _ _⟩⟩
end MJoinP
section MDone
variable {hp hq h1 h2 hA : xH} {P h on nd K M a b x sk z all all2 : Int} {sp f k n m : Nat} {cnt : Nat → Bool}
/-- the branches that are done -/
noncomputable def cntD (hp : xH) (h on nd : Int) (sp f : Nat) (K M : Int) (k : Nat) : Bool := cntP hp h on nd sp f k && (if k < 20 then decide ((k : Int) < K) else if k = 20 then decide ((sp : Int) < K) else decide ((k : Int) - 21 < M))
theorem cntD_iff : cntD hp h on nd sp f K M k = true ↔ cntP hp h on nd sp f k = true ∧ ((k < 20 ∧ (k : Int) < K) ∨ (k = 20 ∧ (sp : Int) < K) ∨ (20 < k ∧ (k : Int) - 21 < M)) := by
  unfold cntD
  rw [Bool.and_eq_true]
  by_cases a : k < 20
  · rw [if_pos a, decide_eq_true_iff]
    exact ⟨fun g => ⟨g.1, .inl ⟨a, g.2⟩⟩, fun g => ⟨g.1, by omega⟩⟩
  · rw [if_neg a]
    by_cases e : k = 20
    · rw [if_pos e, decide_eq_true_iff]
      exact ⟨fun g => ⟨g.1, .inr (.inl ⟨e, g.2⟩)⟩, fun g => ⟨g.1, by omega⟩⟩
    · rw [if_neg e, decide_eq_true_iff]
      exact ⟨fun g => ⟨g.1, .inr (.inr ⟨by omega, g.2⟩)⟩, fun g => ⟨g.1, by omega⟩⟩
theorem gUp_iff {j : Nat} : gUp cnt m j = true ↔ j = m ∨ cnt j = true := by
  unfold gUp
  by_cases e : j = m
  · rw [if_pos e]; exact ⟨fun _ => .inl e, fun _ => rfl⟩
  · rw [if_neg e]; exact ⟨.inr, fun g => g.resolve_left e⟩
theorem cntP_20 (ho : on ≠ 1) : ¬ cntP hp h on nd sp f 20 = true := fun g => by
  unfold cntP at g
  rw [if_neg (by decide), if_pos rfl] at g
  exact ho (of_decide_eq_true g)
theorem cntD.start : ∀ k, k < 27 → cntD hp h on nd sp f 0 0 k = false := fun k _ => by
  cases e : cntD hp h on nd sp f 0 0 k with
  | false => rfl
  | true => have := (cntD_iff.mp e).2; omega
theorem cntD.skip (hK : K = (k : Int)) (hc : ¬ cntP hp h on nd sp f k = true) (hs : on = 1 → k ≠ sp) (j : Nat) : cntD hp h on nd sp f (K + 1) M j = cntD hp h on nd sp f K M j := by
  rw [Bool.eq_iff_iff, cntD_iff, cntD_iff]
  refine ⟨fun g => ⟨g.1, ?_⟩, fun g => ⟨g.1, by omega⟩⟩
  have n1 : j ≠ k := fun e => hc (e ▸ g.1)
  have n2 : j = 20 → on = 1 := fun e => Decidable.byContradiction fun o => cntP_20 o (e ▸ g.1)
  have := g.2
  by_cases e : j = 20
  · have := hs (n2 e); omega
  · omega
theorem cntD.line (hK : K = (k : Int)) (k20 : k < 20) (hc : cntP hp h on nd sp f k = true) (hs : on = 1 → k ≠ sp) (j : Nat) : cntD hp h on nd sp f (K + 1) M j = gUp (cntD hp h on nd sp f K M) k j := by
  rw [Bool.eq_iff_iff, gUp_iff, cntD_iff, cntD_iff]
  refine ⟨fun g => ?_, fun g => ?_⟩
  · by_cases e : j = k
    · exact .inl e
    · refine .inr ⟨g.1, ?_⟩
      have := g.2
      by_cases e2 : j = 20
      · have n2 : on = 1 := Decidable.byContradiction fun o => cntP_20 o (e2 ▸ g.1)
        have := hs n2; omega
      · omega
  · rcases g with e | g
    · subst e; exact ⟨hc, by omega⟩
    · exact ⟨g.1, by have := g.2; omega⟩
theorem cntD.short (hK : K = (k : Int)) (k20 : k < 20) (hc : cntP hp h on nd sp f k = true) (ho : on = 1) (hs : k = sp) (j : Nat) : cntD hp h on nd sp f (K + 1) M j = gUp (gUp (cntD hp h on nd sp f K M) k) 20 j := by
  rw [Bool.eq_iff_iff, gUp_iff, gUp_iff, cntD_iff, cntD_iff]
  refine ⟨fun g => ?_, fun g => ?_⟩
  · by_cases e2 : j = 20
    · exact .inl e2
    · by_cases e : j = k
      · exact .inr (.inl e)
      · exact .inr (.inr ⟨g.1, by have := g.2; omega⟩)
  · rcases g with e | e | g
    · subst e
      refine ⟨?_, by omega⟩
      unfold cntP
      rw [if_neg (by decide), if_pos rfl]
      exact decide_eq_true ho
    · subst e; exact ⟨hc, by omega⟩
    · exact ⟨g.1, by have := g.2; omega⟩
theorem cntD.mach (hM : M = (k : Int)) (hc : cntP hp h on nd sp f (21 + k) = true) (j : Nat) : cntD hp h on nd sp f K (M + 1) j = gUp (cntD hp h on nd sp f K M) (21 + k) j := by
  rw [Bool.eq_iff_iff, gUp_iff, cntD_iff, cntD_iff]
  refine ⟨fun g => ?_, fun g => ?_⟩
  · by_cases e : j = 21 + k
    · exact .inl e
    · exact .inr ⟨g.1, by have := g.2; omega⟩
  · rcases g with e | g
    · subst e; exact ⟨hc, by omega⟩
    · exact ⟨g.1, by have := g.2; omega⟩
theorem cntD.mskip (hM : M = (k : Int)) (hc : ¬ cntP hp h on nd sp f (21 + k) = true) (j : Nat) : cntD hp h on nd sp f K (M + 1) j = cntD hp h on nd sp f K M j := by
  rw [Bool.eq_iff_iff, cntD_iff, cntD_iff]
  refine ⟨fun g => ⟨g.1, ?_⟩, fun g => ⟨g.1, by omega⟩⟩
  have n1 : j ≠ 21 + k := fun e => hc (e ▸ g.1)
  have := g.2
  omega
theorem mPl.same {pa pb X N9 : Nat → Int} (hj : mPl hA hq P n cnt pa pb X N9 all) (hd : ∀ (w : Nat → Int) (m : Nat) r, P ∣ mDot h2 w m r - mDot hq w m r) (hR : ∀ m C, mRng hq P m C → mRng h2 P m C) : mPl hA h2 P n cnt pa pb X N9 all := by
  obtain ⟨⟨y, a1, a2⟩, a3, a4⟩ := hj
  refine ⟨⟨y, a1, fun w r hr => mdv_tr (hd w n r) (a2 w r hr)⟩, a3, fun g => hR _ _ (a4 g)⟩
theorem mPl.line (hj : mPl hA hq P n (cntD hA h on nd sp f K 0) (paP hA sp) (pbP hA on nd sp) (xPt hA on sp sk f) (nPt on sp) all) (J : mJp hq h2 P on nd sp k a b x sk z) (hK : K = (k : Int)) (k20 : k < 20) (hc : (k : Int) < ys hA 2088 2 ∧ gIl hA (gA hA k) = h ∧ gIn hA k = 1) (ha : a = gPl hA (gNd hA (gA hA k)).toNat) (hb : b = gPl hA (gNd hA (gB hA k)).toNat) (hx : x = ys hA 2089 (528 + f + 11 * k)) (x1 : 1 ≤ x) (x2 : x ≤ 299) (hsk : on = 1 → 1 ≤ sk ∧ sk ≤ 15) (a1 : a < nd) (b1 : b < nd) (hn : nd ≤ n) (hn1 : on = 1 → nd < n) (n48 : n ≤ 48) (hP : 4501 ≤ P) (hp9 : mPr P.toNat) (hall : P ∣ all2 - all * z) : mPl hA h2 P n (cntD hA h on nd sp f (K + 1) 0) (paP hA sp) (pbP hA on nd sp) (xPt hA on sp sk f) (nPt on sp) all2 := by
  have fin : ¬ P ∣ z → ¬ P ∣ all2 := fun hz g => mdv_pr hp9 (by omega) hj.2.1 hz (mdv_sub g hall)
  have nf : cntD hA h on nd sp f K 0 k = false := by
    cases e : cntD hA h on nd sp f K 0 k with
    | false => rfl
    | true => have := (cntD_iff.mp e).2; omega
  by_cases s : on = 1 ∧ k = sp
  · obtain ⟨h1, y1, y2, e1, e2, e3, d1, d2⟩ := J.2.1 s
    have k1 := hsk s.1
    have m1 := mul_bd x1 x2 k1.1 k1.2
    have m2 := mul_bd (a := x) (b := 16 - sk) x1 x2 (by omega) (by omega)
    have hcP : cntP hA h on nd sp f k = true := by
      unfold cntP
      rw [if_pos k20]
      refine decide_eq_true ⟨hc.1, hc.2.1, hc.2.2, ?_⟩
      unfold paP pbP
      rw [if_pos k20, if_pos k20, if_pos s, ← ha]
      omega
    have nf2 : gUp (cntD hA h on nd sp f K 0) k 20 = false := by
      cases e : gUp (cntD hA h on nd sp f K 0) k 20 with
      | false => rfl
      | true =>
        rcases gUp_iff.mp e with g | g
        · omega
        · have := (cntD_iff.mp g).2
          have := s.2
          omega
    have s1 := hj.step (h2 := h1) (k := k) (z9 := y1) (a := a) (b := nd) (by omega) nf (by unfold xPt nPt; rw [if_pos k20, if_pos k20, if_pos s, if_pos s, ← hx]; exact e1) (by unfold paP; rw [if_pos k20]; exact ha) (by unfold pbP; rw [if_pos k20, if_pos s]) (fun w r hr => d1.1 w n (by omega) (hn1 s.1) n48 r) (d1.2 n (n + 1))
    have s2 := s1.step (h2 := h2) (k := 20) (z9 := y2) (a := b) (b := nd) (by decide) nf2 (by unfold xPt nPt; rw [if_neg (show ¬ 20 < 20 by decide), if_neg (show ¬ 20 < 20 by decide), if_pos (show 20 = 20 from rfl), if_pos (show 20 = 20 from rfl), ← s.2, ← hx]; exact e2) (by unfold paP; rw [if_neg (by decide), if_pos rfl, ← s.2]; exact hb) (by unfold pbP; rw [if_neg (by decide), if_pos rfl]) (fun w r hr => d2.1 w n (by omega) (hn1 s.1) n48 r) (d2.2 n (n + 1))
    exact (s2.all (fin fun g => mdv_pr hp9 (by omega) (mNdvd (by omega) (by omega)) (mNdvd (by omega) (by omega)) (mdv_sub g e3))).cc fun j _ => cntD.short hK k20 hcP s.1 s.2 j
  · by_cases q : a = b
    · obtain ⟨e1, d⟩ := J.2.2.2 s q
      have hn9 : ¬ cntP hA h on nd sp f k = true := fun g => by
        unfold cntP at g
        rw [if_pos k20] at g
        refine (of_decide_eq_true g).2.2.2 ?_
        unfold paP pbP
        rw [if_pos k20, if_pos k20, if_neg s, ← ha, ← hb, q]
      exact ((hj.same d J.1).all (fin (by rw [e1]; exact mNdvd (by omega) (by omega)))).cc fun j _ => cntD.skip hK hn9 (fun o e => s ⟨o, e⟩) j
    · obtain ⟨e1, y, e2, d⟩ := J.2.2.1 s q
      have hcP : cntP hA h on nd sp f k = true := by
        unfold cntP
        rw [if_pos k20]
        refine decide_eq_true ⟨hc.1, hc.2.1, hc.2.2, ?_⟩
        unfold paP pbP
        rw [if_pos k20, if_pos k20, if_neg s, ← ha, ← hb]
        exact q
      have s1 := hj.step (h2 := h2) (k := k) (z9 := y) (a := a) (b := b) (by omega) nf (by unfold xPt nPt; rw [if_pos k20, if_pos k20, if_neg s, if_neg s, ← hx]; exact e2) (by unfold paP; rw [if_pos k20]; exact ha) (by unfold pbP; rw [if_pos k20, if_neg s]; exact hb) (fun w r hr => d w n (by omega) (by omega) n48 r) (J.1 n (n + 1))
      exact (s1.all (fin (by rw [e1]; exact mNdvd (by omega) (by omega)))).cc fun j _ => cntD.line hK k20 hcP (fun o e => s ⟨o, e⟩) j
theorem mPl.lskip (hj : mPl hA hq P n (cntD hA h on nd sp f K 0) (paP hA sp) (pbP hA on nd sp) (xPt hA on sp sk f) (nPt on sp) all) (hK : K = (k : Int)) (k20 : k < 20) (hc : ¬ ((k : Int) < ys hA 2088 2 ∧ gIl hA (gA hA k) = h ∧ gIn hA k = 1)) (hsp : on = 1 → (sp : Int) < ys hA 2088 2 ∧ gIl hA (gA hA sp) = h ∧ gIn hA sp = 1) : mPl hA hq P n (cntD hA h on nd sp f (K + 1) 0) (paP hA sp) (pbP hA on nd sp) (xPt hA on sp sk f) (nPt on sp) all := by
  have hn9 : ¬ cntP hA h on nd sp f k = true := fun g => by
    unfold cntP at g
    rw [if_pos k20] at g
    have g := of_decide_eq_true g
    exact hc ⟨g.1, g.2.1, g.2.2.1⟩
  exact hj.cc fun j _ => cntD.skip hK hn9 (fun o e => hc (by rw [e]; exact hsp o)) j
/-- all lines are done: the machines -/
theorem mPl.mach {z9 : Int} (hj : mPl hA hq P n (cntD hA h on nd sp f K M) (paP hA sp) (pbP hA on nd sp) (xPt hA on sp sk f) (nPt on sp) all) (hM : M = (k : Int)) (k6 : k < 6) (hc : (k : Int) < ys hA 2088 3 ∧ ys hA 2089 (792 + 11 * k) = 1 ∧ gIl hA (gMb hA k) = h) (ha : a = gPl hA (gNd hA (gMb hA k)).toNat) (hx : x = ys hA 2089 (793 + f + 11 * k)) (x1 : 1 ≤ x) (x2 : x ≤ 299) (a1 : a < n) (n48 : n ≤ 48) (hP : 4501 ≤ P) (hp9 : mPr P.toNat) (hz : P ∣ x * z9 - 1) (d : (∀ (w : Nat → Int) (n : Nat), a < n → -1 < (n : Int) → n ≤ 48 → ∀ r, P ∣ mDot h2 w n r - (mDot hq w n r + mJn w a (-1) z9 r)) ∧ ∀ n C, mRng hq P n C → mRng h2 P n C) (hall : P ∣ all2 - all * x) : mPl hA h2 P n (cntD hA h on nd sp f K (M + 1)) (paP hA sp) (pbP hA on nd sp) (xPt hA on sp sk f) (nPt on sp) all2 := by
  have n1 : ¬ 21 + k < 20 := by omega
  have n2 : ¬ 21 + k = 20 := by omega
  have n3 : 21 + k - 21 = k := by omega
  have nf : cntD hA h on nd sp f K M (21 + k) = false := by
    cases e : cntD hA h on nd sp f K M (21 + k) with
    | false => rfl
    | true => have := (cntD_iff.mp e).2; omega
  have hcP : cntP hA h on nd sp f (21 + k) = true := by
    unfold cntP
    rw [if_neg n1, if_neg n2, n3]
    exact decide_eq_true ⟨by omega, hc.2.1, hc.2.2, by omega⟩
  have s1 := hj.step (h2 := h2) (k := 21 + k) (z9 := z9) (a := a) (b := -1) (by omega) nf (by unfold xPt nPt; rw [if_neg n1, if_neg n1, if_neg n2, if_neg n2, n3, ← hx]; exact hz) (by unfold paP; rw [if_neg n1, if_neg n2, n3]; exact ha) (by unfold pbP; rw [if_neg n1, if_neg n2]) (fun w r hr => d.1 w n a1 (by omega) n48 r) (d.2 n (n + 1))
  exact (s1.all (fun g => mdv_pr hp9 (by omega) hj.2.1 (mNdvd (by omega) (by omega)) (mdv_sub g hall))).cc fun j _ => cntD.mach hM hcP j
theorem mPl.mskip (hj : mPl hA hq P n (cntD hA h on nd sp f K M) (paP hA sp) (pbP hA on nd sp) (xPt hA on sp sk f) (nPt on sp) all) (hM : M = (k : Int)) (hc : ¬ (ys hA 2089 (792 + 11 * k) = 1 ∧ gIl hA (gMb hA k) = h ∧ 0 < ys hA 2089 (793 + f + 11 * k))) : mPl hA hq P n (cntD hA h on nd sp f K (M + 1)) (paP hA sp) (pbP hA on nd sp) (xPt hA on sp sk f) (nPt on sp) all := by
  have n1 : ¬ 21 + k < 20 := by omega
  have n2 : ¬ 21 + k = 20 := by omega
  have n3 : 21 + k - 21 = k := by omega
  have hn9 : ¬ cntP hA h on nd sp f (21 + k) = true := fun g => by
    unfold cntP at g
    rw [if_neg n1, if_neg n2, n3] at g
    have g := of_decide_eq_true g
    exact hc ⟨g.2.1, g.2.2.1, g.2.2.2⟩
  exact hj.cc fun j _ => cntD.mskip hM hn9 j
theorem mPl.full (hj : mPl hA hq P n (cntD hA h on nd sp f K M) (paP hA sp) (pbP hA on nd sp) (xPt hA on sp sk f) (nPt on sp) all) (hK : ys hA 2088 2 ≤ K) (hM : ys hA 2088 3 ≤ M) (hsp : on = 1 → (sp : Int) < ys hA 2088 2) : mPl hA hq P n (cntP hA h on nd sp f) (paP hA sp) (pbP hA on nd sp) (xPt hA on sp sk f) (nPt on sp) all := hj.cc fun j _ => by
  rw [Bool.eq_iff_iff, cntD_iff]
  refine ⟨fun g => ⟨g, ?_⟩, fun g => g.1⟩
  by_cases a : j < 20
  · unfold cntP at g
    rw [if_pos a] at g
    have := (of_decide_eq_true g).1
    omega
  · by_cases e : j = 20
    · unfold cntP at g
      rw [if_neg a, if_pos e] at g
      have := hsp (of_decide_eq_true g)
      omega
    · unfold cntP at g
      rw [if_neg a, if_neg e] at g
      have := (of_decide_eq_true g).1
      omega
end MDone
section MQ
variable {a b hq : xH} {h on nd sk K M i all z : Int} {sp f n n0 r : Nat}
theorem gSame.cp (s : gSame a b) : cntP b = cntP a ∧ paP b = paP a ∧ pbP b = pbP a ∧ xPt b = xPt a ∧ gNd b = gNd a ∧ gIl b = gIl a ∧ gIn b = gIn a ∧ gA b = gA a ∧ gB b = gB a ∧ gMb b = gMb a ∧ gPl b = gPl a := by
  obtain ⟨s0, s1, s2, s3, s4, s5⟩ := s
  have a1 : gNd b = gNd a := funext s1
  have a2 : gIl b = gIl a := funext s2
  have a3 : gIn b = gIn a := funext s3
  have a4 : gA b = gA a := funext fun k => by unfold gA; rw [s4]
  have a5 : gB b = gB a := funext fun k => by unfold gB; rw [s4]
  have a6 : gMb b = gMb a := funext fun k => by unfold gMb; rw [s4]
  have a7 : gPl b = gPl a := funext fun k => by unfold gPl; rw [s5]
  have b2 : paP b = paP a := by funext x k; unfold paP; rw [a1, a4, a5, a6, a7]
  have b3 : pbP b = pbP a := by funext x y w k; unfold pbP; rw [a1, a5, a7]
  have b1 : cntP b = cntP a := by
    funext x y w v u k
    unfold cntP
    rw [s0, s0, a2, a3, a4, a6, b2, b3, s4, s4]
  have b4 : xPt b = xPt a := by
    funext x y w v k
    unfold xPt
    rw [s4, s4, s4]
  exact ⟨b1, b2, b3, b4, a1, a2, a3, a4, a5, a6, a7⟩
/-- primes that are no use show that the net is singular by them -/
def gQ1 (hq : xH) (h on : Int) (sp : Nat) (sk : Int) (f n n0 : Nat) (i : Int) : Prop := gLs hq h n0 ∧ (ys hq 2073 10 = 0 → ∀ j : Nat, (j : Int) < i → ∀ v, mPs[j]? = some v → mSb (v : Int) n (cntP hq h on ((n0 : Int) + 1) sp f) (paP hq sp) (pbP hq on ((n0 : Int) + 1) sp) (xPt hq on sp sk f) (nPt on sp))
theorem gQ1.start (g : gLs hq h n0) : gQ1 hq h on sp sk f n n0 0 := ⟨g, fun _ j hj => absurd hj (by omega)⟩
theorem gQ1.cg (g : gQ1 a h on sp sk f n n0 i) (s : gSame a b) (hu : ys b 2073 10 = 0 → ys a 2073 10 = 0) : gQ1 b h on sp sk f n n0 i := by
  refine ⟨s.ls g.1, fun e j hj v hv => ?_⟩
  obtain ⟨b1, b2, b3, b4, -⟩ := s.cp
  rw [b1, b2, b3, b4]
  exact g.2 (hu e) j hj v hv
theorem gQ1.next (g : gQ1 a h on sp sk f n n0 i) (hi : 0 ≤ i) (hs : ∀ v, mPs[i.toNat]? = some v → mSb (v : Int) n (cntP a h on ((n0 : Int) + 1) sp f) (paP a sp) (pbP a on ((n0 : Int) + 1) sp) (xPt a on sp sk f) (nPt on sp)) : gQ1 a h on sp sk f n n0 (i + 1) := ⟨g.1, fun e j hj v hv => by
  by_cases q : (j : Int) = i
  · exact hs v (by rw [← q]; exact hv)
  · exact g.2 e j (by omega) v hv⟩
theorem gQ1.used {k : Int} (g : gQ1 a h on sp sk f n n0 i) (s : gSame a b) (hu : ys b 2073 10 ≠ 0) : gQ1 b h on sp sk f n n0 k := ⟨s.ls g.1, fun e => absurd e hu⟩
/-- what is joined so far, by the prime at hand -/
def gQ2 (hq : xH) (h on nd : Int) (sp : Nat) (sk : Int) (f n : Nat) (i K M all : Int) : Prop := ∃ (v : Nat) (hA hB : xH), mPs[i.toNat]? = some v ∧ ys hq 2073 11 = (v : Int) ∧ mPl hA hB (v : Int) n (cntD hA h on nd sp f K M) (paP hA sp) (pbP hA on nd sp) (xPt hA on sp sk f) (nPt on sp) all ∧ gSame hA hq ∧ (∀ r, r < n → ∀ k, k < n → mmM hA r k = 0) ∧ (∀ r, r < n → ∀ k, k < n → mmM hq r k = mmM hB r k) ∧ mRng hq (v : Int) n (n + 1)
theorem gQ2.put {ix : Int} (g : gQ2 a h on nd sp sk f n i K M all) (hn : n < 48) (hr : r < n) (hy : ∀ x t, ys b x t = if x = 2083 ∧ t = ix.toNat then z else ys a x t) (hi : ix = 48 * (r : Int) + (n : Int)) (hz0 : 0 ≤ z) (hz1 : z < ys a 2073 11) : gQ2 b h on nd sp sk f n i K M all := by
  obtain ⟨v, hA, hB, g1, g2, g3, g4, g5, g6, g7⟩ := g
  have e : ∀ x t, x ≠ 2083 → ys b x t = ys a x t := fun x t hx => (hy x t).trans (if_neg (fun q => hx q.1))
  have pu := fun s j hj => mmM_put (r := r) (k := n) hy hi (by omega) s j hj
  refine ⟨v, hA, hB, g1, by rw [e 2073 11 (by decide)]; exact g2, g3, g4.tr ⟨fun j => e _ j (by decide), fun j => e _ j (by decide), fun j => e _ j (by decide), fun j => e _ j (by decide), fun j => e _ j (by decide), fun j => e _ j (by decide)⟩, g5, fun s hs k hk => ?_, fun s hs k hk => ?_⟩
  · rw [pu s k (by omega), if_neg (by omega)]
    exact g6 s hs k hk
  · rw [pu s k (by omega)]
    split
    · omega
    · exact g7 s hs k hk
theorem gQ2.fin (g : gQ2 a h on nd sp sk f n i K M all) (hK : ys a 2088 2 ≤ K) (hM : ys a 2088 3 ≤ M) (hsp : on = 1 → (sp : Int) < ys a 2088 2) (hp9 : mPr (ys a 2073 11).toNat) (hz : ys a 2073 11 ∣ z * all) (hz0 : 0 ≤ z) (hz1 : z < ys a 2073 11) (hs : z = 0 → mSgv a (ys a 2073 11) n (n + 1)) (v : Nat) (hv : mPs[i.toNat]? = some v) : mSb (v : Int) n (cntP a h on nd sp f) (paP a sp) (pbP a on nd sp) (xPt a on sp sk f) (nPt on sp) := by
  obtain ⟨u, hA, hB, g1, g2, g3, g4, g5, g6, g7⟩ := g
  have e : u = v := Option.some.inj (g1.symm.trans hv)
  subst e
  rw [g2] at hp9 hz hz1 hs
  have z0 : z = 0 := by
    by_cases e : z = 0
    · exact e
    · exact absurd hz (mdv_pr hp9 (by omega) (mNdvd (by omega) hz1) g3.2.1)
  obtain ⟨b1, b2, b3, b4, -⟩ := g4.cp
  rw [b1, b2, b3, b4]
  have c2 := g4.1 2
  have c3 := g4.1 3
  exact (g3.full (by omega) (by omega) (fun o => by have := hsp o; omega)).sn g5 g6 (hs z0)
end MQ
