/-! ===== the reference: nodes and islands, what they mean ===== -/
section MGraph
variable {G : zW} {hp hq h1 h2 : xH} {N K x y : Int}
noncomputable def gNd (hp : xH) (b : Nat) : Int := ys hp 2100 b
noncomputable def gIl (hp : xH) (b : Nat) : Int := ys hp 2101 b
noncomputable def gIn (hp : xH) (k : Nat) : Int := ys hp 2099 k
noncomputable def gA (hp : xH) (k : Nat) : Nat := (ys hp 2089 (532 + 11 * k)).toNat
noncomputable def gB (hp : xH) (k : Nat) : Nat := (ys hp 2089 (533 + 11 * k)).toNat
theorem gNd_bd (W : mW G) (hT : zTy G hp) {b : Nat} (hb : b < 16) : 0 ≤ gNd hp b ∧ gNd hp b ≤ b := by
  obtain ⟨-, -, h1, h2⟩ := (v_M_node W (s_M_node W)).int hT hb rfl
  exact ⟨h1, h2⟩
theorem gIl_bd (W : mW G) (hT : zTy G hp) {b : Nat} (hb : b < 16) : 0 ≤ gIl hp b ∧ gIl hp b ≤ b := by
  obtain ⟨-, -, h1, h2⟩ := (v_M_island W (s_M_island W)).int hT hb rfl
  exact ⟨h1, h2⟩
/-- two groups have become one -/
def gMg (f f2 : Nat → Int) (N x y : Int) : Prop := ∀ b : Nat, (b : Int) < N → f2 b = if f b = x ∨ f b = y then (if x < y then x else y) else f b
/-- each node is its own -/
def gTn (hp : xH) (N : Int) : Prop := ∀ b : Nat, (b : Int) < N → gNd hp (gNd hp b).toNat = gNd hp b
theorem gTn.mg {a c : Nat} (h : gTn hp N) (hN : N ≤ 16) (hb : ∀ b : Nat, b < 16 → 0 ≤ gNd hp b ∧ gNd hp b ≤ b) (ha : (a : Int) < N) (hc : (c : Int) < N) (hm : gMg (gNd hp) (gNd hq) N (gNd hp a) (gNd hp c)) : gTn hq N := by
  have hx := h a ha
  have hy := h c hc
  have bx := hb a (by omega)
  have by9 := hb c (by omega)
  have hlow : ∀ b : Nat, (b : Int) < N → gNd hq b = (if gNd hp a < gNd hp c then gNd hp a else gNd hp c) → gNd hq (gNd hq b).toNat = gNd hq b := fun b hbN e => by
    rw [e]
    split
    · rw [hm _ (by omega), hx, if_pos (.inl rfl), if_pos (by assumption)]
    · rw [hm _ (by omega), hy, if_pos (.inr rfl), if_neg (by assumption)]
  intro b hbN
  have e := hm b hbN
  by_cases g : gNd hp b = gNd hp a ∨ gNd hp b = gNd hp c
  · rw [if_pos g] at e
    exact hlow b hbN e
  · rw [if_neg g] at e
    rw [e]
    have b9 := hb b (by omega)
    rw [hm _ (by omega), h b hbN, if_neg g]
/-- islands of nodes, by the first lines -/
def gTi (hp : xH) (N K : Int) : Prop := (∀ b : Nat, (b : Int) < N → gIl hp (gIl hp b).toNat = gIl hp b ∧ gIl hp (gNd hp b).toNat = gIl hp b ∧ gNd hp (gIl hp b).toNat = gIl hp b) ∧ (∀ k : Nat, (k : Int) < K → gIn hp k = 1 → gIl hp (gA hp k) = gIl hp (gB hp k)) ∧ ∀ g : Nat → Int, (∀ k : Nat, (k : Int) < K → gIn hp k = 1 → g (gNd hp (gA hp k)).toNat = g (gNd hp (gB hp k)).toNat) → ∀ b : Nat, (b : Int) < N → g (gNd hp b).toNat = g (gIl hp b).toNat
theorem gTi.start (h : gTn hp N) (hN : N ≤ 16) (hb : ∀ b : Nat, b < 16 → 0 ≤ gNd hp b ∧ gNd hp b ≤ b) (he : ∀ b : Nat, (b : Int) < N → gIl hp b = gNd hp b) : gTi hp N 0 := by
  refine ⟨fun b hbN => ?_, fun k hk => absurd hk (by omega), fun g _ b hbN => by rw [he b hbN]⟩
  have b9 := hb b (by omega)
  rw [he b hbN, he _ (by omega), h b hbN]
  exact ⟨rfl, rfl, rfl⟩
theorem gTi.cg (h : gTi hp N K) (e1 : ∀ j, gNd hq j = gNd hp j) (e2 : ∀ j, gIl hq j = gIl hp j) (e3 : ∀ j, gIn hq j = gIn hp j) (e4 : ∀ j, ys hq 2089 j = ys hp 2089 j) : gTi hq N K := by
  have a1 : gNd hq = gNd hp := funext e1
  have a2 : gIl hq = gIl hp := funext e2
  have a3 : gIn hq = gIn hp := funext e3
  have a4 : gA hq = gA hp := funext fun k => by unfold gA; rw [e4]
  have a5 : gB hq = gB hp := funext fun k => by unfold gB; rw [e4]
  unfold gTi
  rw [a1, a2, a3, a4, a5]
  exact h
theorem gTn.cg (h : gTn hp N) (e1 : ∀ j, gNd hq j = gNd hp j) : gTn hq N := by
  have a1 : gNd hq = gNd hp := funext e1
  unfold gTn
  rw [a1]
  exact h
theorem gTi.skip {k : Nat} (h : gTi hp N K) (hK : K = (k : Int)) (hi : gIn hp k ≠ 1) : gTi hp N (K + 1) := by
  obtain ⟨a1, a2, a3⟩ := h
  refine ⟨a1, fun j hj hi2 => ?_, fun g hg => a3 g fun j hj => hg j (by omega)⟩
  by_cases e : j = k
  · subst e; exact absurd hi2 hi
  · exact a2 j (by omega) hi2
/-- a line that is in joins two islands -/
theorem gTi.mg {k : Nat} (h : gTi hp N K) (hK : K = (k : Int)) (hi : gIn hp k = 1) (hN : N ≤ 16) (hb : ∀ b : Nat, b < 16 → 0 ≤ gIl hp b ∧ gIl hp b ≤ b) (hbn : ∀ b : Nat, b < 16 → 0 ≤ gNd hp b ∧ gNd hp b ≤ b) (ha : ((gA hp k : Nat) : Int) < N) (hc : ((gB hp k : Nat) : Int) < N) (e1 : ∀ j, gNd hq j = gNd hp j) (e3 : ∀ j, gIn hq j = gIn hp j) (e4 : ∀ j, ys hq 2089 j = ys hp 2089 j) (hall : ∀ j : Nat, (j : Int) < K → gIn hp j = 1 → ((gA hp j : Nat) : Int) < N ∧ ((gB hp j : Nat) : Int) < N) (hm : gMg (gIl hp) (gIl hq) N (gIl hp (gA hp k)) (gIl hp (gB hp k))) : gTi hq N (K + 1) := by
  have a1 : gNd hq = gNd hp := funext e1
  have a3 : gIn hq = gIn hp := funext e3
  have a4 : gA hq = gA hp := funext fun k => by unfold gA; rw [e4]
  have a5 : gB hq = gB hp := funext fun k => by unfold gB; rw [e4]
  obtain ⟨t1, t2, t3⟩ := h
  unfold gTi
  rw [a1, a3, a4, a5]
  have bA := hb (gA hp k) (by omega)
  have bB := hb (gB hp k) (by omega)
  obtain ⟨x1, x2, x3⟩ := t1 _ ha
  obtain ⟨y1, y2, y3⟩ := t1 _ hc
  generalize hx : gIl hp (gA hp k) = x at *
  generalize hy : gIl hp (gB hp k) = y at *
  have low : ∀ b : Nat, (b : Int) < N → gIl hp b = x ∨ gIl hp b = y → (gIl hq b = x ∨ gIl hq b = y) ∧ gIl hq b = (if x < y then x else y) := fun b hbN g => by
    have e := hm b hbN
    rw [if_pos g] at e
    refine ⟨?_, e⟩
    rw [e]
    split
    · exact .inl rfl
    · exact .inr rfl
  have oth : ∀ b : Nat, (b : Int) < N → ¬ (gIl hp b = x ∨ gIl hp b = y) → gIl hq b = gIl hp b := fun b hbN g => by
    have e := hm b hbN
    rw [if_neg g] at e
    exact e
  have cl : ∀ b : Nat, (b : Int) < N → gIl hp b = x ∨ gIl hp b = y → ∀ c : Nat, (c : Int) < N → gIl hp c = x ∨ gIl hp c = y → gIl hq c = gIl hq b := fun b h1 h2 c h3 h4 => by rw [(low b h1 h2).2, (low c h3 h4).2]
  have inN : ∀ b : Nat, (b : Int) < N → 0 ≤ gIl hq b ∧ gIl hq b < N := fun b hbN => by
    by_cases g : gIl hp b = x ∨ gIl hp b = y
    · rcases (low b hbN g).1 with e | e <;> omega
    · rw [oth b hbN g]
      have := hb b (by omega)
      omega
  refine ⟨fun b hbN => ?_, fun j hj hi => ?_, fun g hg b hbN => ?_⟩
  · obtain ⟨b1, b2, b3⟩ := t1 b hbN
    have bn := hbn b (by omega)
    have bi := hb b (by omega)
    by_cases g : gIl hp b = x ∨ gIl hp b = y
    · obtain ⟨l1, l2⟩ := low b hbN g
      refine ⟨?_, cl b hbN g _ (by omega) (by rw [b2]; exact g), ?_⟩
      · rcases l1 with e | e
        · rw [e, ← e]
          exact cl b hbN g _ (by omega) (by rw [e, x1]; exact .inl rfl)
        · rw [e, ← e]
          exact cl b hbN g _ (by omega) (by rw [e, y1]; exact .inr rfl)
      · rcases l1 with e | e
        · rw [e]; exact x3
        · rw [e]; exact y3
    · rw [oth b hbN g]
      refine ⟨?_, ?_, b3⟩
      · rw [oth _ (by omega) (by rw [b1]; exact g), b1]
      · rw [oth _ (by omega) (by rw [b2]; exact g), b2]
  · by_cases e : j = k
    · subst e
      rw [(low _ ha (.inl hx)).2, (low _ hc (.inr hy)).2]
    · have e9 := t2 j (by omega) hi
      obtain ⟨n1, n2⟩ := hall j (by omega) hi
      by_cases g : gIl hp (gA hp j) = x ∨ gIl hp (gA hp j) = y
      · exact cl _ n2 (by rw [← e9]; exact g) _ n1 g
      · rw [oth _ n1 g, oth _ n2 (by rw [← e9]; exact g)]
        exact e9
  · have ih := t3 g fun j hj => hg j (by omega)
    have e9 := hg k (by omega) hi
    have ea := ih _ ha
    have eb := ih _ hc
    rw [hx] at ea
    rw [hy] at eb
    rw [ih b hbN]
    by_cases g9 : gIl hp b = x ∨ gIl hp b = y
    · have exy : g x.toNat = g y.toNat := by rw [← ea, ← eb, e9]
      rcases g9 with e | e <;> rcases (low b hbN (by rw [e]; first | exact .inl rfl | exact .inr rfl)).1 with f | f <;> rw [e, f]
      · exact exy
      · exact exy.symm
    · rw [oth b hbN g9]
/-- two groups become one, up to a bar -/
def gMq (f fq : Nat → Int) (x y low K : Int) : Prop := (low = if x < y then x else y) ∧ (∀ b : Nat, (b : Int) < K → fq b = if f b = x ∨ f b = y then low else f b) ∧ ∀ b : Nat, K ≤ (b : Int) → fq b = f b
theorem gMq.start {f : Nat → Int} {low : Int} (h : low = if x < y then x else y) : gMq f f x y low 0 := ⟨h, fun b hb => absurd hb (by omega), fun _ _ => rfl⟩
theorem gMq.step {c k : Nat} {i v low : Int} {f : Nat → Int} (h : gMq f (fun b => ys hq c b) x y low K) (hK : K = (k : Int)) (hy : ∀ x t, ys h2 x t = if x = c ∧ t = i.toNat then v else ys hq x t) (hi : i = (k : Int)) (hv : v = if ys hq c k = x ∨ ys hq c k = y then low else ys hq c k) : gMq f (fun b => ys h2 c b) x y low (K + 1) := by
  obtain ⟨a1, a2, a3⟩ := h
  have e : ∀ b, ys h2 c b = if b = k then v else ys hq c b := fun b => by
    rw [hy]
    by_cases g : b = k
    · rw [if_pos g, if_pos ⟨rfl, by omega⟩]
    · rw [if_neg g, if_neg (by omega)]
  refine ⟨a1, fun b hb => ?_, fun b hb => ?_⟩
  · show ys h2 c b = _
    rw [e b]
    by_cases g : b = k
    · subst g
      rw [if_pos rfl, hv]
      have := a3 b (by omega)
      have this : ys hq c b = f b := this
      rw [this]
    · rw [if_neg g]
      exact a2 b (by omega)
  · show ys h2 c b = _
    rw [e b, if_neg (by omega)]
    exact a3 b (by omega)
theorem gMq.done {f fq : Nat → Int} {low : Int} (h : gMq f fq x y low K) (hN : N ≤ K) : gMg f fq N x y := fun b hb => by
  rw [h.2.1 b (by omega), h.1]
theorem gTn.id (h : ∀ b : Nat, (b : Int) < N → ys hp 2100 b = b) : gTn hp N := fun b hb => by
  have e : gNd hp b = b := h b hb
  rw [e]
  exact e
/-- a live island has a machine that is on -/
def gTl (hp : xH) (N K : Int) : Prop := ∀ b : Nat, (b : Int) < N → ys hp 2102 b ≠ 0 → ∃ k : Nat, (k : Int) < K ∧ ys hp 2089 (792 + 11 * k) = 1 ∧ gIl hp (ys hp 2089 (802 + 11 * k)).toNat = b
theorem gTl.start (h : ∀ b : Nat, (b : Int) < N → ys hp 2102 b = 0) : gTl hp N 0 := fun b hb h2 => absurd (h b hb) h2
theorem gTl.skip (h : gTl hp N K) : gTl hp N (K + 1) := fun b hb h2 => by
  obtain ⟨k, h3, h4⟩ := h b hb h2
  exact ⟨k, by omega, h4⟩
theorem gTl.cg (h : gTl hp N K) (e1 : ∀ j, ys hq 2102 j = ys hp 2102 j) (e2 : ∀ j, gIl hq j = gIl hp j) (e4 : ∀ j, ys hq 2089 j = ys hp 2089 j) : gTl hq N K := fun b hb h2 => by
  rw [e1] at h2
  obtain ⟨k, h3, h4, h5⟩ := h b hb h2
  exact ⟨k, h3, by rw [e4]; exact h4, by rw [e4, e2]; exact h5⟩
theorem gTl.put {k : Nat} {i v : Int} (h : gTl hq N K) (hK : K = (k : Int)) (hy : ∀ x t, ys h2 x t = if x = 2102 ∧ t = i.toNat then v else ys hq x t) (hi : i.toNat = (gIl hq (ys hq 2089 (802 + 11 * k)).toNat).toNat) (h0 : 0 ≤ gIl hq (ys hq 2089 (802 + 11 * k)).toNat) (hon : ys hq 2089 (792 + 11 * k) = 1) : gTl h2 N (K + 1) := fun b hb hne => by
  have e2 : ∀ j, gIl h2 j = gIl hq j := fun j => (hy _ _).trans (if_neg (by omega))
  have e4 : ∀ j, ys h2 2089 j = ys hq 2089 j := fun j => (hy _ _).trans (if_neg (by omega))
  by_cases g : b = i.toNat
  · exact ⟨k, by omega, by rw [e4]; exact hon, by rw [e4, e2]; omega⟩
  · rw [hy, if_neg (fun e => g e.2)] at hne
    obtain ⟨j, h3, h4, h5⟩ := h b hb hne
    exact ⟨j, by omega, by rw [e4]; exact h4, by rw [e4, e2]; exact h5⟩
/-- nodes and islands are those of the switches and lines -/
def bTq (_ : zW) (hp : xH) : Prop := gTn hp (ys hp 2088 0) ∧ gTi hp (ys hp 2088 0) (ys hp 2088 2) ∧ gTl hp (ys hp 2088 0) (ys hp 2088 3)
theorem bTq.cg (h : bTq G hp) (e0 : ∀ j, ys hq 2088 j = ys hp 2088 j) (e1 : ∀ j, gNd hq j = gNd hp j) (e2 : ∀ j, gIl hq j = gIl hp j) (e3 : ∀ j, gIn hq j = gIn hp j) (e4 : ∀ j, ys hq 2089 j = ys hp 2089 j) (e5 : ∀ j, ys hq 2102 j = ys hp 2102 j) : bTq G hq := by
  unfold bTq
  rw [e0, e0, e0]
  exact ⟨h.1.cg e1, h.2.1.cg e1 e2 e3 e4, h.2.2.cg e5 e2 e4⟩
theorem bTq.fr {Wl : zWr} (h : bTq G hp) (hA : bAx G Wl hp hq) (hw : (bNo Wl 131 && (bNo Wl 132 && (bNo Wl 142 && (bNo Wl 143 && (bNo Wl 144 && bNo Wl 145))))) = true) (W : mW G := by assumption) : bTq G hq := by
  obtain ⟨w1, w2⟩ := and_true' hw
  obtain ⟨w2, w3⟩ := and_true' w2
  obtain ⟨w3, w4⟩ := and_true' w3
  obtain ⟨w4, w5⟩ := and_true' w4
  obtain ⟨w5, w6⟩ := and_true' w5
  exact h.cg (fun j => hA.ys (s_M_count W) (bNo_ok w1 j)) (fun j => hA.ys (s_M_node W) (bNo_ok w4 j)) (fun j => hA.ys (s_M_island W) (bNo_ok w5 j)) (fun j => hA.ys (s_M_inNow W) (bNo_ok w3 j)) (fun j => hA.ys (s_M_field W) (bNo_ok w2 j)) (fun j => hA.ys (s_M_isLive W) (bNo_ok w6 j))
theorem bWf.ends (h : bWf G hp) {k : Nat} (hk : (k : Int) < ys hp 2088 2) (hk2 : k < 20) (h0 : 0 < ys hp 2088 0) : ((gA hp k : Nat) : Int) < ys hp 2088 0 ∧ ((gB hp k : Nat) : Int) < ys hp 2088 0 := by
  have a := h.bar (s := 2) (k := 4) (j := 532 + 11 * k) (i := (k : Int)) (z := ys hp 2089 (532 + 11 * k)) (by decide) (by omega) (by omega) hk rfl (by omega)
  have b := h.bar (s := 2) (k := 5) (j := 533 + 11 * k) (i := (k : Int)) (z := ys hp 2089 (533 + 11 * k)) (by decide) (by omega) (by omega) hk rfl (by omega)
  have a : ys hp 2089 (532 + 11 * k) < ys hp 2088 0 := a
  have b : ys hp 2089 (533 + 11 * k) < ys hp 2088 0 := b
  unfold gA gB
  omega
end MGraph
