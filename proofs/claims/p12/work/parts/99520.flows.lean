/-! ===== the reference: an island's flows ===== -/
section MFlows
variable {G : zW} {hp hq h1 h2 : xH} {P h : Int} {n : Nat}
theorem lX_bd (W : mW G) (hT : zTy G hp) {k : Nat} (hk : k < 20) : lX hp k ≤ 99 := by
  obtain ⟨-, -, -, e⟩ := (v_M_field W (s_M_field W)).int hT (j := 529 + 11 * k) (by omega) ((yfT_ix (s := 2) (k := 1) (by omega) (by omega) (by omega) (by decide)).trans rfl)
  exact e
theorem mPs_get {j : Nat} (hj : j < 40) : ∃ v, mPs[j]? = some v ∧ v ∈ mPs ∧ mPr v ∧ 101 ≤ v := by
  have hl : j < mPs.length := hj
  refine ⟨mPs[j], List.getElem?_eq_getElem hl, List.getElem_mem hl, mPs_pr (List.getElem_mem hl), ?_⟩
  have hb : mPs.all (fun p => decide (101 ≤ p)) = true := by decide
  exact of_decide_eq_true (List.all_eq_true.mp hb _ (List.getElem_mem hl))
theorem mPs_ix {p : Nat} (hp : p ∈ mPs) : ∃ j, j < 40 ∧ mPs[j]? = some p := by
  obtain ⟨j, hj, e⟩ := List.getElem_of_mem hp
  exact ⟨j, hj, by rw [List.getElem?_eq_getElem hj, e]⟩
/-- an island's nodes are listed, up to a bar -/
def gLq (hp hq : xH) (h K nn : Int) : Prop := 0 ≤ nn ∧ (∀ b : Nat, (b : Int) < K → gIl hp b = h → gNd hp b = b → -1 ≤ ys hq 2104 b ∧ ys hq 2104 b < nn - 1) ∧ (K ≤ h → nn = 0) ∧ (∀ b : Nat, (b : Int) < K → gIl hp b = h → gNd hp b = b → (b : Int) = h → ys hq 2104 b = -1) ∧ ∀ c : Nat, (c : Int) < nn → ∃ b : Nat, (b : Int) < K ∧ gIl hp b = h ∧ gNd hp b = b ∧ ys hq 2104 b = (c : Int) - 1
theorem gLq.start : gLq hp hq h 0 0 := ⟨Int.le_refl 0, fun b hb => absurd hb (by omega), fun _ => rfl, fun b hb => absurd hb (by omega), fun c hc => absurd hc (by omega)⟩
theorem gLq.skip {K nn : Int} {k : Nat} (g : gLq hp hq h K nn) (hK : K = (k : Int)) (hn : ¬ (gIl hp k = h ∧ gNd hp k = k)) : gLq hp hq h (K + 1) nn := by
  obtain ⟨a1, a2, a3, a4, a5⟩ := g
  refine ⟨a1, fun b hb e1 e2 => ?_, fun g => a3 (by omega), fun b hb e1 e2 e3 => ?_, fun c hc => ?_⟩
  · by_cases e : b = k
    · subst e; exact absurd ⟨e1, e2⟩ hn
    · exact a2 b (by omega) e1 e2
  · by_cases e : b = k
    · subst e; exact absurd ⟨e1, e2⟩ hn
    · exact a4 b (by omega) e1 e2 e3
  · obtain ⟨b, b1, b2⟩ := a5 c hc
    exact ⟨b, by omega, b2⟩
theorem gLq.put {K nn : Int} {k : Nat} (g : gLq hp hq h K nn) (hK : K = (k : Int)) (e1 : gIl hp k = h) (e2 : gNd hp k = k) (hle : h ≤ k) (hy : ∀ j, ys h2 2104 j = if j = k then nn - 1 else ys hq 2104 j) : gLq hp h2 h (K + 1) (nn + 1) := by
  obtain ⟨a1, a2, a3, a4, a5⟩ := g
  refine ⟨by omega, fun b hb f1 f2 => ?_, fun g => by omega, fun b hb f1 f2 f3 => ?_, fun c hc => ?_⟩
  · rw [hy]
    by_cases e : b = k
    · rw [if_pos e]; omega
    · rw [if_neg e]
      have := a2 b (by omega) f1 f2
      omega
  · rw [hy]
    by_cases e : b = k
    · rw [if_pos e]
      have := a3 (by omega)
      omega
    · rw [if_neg e]
      exact a4 b (by omega) f1 f2 f3
  · by_cases e : (c : Int) = nn
    · exact ⟨k, by omega, e1, e2, by rw [hy, if_pos rfl]; omega⟩
    · obtain ⟨b, b1, b2, b3, b4⟩ := a5 c (by omega)
      exact ⟨b, by omega, b2, b3, by rw [hy, if_neg (by omega)]; exact b4⟩
theorem gLq.done {K nn : Int} (g : gLq hp hq h K nn) (hK : K = ys hp 2088 0) (e0 : ys hq 2088 0 = ys hp 2088 0) (e1 : gIl hq = gIl hp) (e2 : gNd hq = gNd hp) : gLs hq h (nn - 1).toNat ∧ (0 ≤ h → h < ys hp 2088 0 → gIl hp h.toNat = h → gNd hp h.toNat = h → 1 ≤ nn) := by
  obtain ⟨a1, a2, a3, a4, a5⟩ := g
  unfold gLs
  rw [e0, e1, e2]
  refine ⟨⟨fun b hb f1 f2 => ?_, fun g1 g2 g3 g4 => a4 h.toNat (by omega) g3 (by omega) (by omega), fun c hc => ?_⟩, fun g1 g2 g3 g4 => ?_⟩
  · have := a2 b (by omega) f1 f2
    omega
  · obtain ⟨b, b1, b2, b3, b4⟩ := a5 (c + 1) (by omega)
    exact ⟨b, by omega, b2, b3, by omega⟩
  · have := a2 h.toNat (by omega) g3 (by omega)
    have := a4 h.toNat (by omega) g3 (by omega) (by omega)
    omega
/-- the primes so far are of no use, if none is used -/
def gF1 (hq : xH) (h : Int) (n : Nat) (i : Int) : Prop := gLs hq h n ∧ (ys hq 2073 10 = 0 → ∀ j : Nat, (j : Int) < i → ∀ v, mPs[j]? = some v → gSg hq h n (v : Int))
/-- what the nets equations lean on is the same -/
def gSame (a b : xH) : Prop := (∀ j, ys b 2088 j = ys a 2088 j) ∧ (∀ j, ys b 2100 j = ys a 2100 j) ∧ (∀ j, ys b 2101 j = ys a 2101 j) ∧ (∀ j, ys b 2099 j = ys a 2099 j) ∧ (∀ j, ys b 2089 j = ys a 2089 j) ∧ ∀ j, ys b 2104 j = ys a 2104 j
theorem gSame.rf (a : xH) : gSame a a := ⟨fun _ => rfl, fun _ => rfl, fun _ => rfl, fun _ => rfl, fun _ => rfl, fun _ => rfl⟩
theorem gSame.tr {a b c : xH} (h : gSame a b) (g : gSame b c) : gSame a c := ⟨fun j => (g.1 j).trans (h.1 j), fun j => (g.2.1 j).trans (h.2.1 j), fun j => (g.2.2.1 j).trans (h.2.2.1 j), fun j => (g.2.2.2.1 j).trans (h.2.2.2.1 j), fun j => (g.2.2.2.2.1 j).trans (h.2.2.2.2.1 j), fun j => (g.2.2.2.2.2 j).trans (h.2.2.2.2.2 j)⟩
theorem gSame.of {Wl : zWr} {a b : xH} (hA : bAx G Wl a b) (hw : (bNo Wl 131 && (bNo Wl 132 && (bNo Wl 142 && (bNo Wl 143 && (bNo Wl 144 && bNo Wl 147))))) = true) (W : mW G := by assumption) : gSame a b := by
  obtain ⟨w1, w2⟩ := and_true' hw
  obtain ⟨w2, w3⟩ := and_true' w2
  obtain ⟨w3, w4⟩ := and_true' w3
  obtain ⟨w4, w5⟩ := and_true' w4
  obtain ⟨w5, w6⟩ := and_true' w5
  exact ⟨fun j => hA.ys (s_M_count W) (bNo_ok w1 j), fun j => hA.ys (s_M_node W) (bNo_ok w4 j), fun j => hA.ys (s_M_island W) (bNo_ok w5 j), fun j => hA.ys (s_M_inNow W) (bNo_ok w3 j), fun j => hA.ys (s_M_field W) (bNo_ok w2 j), fun j => hA.ys (s_M_placeOf W) (bNo_ok w6 j)⟩
theorem gSame.sg {a b : xH} {p : Int} (s : gSame a b) (g : gSg a h n p) : gSg b h n p := g.cg s.1 s.2.1 s.2.2.1 s.2.2.2.1 s.2.2.2.2.1 s.2.2.2.2.2
theorem gSame.ls {a b : xH} (s : gSame a b) (g : gLs a h n) : gLs b h n := by
  have a1 : gNd b = gNd a := funext s.2.1
  have a2 : gIl b = gIl a := funext s.2.2.1
  unfold gLs
  rw [s.1, a1, a2]
  simp only [s.2.2.2.2.2]
  exact g
theorem gF1.cg {a b : xH} {i : Int} (g : gF1 a h n i) (s : gSame a b) (hu : ys b 2073 10 = 0 → ys a 2073 10 = 0) : gF1 b h n i := ⟨s.ls g.1, fun e j hj v hv => s.sg (g.2 (hu e) j hj v hv)⟩
/-- a net's equations by the prime at hand, the right side up to a row -/
def gF2 (hq : xH) (h : Int) (n : Nat) (i all : Int) : Prop := ∃ (v : Nat) (hA hB : xH), mPs[i.toNat]? = some v ∧ ys hq 2073 11 = (v : Int) ∧ mJl hA hB (v : Int) h n (ys hA 2088 2) all ∧ gSame hA hq ∧ (∀ r, r < n → ∀ k, k < n → mmM hA r k = 0) ∧ (∀ r, r < n → ∀ k, k < n → mmM hq r k = mmM hB r k) ∧ mRng hq (v : Int) n (n + 1)
theorem gF2.put {a b : xH} {i all z : Int} {ix : Int} {r : Nat} (g : gF2 a h n i all) (hn : n < 48) (hr : r < n) (hy : ∀ x t, ys b x t = if x = 2083 ∧ t = ix.toNat then z else ys a x t) (hi : ix = 48 * (r : Int) + (n : Int)) (hz0 : 0 ≤ z) (hz1 : z < ys a 2073 11) : gF2 b h n i all := by
  obtain ⟨v, hA, hB, g1, g2, g3, g4, g5, g6, g7⟩ := g
  have e : ∀ x t, x ≠ 2083 → ys b x t = ys a x t := fun x t hx => (hy x t).trans (if_neg (fun q => hx q.1))
  have pu := fun s j hj => mmM_put (r := r) (k := n) hy hi (by omega) s j hj
  refine ⟨v, hA, hB, g1, by rw [e 2073 11 (by decide)]; exact g2, g3, g4.tr ⟨fun j => e _ j (by decide), fun j => e _ j (by decide), fun j => e _ j (by decide), fun j => e _ j (by decide), fun j => e _ j (by decide), fun j => e _ j (by decide)⟩, g5, fun s hs k hk => ?_, fun s hs k hk => ?_⟩
  · rw [pu s k (by omega), if_neg (by omega)]
    exact g6 s hs k hk
  · rw [pu s k (by omega)]
    split
    · omega
    · exact g7 s hs k hk
theorem gF2.fin {a : xH} {i all z : Int} (g : gF2 a h n i all) (hL : 0 ≤ ys a 2088 2 ∧ ys a 2088 2 ≤ 20) (hp9 : mPr (ys a 2073 11).toNat) (hz : ys a 2073 11 ∣ z * all) (hz0 : 0 ≤ z) (hz1 : z < ys a 2073 11) (hs : z = 0 → mSgv a (ys a 2073 11) n (n + 1)) (v : Nat) (hv : mPs[i.toNat]? = some v) : gSg a h n (v : Int) := by
  obtain ⟨u, hA, hB, g1, g2, g3, g4, g5, g6, g7⟩ := g
  have e : u = v := Option.some.inj (g1.symm.trans hv)
  subst e
  rw [g2] at hp9 hz hz1 hs
  have z0 : z = 0 := by
    by_cases e : z = 0
    · exact e
    · exact absurd hz (mdv_pr hp9 (by omega) (mNdvd (by omega) hz1) g3.2.1)
  have e2 : ys hA 2088 2 = ys a 2088 2 := (g4.1 2).symm
  exact g4.sg (g3.sg (Int.le_refl _) (by omega) (by omega) g5 g6 (hs z0))
theorem gF1.next {a : xH} {i : Int} (g : gF1 a h n i) (hi : 0 ≤ i) (hs : ∀ v, mPs[i.toNat]? = some v → gSg a h n (v : Int)) : gF1 a h n (i + 1) := ⟨g.1, fun e j hj v hv => by
  by_cases q : (j : Int) = i
  · exact hs v (by rw [← q]; exact hv)
  · exact g.2 e j (by omega) v hv⟩
theorem gF1.used {a b : xH} {i k : Int} (g : gF1 a h n i) (s : gSame a b) (hu : ys b 2073 10 ≠ 0) : gF1 b h n k := ⟨s.ls g.1, fun e => absurd e hu⟩
theorem mdv_0 {p t x : Int} (h : p ∣ t - x) (e : t = 0) : p ∣ x := mdv_sub (by rw [e]; exact Int.dvd_zero _) h
theorem gTi.nd {b : Nat} (h : bTq G hp) (hb : (b : Int) < ys hp 2088 0) (e : gIl hp b = b) : gNd hp b = b := by
  have := (h.2.1.1 b hb).2.2
  rw [e] at this
  exact this
end MFlows
