/-! ===== walks by hand: objects' fields, rows of booleans ===== -/
/-- a field of an object, its type -/
def yFd (G : zW) (k cls j : Nat) (t : zT) : Prop := k < G.2.2.1 ∧ ∃ ts, xget G.1 (zro G k) = .inl (cls, ts) ∧ ts[j]? = some t
theorem yFd.ob {G : zW} {k cls j : Nat} {t : zT} (h : yFd G k cls j t) : yOB G k cls := ⟨h.1, h.2.choose, h.2.choose_spec.1⟩
section YFields
variable {o : Nat} {ft : Nat → List Nat} {call : xF} {pool : Nat → xP} {hs : List (Nat × (Nat × (Nat × Nat)))} {tab : Lean.RArray xI} {P : xE → Prop}
variable {N pc nx len : Nat} {i : Instr} {L : List (Nat × xA)} {stk rest : List xA} {hp : xH} {v : xA} {G : zW}
theorem yFd.at {k cls j : Nat} {t : zT} (h : yFd G k cls j t) (hT : zTy G hp) : ∃ ts f, xcell hp k = some (.inl (cls, f)) ∧ xget G.1 (zro G k) = .inl (cls, ts) ∧ ts[j]? = some t ∧ j < 256 ∧ zsl hp k j = xget f j ∧ ztok G t (zat G k) (xget f j) := by
  obtain ⟨h1, ts, h2, h3⟩ := h
  obtain ⟨f, f1, f2, f3, f4⟩ := hT.obj h1 h2
  have hj : j < 256 := Nat.lt_of_lt_of_le (List.getElem?_eq_some_iff.mp h3).1 f3
  exact ⟨ts, f, f1, h2, h3, hj, by rw [zsl_obj f1, blt_true hj, cond_true], f4 j t h3⟩
theorem yFd.int {k cls j : Nat} {lo hi : Int} (h : yFd G k cls j (0, (lo, hi))) (hT : zTy G hp) : zsl hp k j = yI (ys hp k j) ∧ zi32 (ys hp k j) ∧ lo ≤ ys hp k j ∧ ys hp k j ≤ hi := by
  obtain ⟨ts, f, -, -, -, -, e1, z, z1, z2, z3, z4⟩ := h.at hT
  have e : ys hp k j = z := by
    unfold ys
    rw [e1, z4]
    exact ydec_I z1
  rw [e, e1, z4]
  exact ⟨rfl, z1, z2, z3⟩
theorem yFd.long {k cls j : Nat} {lo hi : Int} (h : yFd G k cls j (1, (lo, hi))) (hT : zTy G hp) : zsl hp k j = yJ (ys hp k j) ∧ zi64 (ys hp k j) ∧ lo ≤ ys hp k j ∧ ys hp k j ≤ hi := by
  obtain ⟨ts, f, -, -, -, -, e1, z, z1, z2, z3, z4⟩ := h.at hT
  have e : ys hp k j = z := by
    unfold ys
    rw [e1, z4]
    exact ydec_J z1
  rw [e, e1, z4]
  exact ⟨rfl, z1, z2, z3⟩
theorem yG.getF {kk k cls j : Nat} {t : zT} {w : Nat} (hT : zTy G hp) (hF : yFd G k cls j t) (ht : xget tab pc = (pc, (.getfield kk, (len, nx)))) (hq : pool kk = (0, (cls, (j, w)))) (h : yG o ft call pool hs tab P N nx L (zsl hp k j :: rest) hp) : yG o ft call pool hs tab P (N + 1) pc L (yR k :: rest) hp := by
  obtain ⟨ts, f, f1, -, -, hj, e, -⟩ := hF.at hT
  refine yG.step (pc' := nx) (stk' := zsl hp k j :: rest) ht (fun K l => ?_) h
  rw [xgetf_eq (c := (cls, f)) (by rw [hq]; rfl) f1 (by rw [hq]), hq]
  show K nx l (xget f j :: rest) hp = _
  rw [e]
theorem yG.getI {kk k cls j : Nat} {lo hi : Int} {w : Nat} (hT : zTy G hp) (hF : yFd G k cls j (0, (lo, hi))) (ht : xget tab pc = (pc, (.getfield kk, (len, nx)))) (hq : pool kk = (0, (cls, (j, w)))) (h : ∀ z, z = ys hp k j → zi32 z → lo ≤ z → z ≤ hi → yG o ft call pool hs tab P N nx L (yI z :: rest) hp) : yG o ft call pool hs tab P (N + 1) pc L (yR k :: rest) hp := by
  obtain ⟨a, b, c, d⟩ := hF.int hT
  refine yG.getF hT hF ht hq ?_
  rw [a]
  exact h _ rfl b c d
theorem yG.getJ {kk k cls j : Nat} {lo hi : Int} {w : Nat} (hT : zTy G hp) (hF : yFd G k cls j (1, (lo, hi))) (ht : xget tab pc = (pc, (.getfield kk, (len, nx)))) (hq : pool kk = (0, (cls, (j, w)))) (h : ∀ z, z = ys hp k j → zi64 z → lo ≤ z → z ≤ hi → yG o ft call pool hs tab P N nx L (yJ z :: rest) hp) : yG o ft call pool hs tab P (N + 1) pc L (yR k :: rest) hp := by
  obtain ⟨a, b, c, d⟩ := hF.long hT
  refine yG.getF hT hF ht hq ?_
  rw [a]
  exact h _ rfl b c d
theorem yG.putF {kk k cls j : Nat} {t : zT} {w : Nat} (hT : zTy G hp) (hF : yFd G k cls j t) (hO : o ≤ k) (ht : xget tab pc = (pc, (.putfield kk, (len, nx)))) (hq : pool kk = (0, (cls, (j, w)))) (hfit : xfit (Nat.mod w 8) v = true) (hv : ztok G t (zat G k) v) (h : ∀ hp', zTy G hp' → hp'.2 = hp.2 → (∀ k' j', zsl hp' k' j' = if k' = k ∧ j' = j then v else zsl hp k' j') → yG o ft call pool hs tab P N nx L rest hp') : yG o ft call pool hs tab P (N + 1) pc L (v :: yR k :: rest) hp := by
  obtain ⟨ts, f, f1, g1, g2, hj, -, -⟩ := hF.at hT
  obtain ⟨q1, q2⟩ := hT.putf hF.1 g1 f1 g2 hv
  refine fun l hl => zG.step (pc' := nx) (stk' := rest) ht (fun K => ?_) (h _ q1 rfl (fun k' j' => q2 k' j') l hl)
  show cond (Nat.beq (pool kk).1 0 && Nat.ble o k) (match xcell hp k with
    | some (.inl c) => cond (Nat.beq c.1 (pool kk).2.1 && xfit (Nat.mod (pool kk).2.2.2 8) v) (K nx l rest (xput hp k (some (.inl (c.1, xset v (pool kk).2.2.1 8 0 c.2))))) none
    | _ => none) none = _
  rw [hq, Nat.ble_eq_true_of_le hO, f1]
  show cond (Nat.beq cls cls && xfit (Nat.mod w 8) v) _ none = _
  rw [Nat.beq_refl, hfit]
  rfl
theorem yG.putI {kk k cls j : Nat} {lo hi z : Int} {w : Nat} (hT : zTy G hp) (hF : yFd G k cls j (0, (lo, hi))) (hO : o ≤ k) (ht : xget tab pc = (pc, (.putfield kk, (len, nx)))) (hq : pool kk = (0, (cls, (j, w)))) (hw : (Nat.mod w 8 = 0 ∨ (Nat.mod w 8 = 2 ∧ lo = 0 ∧ hi = 1))) (hz : zi32 z) (hz1 : lo ≤ z) (hz2 : z ≤ hi) (h : ∀ hp', zTy G hp' → hp'.2 = hp.2 → (∀ k' j', zsl hp' k' j' = if k' = k ∧ j' = j then yI z else zsl hp k' j') → (∀ k' j', ys hp' k' j' = if k' = k ∧ j' = j then z else ys hp k' j') → yG o ft call pool hs tab P N nx L rest hp') : yG o ft call pool hs tab P (N + 1) pc L (yI z :: yR k :: rest) hp := by
  refine yG.putF hT hF hO ht hq ?_ ⟨z, hz, hz1, hz2, rfl⟩ fun hp' a b c => h hp' a b c fun k' j' => ?_
  · rcases hw with e | ⟨e, e1, e2⟩
    · rw [e]
      show (xbd (.inl (zc32 z))).isSome = true
      rw [zbd hz]
      rfl
    · rw [e]
      have : z = 0 ∨ z = 1 := by omega
      rcases this with rfl | rfl <;> rfl
  · unfold ys
    rw [c]
    by_cases e9 : k' = k ∧ j' = j
    · rw [if_pos e9, if_pos e9, ydec_I hz]
    · rw [if_neg e9, if_neg e9]
theorem yG.putJ {kk k cls j : Nat} {lo hi z : Int} {w : Nat} (hT : zTy G hp) (hF : yFd G k cls j (1, (lo, hi))) (hO : o ≤ k) (ht : xget tab pc = (pc, (.putfield kk, (len, nx)))) (hq : pool kk = (0, (cls, (j, w)))) (hw : Nat.mod w 8 = 1) (hz : zi64 z) (hz1 : lo ≤ z) (hz2 : z ≤ hi) (h : ∀ hp', zTy G hp' → hp'.2 = hp.2 → (∀ k' j', zsl hp' k' j' = if k' = k ∧ j' = j then yJ z else zsl hp k' j') → (∀ k' j', ys hp' k' j' = if k' = k ∧ j' = j then z else ys hp k' j') → yG o ft call pool hs tab P N nx L rest hp') : yG o ft call pool hs tab P (N + 1) pc L (yJ z :: yR k :: rest) hp := by
  refine yG.putF hT hF hO ht hq ?_ ⟨z, hz, hz1, hz2, rfl⟩ fun hp' a b c => h hp' a b c fun k' j' => ?_
  · rw [hw]
    show (xbdl (.inr (.inl (zc64 z)))).isSome = true
    rw [zbdl hz]
    rfl
  · unfold ys
    rw [c]
    by_cases e9 : k' = k ∧ j' = j
    · rw [if_pos e9, if_pos e9, ydec_J hz]
    · rw [if_neg e9, if_neg e9]
/-! rows whose elements have types by their places -/
def yIF (G : zW) (k n kd : Nat) (tf : Nat → zT) : Prop := k < G.2.2.1 ∧ (∃ w ts, xget G.1 (zro G k) = .inr (.inl (kd, (w, ts))) ∧ ∀ j, j < n → ts[j % w]? = some (tf j)) ∧ zat G k = n
theorem yIA.yIF {k n kd : Nat} {t : zT} (h : yIA G k n kd t) : yIF G k n kd (fun _ => t) := ⟨h.1, ⟨1, [t], h.2.1, fun j _ => by rw [show j % 1 = 0 by omega]; rfl⟩, h.2.2⟩
theorem yIF.at {k n kd : Nat} {tf : Nat → zT} (hA : yIF G k n kd tf) (hT : zTy G hp) {j : Nat} (hj : j < n) : ∃ bb f, xcell hp k = some (.inr (.inl (kd, (n, (bb, f))))) ∧ n < 2147483648 ∧ zsl hp k j = xget f j ∧ ztok G (tf j) n (xget f j) := by
  obtain ⟨h1, ⟨w, ts, h2, h4⟩, h3⟩ := hA
  obtain ⟨bb, f, f1, f2, f3, f4, f5⟩ := hT.arr h1 h2
  rw [h3] at f1 f4 f5
  refine ⟨bb, f, f1, f4, ?_, ?_⟩
  · rw [zsl_arr f1]
    show cond (Nat.blt j n) (xget f j) _ = _
    rw [blt_true hj]
    rfl
  · obtain ⟨t', e1, e2⟩ := f5 j hj
    have e1 : ts[j % w]? = some t' := e1
    rw [h4 j hj] at e1
    cases e1
    exact e2
theorem yIF.int {k n kd : Nat} {tf : Nat → zT} (hA : yIF G k n kd tf) (hT : zTy G hp) {j : Nat} (hj : j < n) {lo hi : Int} (ht : tf j = (0, (lo, hi))) : zsl hp k j = yI (ys hp k j) ∧ zi32 (ys hp k j) ∧ lo ≤ ys hp k j ∧ ys hp k j ≤ hi := by
  obtain ⟨bb, f, -, -, e1, e2⟩ := hA.at hT hj
  rw [ht] at e2
  obtain ⟨z, z1, z2, z3, z4⟩ := e2
  have e : ys hp k j = z := by
    unfold ys
    rw [e1, z4]
    exact ydec_I z1
  rw [e, e1, z4]
  exact ⟨rfl, z1, z2, z3⟩
theorem yG.aldF {ok : Nat → Bool} {k n kd : Nat} {tf : Nat → zT} {e : Int} (hT : zTy G hp) (hA : yIF G k n kd tf) (hok : ok kd = true) (ht : xget tab pc = (pc, (i, (len, nx)))) (he : ∀ (K : xK) l s, xstep o ft call pool hs K i pc nx l s hp = (match s with
    | i :: r :: rest => xj (xald ok hp r i) fun v => K nx l (v :: rest) hp
    | _ => none)) (h0 : 0 ≤ e) (h1 : e < n) (h : yG o ft call pool hs tab P N nx L (zsl hp k e.toNat :: rest) hp) : yG o ft call pool hs tab P (N + 1) pc L (yI e :: yR k :: rest) hp := by
  obtain ⟨m, rfl⟩ : ∃ m : Nat, e = (m : Int) := ⟨e.toNat, by omega⟩
  have hm : m < n := by omega
  obtain ⟨bb, f, f1, f2, f3, -⟩ := hA.at hT hm
  refine yG.step (pc' := nx) (stk' := zsl hp k (m : Int).toNat :: rest) ht (fun K l => ?_) h
  rw [he]
  show xj (xald ok hp (.inr (.inr (.inl k))) (.inl (zc32 (m : Int)))) (fun v => K nx l (v :: rest) hp) = _
  rw [zc32_nat (by omega)]
  show xj (match xcell hp k with
    | some (.inr (.inl c)) => cond (ok c.1 && (Nat.blt m c.2.1 && Nat.blt m 2147483648)) (some (xget c.2.2.2 m)) none
    | _ => none) (fun v => K nx l (v :: rest) hp) = _
  rw [f1]
  show xj (cond (ok kd && (Nat.blt m n && Nat.blt m 2147483648)) (some (xget f m)) none) _ = _
  rw [hok, blt_true hm, blt_true (show m < 2147483648 by omega), show (m : Int).toNat = m from rfl, f3]
  rfl
/-- an int out of such a row -/
theorem yG.ialdF {k n : Nat} {tf : Nat → zT} {lo hi e : Int} (hT : zTy G hp) (hA : yIF G k n 0 tf) (htf : tf e.toNat = (0, (lo, hi))) (ht : xget tab pc = (pc, (.iaload, (len, nx)))) (h0 : 0 ≤ e) (h1 : e < n) (h : ∀ z, z = ys hp k e.toNat → zi32 z → lo ≤ z → z ≤ hi → yG o ft call pool hs tab P N nx L (yI z :: rest) hp) : yG o ft call pool hs tab P (N + 1) pc L (yI e :: yR k :: rest) hp := by
  obtain ⟨a, b, c, d⟩ := hA.int hT (j := e.toNat) (by omega) htf
  refine yG.aldF (ok := fun t => Nat.beq t 0) hT hA rfl ht (fun _ _ _ => rfl) h0 h1 ?_
  rw [a]
  exact h _ rfl b c d
/-- a boolean -/
theorem yG.bald {k n : Nat} {lo hi e : Int} (hT : zTy G hp) (hA : yIA G k n 2 (0, (lo, hi))) (ht : xget tab pc = (pc, (.baload, (len, nx)))) (h0 : 0 ≤ e) (h1 : e < n) (h : ∀ z, z = ys hp k e.toNat → zi32 z → lo ≤ z → z ≤ hi → yG o ft call pool hs tab P N nx L (yI z :: rest) hp) : yG o ft call pool hs tab P (N + 1) pc L (yI e :: yR k :: rest) hp := by
  obtain ⟨a, b, c, d⟩ := hA.yIF.int hT (j := e.toNat) (by omega) rfl
  refine yG.aldF (ok := fun t => Nat.beq t 2 || Nat.beq t 3) hT hA.yIF rfl ht (fun _ _ _ => rfl) h0 h1 ?_
  rw [a]
  exact h _ rfl b c d
theorem yG.astF {ok : Nat → Bool} {k n kd : Nat} {tf : Nat → zT} {e : Int} (hT : zTy G hp) (hA : yIF G k n kd tf) (hok : ok kd = true) (hO : o ≤ k) (hkeep : xkeep kd v = some v) (hv : ztok G (tf e.toNat) n v) (ht : xget tab pc = (pc, (i, (len, nx)))) (he : ∀ (K : xK) l s, xstep o ft call pool hs K i pc nx l s hp = (match s with
    | v :: i :: r :: rest => xj (xast o ok hp r i v) fun h => K nx l rest h
    | _ => none)) (h0 : 0 ≤ e) (h1 : e < n) (h : ∀ hp', zTy G hp' → hp'.2 = hp.2 → (∀ k' j', zsl hp' k' j' = if k' = k ∧ j' = e.toNat then v else zsl hp k' j') → yG o ft call pool hs tab P N nx L rest hp') : yG o ft call pool hs tab P (N + 1) pc L (v :: yI e :: yR k :: rest) hp := by
  obtain ⟨m, rfl⟩ : ∃ m : Nat, e = (m : Int) := ⟨e.toNat, by omega⟩
  have hm : m < n := by omega
  obtain ⟨g1, ⟨w, ts, g2, g4⟩, g3⟩ := hA
  obtain ⟨bb, f, f1, f2, f3, f4, f5⟩ := hT.arr g1 g2
  have hm2 : m < zat G k := by rw [g3]; exact hm
  have hv2 : ztok G (tf m) (zat G k) v := by rw [g3]; exact hv
  obtain ⟨q1, q2⟩ := hT.puta g1 g2 f1 hm2 (t := tf m) (g4 m hm) hv2
  refine fun l hl => zG.step (pc' := nx) (stk' := rest) ht (fun K => ?_) (h _ q1 rfl (fun k' j' => ?_) l hl)
  · rw [he]
    show xj (xast o ok hp (.inr (.inr (.inl k))) (.inl (zc32 (m : Int))) v) (fun h => K nx l rest h) = _
    rw [zc32_nat (by omega)]
    show xj (match xcell hp k with
      | some (.inr (.inl c)) => match xkeep c.1 v with
        | some w => cond (ok c.1 && (Nat.blt m c.2.1 && (Nat.blt m 2147483648 && (Nat.ble o k && Nat.blt m (Nat.pow 2 c.2.2.1))))) (some (xput hp k (some (.inr (.inl (c.1, (c.2.1, (c.2.2.1, xset w m c.2.2.1 0 c.2.2.2)))))))) none
        | none => none
      | _ => none) (fun h => K nx l rest h) = _
    rw [f1]
    show xj (match xkeep kd v with
      | some w => cond (ok kd && (Nat.blt m (zat G k) && (Nat.blt m 2147483648 && (Nat.ble o k && Nat.blt m (Nat.pow 2 bb))))) (some (xput hp k (some (.inr (.inl (kd, (zat G k, (bb, xset w m bb 0 f)))))))) none
      | none => none) (fun h => K nx l rest h) = _
    rw [hkeep]
    show xj (cond (ok kd && (Nat.blt m (zat G k) && (Nat.blt m 2147483648 && (Nat.ble o k && Nat.blt m (Nat.pow 2 bb))))) (some (xput hp k (some (.inr (.inl (kd, (zat G k, (bb, xset v m bb 0 f)))))))) none) (fun h => K nx l rest h) = _
    rw [hok, blt_true hm2, blt_true (show m < 2147483648 by omega), Nat.ble_eq_true_of_le hO, blt_true (show m < Nat.pow 2 bb from Nat.lt_of_lt_of_le hm2 f3)]
    rfl
  · exact q2 k' j'
theorem yG.iastF {k n : Nat} {tf : Nat → zT} {lo hi e z : Int} (hT : zTy G hp) (hA : yIF G k n 0 tf) (htf : tf e.toNat = (0, (lo, hi))) (hO : o ≤ k) (ht : xget tab pc = (pc, (.iastore, (len, nx)))) (h0 : 0 ≤ e) (h1 : e < n) (hz : zi32 z) (hz1 : lo ≤ z) (hz2 : z ≤ hi) (h : ∀ hp', zTy G hp' → hp'.2 = hp.2 → (∀ k' j', zsl hp' k' j' = if k' = k ∧ j' = e.toNat then yI z else zsl hp k' j') → (∀ k' j', ys hp' k' j' = if k' = k ∧ j' = e.toNat then z else ys hp k' j') → yG o ft call pool hs tab P N nx L rest hp') : yG o ft call pool hs tab P (N + 1) pc L (yI z :: yI e :: yR k :: rest) hp := by
  refine yG.astF (ok := fun t => Nat.beq t 0) hT hA rfl hO ?_ (by rw [htf]; exact ⟨z, hz, hz1, hz2, rfl⟩) ht (fun _ _ _ => rfl) h0 h1 fun hp' a b c => h hp' a b c fun k' j' => ?_
  · show cond (xbd (.inl (zc32 z))).isSome _ none = _
    rw [zbd hz]
    rfl
  · unfold ys
    rw [c]
    by_cases e9 : k' = k ∧ j' = e.toNat
    · rw [if_pos e9, if_pos e9, ydec_I hz]
    · rw [if_neg e9, if_neg e9]
theorem yG.bast {k n : Nat} {e z : Int} (hT : zTy G hp) (hA : yIA G k n 2 (0, (0, 1))) (hO : o ≤ k) (ht : xget tab pc = (pc, (.bastore, (len, nx)))) (h0 : 0 ≤ e) (h1 : e < n) (hz : zi32 z) (hz1 : 0 ≤ z) (hz2 : z ≤ 1) (h : ∀ hp', zTy G hp' → hp'.2 = hp.2 → (∀ k' j', zsl hp' k' j' = if k' = k ∧ j' = e.toNat then yI z else zsl hp k' j') → (∀ k' j', ys hp' k' j' = if k' = k ∧ j' = e.toNat then z else ys hp k' j') → yG o ft call pool hs tab P N nx L rest hp') : yG o ft call pool hs tab P (N + 1) pc L (yI z :: yI e :: yR k :: rest) hp := by
  refine yG.astF (ok := fun t => Nat.beq t 2 || Nat.beq t 3) hT hA.yIF rfl hO ?_ ⟨z, hz, hz1, hz2, rfl⟩ ht (fun _ _ _ => rfl) h0 h1 fun hp' a b c => h hp' a b c fun k' j' => ?_
  · have : z = 0 ∨ z = 1 := by omega
    rcases this with rfl | rfl <;> rfl
  · unfold ys
    rw [c]
    by_cases e9 : k' = k ∧ j' = e.toNat
    · rw [if_pos e9, if_pos e9, ydec_I hz]
    · rw [if_neg e9, if_neg e9]
/-- a static method's call -/
theorem yG.invS {kk mi na : Nat} {as : List xA} {Q : Option xA → xH → Prop} (ht : xget tab pc = (pc, (.invokestatic kk, (len, nx)))) (hq : pool kk = (2, (mi, (na, 0)))) (hs9 : xtake na [] stk = some (as, rest)) (hr : Nat.ble (xcats rest) 8 = true) (hc : yC call mi as hp Q) (h : ∀ rv hp', Q rv hp' → yG o ft call pool hs tab P N nx L (yret rv rest) hp') : yG o ft call pool hs tab P (N + 1) pc L stk hp := by
  obtain ⟨rv, hp', c1, c2⟩ := hc
  refine fun l hl => zG.step (pc' := nx) (loc' := l) (stk' := yret rv rest) (hp' := hp') ht (fun K => ?_) (h rv hp' c2 l hl)
  show xinvS o call hs (pool kk) K pc nx l stk hp = _
  unfold xinvS
  rw [hq, hs9]
  show cond (Nat.ble (xcats rest) 8) (xback hs K pc nx l rest (call mi as hp)) none = _
  rw [hr, c1]
  cases rv <;> rfl
end YFields
