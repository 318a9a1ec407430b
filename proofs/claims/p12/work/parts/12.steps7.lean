/-! ===== the steps: arrays of arrays, constants, statics ===== -/
section Steps7
variable {p : Program} {l : Launch} {e : Env} {R : Room} {s : State} {m : MethodId} {args : Array Value} {below : List Frame} {meth : Method} {c : Code} {cc : ByteArray} {nL : Nat} {own : String} {S : State} {o : Nat} {old : Nat → Nat} {D : va_G} {c0 s0 : Nat} {Q : State → Prop}
variable {pc nx : Nat} {K : xK} {out : xE} {loc : List (Nat × xA)} {stk : List xA} {hp : xH} {ft : Nat → List Nat} {call : xF} {pool : Nat → xP} {hs : List (Nat × (Nat × (Nat × Nat)))}

theorem xW_mna (F : xFx p s m args meth c cc nL own S) {index : Nat} {ty : FieldType} {H : Heap} {locs : List Loc} {cells slots : Nat} {ls : Array Slot} {rest : List Value} (hclink : Cond.classLink own index ("[" ++ (FieldType.array ty).toString) ∈ xW) (hover : va_AOA ty S) (harr : Cond.arrayClass ty ∈ xW) {n k : Nat} (hn : n ≤ 32) (hk : k ≤ 1048576) (hcb : componentBytes ty ≤ 8)
    (hdf : fits ty (defaultValue ty) = true) (hdd : (defaultValue ty).isDefault = true) (hcells : cells + (1 + n) ≤ R.cells) (hslots : slots + (n + n * k) ≤ R.slots) (hdg : decode cc pc = .ok (.multianewarray index 2, 4))
    (kk : ∀ (H' : Heap) (cA cy : ClassId), H'.size = H.size + 1 + n → H'[H.size]? = some (arrV cA n (fun j => va_rf (if j < n then some (H.size + 1 + j) else none))) → (∀ j, j < n → H'[H.size + 1 + j]? = some (arrV cy k (fun _ => defaultValue ty))) → (∀ q, q < H.size → H'[q]? = H[q]?) →
      s.isArrayOf (arrV cA n (fun j => va_rf (if j < n then some (H.size + 1 + j) else none))) (.array ty) → s.isArrayOf (arrV cy k (fun _ => defaultValue ty)) ty → s.vm.findClass (FieldType.array (.array ty)).toString = some cA → s.vm.findClass (FieldType.array ty).toString = some cy →
      W p l e R s m args below meth c H' locs (cells + 1 + n) (slots + n + n * k) Q (F0 m (pc + 4) ls (.ref H.size :: rest))) : W p l e R s m args below meth c H locs cells slots Q (F0 m pc ls (.int (Int32.ofNat k) :: .int (Int32.ofNat n) :: rest)) := by
  intro T hT Xs
  have cn : (Int32.ofNat n).toNatClampNeg = n := clamp_of rfl (by omega)
  have ck : (Int32.ofNat k).toNatClampNeg = k := clamp_of rfl (by omega)
  have hkc : k * componentBytes ty ≤ 536870912 := Nat.le_trans (Nat.mul_le_mul hk hcb) (by decide)
  obtain ⟨vm₁, cA, comp, -, fA, fC, hO, hI, X', step⟩ := Xs.multianewarray2F F.1 F.2.2.2.1 (F.2.2.2.2.1 _ hclink) (va_AOA.use (va_AOA.moved F.2.2.2.2.2.1.alike hover)) (F.2.2.2.2.1 _ harr) (g := F0 m pc ls (.int (Int32.ofNat k) :: .int (Int32.ofNat n) :: rest)) rfl (by rw [F.2.1]; exact hdg) rfl (nI_pos (by omega)) (nI_pos (by omega)) (by rw [cn]; omega) (by rw [ck]; exact hkc) (by rw [ck]; omega) hdf hdd (by rw [cn]; exact hcells) (by rw [cn, ck]; exact hslots)
  rw [cn, ck] at X' step
  generalize hF : Jvm.Free.Multi.fill (T.setVm vm₁) cA comp n k (defaultValue ty) n = G at X' step
  have hTh : (T.setVm vm₁).heap = H := hT
  obtain ⟨f1, f2, -, -⟩ := Jvm.Free.Multi.fill_facts (T.setVm vm₁) cA comp n k (defaultValue ty) n
  rw [hF, hTh] at f1 f2
  have hold : ∀ x : Nat, x < H.size → G.heap[x]? = H[x]? := fun x hx => by
    have := Jvm.Free.Multi.fill_old (T.setVm vm₁) cA comp n k (defaultValue ty) (a := x) (by rw [hTh]; exact hx) n
    rw [hF, hTh] at this
    exact this
  have hin : Jvm.Free.Multi.innerC comp k (defaultValue ty) = arrV comp k (fun _ => defaultValue ty) := arrV_new comp k _
  have hrow : ∀ j : Nat, j < n → G.heap[H.size + 1 + j]? = some (arrV comp k (fun _ => defaultValue ty)) := fun j hj => by
    have := Jvm.Free.Multi.fill_inner (T.setVm vm₁) cA comp n k (defaultValue ty) n j hj
    rw [hF, hTh, hin] at this
    exact this
  have hout : Jvm.Free.Multi.outerC cA n H.size n = arrV cA n (fun j => va_rf (if j < n then some (H.size + 1 + j) else none)) := vr_outer cA n H.size n
  rw [hout] at f2
  have hO2 := (hO n H.size n).1
  rw [hout] at hO2
  have hI2 := (hI k (defaultValue ty)).1
  rw [hin] at hI2
  obtain ⟨t, a1, b1⟩ := kk G.heap cA comp f1 f2 hrow hold hO2 hI2 fA fC G rfl X'
  rw [hT] at step
  exact ⟨t, step t a1, b1⟩
theorem xrefs_ok : ∀ (n b lo : Nat) (t : Lean.RArray xA), xwf b 0 t → n ≤ 2 ^ b → xwf b 0 (xrefs b lo n t) ∧ ∀ j, j < 2 ^ b → xget (xrefs b lo n t) j = if j < n then .inr (.inr (.inl (lo + j))) else xget t j := by
  intro n
  induction n with
  | zero => intro b lo t h _; exact ⟨h, fun j _ => rfl⟩
  | succ n ih =>
    intro b lo t h hn
    obtain ⟨h1, h2⟩ := ih b lo (xset (.inr (.inr (.inl (Nat.add lo n)))) n b 0 t) (xset_wf _ _ _ _ _ h) (by omega)
    refine ⟨h1, fun j hj => ?_⟩
    show xget (xrefs b lo n (xset (.inr (.inr (.inl (Nat.add lo n)))) n b 0 t)) j = _
    rw [h2 j hj, xget_xset _ _ _ b 0 t h (Nat.zero_le _) (by omega) (Nat.zero_le _) (by omega)]
    by_cases e : j = n
    · subst e
      rw [if_neg (by omega), if_pos rfl, if_pos (by omega)]
      rfl
    · rw [if_neg e]
      by_cases e2 : j < n
      · rw [if_pos e2, if_pos (by omega)]
      · rw [if_neg e2, if_neg (by omega)]
theorem xrows_ok {ty mm b : Nat} {z : xA} : ∀ (n lo : Nat) (t : Lean.RArray xC), xwf 12 0 t → lo + n ≤ 4096 → xwf 12 0 (xrows ty mm b z n lo t) ∧ ∀ j, j < 4096 → xget (xrows ty mm b z n lo t) j = if lo ≤ j ∧ j < lo + n then some (.inr (.inl (ty, (mm, (b, .leaf z))))) else xget t j := by
  intro n
  induction n with
  | zero => intro lo t h _; exact ⟨h, fun j _ => by show xget t j = _; rw [if_neg (by omega)]⟩
  | succ n ih =>
    intro lo t h hn
    obtain ⟨h1, h2⟩ := ih lo (xset (some (.inr (.inl (ty, (mm, (b, .leaf z)))))) (Nat.add lo n) 12 0 t) (xset_wf _ _ _ _ _ h) (by omega)
    refine ⟨h1, fun j hj => ?_⟩
    show xget (xrows ty mm b z n lo (xset (some (.inr (.inl (ty, (mm, (b, .leaf z)))))) (Nat.add lo n) 12 0 t)) j = _
    rw [h2 j hj, xget_xset _ _ _ 12 0 t h (Nat.zero_le _) (by show lo + n < _; omega) (Nat.zero_le _) (by omega)]
    by_cases e : j = lo + n
    · rw [if_neg (by omega), if_pos (show j = Nat.add lo n from e), if_pos (by omega)]
    · rw [if_neg (show ¬ j = Nat.add lo n from e)]
      by_cases e2 : lo ≤ j ∧ j < lo + n
      · rw [if_pos e2, if_pos (by omega)]
      · rw [if_neg e2, if_neg (by omega)]
theorem xcell_get {h : xH} {k : Nat} (hk : k < 4096) : xcell h k = xget h.1 k := by
  unfold xcell
  rw [show Nat.blt k 4096 = true from Nat.ble_eq_true_of_le hk, cond_true]
theorem xcell_out {h : xH} {k : Nat} (hk : ¬ k < 4096) : xcell h k = none := by
  unfold xcell
  rw [show Nat.blt k 4096 = false from Bool.eq_false_iff.mpr fun q => hk (Nat.le_of_ble_eq_true q), cond_false]
/-- the pool entry of 'new T[n][m]' -/
def xPm (S : State) (own : String) (ix : Nat) (P : xP) : Prop := Cond.classLink own ix ("[" ++ (FieldType.array (xty1 P.2.1)).toString) ∈ xW ∧ va_AOA (xty1 P.2.1) S
theorem xi_multianewarray (F : xFx p s m args meth c cc nL own S) {len : Nat} (B : xBs S o old D ft) {k d : Nat} (hd2 : d = 2) (HP : (pool k).1 = 22 → xPm S own k (pool k)) (HA : ∀ t, t < 4 → Cond.arrayClass (xty1 t) ∈ xW) (Rm : xRm K out R c0 s0) (hd : decode cc pc = .ok (.multianewarray k d, len)) (hl0 : len = xlen (.multianewarray k d) len) (hx0 : nx = pc + len) (hst : xsto nL (.multianewarray k d) = true) (hK : xHyp p l e R s m args below meth c nL S o old D c0 s0 Q K out) (h : xstep o ft call pool hs K (.multianewarray k d) pc nx loc stk hp = some out) : xG p l e R s m args below meth c nL S o old D c0 s0 Q pc loc stk hp := by
  subst hx0
  have hl1 : len = 4 := hl0
  subst hl1
  intro H locs cells slots ls lv st hlv hl hs1 hh hlo hc hsl
  subst hd2
  have h : xmulti (pool k) K (pc + 4) loc stk hp = some out := h
  unfold xmulti at h
  split at h
  next mm n rest _ =>
    obtain ⟨h0, h⟩ := cond_some h
    obtain ⟨h1, h2⟩ := and_true' h0
    obtain ⟨h3, h4⟩ := and_true' h2
    obtain ⟨h5, h6⟩ := and_true' h4
    obtain ⟨h7, h8⟩ := and_true' h6
    obtain ⟨h9, h10⟩ := and_true' h8
    have t1 : (pool k).2.1 ≤ 1 := Nat.le_of_ble_eq_true h3
    have n1 : n ≤ 32 := Nat.le_of_ble_eq_true h5
    have m1 : mm ≤ 1048576 := Nat.le_of_ble_eq_true h7
    have n2 : hp.2.1 + n < 4096 := Nat.le_of_ble_eq_true h10
    obtain ⟨p1, p2⟩ := HP (Nat.eq_of_beq_eq_true h1)
    obtain ⟨vm, st1, rfl, rm, hs2⟩ := xs2_cons hs1
    obtain ⟨vn, st2, rfl, rn, hs3⟩ := xs2_cons hs2
    cases rm
    cases rn
    have hal := F.2.2.2.2.2.1.alike
    generalize hN : hp.2.1 = N at *
    generalize ht : (pool k).2.1 = t at *
    have hm := Rm.1 _ _ _ _ h
    have hm1 : Nat.add (Nat.add hp.2.2.2.1 1) n ≤ out.2.2.2.1.2.2.2.1 := hm.1
    have hm2 : Nat.add (Nat.add hp.2.2.2.2 n) (Nat.mul n mm) ≤ out.2.2.2.1.2.2.2.2 := hm.2
    have hm1 : hp.2.2.2.1 + 1 + n ≤ out.2.2.2.1.2.2.2.1 := hm1
    have hm2 : hp.2.2.2.2 + n + n * mm ≤ out.2.2.2.1.2.2.2.2 := hm2
    obtain ⟨w1, w2, w3, w4, w5, w6, w7, w8⟩ := hh
    rw [hN] at w3 w4 w5 w6 w7
    have w9 := w7 h9
    have htcb : componentBytes (xty1 t) ≤ 8 := by
      rcases (by omega : t = 0 ∨ t = 1) with rfl | rfl <;> decide
    have hz : ∀ ad : Nat → Nat, xR ad (cond (Nat.beq t 1) (.inr (.inl 0)) (.inl 0)) (defaultValue (xty1 t)) := by
      intro ad
      rcases (by omega : t = 0 ∨ t = 1) with rfl | rfl <;> rfl
    have hdf : fits (xty1 t) (defaultValue (xty1 t)) = true := by
      rcases (by omega : t = 0 ∨ t = 1) with rfl | rfl <;> rfl
    have hdd : (defaultValue (xty1 t)).isDefault = true := by
      rcases (by omega : t = 0 ∨ t = 1) with rfl | rfl <;> rfl
    have hxt : xty t = xty1 t := by
      unfold xty
      rw [if_pos (by omega)]
    have hx64 : xty (64 + t) = .array (xty1 t) := by
      unfold xty
      rw [if_neg (by omega), if_neg (by omega), Nat.add_sub_cancel_left]
    have hn64 : xtn (64 + t) = (FieldType.array (xty1 t)).toString := by
      unfold xtn
      rw [if_neg (by omega), hx64]
    refine xW_mna F p1 p2 (HA t (by omega)) n1 m1 htcb hdf hdd (by have := Rm.2.1; omega) (by have := Rm.2.2; omega) hd fun H' cA cy z1 z2 z3 z4 z5 z6 z7 z8 => ?_
    have had : ∀ j, N ≤ j → xad o S.heap.size old j = H.size + (j - N) := fun j hj => by
      unfold xad
      rw [if_neg (by omega), w9]
      omega
    have hov := arrayOverA_spec (args := #[]) (first := S) (s := S) (o := none) (idx := []) p2
    obtain ⟨comp, cA', kA, y1, y2, y3, y4, y5⟩ := hov
    have e1 : comp = cy := by
      have e : S.vm.findClass (FieldType.array (xty1 t)).toString = some cy := by rw [← hal.findClass]; exact z8
      rw [y1] at e
      exact Option.some.inj e
    have e2 : cA' = cA := by
      have e : S.vm.findClass ("[" ++ (FieldType.array (xty1 t)).toString) = some cA := by rw [← hal.findClass]; exact z7
      rw [y5] at e
      exact Option.some.inj e
    subst e1
    subst e2
    obtain ⟨kc, hkc, -⟩ := Vm.findClass_spec y1
    have n2' : N + n < 4096 := n2
    have n1' : n ≤ 32 := n1
    generalize hz9 : (cond (Nat.beq t 1) (.inr (.inl 0)) (.inl 0) : xA) = z at *
    obtain ⟨r1, r2⟩ := xrows_ok (ty := t) (mm := mm) (b := xbits mm) (z := z) n (Nat.add N 1) hp.1 w2 (by show N + 1 + n ≤ 4096; omega)
    obtain ⟨q1, q2⟩ := xrefs_ok n 5 (Nat.add N 1) (.leaf (.inr (.inr (.inr (.inr (.inr (.inl false))))))) (xwf_leaf _ _ _) (by omega)
    have hcellN : ∀ j, xcell ((xset (some (.inr (.inl (Nat.add 64 t, (n, (5, xrefs 5 (Nat.add N 1) n (.leaf (.inr (.inr (.inr (.inr (.inr (.inl false))))))))))))) N 12 0 (xrows t mm (xbits mm) z n (Nat.add N 1) hp.1), (Nat.add N (Nat.add n 1), (true, (Nat.add (Nat.add hp.2.2.2.1 1) n, Nat.add (Nat.add hp.2.2.2.2 n) (Nat.mul n mm))))) : xH) j =
        if j = N then some (.inr (.inl (64 + t, (n, (5, xrefs 5 (Nat.add N 1) n (.leaf (.inr (.inr (.inr (.inr (.inr (.inl false)))))))))))) else if N + 1 ≤ j ∧ j < N + 1 + n then some (.inr (.inl (t, (mm, (xbits mm, .leaf z))))) else xcell hp j := by
      intro j
      by_cases hj : j < 4096
      · rw [xcell_get hj, xcell_get hj]
        show xget (xset _ N 12 0 _) j = _
        rw [xget_xset _ _ _ 12 0 _ r1 (Nat.zero_le _) (by omega) (Nat.zero_le _) (by omega)]
        by_cases e : j = N
        · rw [if_pos e, if_pos e]
          rfl
        · rw [if_neg e, if_neg e, r2 j hj]
      · rw [xcell_out hj, xcell_out hj, if_neg (by omega), if_neg (by omega)]
    refine hK _ _ _ _ h H' locs (cells + 1 + n) (slots + n + n * mm) ls lv _ hlv hl ⟨?_, hs3⟩ ⟨fun j => ?_, xset_wf _ _ _ _ _ r1, fun j hj => ?_, ?_, ?_, ?_, fun _ => ?_, fun x hx => ?_⟩ hlo ?_ ?_
    · show Value.ref H.size = Value.ref (xad o S.heap.size old N)
      rw [had N (Nat.le_refl _), Nat.sub_self]
      rfl
    · rw [hcellN j]
      by_cases e : j = N
      · rw [if_pos e]
        refine ⟨_, by rw [e, had N (Nat.le_refl _), Nat.sub_self]; exact z2, ?_, (fun q => by cases q), fun _ => ⟨rfl, ?_, fun _ => ⟨kA, comp, kc, y3, ?_, ?_, hkc⟩⟩, by rw [arrV_size]; exact Nat.le_refl _, by rw [arrV_size] <;> rfl, q1, by show n ≤ 2 ^ 5; omega, fun i hi => ?_⟩
        · show S.isArrayOf _ (xty (64 + t))
          rw [hx64]
          exact State.isArrayOf_alike hal.symm z5
        · show S.vm.findClass (FieldType.array (xty (64 + t))).toString = _
          rw [hx64]
          exact y5
        · show kA.kind = .array comp (xty (64 + t))
          rw [hx64]
          exact y4
        · show S.vm.findClass (xtn (64 + t)) = _
          rw [hn64]
          exact y1
        · have hi' : i < n := hi
          refine ⟨_, by rw [arrV_read _ _ hi'], ?_⟩
          rw [if_pos hi']
          show xR _ (xget (xrefs 5 (Nat.add N 1) n _) i) _
          rw [q2 i (by omega), if_pos hi']
          show Value.ref (H.size + 1 + i) = Value.ref (xad o S.heap.size old (N + 1 + i))
          rw [had _ (by omega), show H.size + (N + 1 + i - N) = H.size + 1 + i by omega]
      · rw [if_neg e]
        by_cases e3 : N + 1 ≤ j ∧ j < N + 1 + n
        · rw [if_pos e3]
          refine xcr_arr (u := defaultValue (xty1 t)) (cA := comp) ?_ ⟨rfl, ?_, fun q => by omega⟩ ?_ (xbits_ok m1) (hz _)
          · rw [hxt]
            exact State.isArrayOf_alike hal.symm z6
          · rw [hxt]
            exact y1
          · have := z3 (j - (N + 1)) (by omega)
            rw [had j (by omega)]
            rw [show H.size + (j - N) = H.size + 1 + (j - (N + 1)) by omega]
            exact this
        · rw [if_neg e3]
          by_cases e4 : N ≤ j
          · rw [w3 j e4]
            trivial
          · refine (w1 j).kept (z4 _ ?_)
            unfold xad
            by_cases e5 : j < o
            · rw [if_pos e5]
              have := B.1 j e5
              omega
            · rw [if_neg e5]
              omega
    · have hj' : N + (n + 1) ≤ j := hj
      rw [hcellN j, if_neg (by omega), if_neg (by omega)]
      exact w3 j (by omega)
    · show o ≤ N + (n + 1)
      omega
    · show N + (n + 1) ≤ 4096
      omega
    · show S.heap.size + (N + (n + 1) - o) ≤ H'.size
      omega
    · show H'.size = S.heap.size + (N + (n + 1) - o)
      omega
    · rw [z4 x (by omega), w8 x hx]
    · show cells + 1 + n + c0 = hp.2.2.2.1 + 1 + n
      omega
    · show slots + n + n * mm + s0 = hp.2.2.2.2 + n + n * mm
      omega
  next => cases h
/-- constants: ints, longs, texts -/
def xPk (S : State) (ad : Nat → Nat) (own : String) (ix : Nat) (P : xP) : Prop := (P.1 = 8 → Cond.constant own ix (Int32.ofNat P.2.1) ∈ xW) ∧ (P.1 = 9 → Cond.constantLong own ix (Int64.ofNat P.2.1) ∈ xW) ∧ (P.1 = 7 → ∃ tx, vk_R own ix tx (ad P.2.1) S)
/-- statics: a row of numbers, an int that is 1, some reference -/
def xPs (S : State) (ad : Nat → Nat) (own : String) (ix : Nat) (P : xP) : Prop := (P.1 = 10 → ∃ C n d, Cond.fieldLink own ix C n d ∈ xW ∧ va_Z C n d (.ref (ad P.2.1)) (fun q => S.heap.size ≤ q) S S.heap) ∧ (P.1 = 26 → ∃ C n d, Cond.fieldLink own ix C n d ∈ xW ∧ va_Z C n d (.int 1) (fun q => S.heap.size ≤ q) S S.heap) ∧ (P.1 = 27 → ∃ C n d, Cond.fieldLink own ix C n d ∈ xW ∧ va_Zq C n d (fun q => S.heap.size ≤ q) S S.heap)
theorem xi_ldc (F : xFx p s m args meth c cc nL own S) {len : Nat} {k : Nat} (HP : xPk S (xad o S.heap.size old) own k (pool k)) (hd : decode cc pc = .ok (.ldc k, len)) (hl0 : len = xlen (.ldc k) len) (hx0 : nx = pc + len) (hst : xsto nL (.ldc k) = true) (hK : xHyp p l e R s m args below meth c nL S o old D c0 s0 Q K out) (h : xstep o ft call pool hs K (.ldc k) pc nx loc stk hp = some out) : xG p l e R s m args below meth c nL S o old D c0 s0 Q pc loc stk hp := by
  subst hx0
  have hl1 : len = 2 := hl0
  subst hl1
  have h : cond (Nat.beq (pool k).1 8) (K (pc + 2) loc (.inl (pool k).2.1 :: stk) hp) (cond (Nat.beq (pool k).1 7) (K (pc + 2) loc (.inr (.inr (.inl (pool k).2.1)) :: stk) hp) none) = some out := h
  cases h8 : Nat.beq (pool k).1 8 with
  | true =>
    rw [h8, cond_true] at h
    exact xk_push F (a := .inl (pool k).2.1) (v := .int (Int32.ofNat (pool k).2.1)) rfl (fun _ _ _ _ _ _ k9 => lv_ldc F.1 F.2.1 F.2.2.2.1 (F.2.2.2.2.1 _ (HP.1 (Nat.eq_of_beq_eq_true h8))) hd k9) hK h
  | false =>
    rw [h8, cond_false] at h
    obtain ⟨h7, h⟩ := cond_some h
    obtain ⟨tx, htx⟩ := HP.2.2 (Nat.eq_of_beq_eq_true h7)
    exact xk_push F (a := .inr (.inr (.inl (pool k).2.1))) (v := .ref (xad o S.heap.size old (pool k).2.1)) rfl (fun _ _ _ _ _ _ k9 => va_ldcS F.1 F.2.1 F.2.2.2.1 (vk_R.warm F.2.2.2.2.2.1 htx) hd k9) hK h
theorem xv_ldcSW {H : Heap} {locs : List Loc} {cells slots : Nat} {ls : Array Slot} {rest : List Value} (hexec : p.tables.exec = Jvm.exec) (hb : c.code = cc) {own tx : String} {index q : Nat} (hown : s.vm.findClass own = some m.cls) (hZ : vk_R own index tx q s) (hdg : decode cc pc = .ok (.ldc_w index, 3))
    (k : W p l e R s m args below meth c H locs cells slots Q (F0 m (pc + 3) ls (.ref q :: rest))) : W p l e R s m args below meth c H locs cells slots Q (F0 m pc ls rest) := by
  intro T hT X
  obtain ⟨t, a1, b1⟩ := k T hT X
  exact ⟨t, X.ldcStringW hexec hown (text := tx) (a := q) hZ.1 hZ.2 (g := F0 m pc ls rest) rfl (by rw [hb]; exact hdg) t a1, b1⟩
theorem xi_ldc_w (F : xFx p s m args meth c cc nL own S) {len : Nat} {k : Nat} (HP : xPk S (xad o S.heap.size old) own k (pool k)) (hd : decode cc pc = .ok (.ldc_w k, len)) (hl0 : len = xlen (.ldc_w k) len) (hx0 : nx = pc + len) (hst : xsto nL (.ldc_w k) = true) (hK : xHyp p l e R s m args below meth c nL S o old D c0 s0 Q K out) (h : xstep o ft call pool hs K (.ldc_w k) pc nx loc stk hp = some out) : xG p l e R s m args below meth c nL S o old D c0 s0 Q pc loc stk hp := by
  subst hx0
  have hl1 : len = 3 := hl0
  subst hl1
  have h : cond (Nat.beq (pool k).1 8) (K (pc + 3) loc (.inl (pool k).2.1 :: stk) hp) (cond (Nat.beq (pool k).1 7) (K (pc + 3) loc (.inr (.inr (.inl (pool k).2.1)) :: stk) hp) none) = some out := h
  cases h8 : Nat.beq (pool k).1 8 with
  | true =>
    rw [h8, cond_true] at h
    exact xk_push F (a := .inl (pool k).2.1) (v := .int (Int32.ofNat (pool k).2.1)) rfl (fun _ _ _ _ _ _ k9 => lv_ldcw F.1 F.2.1 F.2.2.2.1 (F.2.2.2.2.1 _ (HP.1 (Nat.eq_of_beq_eq_true h8))) hd k9) hK h
  | false =>
    rw [h8, cond_false] at h
    obtain ⟨h7, h⟩ := cond_some h
    obtain ⟨tx, htx⟩ := HP.2.2 (Nat.eq_of_beq_eq_true h7)
    exact xk_push F (a := .inr (.inr (.inl (pool k).2.1))) (v := .ref (xad o S.heap.size old (pool k).2.1)) rfl (fun _ _ _ _ _ _ k9 => xv_ldcSW F.1 F.2.1 F.2.2.2.1 (vk_R.warm F.2.2.2.2.2.1 htx) hd k9) hK h
theorem xi_ldc2_w (F : xFx p s m args meth c cc nL own S) {len : Nat} {k : Nat} (HP : xPk S (xad o S.heap.size old) own k (pool k)) (hd : decode cc pc = .ok (.ldc2_w k, len)) (hl0 : len = xlen (.ldc2_w k) len) (hx0 : nx = pc + len) (hst : xsto nL (.ldc2_w k) = true) (hK : xHyp p l e R s m args below meth c nL S o old D c0 s0 Q K out) (h : xstep o ft call pool hs K (.ldc2_w k) pc nx loc stk hp = some out) : xG p l e R s m args below meth c nL S o old D c0 s0 Q pc loc stk hp := by
  subst hx0
  have hl1 : len = 3 := hl0
  subst hl1
  obtain ⟨h9, h⟩ := cond_some (show cond (Nat.beq (pool k).1 9) (K (pc + 3) loc (.inr (.inl (pool k).2.1) :: stk) hp) none = some out from h)
  exact xk_push F (a := .inr (.inl (pool k).2.1)) (v := .long (Int64.ofNat (pool k).2.1)) rfl (fun _ _ _ _ _ _ k9 => lv_ldc2 F.1 F.2.1 F.2.2.2.1 (F.2.2.2.2.1 _ (HP.2.1 (Nat.eq_of_beq_eq_true h9))) hd k9) hK h
theorem xi_getstatic (F : xFx p s m args meth c cc nL own S) {len : Nat} {k : Nat} (HP : xPs S (xad o S.heap.size old) own k (pool k)) (hd : decode cc pc = .ok (.getstatic k, len)) (hl0 : len = xlen (.getstatic k) len) (hx0 : nx = pc + len) (hst : xsto nL (.getstatic k) = true) (hK : xHyp p l e R s m args below meth c nL S o old D c0 s0 Q K out) (h : xstep o ft call pool hs K (.getstatic k) pc nx loc stk hp = some out) : xG p l e R s m args below meth c nL S o old D c0 s0 Q pc loc stk hp := by
  subst hx0
  have hl1 : len = 3 := hl0
  subst hl1
  intro H locs cells slots ls lv st hlv hl hs1 hh hlo hc hsl
  have h : cond (Nat.beq (pool k).1 10) (K (pc + 3) loc (.inr (.inr (.inl (pool k).2.1)) :: stk) hp) (cond (Nat.beq (pool k).1 26) (K (pc + 3) loc (.inl 1 :: stk) hp) (cond (Nat.beq (pool k).1 27) (K (pc + 3) loc (.inr (.inr (.inr (.inr (.inr (.inl true))))) :: stk) hp) none)) = some out := h
  have hH : ∀ q : Nat, q < S.heap.size → ¬ S.heap.size ≤ q → H[q]? = S.heap[q]? := fun q h1 _ => hh.2.2.2.2.2.2.2 q h1
  have get : ∀ (C n d : String) (v : Value), va_Z C n d v (fun q => S.heap.size ≤ q) S S.heap → Cond.fieldLink own k C n d ∈ xW → W p l e R s m args below meth c H locs cells slots Q (F0 m (pc + 3) ls (v :: st)) → W p l e R s m args below meth c H locs cells slots Q (F0 m pc ls st) := by
    intro C n d v hZ hw kk
    obtain ⟨cf, kf, fi, f, a, cell, p1, p2, p3, p4, p5, p6, p7, p8⟩ := va_Z.moved F.2.2.2.2.2.1.alike (hZ.kept hH)
    exact W.gets F.1 F.2.1 F.2.2.2.1 (F.2.2.2.2.1 _ hw) p1 p2 p3 p4 p5 (fun e => by rw [e] at p6; cases p6) p7 rfl hd kk
  cases h10 : Nat.beq (pool k).1 10 with
  | true =>
    rw [h10, cond_true] at h
    obtain ⟨C, n, d, q1, q2⟩ := HP.1 (Nat.eq_of_beq_eq_true h10)
    exact get C n d _ q2 q1 (hK _ _ _ _ h H locs cells slots ls lv _ hlv hl ⟨rfl, hs1⟩ hh hlo hc hsl)
  | false =>
    rw [h10, cond_false] at h
    cases h26 : Nat.beq (pool k).1 26 with
    | true =>
      rw [h26, cond_true] at h
      obtain ⟨C, n, d, q1, q2⟩ := HP.2.1 (Nat.eq_of_beq_eq_true h26)
      exact get C n d _ q2 q1 (hK _ _ _ _ h H locs cells slots ls lv _ hlv hl ⟨rfl, hs1⟩ hh hlo hc hsl)
    | false =>
      rw [h26, cond_false] at h
      obtain ⟨h27, h⟩ := cond_some h
      obtain ⟨C, n, d, q1, q2⟩ := HP.2.2 (Nat.eq_of_beq_eq_true h27)
      rcases q2 with q2 | ⟨t, q2⟩
      · exact get C n d _ q2 q1 (hK _ _ _ _ h H locs cells slots ls lv _ hlv hl ⟨Or.inl rfl, hs1⟩ hh hlo hc hsl)
      · exact get C n d _ q2 q1 (hK _ _ _ _ h H locs cells slots ls lv _ hlv hl ⟨Or.inr ⟨_, rfl⟩, hs1⟩ hh hlo hc hsl)
end Steps7
