section Steps14
variable {p : Program} {l : Launch} {e : Env} {R : Room} {s : State} {m : MethodId} {args : Array Value} {below : List Frame} {meth : Method} {c : Code} {cc : ByteArray} {nL : Nat} {own : String} {S : State} {o : Nat} {old : Nat → Nat} {D : va_G} {c0 s0 : Nat} {Q : State → Prop}
variable {pc nx : Nat} {K : xK} {out : xE} {loc : List (Nat × xA)} {stk : List xA} {hp : xH} {ft : Nat → List Nat} {call : xF} {pool : Nat → xP} {hs : List (Nat × (Nat × (Nat × Nat)))}
variable {hh : List (Nat × (Nat × (Nat × Nat)))} {rk : Nat} {r0 : xO} {mt : Nat → xY} {d : Nat}
theorem xfall_ok {ty i : Nat} {f : Lean.RArray xA} : ∀ {n : Nat}, xfall ty f i n = true → ∀ t, t < n → xfa ty (xget f (i + t)) = true := by
  intro n
  induction n with
  | zero => intro _ t ht; omega
  | succ n ih =>
    intro h t ht
    obtain ⟨h1, h2⟩ := and_true' (show (xfa ty (xget f (Nat.add i n)) && xfall ty f i n) = true from h)
    by_cases e : t = n
    · rw [e]; exact h1
    · exact ih h2 t (by omega)
theorem xcopy_ok {f : Lean.RArray xA} {k i j : Nat} : ∀ (n : Nat) (g : Lean.RArray xA), xwf k 0 g → j + n ≤ 2 ^ k → xwf k 0 (xcopy f k i j n g) ∧ ∀ x, x < 2 ^ k → xget (xcopy f k i j n g) x = if j ≤ x ∧ x < j + n then xget f (i + (x - j)) else xget g x := by
  intro n
  induction n with
  | zero => intro g h _; exact ⟨h, fun x _ => by rw [if_neg (by omega)]; rfl⟩
  | succ n ih =>
    intro g h hn
    obtain ⟨h1, h2⟩ := ih (xset (xget f (Nat.add i n)) (Nat.add j n) k 0 g) (xset_wf _ _ _ _ _ h) (by omega)
    refine ⟨h1, fun x hx => ?_⟩
    show xget (xcopy f k i j n (xset (xget f (Nat.add i n)) (Nat.add j n) k 0 g)) x = _
    rw [h2 x hx, xget_xset _ _ _ k 0 g h (Nat.zero_le _) (by show j + n < _; omega) (Nat.zero_le _) (by omega)]
    by_cases e : x = j + n
    · rw [if_neg (by omega), if_pos (show x = Nat.add j n from e), if_pos (by omega), show x - j = n by omega]
      rfl
    · rw [if_neg (show ¬ x = Nat.add j n from e)]
      by_cases e2 : j ≤ x ∧ x < j + n
      · rw [if_pos e2, if_pos (by omega)]
      · rw [if_neg e2, if_neg (by omega)]
theorem xfits5 : ∀ n, n < 128 → fits .byte (.int (Int32.ofNat n)) = true := by decide +kernel
theorem xfits4 : fits .boolean (.int (Int32.ofNat 0)) = true ∧ fits .boolean (.int (Int32.ofNat 1)) = true := by decide +kernel
theorem xfa_ok {ad : Nat → Nat} {ty : Nat} {a : xA} {v : Value} (ht : ty ≤ 3) (h : xfa ty a = true) (hr : xR ad a v) : fits (xty ty) v = true ∧ v.isRef = false := by
  match ty, ht, h with
  | 0, _, h =>
    obtain ⟨q, hq⟩ := isSome_of (show (xbd a).isSome = true from h)
    obtain ⟨x, rfl, -, -⟩ := xR_bd hr hq
    exact ⟨rfl, rfl⟩
  | 1, _, h =>
    obtain ⟨q, hq⟩ := isSome_of (show (xbdl a).isSome = true from h)
    obtain ⟨x, rfl, -, -⟩ := xR_bdl hr hq
    exact ⟨rfl, rfl⟩
  | 2, _, h =>
    match a, h, hr with
    | .inl n, h, hr =>
      cases hr
      refine ⟨?_, rfl⟩
      show fits .boolean _ = true
      rcases Bool.or_eq_true _ _ ▸ (show (Nat.beq n 0 || Nat.beq n 1) = true from h) with h | h <;> rw [Nat.eq_of_beq_eq_true h]
      · exact xfits4.1
      · exact xfits4.2
    | .inr _, h, _ => cases h
  | 3, _, h =>
    match a, h, hr with
    | .inl n, h, hr =>
      cases hr
      exact ⟨xfits5 n (Nat.le_of_ble_eq_true (show Nat.blt n 128 = true from h)), rfl⟩
    | .inr _, h, _ => cases h
  | _ + 4, ht, _ => omega
theorem xhty {ty : Nat} (ht : ty ≤ 3) : ((refKind (xty ty) != refKind (xty ty)) || (!refKind (xty ty) && xty ty != xty ty)) = false := by
  rcases (by omega : ty = 0 ∨ ty = 1 ∨ ty = 2 ∨ ty = 3) with rfl | rfl | rfl | rfl <;> decide +kernel
/-- System.arraycopy's words -/
def xP12 (own : String) (ix : Nat) : Prop := Cond.methodLink own ix arraycopyName ∈ xW ∧ Cond.native arraycopyName ∈ xW ∧ Cond.static arraycopyName ∈ xW ∧ Cond.initialized "java/lang/System" ∈ xW
theorem xi_arraycopy (F : xFx p s m args meth c cc nL own S) (B : xBs S o old D ft) (hR : d + 11 ≤ R.frames ∧ 264 + 64 * d ≤ R.locals)
    (hK : xHyp p l e R s m args below meth c nL S o old D c0 s0 Q K out) {ix : Nat} (HP : xP12 own ix) (hd : decode cc pc = .ok (.invokestatic ix, 3))
    (h : (match stk with
    | .inl n :: .inl j :: .inr (.inr (.inl kd)) :: .inl i :: .inr (.inr (.inl ks)) :: rest => match xcell hp ks, xcell hp kd with
      | some (.inr (.inl cs)), some (.inr (.inl cd)) =>
        cond (xfall cs.1 cs.2.2.2 i n && (Nat.beq cs.1 cd.1 && (Nat.ble cs.1 3 && (Nat.ble (Nat.add i n) cs.2.1 && (Nat.ble (Nat.add j n) cd.2.1 && (Nat.blt cs.2.1 2147483648 && (Nat.blt cd.2.1 2147483648 && (Nat.ble o kd && (Nat.ble (Nat.add j n) (Nat.pow 2 cd.2.2.1) && Nat.ble (xcats rest) 4)))))))))
          (K (pc + 3) loc rest (xput hp kd (some (.inr (.inl (cd.1, (cd.2.1, (cd.2.2.1, xcopy cs.2.2.2 cd.2.2.1 i j n cd.2.2.2)))))))) none
      | _, _ => none
    | _ => none) = some out) :
    xG p l e R s m args below meth c nL S o old D c0 s0 Q pc loc stk hp := by
  intro H locs cells slots ls lv st hlv hl hs1 hx hlo hc hsl
  split at h
  · next n j kd i ks rest =>
    obtain ⟨v1, st1, rfl, r1, g1⟩ := xs2_cons hs1
    obtain ⟨v2, st1, rfl, r2, g2⟩ := xs2_cons g1
    obtain ⟨v3, st1, rfl, r3, g3⟩ := xs2_cons g2
    obtain ⟨v4, st1, rfl, r4, g4⟩ := xs2_cons g3
    obtain ⟨v5, rv, rfl, r5, g5⟩ := xs2_cons g4
    cases r1; cases r2; cases r3; cases r4; cases r5
    split at h
    · next cs cd hcs hcd =>
      obtain ⟨h0, h⟩ := cond_some h
      obtain ⟨hf, h0⟩ := and_true' h0
      obtain ⟨h1, h0⟩ := and_true' h0
      obtain ⟨h2, h0⟩ := and_true' h0
      obtain ⟨h3, h0⟩ := and_true' h0
      obtain ⟨h4, h0⟩ := and_true' h0
      obtain ⟨h5, h0⟩ := and_true' h0
      obtain ⟨h6, h0⟩ := and_true' h0
      obtain ⟨h7, h0⟩ := and_true' h0
      obtain ⟨h9, h10⟩ := and_true' h0
      have h1 := Nat.eq_of_beq_eq_true h1
      have h2 := Nat.le_of_ble_eq_true h2
      have h3 : i + n ≤ cs.2.1 := Nat.le_of_ble_eq_true h3
      have h4 : j + n ≤ cd.2.1 := Nat.le_of_ble_eq_true h4
      have h5 : cs.2.1 < 2147483648 := Nat.le_of_ble_eq_true h5
      have h6 : cd.2.1 < 2147483648 := Nat.le_of_ble_eq_true h6
      have h7 : o ≤ kd := Nat.le_of_ble_eq_true h7
      have h9 : j + n ≤ 2 ^ cd.2.2.1 := Nat.le_of_ble_eq_true h9
      have h10 : xcats rest ≤ 4 := Nat.le_of_ble_eq_true h10
      rw [← xs2_cats g5] at h10
      have hS := hx.1 ks
      have hD := hx.1 kd
      rw [hcs] at hS
      rw [hcd] at hD
      obtain ⟨a, a1, a2, a3, a4, a5, a6, a7, a8, a9⟩ := hS
      obtain ⟨b, b1, b2, b3, b4, b5, b6, b7, b8, b9⟩ := hD
      have a2s := State.isArrayOf_alike F.2.2.2.2.2.1.alike a2
      have b2s := State.isArrayOf_alike F.2.2.2.2.2.1.alike b2
      obtain ⟨a2v, ka, ha1, ca, ha2⟩ := a2s
      obtain ⟨b2v, kb, hb1, cb, hb2⟩ := b2s
      have ei : (Int32.ofNat i).toNatClampNeg = i := clamp_of rfl (by omega)
      have ej : (Int32.ofNat j).toNatClampNeg = j := clamp_of rfl (by omega)
      have en : (Int32.ofNat n).toNatClampNeg = n := clamp_of rfl (by omega)
      have ti : (Int32.ofNat i).toInt = i := Int32.toInt_ofNat_small (by omega)
      have tj : (Int32.ofNat j).toInt = j := Int32.toInt_ofNat_small (by omega)
      have tn : (Int32.ofNat n).toInt = n := Int32.toInt_ofNat_small (by omega)
      obtain ⟨w1, w2, w3, w4⟩ := HP
      intro T hT Xs
      have hval : ∀ t, t < n → fits (xty cd.1) (a.slots.getD (i + t) .null) = true ∧ (a.slots.getD (i + t) .null).isRef = false ∧ xR (xad o S.heap.size old) (xget cs.2.2.2 (i + t)) (a.slots.getD (i + t) .null) := fun t ht => by
        obtain ⟨v, g1, g2⟩ := a9 (i + t) (by omega)
        have e1 : a.slots.getD (i + t) .null = v := by rw [Array.getD_eq_getD_getElem?, g1]; rfl
        rw [e1, ← h1]
        obtain ⟨q1, q2⟩ := xfa_ok h2 (xfall_ok hf t ht) g2
        exact ⟨q1, q2, g2⟩
      obtain ⟨vm', X', step⟩ := Xs.arraycopy F.1 F.2.2.2.1 (F.2.2.2.2.1 _ w1) (F.2.2.2.2.1 _ w2) (F.2.2.2.2.1 _ w3) (F.2.2.2.2.1 _ w4) (src := xad o S.heap.size old ks) (dst := xad o S.heap.size old kd) (cs := a) (cd := b) (srcPos := Int32.ofNat i) (destPos := Int32.ofNat j) (n := Int32.ofNat n)
        (by rw [hT]; exact a1) (by rw [hT]; exact b1) a2v b2v a3 b3 ha1 hb1 ha2 hb2 (by rw [h1]; exact xhty (by omega)) (by rw [Int32.lt_iff_toInt_lt, ti]; show ¬ (i : Int) < 0; omega) (by rw [Int32.lt_iff_toInt_lt, tj]; show ¬ (j : Int) < 0; omega) (by rw [Int32.lt_iff_toInt_lt, tn]; show ¬ (n : Int) < 0; omega)
        (by rw [ti, tn]; omega) (by rw [tj, tn]; omega)
        (fun vm₁ _ t ht => by
          rw [en] at ht
          rw [ei]
          obtain ⟨q1, q2, -⟩ := hval t ht
          refine ⟨q1, ?_⟩
          cases hv : a.slots.getD (i + t) .null with
          | ref x => rw [hv] at q2; cases q2
          | null => trivial
          | int x => trivial
          | long x => trivial
          | float x => trivial
          | double x => trivial
          | retAddr x => trivial)
        (g := F0 m pc ls (.int (Int32.ofNat n) :: .int (Int32.ofNat j) :: .ref (xad o S.heap.size old kd) :: .int (Int32.ofNat i) :: .ref (xad o S.heap.size old ks) :: rv)) rfl (by rw [F.2.2.1]; exact hlv.1) (rest := rv) rfl (by rw [F.2.1]; exact hd) (by omega) (by
          have : nativeFrameWords "java/lang/System" "arraycopy" 5 = 7 := by decide +kernel
          rw [this]
          show 2 * 0 + _ + _ ≤ _
          omega)
      have hbd : xad o S.heap.size old kd < H.size := (Array.getElem?_eq_some_iff.mp b1).1
      generalize hN : copied a b (Int32.ofNat i) (Int32.ofNat j) (Int32.ofNat n) = nc at X' step
      obtain ⟨f1, f2, f3, -⟩ := b.storeRun_facts (Int32.ofNat j).toNatClampNeg (a.stretch (Int32.ofNat i).toNatClampNeg (Int32.ofNat n).toNatClampNeg)
      rw [show b.storeRun (Int32.ofNat j).toNatClampNeg (a.stretch (Int32.ofNat i).toNatClampNeg (Int32.ofNat n).toNatClampNeg) = nc from hN] at f1 f2 f3
      have hheap : ((T.setVm vm').setCell (xad o S.heap.size old kd) nc).heap = H.setIfInBounds (xad o S.heap.size old kd) nc := by rw [← hT]; rfl
      obtain ⟨q1, q2⟩ := xcopy_ok (f := cs.2.2.2) (i := i) (j := j) n cd.2.2.2 b7 h9
      have hget : ∀ x, nc.slots[x]? = if j ≤ x ∧ x < j + n then (a.stretch i n)[x - j]? else b.slots[x]? := fun x => by
        rw [← hN]
        show (b.storeRun (Int32.ofNat j).toNatClampNeg (a.stretch (Int32.ofNat i).toNatClampNeg (Int32.ofNat n).toNatClampNeg)).slots[x]? = _
        rw [ei, ej, en, Cell.storeRun_get _ _ _ _ (by rw [Cell.stretch_length]; omega), Cell.stretch_length]
      have hx' : xhr o old D S (xput hp kd (some (.inr (.inl (cd.1, (cd.2.1, (cd.2.2.1, xcopy cs.2.2.2 cd.2.2.1 i j n cd.2.2.2))))))) (H.setIfInBounds (xad o S.heap.size old kd) nc) := by
        refine hx.put B.1 h7 (xcell_n hx hcd) (by simp) (fun q hq => by simp [Array.getElem?_setIfInBounds, Ne.symm hq]) ?_
        refine ⟨nc, by simp [Array.getElem?_setIfInBounds, hbd], ?_, by rw [f2]; exact b3, ?_, by show cd.2.1 ≤ nc.slots.size; rw [f3]; exact b5, by rw [f3]; exact b6, q1, b8, fun x hx9 => ?_⟩
        · exact ⟨fun k => by rw [f2]; exact b2.1 k, by rw [f1]; exact b2.2⟩
        · intro ho
          obtain ⟨y1, y2, y3⟩ := b4 ho
          exact ⟨by rw [f2]; exact y1, by rw [f1]; exact y2, fun h9 => by rw [f1]; exact y3 h9⟩
        · have hx9 : x < cd.2.1 := hx9
          have hx8 : x < 2 ^ cd.2.2.1 := Nat.lt_of_lt_of_le hx9 b8
          show ∃ v, nc.slots[x]? = some v ∧ xR _ (xget (xcopy cs.2.2.2 cd.2.2.1 i j n cd.2.2.2) x) v
          rw [hget x, q2 x hx8]
          by_cases e2 : j ≤ x ∧ x < j + n
          · rw [if_pos e2, if_pos e2]
            refine ⟨_, ?_, (hval (x - j) (by omega)).2.2⟩
            unfold Cell.stretch
            rw [List.getElem?_map, List.getElem?_range (by omega)]
            rfl
          · rw [if_neg e2, if_neg e2]
            exact b9 x hx9
      obtain ⟨t, t1, t2⟩ := hK _ _ _ _ h _ _ cells slots ls lv rv hlv hl g5 hx' (fun z hz => by
        rcases List.mem_append.mp hz with hz | hz
        · exact hlo z hz
        · obtain ⟨y, -, rfl⟩ := List.mem_map.mp hz
          show S.heap.size ≤ xad o S.heap.size old kd
          unfold xad
          rw [if_neg (by omega)]
          omega) hc hsl _ hheap X'
      exact ⟨t, step t t1, t2⟩
    · cases h
  · cases h
end Steps14
