section Steps12
variable {p : Program} {l : Launch} {e : Env} {R : Room} {s : State} {m : MethodId} {args : Array Value} {below : List Frame} {meth : Method} {c : Code} {cc : ByteArray} {nL : Nat} {own : String} {S : State} {o : Nat} {old : Nat → Nat} {D : va_G} {c0 s0 : Nat} {Q : State → Prop}
variable {pc nx : Nat} {K : xK} {out : xE} {loc : List (Nat × xA)} {stk : List xA} {hp : xH} {ft : Nat → List Nat} {call : xF} {pool : Nat → xP} {hs : List (Nat × (Nat × (Nat × Nat)))}
variable {hh : List (Nat × (Nat × (Nat × Nat)))} {rk : Nat} {r0 : xO} {mt : Nat → xY} {d : Nat}
/-- more cells came that nothing is known of -/
theorem xhr.grow {H H' : Heap} {a b : Nat} (h : xhr o old D S hp H) (hz : H.size ≤ H'.size) (hq : ∀ q : Nat, q < H.size → H'[q]? = H[q]?) : xhr o old D S (hp.1, (hp.2.1, (false, (a, b)))) H' := by
  obtain ⟨h1, h2, h3, h4, h5, h6, h7, h8⟩ := h
  refine ⟨fun k => ?_, h2, h3, h4, h5, Nat.le_trans h6 hz, fun q => (by cases q), fun q hq' => by rw [hq q (by omega), h8 q hq']⟩
  show xcr o (xad o S.heap.size old) D S k (xcell hp k) H'
  have hk := h1 k
  match hx : xcell hp k, hk with
  | none, _ => trivial
  | some (.inl q), hk =>
    have hk9 := hk
    obtain ⟨r9, g1, g2, g3, V, ⟨cell, q1, -⟩, -⟩ := hk9
    exact hk.kept (hq _ (Array.getElem?_eq_some_iff.mp q1).1)
  | some (.inr (.inl q)), hk =>
    have hk9 := hk
    obtain ⟨cell, q1, -⟩ := hk9
    exact hk.kept (hq _ (Array.getElem?_eq_some_iff.mp q1).1)
  | some (.inr (.inr q)), hk => exact hk
/-- 'throw new E("..")' at a pc -/
def xTh (S : State) (own : String) (cc : ByteArray) (hh : List (Nat × (Nat × (Nat × Nat)))) (pc ik E : Nat) : Prop := hh = [] ∧ E < 3 ∧ ∃ (names : List String) (text : String) (is ic sa : Nat), Bundle.fit (xen E) = true ∧ (∀ n ∈ names, Bundle.fit n = true) ∧ names.length ≤ 6 ∧ Cond.classLink own ik (xen E) ∈ xW ∧ Cond.initialized (xen E) ∈ xW ∧ vk_R own is text sa S ∧ (∀ w ∈ vx_atS own ic (xen E) names, w ∈ xW ∨ (w.faceAtom = true ∧ w.onTables = true ∧ w.before #[] S = true)) ∧
  decode cc pc = .ok (.new ik, 3) ∧ decode cc (pc + 3) = .ok (.dup, 1) ∧
  ((decode cc (pc + 4) = .ok (.ldc is, 2) ∧ decode cc (pc + 6) = .ok (.invokespecial ic, 3) ∧ decode cc (pc + 9) = .ok (.athrow, 1)) ∨ (decode cc (pc + 4) = .ok (.ldc_w is, 3) ∧ decode cc (pc + 7) = .ok (.invokespecial ic, 3) ∧ decode cc (pc + 10) = .ok (.athrow, 1)))
/-- the two statics that a throw reads -/
def xZs (S : State) : Prop := vx_Zq Bundle.tN "UNASSIGNED_STACK" Bundle.steD (fun q => S.heap.size ≤ q) S S.heap ∧ vx_Zq Bundle.tN "SUPPRESSED_SENTINEL" Bundle.listD (fun q => S.heap.size ≤ q) S S.heap
theorem xi_throw (F : xFx p s m args meth c cc nL own S) (hl9 : l.stackTraces = false) (hT : c.exceptionTable.toList = tableOf hh) (Z : xZs S) (hS0 : S.heap.size ≤ s.heap.size ∧ ∀ q, q < S.heap.size → s.heap[q]? = S.heap[q]?) {E ik : Nat} (hend : xend rk (some (1, (pc, (stk, (hp, E))))) = some r0)
    (hR : d + 11 ≤ R.frames ∧ 264 + 64 * d ≤ R.locals) (hR2 : r0.2.2.1.2.2.2.1 ≤ R.cells + c0 ∧ r0.2.2.1.2.2.2.2 ≤ R.slots + s0) (HT : xTh S own cc hh pc ik E) :
    xG p l e R s m args below meth c nL S o old D c0 s0 (xQ below S o old D r0 args s c0 s0) pc loc stk hp := by
  intro H locs cells slots ls lv st hlv hl hs1 hx hlo hc hsl
  have hend' : cond (Nat.ble (xcats stk) 8) (some ((1, (none, ((hp.1, (hp.2.1, (false, (Nat.add hp.2.2.2.1 1, Nat.add hp.2.2.2.2 6)))), E))) : xO)) none = some r0 := hend
  obtain ⟨h8, hr⟩ := cond_some hend'
  cases hr
  have h8 : xcats stk ≤ 8 := Nat.le_of_ble_eq_true h8
  rw [← xs2_cats hs1] at h8
  have hR3 : hp.2.2.2.1 + 1 ≤ R.cells + c0 := hR2.1
  have hR4 : hp.2.2.2.2 + 6 ≤ R.slots + s0 := hR2.2
  obtain ⟨rfl, hE, names, text, is, ic, sa, b1, b2, b3, b4, b5, b6, b7, b8, b9, b10⟩ := HT
  have hout : ∀ z ∈ c.exceptionTable.toList, ∀ q, covers z q = false := fun z hz => by rw [hT] at hz; cases hz
  have hkS : ∀ q : Nat, q < S.heap.size → ¬ S.heap.size ≤ q → s.heap[q]? = S.heap[q]? := fun q h1 _ => hS0.2 q h1
  have hU := vx_Zq.moved F.2.2.2.2.2.1.alike (Z.1.kept hkS)
  have hN := vx_Zq.moved F.2.2.2.2.2.1.alike (Z.2.kept hkS)
  have hgW : ∀ w : Cond, w ∈ xW → vx_ot w = true := fun w hw => by
    unfold vx_ot
    rw [(List.mem_filter.mp hw).2, Bool.or_true]
  have hgood : ∀ w ∈ Cond.classLink own ik (xen E) :: Cond.initialized (xen E) :: vx_atS own ic (xen E) names, vx_ot w = true := fun w hw => by
    rcases List.mem_cons.mp hw with rfl | hw
    · exact hgW _ b4
    · rcases List.mem_cons.mp hw with rfl | hw
      · exact hgW _ b5
      · rcases b7 _ hw with h | ⟨-, h, -⟩
        · exact hgW _ h
        · unfold vx_ot
          rw [h, Bool.true_or]
  have hat : ∀ w ∈ vx_atS own ic (xen E) names, w.before args s = true := fun w hw => by
    rcases b7 _ hw with h | ⟨h1, h2, h3⟩
    · exact F.2.2.2.2.1 _ h
    · exact xface F h1 h2 h3
  have hxx : ∀ t : State, s.vm.Alike t.vm → H.size ≤ t.heap.size → (∀ q : Nat, q < H.size → t.heap[q]? = H[q]?) → xPex S o old D (1, (none, ((hp.1, (hp.2.1, (false, (Nat.add hp.2.2.2.1 1, Nat.add hp.2.2.2.2 6)))), E))) (xen E) s t := fun t _ h1 h2 => ⟨rfl, rfl, hE, hx.grow h1 h2⟩
  intro T hT9 Xs
  have hsz := (vx_frame (Xs.ends []).2).1
  have hsz : s.heap.size ≤ H.size := by rw [← hT9]; exact hsz
  have hSS : va_S (fun q => S.heap.size ≤ q) s.heap H locs := ⟨hsz, fun q _ h2 => by rw [hx.2.2.2.2.2.2.2 q (by omega), hS0.2 q (by omega)], hlo⟩
  have hcc : cells + 1 ≤ (Nat.add hp.2.2.2.1 1) - c0 := by show _ ≤ hp.2.2.2.1 + 1 - c0; omega
  have hss : slots + 6 ≤ (Nat.add hp.2.2.2.2 6) - s0 := by show _ ≤ hp.2.2.2.2 + 6 - s0; omega
  rcases b10 with ⟨y1, y2, y3⟩ | ⟨y1, y2, y3⟩
  · exact vx_throwS (names := names) (text := text) (rest := st) (own := own) (cls := xen E) F.1 F.2.1 hl9 F.2.2.2.1 b1 b2 (F.2.2.2.2.1 _ b4) (F.2.2.2.2.1 _ b5) (vk_R.warm F.2.2.2.2.2.1 b6) hat hgood hU hN hSS (by rw [F.2.2.1]; exact hlv.1) b8 b9 y1 y2 y3 (fun z hz => hout z hz _) (by omega) (by omega) (by omega) (by omega) F.2.2.2.2.2.2 hxx hlo hcc hss T hT9 Xs
  · exact vx_throwSW (names := names) (text := text) (rest := st) (own := own) (cls := xen E) F.1 F.2.1 hl9 F.2.2.2.1 b1 b2 (F.2.2.2.2.1 _ b4) (F.2.2.2.2.1 _ b5) (vk_R.warm F.2.2.2.2.2.1 b6) hat hgood hU hN hSS (by rw [F.2.2.1]; exact hlv.1) b8 b9 y1 y2 y3 (fun z hz => hout z hz _) (by omega) (by omega) (by omega) (by omega) F.2.2.2.2.2.2 hxx hlo hcc hss T hT9 Xs
/-- what a method returns, by its kind -/
def xRk (rk : Nat) (ret : Option FieldType) : Prop := match rk with
  | 0 => ret = none
  | 1 => ret = some .int
  | 2 => ret = some .long
  | 3 => ∃ t, ret = some t ∧ ((∃ n, t = .object n) ∨ ∃ u, t = .array u)
  | 4 => ret = some .boolean
  | 5 => ret = some .byte ∨ ret = some .char
  | _ => False
/-- a return's instruction fits the kind -/
def xro (rk : Nat) (i : Instr) : Bool := match i with
  | .ireturn => Nat.beq rk 1 || (Nat.beq rk 4 || Nat.beq rk 5)
  | .lreturn => Nat.beq rk 2
  | .areturn => Nat.beq rk 3
  | .return_ => Nat.beq rk 0
  | _ => true
theorem xnar5 : ∀ n, n < 128 → narrow .byte (.int (Int32.ofNat n)) = .int (Int32.ofNat n) ∧ narrow .char (.int (Int32.ofNat n)) = .int (Int32.ofNat n) := by decide +kernel
theorem xnar4 : narrow .boolean (.int (Int32.ofNat 0)) = .int (Int32.ofNat 0) ∧ narrow .boolean (.int (Int32.ofNat 1)) = .int (Int32.ofNat 1) := by decide +kernel
theorem xretc {H : Heap} {locs : List Loc} {cells slots : Nat} {g : JFrame} (hc : cells + c0 = hp.2.2.2.1) (hsl : slots + s0 = hp.2.2.2.2) {rv : Option xA}
    (k : W p l e R s m args below meth c H locs cells slots (MQ below (xPost S o old D (0, (rv, (hp, 0)))) args s cells slots (fun q => S.heap.size ≤ q)) g) : W p l e R s m args below meth c H locs cells slots (xQ below S o old D (0, (rv, (hp, 0))) args s c0 s0) g := by
  have e1 : hp.2.2.2.1 - c0 = cells := by omega
  have e2 : hp.2.2.2.2 - s0 = slots := by omega
  show W p l e R s m args below meth c H locs cells slots (vx_MQ below (xPost S o old D (0, (rv, (hp, 0)))) (xPex S o old D (0, (rv, (hp, 0)))) args s (hp.2.2.2.1 - c0) (hp.2.2.2.2 - s0) (fun q => S.heap.size ≤ q)) g
  rw [e1, e2]
  exact vx_ret k
theorem xi_return (F : xFx p s m args meth c cc nL own S) (hrk : xRk rk meth.sig.returnType) (hend : xend rk (some (0, (pc, (stk, (hp, 0))))) = some r0) {i : Instr} (hi : i = .ireturn ∨ i = .lreturn ∨ i = .areturn ∨ i = .return_) (hro : xro rk i = true) (hd : decode cc pc = .ok (i, 1)) :
    xG p l e R s m args below meth c nL S o old D c0 s0 (xQ below S o old D r0 args s c0 s0) pc loc stk hp := by
  intro H locs cells slots ls lv st hlv hl hs1 hx hlo hc hsl
  have hlocks := F.2.2.2.2.2.2
  match rk, hrk, hend, hro with
  | 0, hrk, hend, hro =>
    match stk, hs1, hend with
    | [], hs1, hend =>
      cases hend
      cases xs2_nil hs1
      have : i = .return_ := by rcases hi with rfl | rfl | rfl | rfl <;> first | rfl | cases hro
      subst this
      exact xretc hc hsl (W.vret F.1 F.2.1 hrk (fun t ht _ => ⟨none, rfl, rfl, trivial, by rw [ht]; exact hx⟩) hlo hd)
    | _ :: _, _, hend => cases hend
  | 1, hrk, hend, hro =>
    match stk, hs1, hend with
    | [a], hs1, hend =>
      obtain ⟨h1, h2⟩ := cond_some (show cond (xbd a).isSome (some ((0, (some a, (hp, 0))) : xO)) none = some r0 from hend)
      cases h2
      obtain ⟨v, st2, rfl, ra, hs2⟩ := xs2_cons hs1
      cases xs2_nil hs2
      obtain ⟨q, hq⟩ := isSome_of h1
      obtain ⟨x, rfl, -, -⟩ := xR_bd ra hq
      have : i = .ireturn := by rcases hi with rfl | rfl | rfl | rfl <;> first | rfl | cases hro
      subst this
      exact xretc hc hsl (W.iret F.1 F.2.1 hrk (fun t ht _ => ⟨some _, rfl, rfl, ra, by rw [ht]; exact hx⟩) hlo hd)
    | [], _, hend => cases hend
    | _ :: _ :: _, _, hend => cases hend
  | 2, hrk, hend, hro =>
    match stk, hs1, hend with
    | [a], hs1, hend =>
      obtain ⟨h1, h2⟩ := cond_some (show cond (xbdl a).isSome (some ((0, (some a, (hp, 0))) : xO)) none = some r0 from hend)
      cases h2
      obtain ⟨v, st2, rfl, ra, hs2⟩ := xs2_cons hs1
      cases xs2_nil hs2
      obtain ⟨q, hq⟩ := isSome_of h1
      obtain ⟨x, rfl, -, -⟩ := xR_bdl ra hq
      have : i = .lreturn := by rcases hi with rfl | rfl | rfl | rfl <;> first | rfl | cases hro
      subst this
      exact xretc hc hsl (W.lret F.1 F.2.1 hrk (fun t ht _ => ⟨some _, rfl, rfl, ra, by rw [ht]; exact hx⟩) hlo hd)
    | [], _, hend => cases hend
    | _ :: _ :: _, _, hend => cases hend
  | 3, hrk, hend, hro =>
    match stk, hs1, hend with
    | [.inr (.inr (.inl k))], hs1, hend =>
      cases (show some ((0, (some (.inr (.inr (.inl k))), (hp, 0))) : xO) = some r0 from hend)
      obtain ⟨v, st2, rfl, ra, hs2⟩ := xs2_cons hs1
      cases xs2_nil hs2
      have : i = .areturn := by rcases hi with rfl | rfl | rfl | rfl <;> first | rfl | cases hro
      subst this
      obtain ⟨ty, h1, h2⟩ := hrk
      exact xretc hc hsl (W.aret F.1 F.2.1 h1 h2 (Or.inr ⟨_, ra⟩) (fun t ht _ => ⟨some _, rfl, rfl, ra, by rw [ht]; exact hx⟩) hlo hd)
    | [], _, hend => cases hend
    | .inl _ :: _ :: _, _, hend => cases hend
    | .inr (.inl _) :: _ :: _, _, hend => cases hend
    | .inr (.inr (.inl _)) :: _ :: _, _, hend => cases hend
    | .inr (.inr (.inr _)) :: _ :: _, _, hend => cases hend
    | [.inl _], _, hend => cases hend
    | [.inr (.inl _)], _, hend => cases hend
    | [.inr (.inr (.inr _))], _, hend => cases hend
  | 4, hrk, hend, hro =>
    match stk, hs1, hend with
    | [.inl n], hs1, hend =>
      obtain ⟨h1, h2⟩ := cond_some (show cond (Nat.beq n 0 || Nat.beq n 1) (some ((0, (some (.inl n), (hp, 0))) : xO)) none = some r0 from hend)
      cases h2
      obtain ⟨v, st2, rfl, ra, hs2⟩ := xs2_cons hs1
      cases xs2_nil hs2
      have : i = .ireturn := by rcases hi with rfl | rfl | rfl | rfl <;> first | rfl | cases hro
      subst this
      cases ra
      have hn : narrow .boolean (.int (Int32.ofNat n)) = .int (Int32.ofNat n) := by
        rcases Bool.or_eq_true _ _ ▸ h1 with h | h <;> rw [Nat.eq_of_beq_eq_true h]
        · exact xnar4.1
        · exact xnar4.2
      exact xretc hc hsl (W.zret F.1 F.2.1 hrk hn (fun t ht _ => ⟨some _, rfl, rfl, rfl, by rw [ht]; exact hx⟩) hlo hd)
    | [], _, hend => cases hend
    | .inl _ :: _ :: _, _, hend => cases hend
    | .inr _ :: _ :: _, _, hend => cases hend
    | [.inr _], _, hend => cases hend
  | 5, hrk, hend, hro =>
    match stk, hs1, hend with
    | [.inl n], hs1, hend =>
      obtain ⟨h1, h2⟩ := cond_some (show cond (Nat.blt n 128) (some ((0, (some (.inl n), (hp, 0))) : xO)) none = some r0 from hend)
      cases h2
      obtain ⟨v, st2, rfl, ra, hs2⟩ := xs2_cons hs1
      cases xs2_nil hs2
      have : i = .ireturn := by rcases hi with rfl | rfl | rfl | rfl <;> first | rfl | cases hro
      subst this
      cases ra
      have hn := xnar5 n (Nat.le_of_ble_eq_true h1)
      rcases hrk with hrk | hrk
      · exact xretc hc hsl (W.zret F.1 F.2.1 hrk hn.1 (fun t ht _ => ⟨some _, rfl, rfl, rfl, by rw [ht]; exact hx⟩) hlo hd)
      · exact xretc hc hsl (W.zret F.1 F.2.1 hrk hn.2 (fun t ht _ => ⟨some _, rfl, rfl, rfl, by rw [ht]; exact hx⟩) hlo hd)
    | [], _, hend => cases hend
    | .inl _ :: _ :: _, _, hend => cases hend
    | .inr _ :: _ :: _, _, hend => cases hend
    | [.inr _], _, hend => cases hend
  | _ + 6, hrk, _, _ => exact hrk.elim
end Steps12
