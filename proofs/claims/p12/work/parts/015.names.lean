/-- what the printed rows name and the kit of this claim lacks: an array class over an array class -/
def va_AOA (t : FieldType) (U : State) : Prop := (Cond.arrayOver (.array t)).before #[] U = true
theorem va_AOA.use {t : FieldType} {A : Array Value} {U : State} (h : va_AOA t U) : (Cond.arrayOver (.array t)).before A U = true := h
/-! ===== BEGIN words of one list among another's, by their places ===== -/
theorem goodIn_r {big : List Cond} (ws : List Cond) (ps : List Nat) (hp : ws = ps.filterMap (fun i => big[i]?)) (h : ws.all goodWord = true) : GoodIn big ws := by
  intro w hw
  have h1 := List.all_eq_true.mp h w hw
  rw [hp] at hw
  obtain ⟨i, -, hi⟩ := List.mem_filterMap.mp hw
  have hm : w ∈ big := by first | exact List.mem_of_getElem? hi | exact List.getElem?_mem hi
  exact ⟨hm, good_of_word h1⟩
theorem goodIn_app {big a b : List Cond} (ha : GoodIn big a) (hb : GoodIn big b) : GoodIn big (a ++ b) := fun w h => (List.mem_append.mp h).elim (ha w) (hb w)
theorem goodIn_ca {big a b : List Cond} {c : Cond} (ha : GoodIn big (c :: a)) (hb : GoodIn big b) : GoodIn big (c :: (a ++ b)) := fun w h => (List.mem_cons.mp h).elim (fun e => ha w (List.mem_cons.mpr (Or.inl e))) (fun h => (List.mem_append.mp h).elim (fun h => ha w (List.mem_cons.mpr (Or.inr h))) (hb w))
theorem goodIn_sub {big ws : List Cond} (hm : ∀ w ∈ ws, w ∈ big) (h : ws.all goodWord = true) : GoodIn big ws := fun w hw => ⟨hm w hw, good_of_word (List.all_eq_true.mp h w hw)⟩
/-! ===== END ===== -/

/-! ===== BEGIN new T[n][m]: the outer array a place, the inner ones among the pooled ===== -/
/-- f, but v at every address of l -/
def vr_up {α : Type} (f : Nat → α) (l : List Nat) (v : α) : Nat → α := fun a => if a ∈ l then v else f a
theorem vr_up_in {α : Type} {f : Nat → α} {l : List Nat} {v : α} {a : Nat} (h : a ∈ l) : vr_up f l v a = v := if_pos h
theorem vr_up_ne {α : Type} {f : Nat → α} {l : List Nat} {v : α} {a : Nat} (h : a ∉ l) : vr_up f l v a = f a := if_neg h
theorem vr_rows {L l : List Nat} {f : Nat → va_E} {e : va_E} (h : ∀ a, a ∈ l → a ∉ L) : va_pl L f ++ l.map (fun a => (a, e)) = va_pl (L ++ l) (vr_up f l e) := by
  unfold va_pl
  rw [List.map_append]
  congr 1
  · apply List.map_congr_left
    intro a ha
    rw [vr_up_ne (fun q => h a q ha)]
  · apply List.map_congr_left
    intro a ha
    rw [vr_up_in ha]
theorem vr_lay {X rows : va_W} {x : Nat × va_E} {pl : va_W} {D : va_G} {cl : List vw_C} {H : Heap} (hP : va_P D cl (((X ++ pl) ++ [x]) ++ rows) H) : va_P D cl ((X ++ [x]) ++ (pl ++ rows)) H := by
  rw [List.append_assoc (X ++ pl)] at hP
  have h := va_P.swap hP
  rw [← List.append_assoc X] at h
  have h2 := va_P.swap h
  rw [List.append_assoc (X ++ [x])] at h2
  exact h2
theorem vr_layD {X rows : va_W} {x : Nat × va_E} {pl : va_W} {A : Nat → Prop} (hD : va_D A (((X ++ pl) ++ [x]) ++ rows)) : va_D A ((X ++ [x]) ++ (pl ++ rows)) := by
  rw [List.append_assoc (X ++ pl)] at hD
  have h := va_D.swap hD
  rw [← List.append_assoc X] at h
  have h2 := va_D.swap h
  rw [List.append_assoc (X ++ [x])] at h2
  exact h2
theorem vr_outer (c : ClassId) (N h0 : Nat) : ∀ i : Nat, Jvm.Free.Multi.outerC c N h0 i = arrV c N (fun j => va_rf (if j < i then some (h0 + 1 + j) else none))
  | 0 => by
    show ({ cls := c, slots := Array.replicate N .null, vm := .none } : Cell) = _
    rw [arrV_new]
    refine congrArg (arrV c N) (funext fun j => ?_)
    simp [va_rf]
  | i + 1 => by
    show (Jvm.Free.Multi.outerC c N h0 i).setSlot i (.ref (h0 + 1 + i)) = _
    rw [vr_outer c N h0 i, arrV_store]
    refine congrArg (arrV c N) (funext fun j => ?_)
    by_cases e : j = i
    · subst e
      simp [updV, va_rf]
    · by_cases h : j < i
      · simp [updV, e, h, Nat.lt_succ_of_lt h]
      · simp [updV, e, h, show ¬ j < i + 1 by omega]
section VGM
variable {p : Program} {l : Launch} {e : Env} {R : Room} {s : State} {m : MethodId} {args : Array Value} {below : List Frame} {meth : Method} {c : Code} {H : Heap} {locs : List Loc} {cells slots : Nat} {Q : State → Prop}
variable {cc : ByteArray} {pc : Nat} {ls : Array Slot} {rest : List Value} {D : va_G} {cl : List vw_C} {A : Nat → Prop} {a : Nat} {tys : List (ClassId × FieldType)} {ws : va_W} {H0 : Heap}
theorem va_mna {X : va_W} {L : List Nat} {f : Nat → va_E} {cc : ByteArray} (hexec : p.tables.exec = Jvm.exec) (hb : c.code = cc) {own : String} {index : Nat} {ty : FieldType} {cy : ClassId} (hown : s.vm.findClass own = some m.cls) (hclink : (Cond.classLink own index ("[" ++ (FieldType.array ty).toString)).before args s = true) (hover : va_AOA ty s) (harr : (Cond.arrayClass ty).before args s = true) (hcy : s.vm.findClass (FieldType.array ty).toString = some cy)
    (hK : va_K D cl tys s) (hP : va_P D cl (X ++ va_pl L f) H) (hD : va_D A (X ++ va_pl L f)) (hS : va_S A H0 H locs) (hA : ∀ q, H0.size ≤ q → A q) {n k : Int32} {N' K' : Nat} {z : vp_A} (hn : ¬ n < 0) (hk : ¬ k < 0) (hN : n.toNatClampNeg = N') (hM : k.toNatClampNeg = K')
    (hb1 : N' * 4 ≤ 536870912) (hb2 : K' * componentBytes ty ≤ 536870912) (hb3 : K' ≤ 536870912) (hdf : fits ty (defaultValue ty) = true) (hdd : (defaultValue ty).isDefault = true) (hcells : cells + (1 + N') ≤ R.cells) (hslots : slots + (N' + N' * K') ≤ R.slots) (hz : ∀ c : ClassId, Jvm.Free.Multi.innerC c K' (defaultValue ty) = vp_cell c z) (hdg : decode cc pc = .ok (.multianewarray index 2, 4))
    (kk : ∀ (q : Nat) (r : Nat → Nat) (cA : ClassId) (H1 : Heap), (∀ i j : Nat, i < N' → j < N' → r i = r j → i = j) → (∀ i : Nat, i < N' → r i ∉ L) → va_K D cl (tys ++ [(cA, .array ty)]) s →
      va_P D cl ((X ++ [(q, .inl (cA, N', .inr (.inr (.inr (.inr (fun i => if i < N' then some (r i) else none))))))]) ++ va_pl (L ++ (List.range N').map r) (vr_up f ((List.range N').map r) (.inl (cy, z)))) H1 → va_D A ((X ++ [(q, .inl (cA, N', .inr (.inr (.inr (.inr (fun i => if i < N' then some (r i) else none))))))]) ++ va_pl (L ++ (List.range N').map r) (vr_up f ((List.range N').map r) (.inl (cy, z)))) → va_S A H0 H1 locs →
      W p l e R s m args below meth c H1 locs (cells + 1 + N') (slots + N' + N' * K') Q (F0 m (pc + 4) ls (.ref q :: rest))) : W p l e R s m args below meth c H locs cells slots Q (F0 m pc ls (.int k :: .int n :: rest)) := by
  subst hN
  subst hM
  intro T hT Xs
  obtain ⟨vm₁, cA, comp, -, fA, fC, hO, -, X', step⟩ := Xs.multianewarray2F hexec hown hclink (va_AOA.use hover) harr (g := F0 m pc ls (.int k :: .int n :: rest)) rfl (by rw [hb]; exact hdg) rfl hn hk hb1 hb2 hb3 hdf hdd hcells hslots
  have ec : some cy = some comp := hcy.symm.trans fC
  cases ec
  generalize hF : Jvm.Free.Multi.fill (T.setVm vm₁) cA cy n.toNatClampNeg k.toNatClampNeg (defaultValue ty) n.toNatClampNeg = F at X' step
  have hTh : (T.setVm vm₁).heap = H := hT
  obtain ⟨f1, f2, -, -⟩ := Jvm.Free.Multi.fill_facts (T.setVm vm₁) cA cy n.toNatClampNeg k.toNatClampNeg (defaultValue ty) n.toNatClampNeg
  rw [hF, hTh] at f1 f2
  have hold : ∀ x : Nat, x < H.size → F.heap[x]? = H[x]? := fun x hx => by
    have := Jvm.Free.Multi.fill_old (T.setVm vm₁) cA cy n.toNatClampNeg k.toNatClampNeg (defaultValue ty) (a := x) (by rw [hTh]; exact hx) n.toNatClampNeg
    rw [hF, hTh] at this
    exact this
  have hrow : ∀ j : Nat, j < n.toNatClampNeg → F.heap[H.size + 1 + j]? = some (vp_cell cy z) := fun j hj => by
    have := Jvm.Free.Multi.fill_inner (T.setVm vm₁) cA cy n.toNatClampNeg k.toNatClampNeg (defaultValue ty) n.toNatClampNeg j hj
    rw [hF, hTh, hz] at this
    exact this
  have hout : Jvm.Free.Multi.outerC cA n.toNatClampNeg H.size n.toNatClampNeg = vp_cell cA (n.toNatClampNeg, .inr (.inr (.inr (.inr (fun i => if i < n.toNatClampNeg then some (H.size + 1 + i) else none))))) := by
    rw [vp_cell_q]
    exact vr_outer cA n.toNatClampNeg H.size n.toNatClampNeg
  rw [hout] at f2
  have hlt : ∀ a, a ∈ L → a < H.size := fun a ha => by
    obtain ⟨k9, hk9⟩ := va_pl_get (X := X) (f := f) ha
    exact (hP k9 _ hk9).lt
  have hnl : ∀ i : Nat, i < n.toNatClampNeg → H.size + 1 + i ∉ L := fun i _ h => by
    have := hlt _ h
    omega
  have hnm : ∀ a, a ∈ (List.range n.toNatClampNeg).map (fun i => H.size + 1 + i) → a ∉ L := fun a ha h => by
    obtain ⟨i, -, rfl⟩ := List.mem_map.mp ha
    have := hlt _ h
    omega
  have hP0 : va_P D cl (X ++ va_pl L f) F.heap := hP.kept (fun k9 x hx => hold x.1 ((hP k9 x hx).lt))
  have hP1 : va_P D cl ((X ++ va_pl L f) ++ [(H.size, .inl (cA, n.toNatClampNeg, .inr (.inr (.inr (.inr (fun i => if i < n.toNatClampNeg then some (H.size + 1 + i) else none))))))]) F.heap := hP0.app (fun k9 x hx => by
    have h0 : k9 < 1 := (List.getElem?_eq_some_iff.mp hx).1
    rw [show k9 = 0 by omega] at hx
    cases hx
    exact f2)
  have hP2 : va_P D cl (((X ++ va_pl L f) ++ [(H.size, .inl (cA, n.toNatClampNeg, .inr (.inr (.inr (.inr (fun i => if i < n.toNatClampNeg then some (H.size + 1 + i) else none))))))]) ++ ((List.range n.toNatClampNeg).map (fun i => H.size + 1 + i)).map (fun a => (a, .inl (cy, z)))) F.heap := hP1.app (fun k9 x hx => by
    obtain ⟨a, ha, rfl⟩ := List.mem_map.mp (List.mem_of_getElem? hx)
    obtain ⟨i, hi, rfl⟩ := List.mem_map.mp ha
    exact hrow i (List.mem_range.mp hi))
  have hD2 : va_D A (((X ++ va_pl L f) ++ [(H.size, .inl (cA, n.toNatClampNeg, .inr (.inr (.inr (.inr (fun i => if i < n.toNatClampNeg then some (H.size + 1 + i) else none))))))]) ++ ((List.range n.toNatClampNeg).map (fun i => H.size + 1 + i)).map (fun a => (a, .inl (cy, z)))) := by
    have hD1 := hD.push (e := .inl (cA, n.toNatClampNeg, .inr (.inr (.inr (.inr (fun i => if i < n.toNatClampNeg then some (H.size + 1 + i) else none)))))) hP rfl (hA _ hS.1)
    generalize hW1 : (X ++ va_pl L f) ++ [(H.size, .inl (cA, n.toNatClampNeg, .inr (.inr (.inr (.inr (fun i => if i < n.toNatClampNeg then some (H.size + 1 + i) else none))))))] = W1 at hD1 hP1 ⊢
    have hle : ∀ (k9 : Nat) (x : Nat × va_E), W1[k9]? = some x → x.1 ≤ H.size := fun k9 x hx => by
      rw [← hW1] at hx
      by_cases hl : k9 < (X ++ va_pl L f).length
      · rw [List.getElem?_append_left hl] at hx
        exact Nat.le_of_lt ((hP k9 x hx).lt)
      · rw [List.getElem?_append_right (by omega)] at hx
        have h0 : k9 - (X ++ va_pl L f).length < 1 := (List.getElem?_eq_some_iff.mp hx).1
        rw [show k9 - (X ++ va_pl L f).length = 0 by omega] at hx
        cases hx
        exact Nat.le_refl _
    have hr : ∀ (k9 : Nat) (x : Nat × va_E), (((List.range n.toNatClampNeg).map (fun i => H.size + 1 + i)).map (fun a => ((a, .inl (cy, z)) : Nat × va_E)))[k9]? = some x → x.1 = H.size + 1 + k9 := fun k9 x hx => by
      rw [List.getElem?_map, List.getElem?_map] at hx
      by_cases h9 : k9 < n.toNatClampNeg
      · rw [List.getElem?_range h9] at hx
        cases hx
        rfl
      · have hn0 : (List.range n.toNatClampNeg)[k9]? = none := List.getElem?_eq_none (by rw [List.length_range]; omega)
        rw [hn0] at hx
        cases hx
    refine ⟨fun i j x y hi hj hxy => ?_, fun k9 x hx => ?_⟩
    · by_cases h1 : i < W1.length <;> by_cases h2 : j < W1.length
      · rw [List.getElem?_append_left h1] at hi
        rw [List.getElem?_append_left h2] at hj
        exact hD1.1 i j x y hi hj hxy
      · rw [List.getElem?_append_left h1] at hi
        rw [List.getElem?_append_right (by omega)] at hj
        have := hle _ _ hi
        have := hr _ _ hj
        omega
      · rw [List.getElem?_append_right (by omega)] at hi
        rw [List.getElem?_append_left h2] at hj
        have := hle _ _ hj
        have := hr _ _ hi
        omega
      · rw [List.getElem?_append_right (by omega)] at hi hj
        have := hr _ _ hi
        have := hr _ _ hj
        omega
    · by_cases h1 : k9 < W1.length
      · rw [List.getElem?_append_left h1] at hx
        exact hD1.2 k9 x hx
      · rw [List.getElem?_append_right (by omega)] at hx
        have := hr _ _ hx
        exact hA _ (by have := hS.1; omega)
  have hAr : ArrOfT s cA (.array ty) := fun N9 z9 => by
    obtain ⟨-, k9, hk9, cm9, hkk9⟩ := (hO 0 0 0).1
    exact ⟨(fun q hq => by cases hq), k9, hk9, cm9, hkk9⟩
  have hK2 : va_K D cl (tys ++ [(cA, .array ty)]) s := ⟨hK.1, fun k9 x hx => by
    by_cases hl : k9 < tys.length
    · rw [List.getElem?_append_left hl] at hx
      exact hK.2 k9 x hx
    · rw [List.getElem?_append_right (by omega)] at hx
      have h0 : k9 - tys.length < 1 := (List.getElem?_eq_some_iff.mp hx).1
      rw [show k9 - tys.length = 0 by omega] at hx
      cases hx
      exact ⟨hAr, fA⟩⟩
  obtain ⟨t, a1, b1⟩ := kk H.size (fun i => H.size + 1 + i) cA F.heap (fun i j _ _ h => by have h9 : H.size + 1 + i = H.size + 1 + j := h; omega) hnl hK2 (by rw [← vr_rows hnm]; exact vr_lay hP2) (by rw [← vr_rows hnm]; exact vr_layD hD2) ⟨by rw [f1]; have := hS.1; omega, fun x h1 h2 => (hold x (Nat.lt_of_lt_of_le h1 hS.1)).trans (hS.2.1 x h1 h2), hS.2.2⟩ F rfl X'
  refine ⟨t, step t ?_, b1⟩
  have e : T.heap.size = H.size := by rw [hT]
  rw [e]
  exact a1
end VGM
/-! ===== END ===== -/

/-! ===== BEGIN exceptions that leave a method, and their catching by the caller (launches without stack traces) ===== -/
section VXA
/-! The laws vx_back, vx_callV, vx_callS, vx_callSW, vx_throw0, vx_throwS follow proofs of the library, with one case more: JvmDerived/Free/Laws.lean (Back.of_free), Shelf42/LK1.lean (callV, callS), Shelf/KitTraced.lean (throwNew0V, throwNewS). -/
/-- where a method has thrown q: the class by its name, the cell, what was written, the world -/
def vx_T (XC : String → State → State → Prop) (st : State) (q : Addr) (t : State) (mc ms : Nat) (free : Addr → Prop) : Prop :=
  ∃ (E : String) (ce : Cell) (L : List Loc), XC E st t ∧ t.heap[q]? = some ce ∧ ce.vm = .none ∧ st.vm.findClass E = some ce.cls ∧ st.WarmedH t.vm ∧ st.sameButNew ({ t with vm := st.vm } : State) L mc ms ∧ ∀ z ∈ L, free z.base
def vx_Q (Qc : Array Value → State → Outcome → State → Prop) (XC : String → State → State → Prop) (mc ms : Nat) (free : Addr → Prop) : Array Value → State → Outcome → State → Prop := fun a st o t =>
  (Qc a st o t ∧ ∃ L, FrameEnd st o t L mc ms ∧ ∀ q ∈ L, free q.base) ∨ ∃ q, o = .threw q ∧ vx_T XC st q t mc ms free
/-- a callee that returns or throws -/
def vx_Met (l : Launch) (y : MethodName) (ws : List Cond) (rm : Room) (Pc : Array Value → State → Prop) (Qc : Array Value → State → Outcome → State → Prop) (XC : String → State → State → Prop) (mc ms : Nat) (free : Addr → Prop) : Prop :=
  MetFree l y (headSpec ws rm) Pc (fun _ _ _ _ _ => True) (vx_Q Qc XC mc ms free)
def vx_Post (XC : String → State → State → Prop) (mc ms : Nat) (free : Addr → Prop) : Pt → Array Value → Addr → Pt → Prop := fun A a q B =>
  ∃ (g : JFrame) (mk : MethodId) (t : State) (L : List Loc) (E : String) (ce : Cell), B.U.heap = t.heap ∧ B.U.vm = t.vm ∧ XC E (A.U.calling g mk a) t ∧ t.heap[q]? = some ce ∧ ce.vm = .none ∧ A.U.vm.findClass E = some ce.cls ∧ B.locs = A.locs ++ L ∧ (∀ z ∈ L, free z.base) ∧ B.cells = A.cells + mc ∧ B.slots = A.slots + ms
def vx_Back (l : Launch) (R : Room) (p : Program) (e : Env) (below : List Frame) (s : State) (sargs : Array Value) (y : MethodName) (len W9 : Nat)
    (Pre : Pt → Array Value → Prop) (Post : Pt → Array Value → Option Value → Pt → Prop) (PostX : Pt → Array Value → Addr → Pt → Prop) : Prop :=
  ∀ (m : MethodId) (meth : Method) (c : Code) (A : Pt) (g : JFrame) (ig : Instr) (mk : MethodId) (a : Array Value),
    Stand p l e R s m sargs below meth c A.U A.locs A.cells A.slots → g.method = m → g.locals.size = c.maxLocals → decode c.code g.pc = .ok (ig, len) →
    2 * g.monitorRoom + (g.stack.map fun v => v.category).sum ≤ W9 → A.U.methodNamed? y = some mk → Pre A a →
    (∃ (v : Option Value) (B : Pt), Stand p l e R s m sargs below meth c B.U B.locs B.cells B.slots ∧ Post A a v B ∧
      Steps p.tables e below (doInvoke e (A.U.setTop g) [] mk a).1 (B.U.setTop { g with pc := g.pc + len, stack := v.toList ++ g.stack })) ∨
    (∃ (q : Addr) (B : Pt), Stand p l e R s m sargs below meth c B.U B.locs B.cells B.slots ∧ PostX A a q B ∧
      Steps p.tables e below (doInvoke e (A.U.setTop g) [] mk a).1 ((B.U.setTop g).pushFrame (.throwing q)))
section Payer
variable {l : Launch} {R : Room} {p : Program} {e : Env} {below : List Frame} {s : State} {sargs : Array Value} {y : MethodName} {len W9 : Nat}
theorem vx_back {ws : List Cond} {rm : Room} {Pc : Array Value → State → Prop} {Qc : Array Value → State → Outcome → State → Prop} {XC : String → State → State → Prop} {mc ms : Nat} {free : Addr → Prop} {bytes : ByteArray} {maxL : Nat} {ret : Option FieldType}
    (hM : vx_Met l y ws rm Pc Qc XC mc ms free) (hblind : FrameBlind Pc) (hrc : rm.cells = mc) (hrs : rm.slots = ms)
    (hframes : rm.frames + 1 ≤ R.frames) (hlocals : W9 + (maxL + 11) + rm.locals ≤ R.locals)
    (hws : ∀ w ∈ ws, ∀ a' U, s.WarmedH U.vm → w.before a' U = true) (hcode : Cond.code y bytes maxL ret ∈ ws) (hinit : ∀ a' U, s.WarmedH U.vm → (Cond.initialized y.cls).before a' U = true) :
    vx_Back l R p e below s sargs y len W9 (PreOf R mc ms Pc) (PostOf Qc mc ms free) (vx_Post XC mc ms free) := by
  intro m meth c A g ig mk a X hg hsize hdg hW hn hp
  have h1 : (headSpec ws rm).pre.before a A.U = true := atoms_intro fun w hw => hws w hw _ _ X.warmed
  have h2 : (Cond.code y bytes maxL ret).before a A.U = true := hws _ hcode _ _ X.warmed
  have h3 : (Cond.initialized y.cls).before a A.U = true := hinit _ _ X.warmed
  have h4 : A.cells + (headSpec ws rm).room.cells ≤ R.cells := by rw [show (headSpec ws rm).room.cells = mc from hrc]; exact hp.1
  have h5 : A.slots + (headSpec ws rm).room.slots ≤ R.slots := by rw [show (headSpec ws rm).room.slots = ms from hrs]; exact hp.2.1
  have hPc : Pc a (A.U.calling g mk a) := hblind _ _ _ _ hp.2.2
  obtain ⟨U, Ls, c0, s0⟩ := A
  dsimp only [Pt.U, Pt.locs, Pt.cells, Pt.slots] at h1 h2 h3 h4 h5 X hn hPc ⊢
  obtain ⟨methY, cY, hmY, hcY, -, hlY, -, -, -, -⟩ := Cond.code_spec hn h2
  obtain ⟨kY, hkY, -⟩ := className_of_methodNamed hn
  have hinitY : kY.init = .initialized := Cond.initialized_spec (findClass_of_methodNamed hn) hkY h3
  have h : At U g.method c below := by rw [hg]; exact X.here
  have hlocals9 : W9 + (maxL + 11) + (headSpec ws rm).room.locals ≤ R.locals := hlocals
  have happ : (headSpec ws rm).appliesLoose y e.platform (U.calling g mk a) = true :=
    Spec.appliesLoose_calling (g := g) h hdg hn hkY hinitY
      (X.room_calling (g := g) (R' := (headSpec ws rm).room) hsize hmY hcY hframes (by rw [hlY]; omega) h4 h5) h1
  obtain ⟨mid, hmid⟩ := h.above
  have hfr : (U.setTop g).frames = (.java g :: mid) ++ below := by rw [State.frames_setTop' g h.top, hmid]; rfl
  obtain ⟨o, s₂, hsteps, -, hend, hq⟩ := Steps.callFree hM p X.admits X.cas X.clock (acts := []) hfr happ hPc trivial
  have hq' : vx_Q Qc XC mc ms free a (U.calling g mk a) o s₂ := hq
  rw [State.frames_setTop' g h.top] at hend
  obtain ⟨g₀, hg0⟩ := Option.isSome_iff_exists.mp h.top
  obtain ⟨r, hr⟩ := State.topJava?_eq_some.mp hg0
  have hr' : (({ U with heap := s₂.heap, slotsUsed := s₂.slotsUsed } : State).setVm s₂.vm).frames = .java g₀ :: r := hr
  rcases hq' with ⟨hqc, L, hfe, hL⟩ | ⟨q, rfl, E, ce, L, hx, hce, hcv, hcl, hW₂, hsm, hL⟩
  · obtain ⟨⟨v, rfl⟩, hW₂, e2, q2, q3, q4, q5, q6⟩ := id hfe
    have e3 : s₂ = ({ (U.calling g mk a).setFrames s₂.frames with heap := s₂.heap, slotsUsed := s₂.slotsUsed } : State).setVm s₂.vm := by
      have : s₂ = ({ s₂ with vm := (U.calling g mk a).vm } : State).setVm s₂.vm := rfl
      rw [e2] at this
      exact this
    obtain ⟨c₂, i₂, len₂, hc₂, hd₂, hf₂⟩ := hend
    have hW' : U.WarmedH s₂.vm := hW₂
    have hcc : c₂ = c := by
      have h1 : s₂.code? g.method = U.code? g.method := by
        rw [State.code?_eq, State.code?_eq, hW'.alike.method?]
      exact Option.some.inj (hc₂.symm.trans (h1.trans h.code))
    subst hcc
    have hlen : len₂ = len := by rw [hdg] at hd₂; cases hd₂; rfl
    subst hlen
    have hs₂ : s₂ = (({ U with heap := s₂.heap, slotsUsed := s₂.slotsUsed } : State).setVm s₂.vm).setTop { g with pc := g.pc + len₂, stack := v.toList ++ g.stack } := by
      refine e3.trans ?_
      rw [hf₂, State.calling_eq h.top, State.setFrames_setFrames, State.setTop_of_frames _ hr', hr]
      rfl
    have hsame : U.sameButNew ({ U with heap := s₂.heap, slotsUsed := s₂.slotsUsed } : State) L mc ms := by
      refine ⟨?_, q2, q3, q4, q5, q6⟩
      obtain ⟨t, ht, -⟩ := State.frames_cons hr
      show ({ U with heap := s₂.heap, slotsUsed := s₂.slotsUsed } : State) = { U.setFrames U.frames with heap := s₂.heap, slotsUsed := s₂.slotsUsed }
      rw [State.setFrames_self ht]
    subst hg
    refine Or.inl ⟨v, ⟨(({ U with heap := s₂.heap, slotsUsed := s₂.slotsUsed } : State).setVm s₂.vm), Ls ++ L, c0 + mc, s0 + ms⟩,
      ⟨X.admits, X.cas, X.clock, X.frames, X.room, X.hears, X.method, X.code, (X.here.setHeapUsed s₂.heap s₂.slotsUsed).setVm hW'.alike, X.tail, State.WarmedH.trans X.warmed hW', X.limits, X.bytes, X.same.trans (hsame.setVm s.vm)⟩,
      ⟨g, mk, s₂, L, rfl, rfl, hqc, rfl, hL, rfl, rfl⟩, ?_⟩
    show Steps p.tables e below _ ((({ U with heap := s₂.heap, slotsUsed := s₂.slotsUsed } : State).setVm s₂.vm).setTop { g with pc := g.pc + len₂, stack := v.toList ++ g.stack })
    rw [← hs₂]
    exact hsteps
  · obtain ⟨e2, q2, q3, q4, q5, q6⟩ := id hsm
    have e3 : s₂ = ({ (U.calling g mk a).setFrames s₂.frames with heap := s₂.heap, slotsUsed := s₂.slotsUsed } : State).setVm s₂.vm := by
      have : s₂ = ({ s₂ with vm := (U.calling g mk a).vm } : State).setVm s₂.vm := rfl
      rw [e2] at this
      exact this
    have hf₂ : s₂.frames = .throwing q :: .java g :: U.frames.tail := hend
    have hW' : U.WarmedH s₂.vm := hW₂
    have hs₂ : s₂ = ((({ U with heap := s₂.heap, slotsUsed := s₂.slotsUsed } : State).setVm s₂.vm).setTop g).pushFrame (.throwing q) := by
      refine e3.trans ?_
      rw [hf₂, State.calling_eq h.top, State.setFrames_setFrames, State.pushFrame, State.frames_setTop _ hr', State.setTop_of_frames _ hr', State.setFrames_setFrames, hr]
      rfl
    have hsame : U.sameButNew ({ U with heap := s₂.heap, slotsUsed := s₂.slotsUsed } : State) L mc ms := by
      refine ⟨?_, q2, q3, q4, q5, q6⟩
      obtain ⟨t, ht, -⟩ := State.frames_cons hr
      show ({ U with heap := s₂.heap, slotsUsed := s₂.slotsUsed } : State) = { U.setFrames U.frames with heap := s₂.heap, slotsUsed := s₂.slotsUsed }
      rw [State.setFrames_self ht]
    subst hg
    refine Or.inr ⟨q, ⟨(({ U with heap := s₂.heap, slotsUsed := s₂.slotsUsed } : State).setVm s₂.vm), Ls ++ L, c0 + mc, s0 + ms⟩,
      ⟨X.admits, X.cas, X.clock, X.frames, X.room, X.hears, X.method, X.code, (X.here.setHeapUsed s₂.heap s₂.slotsUsed).setVm hW'.alike, X.tail, State.WarmedH.trans X.warmed hW', X.limits, X.bytes, X.same.trans (hsame.setVm s.vm)⟩,
      ⟨g, mk, s₂, L, E, ce, rfl, rfl, hx, hce, hcv, hcl, rfl, hL, rfl, rfl⟩, ?_⟩
    show Steps p.tables e below _ (((({ U with heap := s₂.heap, slotsUsed := s₂.slotsUsed } : State).setVm s₂.vm).setTop g).pushFrame (.throwing q))
    rw [← hs₂]
    exact hsteps
end Payer
section Calls
variable {p : Program} {l : Launch} {e : Env} {R : Room} {s : State} {m : MethodId} {args : Array Value} {below : List Frame} {meth : Method} {c : Code} {T : State} {locs : List Loc} {cells slots : Nat}
theorem vx_callV (X : Stand p l e R s m args below meth c T locs cells slots) (hexec : p.tables.exec = Jvm.exec) {own C : String} {index : Nat} {y : MethodName} {bytes : ByteArray} {maxL : Nat} {ret : Option FieldType}
    (hown : s.vm.findClass own = some m.cls) (hlink : (Cond.methodLink own index y).before args s = true) (hinst : (Cond.instanceMethod y).before args s = true) (hsel : (Cond.selects C y y).before args s = true)
    (hcode : (Cond.code y bytes maxL ret).before args s = true) (hy : y.cls ≠ "java/lang/invoke/MethodHandle" ∧ y.cls ≠ "java/lang/invoke/VarHandle")
    {W9 : Nat} {Pre : Pt → Array Value → Prop} {Post : Pt → Array Value → Option Value → Pt → Prop} {PostX : Pt → Array Value → Addr → Pt → Prop} (hK : vx_Back l R p e below s args y 3 W9 Pre Post PostX)
    {b : Addr} {cellB : Cell} (hcell : T.heap[b]? = some cellB) (hobj : cellB.vm.isStatics = false) (hcls : s.vm.findClass C = some cellB.cls)
    {g : JFrame} (hg : g.method = m) (hsize : g.locals.size = c.maxLocals) {argsL rest : List Value} (hlen : ∀ sig, parseMethodDescriptor y.desc = some sig → argsL.length = sig.parameters.length)
    (hstack : g.stack = argsL.reverse ++ .ref b :: rest) (hW : 2 * g.monitorRoom + (rest.map fun v => v.category).sum ≤ W9) (hdg : decode c.code g.pc = .ok (.invokevirtual index, 3))
    (hpre : ∀ vm₁, s.WarmedH vm₁ → Pre ⟨T.setVm vm₁, locs, cells, slots⟩ (Value.ref b :: argsL).toArray) :
    (∃ (v : Option Value) (vm₁ : Vm) (B : Pt), s.WarmedH vm₁ ∧ Stand p l e R s m args below meth c B.U B.locs B.cells B.slots ∧ Post ⟨T.setVm vm₁, locs, cells, slots⟩ (Value.ref b :: argsL).toArray v B ∧
      ∀ target, Steps p.tables e below (B.U.setTop { g with pc := g.pc + 3, stack := v.toList ++ rest }) target → Steps p.tables e below (T.setTop g) target) ∨
    (∃ (q : Addr) (vm₁ : Vm) (B : Pt), s.WarmedH vm₁ ∧ Stand p l e R s m args below meth c B.U B.locs B.cells B.slots ∧ PostX ⟨T.setVm vm₁, locs, cells, slots⟩ (Value.ref b :: argsL).toArray q B ∧
      Steps p.tables e below (T.setTop g) ((B.U.setTop { g with stack := rest }).pushFrame (.throwing q))) := by
  obtain ⟨mk, methM, hnamed, hmethM, hstM, habM⟩ := Cond.instanceMethod_spec hinst
  obtain ⟨methM', cM, hmethM', -, -, -, -, -, -, hsigM⟩ := Cond.code_spec hnamed hcode
  cases hmethM.symm.trans hmethM'
  obtain ⟨c2, r2, m2, q1, q2, q3, q4, kP, hkP, hkPi⟩ := Cond.selects_spec hsel
  cases hcls.symm.trans q1
  cases (State.methodFound?_of_named hnamed hy).symm.trans q2
  cases hnamed.symm.trans q3
  have hselP : selectMethod e.platform s.vm cellB.cls mk = .method mk := by rw [Launch.admits_selectMethod X.admits]; exact q4
  obtain ⟨vm₁, X₁, hstep₁⟩ := X.invokevirtual hexec hown hlink hnamed hmethM hstM hkP hkPi hy (a := b) (cell := cellB) hcell
    (fun z h => by rw [h] at hobj; cases hobj) hselP hmethM habM hkP hkPi (g := g) hg (argsL := argsL) (rest := rest) (hlen _ hsigM) hstack hdg
  rcases hK m meth c ⟨T.setVm vm₁, locs, cells, slots⟩ { g with stack := rest } (.invokevirtual index) mk (Value.ref b :: argsL).toArray X₁ hg hsize hdg hW (X₁.named hnamed) (hpre vm₁ X₁.warmed) with ⟨v, B, X', hpost, hsteps⟩ | ⟨q, B, X', hpost, hsteps⟩
  · exact Or.inl ⟨v, vm₁, B, X₁.warmed, X', hpost, fun target h => hstep₁ _ fun acts => by rw [doInvoke_state]; exact hsteps.trans h⟩
  · exact Or.inr ⟨q, vm₁, B, X₁.warmed, X', hpost, hstep₁ _ fun acts => by rw [doInvoke_state]; exact hsteps⟩
theorem vx_callS (X : Stand p l e R s m args below meth c T locs cells slots) (hexec : p.tables.exec = Jvm.exec) {own : String} {index : Nat} {y : MethodName} {bytes : ByteArray} {maxL : Nat} {ret : Option FieldType}
    (hown : s.vm.findClass own = some m.cls) (hlink : (Cond.methodLink own index y).before args s = true) (hstat : (Cond.static y).before args s = true) (hinit : (Cond.initialized y.cls).before args s = true)
    (hcode : (Cond.code y bytes maxL ret).before args s = true) (hy : y.cls ≠ "java/lang/invoke/MethodHandle" ∧ y.cls ≠ "java/lang/invoke/VarHandle")
    {W9 : Nat} {Pre : Pt → Array Value → Prop} {Post : Pt → Array Value → Option Value → Pt → Prop} {PostX : Pt → Array Value → Addr → Pt → Prop} (hK : vx_Back l R p e below s args y 3 W9 Pre Post PostX)
    {g : JFrame} (hg : g.method = m) (hsize : g.locals.size = c.maxLocals) {argsL rest : List Value} (hlen : ∀ sig, parseMethodDescriptor y.desc = some sig → argsL.length = sig.parameters.length)
    (hstack : g.stack = argsL.reverse ++ rest) (hW : 2 * g.monitorRoom + (rest.map fun v => v.category).sum ≤ W9) (hdg : decode c.code g.pc = .ok (.invokestatic index, 3))
    (hpre : ∀ vm₁, s.WarmedH vm₁ → Pre ⟨T.setVm vm₁, locs, cells, slots⟩ argsL.toArray) :
    (∃ (v : Option Value) (vm₁ : Vm) (B : Pt), s.WarmedH vm₁ ∧ Stand p l e R s m args below meth c B.U B.locs B.cells B.slots ∧ Post ⟨T.setVm vm₁, locs, cells, slots⟩ argsL.toArray v B ∧
      ∀ target, Steps p.tables e below (B.U.setTop { g with pc := g.pc + 3, stack := v.toList ++ rest }) target → Steps p.tables e below (T.setTop g) target) ∨
    (∃ (q : Addr) (vm₁ : Vm) (B : Pt), s.WarmedH vm₁ ∧ Stand p l e R s m args below meth c B.U B.locs B.cells B.slots ∧ PostX ⟨T.setVm vm₁, locs, cells, slots⟩ argsL.toArray q B ∧
      Steps p.tables e below (T.setTop g) ((B.U.setTop { g with stack := rest }).pushFrame (.throwing q))) := by
  obtain ⟨mk, hnamed⟩ := Cond.code_named hcode
  obtain ⟨methM, cM, hmethM, -, -, -, -, -, -, hsigM⟩ := Cond.code_spec hnamed hcode
  have hstatic : methM.isStatic = true := Cond.static_spec hnamed hmethM hstat
  obtain ⟨kP, hkP, -⟩ := className_of_methodNamed hnamed
  have hinitP : kP.init = .initialized := Cond.initialized_spec (findClass_of_methodNamed hnamed) hkP hinit
  obtain ⟨vm₁, X₁, hstep₁⟩ := X.invokestatic hexec hown hlink hnamed hmethM hstatic hkP hinitP hy (g := g) hg (argsL := argsL) (rest := rest) (hlen _ hsigM) hstack hdg
  rcases hK m meth c ⟨T.setVm vm₁, locs, cells, slots⟩ { g with stack := rest } (.invokestatic index) mk argsL.toArray X₁ hg hsize hdg hW (X₁.named hnamed) (hpre vm₁ X₁.warmed) with ⟨v, B, X', hpost, hsteps⟩ | ⟨q, B, X', hpost, hsteps⟩
  · exact Or.inl ⟨v, vm₁, B, X₁.warmed, X', hpost, fun target h => hstep₁ _ fun acts => by rw [doInvoke_state]; exact hsteps.trans h⟩
  · exact Or.inr ⟨q, vm₁, B, X₁.warmed, X', hpost, hstep₁ _ fun acts => by rw [doInvoke_state]; exact hsteps⟩
end Calls
theorem vx_cls {s : State} {T : State} {vm₁ : Vm} {E : String} {k : ClassId} (hW : s.WarmedH vm₁) (h : (T.setVm vm₁).vm.findClass E = some k) : s.vm.findClass E = some k := by
  have h1 : vm₁.findClass E = some k := h
  rw [hW.alike.findClass] at h1
  exact h1
/-- the method's frame g, with q thrown over it -/
def vx_W (p : Program) (l : Launch) (e : Env) (R : Room) (s : State) (m : MethodId) (args : Array Value) (below : List Frame) (meth : Method) (c : Code) (H : Heap) (locs : List Loc) (cells slots : Nat) (Q : State → Prop) (g : JFrame) (q : Addr) : Prop :=
  ∀ T : State, T.heap = H → Stand p l e R s m args below meth c T locs cells slots → ∃ t, Steps p.tables e below ((T.setTop g).pushFrame (.throwing q)) t ∧ Q t
def vx_Run (p : Program) (l : Launch) (e : Env) (R : Room) (s : State) (m : MethodId) (args : Array Value) (below : List Frame) (meth : Method) (c : Code) (H : Heap) (locs : List Loc) (cells slots mc ms : Nat) (g : JFrame) (rest : List Value) (Qa : State → Outcome → State → Prop) (XC : String → State → State → Prop) (free : Addr → Prop) : Prop :=
  ∀ T : State, T.heap = H → Stand p l e R s m args below meth c T locs cells slots →
    (∃ (v : Option Value) (st₀ t T' : State) (L : List Loc), st₀.heap = H ∧ Stand p l e R s m args below meth c T' (locs ++ L) (cells + mc) (slots + ms) ∧ (∀ q ∈ L, free q.base) ∧ T'.heap = t.heap ∧ T'.vm = t.vm ∧ Qa st₀ (.returned v) t ∧
      Goes p e below T g T' { g with pc := g.pc + 3, stack := v.toList ++ rest }) ∨
    (∃ (q : Addr) (st₀ t T' : State) (L : List Loc) (E : String) (ce : Cell), st₀.heap = H ∧ Stand p l e R s m args below meth c T' (locs ++ L) (cells + mc) (slots + ms) ∧ (∀ z ∈ L, free z.base) ∧ T'.heap = t.heap ∧ T'.vm = t.vm ∧ XC E st₀ t ∧ t.heap[q]? = some ce ∧ ce.vm = .none ∧ s.vm.findClass E = some ce.cls ∧
      Steps p.tables e below (T.setTop g) ((T'.setTop { g with stack := rest }).pushFrame (.throwing q)))
def vx_X {S : Type} (px : S → Prop) (B : String → S → State → Prop) (A : Nat → Prop) : String → State → State → Prop := fun E st t => ∃ u : S, px u ∧ B E u t ∧ va_F A st t
section Runs
variable {p : Program} {l : Launch} {e : Env} {R : Room} {s : State} {m : MethodId} {args : Array Value} {below : List Frame} {meth : Method} {c : Code} {H : Heap} {locs : List Loc} {cells slots : Nat}
variable {y : MethodName} {bytes cc : ByteArray} {maxL nL mc ms n index : Nat} {ret : Option FieldType} {ws : List Cond} {rm : Room} {Pc : Array Value → State → Prop} {Qc : Array Value → State → Outcome → State → Prop} {XC : String → State → State → Prop} {free : Addr → Prop} {Ts : List Cond} {own C : String} {b : Addr} {As rest : List Value} {g : JFrame}
theorem vx_callBack (cb : CallB R s args own index y bytes maxL ret ws rm mc ms n) (hM : vx_Met l y ws rm Pc Qc XC mc ms free) (hbl : FrameBlind Pc) : vx_Back l R p e below s args y 3 8 (PreOf R mc ms Pc) (PostOf Qc mc ms free) (vx_Post XC mc ms free) := by
  obtain ⟨hrc, hrs, hfr, hlo, hws, hcw, -, hini, -⟩ := cb
  exact vx_back (bytes := bytes) (maxL := maxL) (ret := ret) hM hbl hrc hrs hfr hlo hws hcw (fun a' U hW => word_at hW (Or.inl (by first | rfl | simp [Cond.onTables, Cond.keeps, Cond.steady])) hini)
theorem vx_runV (S : CallFix p m c cc nL s args Ts own) (hM : vx_Met l y ws rm Pc Qc XC mc ms free) (cw : CallW R s args own C index y bytes maxL ret ws rm mc ms n) (hp : PreV s H C b Pc As)
    (hg : g.method = m) (hn : As.length = n) (hsize : g.locals.size = nL) (hstack : g.stack = As.reverse ++ .ref b :: rest) (hW : 2 * g.monitorRoom + (rest.map fun v => v.category).sum ≤ 8) (hdg : decode cc g.pc = .ok (.invokevirtual index, 3)) (hf : cells + mc ≤ R.cells ∧ slots + ms ≤ R.slots) :
    vx_Run p l e R s m args below meth c H locs cells slots mc ms g rest (Qc (Value.ref b :: As).toArray) XC free := by
  have hK : vx_Back l R p e below s args y 3 8 (PreOf R mc ms Pc) (PostOf Qc mc ms free) (vx_Post XC mc ms free) := vx_callBack cw.1 hM hp.1
  obtain ⟨⟨-, -, -, -, -, -, hcode, -, hy, hlen, hl⟩, hin, hse⟩ := cw
  obtain ⟨hx, hb, hml, ho, -⟩ := S
  obtain ⟨-, ⟨cellB, hcB, hoB, hclB⟩, hPc⟩ := hp
  intro T hT X
  rcases vx_callV X hx (C := C) (bytes := bytes) (maxL := maxL) (ret := ret) ho hl hin hse hcode hy hK (by rw [hT]; exact hcB) hoB hclB hg (hsize.trans hml.symm) (argsL := As) (rest := rest) (fun sig h => hn.trans (hlen sig h)) hstack hW (by rw [hb]; exact hdg)
    (fun vm₁ hW₁ => ⟨hf.1, hf.2, hPc (T.setVm vm₁) hT hW₁⟩) with ⟨v, vm₁, ⟨U', l2, c2, s2⟩, hW₁, X', ⟨g', mk, t, L, e1, e2, hq, h1, hL, h2, h3⟩, st⟩ | ⟨q, vm₁, ⟨U', l2, c2, s2⟩, hW₁, X', ⟨g', mk, t, L, E, ce, e1, e2, hq, hce, hcv, hcl, h1, hL, h2, h3⟩, st⟩
  · dsimp only [Pt.U, Pt.locs, Pt.cells, Pt.slots] at X' e1 e2 h1 h2 h3 st
    subst h1; subst h2; subst h3
    exact Or.inl ⟨v, (T.setVm vm₁).calling g' mk (Value.ref b :: As).toArray, t, U', L, hT, X', hL, e1, e2, hq, st⟩
  · dsimp only [Pt.U, Pt.locs, Pt.cells, Pt.slots] at X' e1 e2 h1 h2 h3 st hcl
    subst h1; subst h2; subst h3
    exact Or.inr ⟨q, (T.setVm vm₁).calling g' mk (Value.ref b :: As).toArray, t, U', L, E, ce, hT, X', hL, e1, e2, hq, hce, hcv, vx_cls hW₁ hcl, st⟩
theorem vx_runS (S : CallFix p m c cc nL s args Ts own) (hM : vx_Met l y ws rm Pc Qc XC mc ms free) (cw : CallB R s args own index y bytes maxL ret ws rm mc ms n ∧ (Cond.static y).before args s = true) (hp : PreS s H Pc As)
    (hg : g.method = m) (hn : As.length = n) (hsize : g.locals.size = nL) (hstack : g.stack = As.reverse ++ rest) (hW : 2 * g.monitorRoom + (rest.map fun v => v.category).sum ≤ 8) (hdg : decode cc g.pc = .ok (.invokestatic index, 3)) (hf : cells + mc ≤ R.cells ∧ slots + ms ≤ R.slots) :
    vx_Run p l e R s m args below meth c H locs cells slots mc ms g rest (Qc As.toArray) XC free := by
  have hK : vx_Back l R p e below s args y 3 8 (PreOf R mc ms Pc) (PostOf Qc mc ms free) (vx_Post XC mc ms free) := vx_callBack cw.1 hM hp.1
  obtain ⟨⟨-, -, -, -, -, -, hcode, hini, hy, hlen, hl⟩, hstt⟩ := cw
  obtain ⟨hx, hb, hml, ho, -⟩ := S
  intro T hT X
  rcases vx_callS X hx (bytes := bytes) (maxL := maxL) (ret := ret) ho hl hstt hini hcode hy hK hg (hsize.trans hml.symm) (argsL := As) (rest := rest) (fun sig h => hn.trans (hlen sig h)) hstack hW (by rw [hb]; exact hdg)
    (fun vm₁ hW₁ => ⟨hf.1, hf.2, hp.2 (T.setVm vm₁) hT hW₁⟩) with ⟨v, vm₁, ⟨U', l2, c2, s2⟩, hW₁, X', ⟨g', mk, t, L, e1, e2, hq, h1, hL, h2, h3⟩, st⟩ | ⟨q, vm₁, ⟨U', l2, c2, s2⟩, hW₁, X', ⟨g', mk, t, L, E, ce, e1, e2, hq, hce, hcv, hcl, h1, hL, h2, h3⟩, st⟩
  · dsimp only [Pt.U, Pt.locs, Pt.cells, Pt.slots] at X' e1 e2 h1 h2 h3 st
    subst h1; subst h2; subst h3
    exact Or.inl ⟨v, (T.setVm vm₁).calling g' mk As.toArray, t, U', L, hT, X', hL, e1, e2, hq, st⟩
  · dsimp only [Pt.U, Pt.locs, Pt.cells, Pt.slots] at X' e1 e2 h1 h2 h3 st hcl
    subst h1; subst h2; subst h3
    exact Or.inr ⟨q, (T.setVm vm₁).calling g' mk As.toArray, t, U', L, E, ce, hT, X', hL, e1, e2, hq, hce, hcv, vx_cls hW₁ hcl, st⟩
end Runs
section Rows
variable {p : Program} {l : Launch} {e : Env} {R : Room} {s : State} {m : MethodId} {args : Array Value} {below : List Frame} {meth : Method} {c : Code} {H : Heap} {locs : List Loc} {cells slots : Nat} {Q : State → Prop}
variable {mc ms : Nat} {free : Addr → Prop} {A0 A1 : Nat → Prop} {H0 : Heap} {a : Array Value} {pc : Nat} {ls : Array Slot} {st0 rest : List Value}
theorem vx_keep {st₀ t T' : State} {L : List Loc} (h0 : st₀.heap = H) (e1 : T'.heap = t.heap) (hS : va_S A0 H0 H locs) (hA : ∀ q, q < H.size → A1 q → A0 q) (hf : ∀ q, free q → A0 q) (hL : ∀ q ∈ L, free q.base) (hF : va_F A1 st₀ t) :
    H.size ≤ T'.heap.size ∧ (∀ q : Nat, q < H.size → ¬ A1 q → T'.heap[q]? = H[q]?) ∧ va_S A0 H0 T'.heap (locs ++ L) := by
  obtain ⟨hz, hk⟩ := hF
  rw [h0] at hz hk
  exact ⟨by rw [e1]; exact hz, fun q h1 h2 => by rw [e1]; exact hk q h1 h2,
    ⟨Nat.le_trans hS.1 (by rw [e1]; exact hz), fun q h1 h2 => by rw [e1, hk q (Nat.lt_of_lt_of_le h1 hS.1) (fun z => h2 (hA q (Nat.lt_of_lt_of_le h1 hS.1) z))]; exact hS.2.1 q h1 h2, fun q hq => by
      rcases List.mem_append.mp hq with h | h
      · exact hS.2.2 q h
      · exact hf _ (hL q h)⟩⟩
theorem vx_calli {S SX : Type} {post : Int32 → S → Prop} {px : SX → Prop} {B : S → State → Prop} {BX : String → SX → State → Prop} {AX : Nat → Prop} (hr : vx_Run p l e R s m args below meth c H locs cells slots mc ms (F0 m pc ls st0) rest (va_Qi post B A1 a) (vx_X px BX AX) free) (hS : va_S A0 H0 H locs) (hA : ∀ q, q < H.size → A1 q → A0 q) (hf : ∀ q, free q → A0 q) (hAX : ∀ q, q < H.size → AX q → A0 q)
    (kx : ∀ (E : String) (ce : Cell) (q9 : Addr) (u : SX) (t : State) (H1 : Heap) (locs1 : List Loc), t.heap = H1 → s.vm.Alike t.vm → px u → BX E u t → H.size ≤ H1.size → (∀ q : Nat, q < H.size → ¬ AX q → H1[q]? = H[q]?) → va_S A0 H0 H1 locs1 → H1[q9]? = some ce → ce.vm = .none → s.vm.findClass E = some ce.cls → vx_W p l e R s m args below meth c H1 locs1 (cells + mc) (slots + ms) Q (F0 m pc ls rest) q9)
    (kk : ∀ (r : Int32) (u : S) (t : State) (H1 : Heap) (locs1 : List Loc), t.heap = H1 → s.vm.Alike t.vm → post r u → B u t → H.size ≤ H1.size → (∀ q : Nat, q < H.size → ¬ A1 q → H1[q]? = H[q]?) → va_S A0 H0 H1 locs1 → W p l e R s m args below meth c H1 locs1 (cells + mc) (slots + ms) Q (F0 m (pc + 3) ls (.int r :: rest))) : W p l e R s m args below meth c H locs cells slots Q (F0 m pc ls st0) := by
  intro T hT X
  rcases hr T hT X with ⟨v, st₀, t, T', L, h0, X', hL, e1, e2, ⟨⟨r, u, hv, hp, hb⟩, hF⟩, st⟩ | ⟨q, st₀, t, T', L, E, ce, h0, X', hL, e1, e2, ⟨u, hp, hb, hF⟩, hce, hcv, hcl, st⟩
  · cases hv
    obtain ⟨k1, k2, k3⟩ := vx_keep h0 e1 hS hA hf hL hF
    obtain ⟨t2, a1, b1⟩ := kk r u t T'.heap (locs ++ L) e1.symm (by rw [← e2]; exact X'.warmed.alike) hp hb k1 k2 k3 T' rfl X'
    exact ⟨t2, st t2 a1, b1⟩
  · obtain ⟨k1, k2, k3⟩ := vx_keep h0 e1 hS hAX hf hL hF
    obtain ⟨t2, a1, b1⟩ := kx E ce q u t T'.heap (locs ++ L) e1.symm (by rw [← e2]; exact X'.warmed.alike) hp hb k1 k2 k3 (by rw [e1]; exact hce) hcv hcl T' rfl X'
    exact ⟨t2, st.trans a1, b1⟩
theorem vx_calll {S SX : Type} {post : Int64 → S → Prop} {px : SX → Prop} {B : S → State → Prop} {BX : String → SX → State → Prop} {AX : Nat → Prop} (hr : vx_Run p l e R s m args below meth c H locs cells slots mc ms (F0 m pc ls st0) rest (va_Ql post B A1 a) (vx_X px BX AX) free) (hS : va_S A0 H0 H locs) (hA : ∀ q, q < H.size → A1 q → A0 q) (hf : ∀ q, free q → A0 q) (hAX : ∀ q, q < H.size → AX q → A0 q)
    (kx : ∀ (E : String) (ce : Cell) (q9 : Addr) (u : SX) (t : State) (H1 : Heap) (locs1 : List Loc), t.heap = H1 → s.vm.Alike t.vm → px u → BX E u t → H.size ≤ H1.size → (∀ q : Nat, q < H.size → ¬ AX q → H1[q]? = H[q]?) → va_S A0 H0 H1 locs1 → H1[q9]? = some ce → ce.vm = .none → s.vm.findClass E = some ce.cls → vx_W p l e R s m args below meth c H1 locs1 (cells + mc) (slots + ms) Q (F0 m pc ls rest) q9)
    (kk : ∀ (r : Int64) (u : S) (t : State) (H1 : Heap) (locs1 : List Loc), t.heap = H1 → s.vm.Alike t.vm → post r u → B u t → H.size ≤ H1.size → (∀ q : Nat, q < H.size → ¬ A1 q → H1[q]? = H[q]?) → va_S A0 H0 H1 locs1 → W p l e R s m args below meth c H1 locs1 (cells + mc) (slots + ms) Q (F0 m (pc + 3) ls (.long r :: rest))) : W p l e R s m args below meth c H locs cells slots Q (F0 m pc ls st0) := by
  intro T hT X
  rcases hr T hT X with ⟨v, st₀, t, T', L, h0, X', hL, e1, e2, ⟨⟨r, u, hv, hp, hb⟩, hF⟩, st⟩ | ⟨q, st₀, t, T', L, E, ce, h0, X', hL, e1, e2, ⟨u, hp, hb, hF⟩, hce, hcv, hcl, st⟩
  · cases hv
    obtain ⟨k1, k2, k3⟩ := vx_keep h0 e1 hS hA hf hL hF
    obtain ⟨t2, a1, b1⟩ := kk r u t T'.heap (locs ++ L) e1.symm (by rw [← e2]; exact X'.warmed.alike) hp hb k1 k2 k3 T' rfl X'
    exact ⟨t2, st t2 a1, b1⟩
  · obtain ⟨k1, k2, k3⟩ := vx_keep h0 e1 hS hAX hf hL hF
    obtain ⟨t2, a1, b1⟩ := kx E ce q u t T'.heap (locs ++ L) e1.symm (by rw [← e2]; exact X'.warmed.alike) hp hb k1 k2 k3 (by rw [e1]; exact hce) hcv hcl T' rfl X'
    exact ⟨t2, st.trans a1, b1⟩
theorem vx_callf {S SX : Type} {post : UInt32 → S → Prop} {px : SX → Prop} {B : S → State → Prop} {BX : String → SX → State → Prop} {AX : Nat → Prop} (hr : vx_Run p l e R s m args below meth c H locs cells slots mc ms (F0 m pc ls st0) rest (va_Qf post B A1 a) (vx_X px BX AX) free) (hS : va_S A0 H0 H locs) (hA : ∀ q, q < H.size → A1 q → A0 q) (hf : ∀ q, free q → A0 q) (hAX : ∀ q, q < H.size → AX q → A0 q)
    (kx : ∀ (E : String) (ce : Cell) (q9 : Addr) (u : SX) (t : State) (H1 : Heap) (locs1 : List Loc), t.heap = H1 → s.vm.Alike t.vm → px u → BX E u t → H.size ≤ H1.size → (∀ q : Nat, q < H.size → ¬ AX q → H1[q]? = H[q]?) → va_S A0 H0 H1 locs1 → H1[q9]? = some ce → ce.vm = .none → s.vm.findClass E = some ce.cls → vx_W p l e R s m args below meth c H1 locs1 (cells + mc) (slots + ms) Q (F0 m pc ls rest) q9)
    (kk : ∀ (r : UInt32) (u : S) (t : State) (H1 : Heap) (locs1 : List Loc), t.heap = H1 → s.vm.Alike t.vm → post r u → B u t → H.size ≤ H1.size → (∀ q : Nat, q < H.size → ¬ A1 q → H1[q]? = H[q]?) → va_S A0 H0 H1 locs1 → W p l e R s m args below meth c H1 locs1 (cells + mc) (slots + ms) Q (F0 m (pc + 3) ls (.float r :: rest))) : W p l e R s m args below meth c H locs cells slots Q (F0 m pc ls st0) := by
  intro T hT X
  rcases hr T hT X with ⟨v, st₀, t, T', L, h0, X', hL, e1, e2, ⟨⟨r, u, hv, hp, hb⟩, hF⟩, st⟩ | ⟨q, st₀, t, T', L, E, ce, h0, X', hL, e1, e2, ⟨u, hp, hb, hF⟩, hce, hcv, hcl, st⟩
  · cases hv
    obtain ⟨k1, k2, k3⟩ := vx_keep h0 e1 hS hA hf hL hF
    obtain ⟨t2, a1, b1⟩ := kk r u t T'.heap (locs ++ L) e1.symm (by rw [← e2]; exact X'.warmed.alike) hp hb k1 k2 k3 T' rfl X'
    exact ⟨t2, st t2 a1, b1⟩
  · obtain ⟨k1, k2, k3⟩ := vx_keep h0 e1 hS hAX hf hL hF
    obtain ⟨t2, a1, b1⟩ := kx E ce q u t T'.heap (locs ++ L) e1.symm (by rw [← e2]; exact X'.warmed.alike) hp hb k1 k2 k3 (by rw [e1]; exact hce) hcv hcl T' rfl X'
    exact ⟨t2, st.trans a1, b1⟩
theorem vx_calld {S SX : Type} {post : UInt64 → S → Prop} {px : SX → Prop} {B : S → State → Prop} {BX : String → SX → State → Prop} {AX : Nat → Prop} (hr : vx_Run p l e R s m args below meth c H locs cells slots mc ms (F0 m pc ls st0) rest (va_Qd post B A1 a) (vx_X px BX AX) free) (hS : va_S A0 H0 H locs) (hA : ∀ q, q < H.size → A1 q → A0 q) (hf : ∀ q, free q → A0 q) (hAX : ∀ q, q < H.size → AX q → A0 q)
    (kx : ∀ (E : String) (ce : Cell) (q9 : Addr) (u : SX) (t : State) (H1 : Heap) (locs1 : List Loc), t.heap = H1 → s.vm.Alike t.vm → px u → BX E u t → H.size ≤ H1.size → (∀ q : Nat, q < H.size → ¬ AX q → H1[q]? = H[q]?) → va_S A0 H0 H1 locs1 → H1[q9]? = some ce → ce.vm = .none → s.vm.findClass E = some ce.cls → vx_W p l e R s m args below meth c H1 locs1 (cells + mc) (slots + ms) Q (F0 m pc ls rest) q9)
    (kk : ∀ (r : UInt64) (u : S) (t : State) (H1 : Heap) (locs1 : List Loc), t.heap = H1 → s.vm.Alike t.vm → post r u → B u t → H.size ≤ H1.size → (∀ q : Nat, q < H.size → ¬ A1 q → H1[q]? = H[q]?) → va_S A0 H0 H1 locs1 → W p l e R s m args below meth c H1 locs1 (cells + mc) (slots + ms) Q (F0 m (pc + 3) ls (.double r :: rest))) : W p l e R s m args below meth c H locs cells slots Q (F0 m pc ls st0) := by
  intro T hT X
  rcases hr T hT X with ⟨v, st₀, t, T', L, h0, X', hL, e1, e2, ⟨⟨r, u, hv, hp, hb⟩, hF⟩, st⟩ | ⟨q, st₀, t, T', L, E, ce, h0, X', hL, e1, e2, ⟨u, hp, hb, hF⟩, hce, hcv, hcl, st⟩
  · cases hv
    obtain ⟨k1, k2, k3⟩ := vx_keep h0 e1 hS hA hf hL hF
    obtain ⟨t2, a1, b1⟩ := kk r u t T'.heap (locs ++ L) e1.symm (by rw [← e2]; exact X'.warmed.alike) hp hb k1 k2 k3 T' rfl X'
    exact ⟨t2, st t2 a1, b1⟩
  · obtain ⟨k1, k2, k3⟩ := vx_keep h0 e1 hS hAX hf hL hF
    obtain ⟨t2, a1, b1⟩ := kx E ce q u t T'.heap (locs ++ L) e1.symm (by rw [← e2]; exact X'.warmed.alike) hp hb k1 k2 k3 (by rw [e1]; exact hce) hcv hcl T' rfl X'
    exact ⟨t2, st.trans a1, b1⟩
theorem vx_callv {S SX : Type} {post : S → Prop} {px : SX → Prop} {B : S → State → Prop} {BX : String → SX → State → Prop} {AX : Nat → Prop} (hr : vx_Run p l e R s m args below meth c H locs cells slots mc ms (F0 m pc ls st0) rest (va_Qv post B A1 a) (vx_X px BX AX) free) (hS : va_S A0 H0 H locs) (hA : ∀ q, q < H.size → A1 q → A0 q) (hf : ∀ q, free q → A0 q) (hAX : ∀ q, q < H.size → AX q → A0 q)
    (kx : ∀ (E : String) (ce : Cell) (q9 : Addr) (u : SX) (t : State) (H1 : Heap) (locs1 : List Loc), t.heap = H1 → s.vm.Alike t.vm → px u → BX E u t → H.size ≤ H1.size → (∀ q : Nat, q < H.size → ¬ AX q → H1[q]? = H[q]?) → va_S A0 H0 H1 locs1 → H1[q9]? = some ce → ce.vm = .none → s.vm.findClass E = some ce.cls → vx_W p l e R s m args below meth c H1 locs1 (cells + mc) (slots + ms) Q (F0 m pc ls rest) q9)
    (kk : ∀ (u : S) (t : State) (H1 : Heap) (locs1 : List Loc), t.heap = H1 → s.vm.Alike t.vm → post u → B u t → H.size ≤ H1.size → (∀ q : Nat, q < H.size → ¬ A1 q → H1[q]? = H[q]?) → va_S A0 H0 H1 locs1 → W p l e R s m args below meth c H1 locs1 (cells + mc) (slots + ms) Q (F0 m (pc + 3) ls (rest))) : W p l e R s m args below meth c H locs cells slots Q (F0 m pc ls st0) := by
  intro T hT X
  rcases hr T hT X with ⟨v, st₀, t, T', L, h0, X', hL, e1, e2, ⟨⟨u, hv, hp, hb⟩, hF⟩, st⟩ | ⟨q, st₀, t, T', L, E, ce, h0, X', hL, e1, e2, ⟨u, hp, hb, hF⟩, hce, hcv, hcl, st⟩
  · cases hv
    obtain ⟨k1, k2, k3⟩ := vx_keep h0 e1 hS hA hf hL hF
    obtain ⟨t2, a1, b1⟩ := kk u t T'.heap (locs ++ L) e1.symm (by rw [← e2]; exact X'.warmed.alike) hp hb k1 k2 k3 T' rfl X'
    exact ⟨t2, st t2 a1, b1⟩
  · obtain ⟨k1, k2, k3⟩ := vx_keep h0 e1 hS hAX hf hL hF
    obtain ⟨t2, a1, b1⟩ := kx E ce q u t T'.heap (locs ++ L) e1.symm (by rw [← e2]; exact X'.warmed.alike) hp hb k1 k2 k3 (by rw [e1]; exact hce) hcv hcl T' rfl X'
    exact ⟨t2, st.trans a1, b1⟩
/-- caught by the row x of this method's table; the rows ahead don't take it -/
theorem vx_catch {own name : String} {E : String} {ce : Cell} {q : Addr} (hown : s.vm.findClass own = some m.cls) (pre : List ExceptionTableEntry) (x : ExceptionTableEntry) (suf : List ExceptionTableEntry) (hsplit : c.exceptionTable.toList = pre ++ x :: suf)
    (hpass : ∀ z ∈ pre, covers z pc = false ∨ (z.catchType ≠ 0 ∧ ∃ nm : String, (Cond.classLink own z.catchType nm).before args s = true ∧ va_Nc E nm s)) (hx : covers x pc = true) (h0 : x.catchType ≠ 0)
    (hlink : (Cond.classLink own x.catchType name).before args s = true) (hcast : (Cond.castable E name).before args s = true) (hcell : H[q]? = some ce) (hv : ce.vm = .none) (hcl : s.vm.findClass E = some ce.cls)
    (kk : W p l e R s m args below meth c H locs cells slots Q (F0 m x.handlerPc ls [.ref q])) : vx_W p l e R s m args below meth c H locs cells slots Q (F0 m pc ls rest) q := by
  intro T hT X
  have hpl : e.platform.magicAccessors = ({} : Platform).magicAccessors := by rw [X.admits.platform]
  obtain ⟨c3, c4, hc3, hc4, hasg⟩ := Cond.castable_spec hcast
  cases Option.some.inj (hc3.symm.trans hcl)
  obtain ⟨c5, hc5, hcl5⟩ := Cond.classLink_spec hown hlink e.platform hpl
  cases Option.some.inj (hc4.symm.trans hc5)
  obtain ⟨vm', X', st⟩ := X.thenCaughtThrough q (g := F0 m pc ls rest) rfl (Steps.refl _) (by rw [hT]; exact hcell) (by rw [hv]; rfl) (by obtain ⟨k9, h9, -⟩ := Vm.findClass_spec hcl; exact ⟨k9, h9⟩) pre x suf hsplit
    (fun z hz => by
      rcases hpass z hz with h | ⟨hz0, nm, hl1, hn1⟩
      · exact Or.inl h
      · obtain ⟨c6, hc6, hcl6⟩ := Cond.classLink_spec hown hl1 e.platform hpl
        obtain ⟨a8, b8, h1, h2, h3⟩ := hn1
        cases Option.some.inj (h1.symm.trans hcl)
        cases Option.some.inj (h2.symm.trans hc6)
        exact Or.inr ⟨hz0, _, hcl6, h3⟩) hx (Or.inr ⟨h0, c4, hcl5, hasg⟩)
  obtain ⟨t, a1, b1⟩ := kk (T.setVm vm') hT X'
  exact ⟨t, st.trans a1, b1⟩
end Rows
section Ends
variable {p : Program} {l : Launch} {e : Env} {R : Room} {s : State} {m : MethodId} {args : Array Value} {below : List Frame} {meth : Method} {c : Code} {H : Heap} {locs : List Loc} {cells slots : Nat} {Q : State → Prop}
variable {mc ms : Nat} {free : Addr → Prop} {A0 A1 : Nat → Prop} {H0 : Heap} {a : Array Value} {ls : Array Slot} {st0 rest : List Value}
variable {Qc : Array Value → State → Outcome → State → Prop} {XC : String → State → State → Prop}
/-- what a body that may throw owes at its end -/
def vx_MQ (below : List Frame) (Qc : Array Value → State → Outcome → State → Prop) (XC : String → State → State → Prop) (a : Array Value) (s : State) (mc ms : Nat) (free : Addr → Prop) : State → Prop := fun t =>
  ∃ o, t.status = .running ∧ Ended t below o ∧ vx_Q Qc XC mc ms free a s o t
theorem vx_ret {g : JFrame} {mc ms : Nat} (k : W p l e R s m args below meth c H locs cells slots (MQ below Qc args s mc ms free) g) : W p l e R s m args below meth c H locs cells slots (vx_MQ below Qc XC args s mc ms free) g := by
  intro T hT X
  obtain ⟨t, a1, o, b1, b2, b3, b4⟩ := k T hT X
  exact ⟨t, a1, o, b1, b2, Or.inl ⟨b3, b4⟩⟩
/-- not caught here: it goes on to the caller -/
theorem vx_widen {g : JFrame} {q : Addr} {k n : Nat} (h1 : cells ≤ k) (h2 : slots ≤ n) (kk : vx_W p l e R s m args below meth c H locs k n Q g q) : vx_W p l e R s m args below meth c H locs cells slots Q g q := fun T hT X => kk T hT (stand_widen X h1 h2)
theorem vx_out {pc : Nat} {E : String} {ce : Cell} {q : Addr} {mc ms : Nat} (hout : ∀ x ∈ c.exceptionTable.toList, covers x pc = false) (hlocks : meth.locks = false) (hcell : H[q]? = some ce) (hv : ce.vm = .none) (hcl : s.vm.findClass E = some ce.cls)
    (hx : ∀ t : State, t.heap = H → s.vm.Alike t.vm → XC E s t) (hf : ∀ z ∈ locs, free z.base) (hc : cells ≤ mc) (hs : slots ≤ ms) :
    vx_W p l e R s m args below meth c H locs cells slots (vx_MQ below Qc XC args s mc ms free) (F0 m pc ls rest) q := by
  intro T hT X
  obtain ⟨st1, hrun, hend, hW, hsm⟩ := X.leaveThrown q (g := F0 m pc ls rest) rfl rfl rfl hout hlocks
  have hcell9 : (T.setFrames (.throwing q :: below)).heap[q]? = some ce := by
    show T.heap[q]? = some ce
    rw [hT]; exact hcell
  exact ⟨_, st1, .threw q, hrun, hend, Or.inr ⟨q, rfl, E, ce, locs, hx _ hT hW.alike, hcell9, hv, hcl, hW, hsm.mono hc hs, hf⟩⟩
theorem vx_frame {U : State} {k n : Nat} (h : s.sameButNew ({ U with vm := s.vm } : State) locs k n) : s.heap.size ≤ U.heap.size ∧ ∀ q : Nat, q < s.heap.size → (∀ z ∈ locs, z.base ≠ q) → U.heap[q]? = s.heap[q]? := by
  obtain ⟨-, h2, -, -, -, h6⟩ := h
  refine ⟨h2, fun q hq hz => ?_⟩
  obtain ⟨c9, e1, e2, e3, e4⟩ := h6 q _ (Array.getElem?_eq_getElem hq)
  have hs : c9.slots = (s.heap[q]).slots := Array.ext_getElem? fun i => e4 i fun hm => hz _ hm rfl
  have h9 : c9 = s.heap[q] := by
    rw [hs] at e2
    exact e2
  have e5 : U.heap[q]? = some c9 := e1
  rw [e5, h9, Array.getElem?_eq_getElem hq]
/-- the words of a throw but the four that speak of the heap -/
def vx_no (w : Cond) : Bool := decide (w ≠ .isRef (.static Bundle.tN "UNASSIGNED_STACK" Bundle.steD)) && decide (w ≠ .isRef (.static Bundle.tN "SUPPRESSED_SENTINEL" Bundle.listD)) && decide (w ≠ .laysStatic Bundle.tN "UNASSIGNED_STACK" Bundle.steD) && decide (w ≠ .laysStatic Bundle.tN "SUPPRESSED_SENTINEL" Bundle.listD)
def vx_at0 (own : String) (ic : Nat) (X : String) (names : List String) : List Cond := (Bundle.ownAtoms0 own ic X names).filter vx_no
def vx_atS (own : String) (ic : Nat) (X : String) (names : List String) : List Cond := (Bundle.ownAtoms own ic X names).filter vx_no
/-- a word that the tables alone decide, or a good one -/
def vx_ot (w : Cond) : Bool := w.onTables || goodWord w
theorem vx_ot_at {args a' : Array Value} {s U : State} {w : Cond} (hW : s.WarmedH U.vm) (hvm : s.vm = U.vm) (hg : vx_ot w = true) (h : w.before args s = true) : w.before a' U = true := by
  simp only [vx_ot, Bool.or_eq_true] at hg
  rcases hg with hg | hg
  · exact va_tabs hg hvm h
  · exact word_at hW (good_of_word hg) h
/-- a list's words: the good ones out of the method's own list, the others by premises of their own -/
theorem vx_hat {args : Array Value} {s : State} {L B : List Cond} (h1 : ∀ w ∈ L.filter goodWord, w.before args s = true) (h2 : ∀ w ∈ L.filter (fun w => !goodWord w), w ∈ B) (h3 : ∀ w ∈ B, w.before args s = true) : ∀ w ∈ L, w.before args s = true := by
  intro w hw
  by_cases g : goodWord w = true
  · exact h1 w (List.mem_filter.mpr ⟨hw, g⟩)
  · refine h3 w (h2 w (List.mem_filter.mpr ⟨hw, ?_⟩))
    show (!goodWord w) = true
    cases hgw : goodWord w
    · rfl
    · exact absurd hgw g
theorem vx_c {args : Array Value} {s : State} {w : Cond} {B : List Cond} (h : w.before args s = true) (t : ∀ w ∈ B, w.before args s = true) : ∀ w' ∈ w :: B, w'.before args s = true := fun w' h' => (List.mem_cons.mp h').elim (fun e => by rw [e]; exact h) (t w')
theorem vx_n {args : Array Value} {s : State} : ∀ w ∈ ([] : List Cond), w.before args s = true := fun _ h => nomatch h
theorem vx_own {args : Array Value} {s : State} {L : List Cond} (h1 : ∀ w ∈ L.filter vx_no, w.before args s = true)
    (hU : (Cond.isRef (.static Bundle.tN "UNASSIGNED_STACK" Bundle.steD)).before args s = true) (hN : (Cond.isRef (.static Bundle.tN "SUPPRESSED_SENTINEL" Bundle.listD)).before args s = true)
    (lU : (Cond.laysStatic Bundle.tN "UNASSIGNED_STACK" Bundle.steD).before args s = true) (lN : (Cond.laysStatic Bundle.tN "SUPPRESSED_SENTINEL" Bundle.listD).before args s = true) : ∀ w ∈ L, w.before args s = true := by
  intro w hw
  by_cases e1 : w = .isRef (.static Bundle.tN "UNASSIGNED_STACK" Bundle.steD)
  · rw [e1]; exact hU
  · by_cases e2 : w = .isRef (.static Bundle.tN "SUPPRESSED_SENTINEL" Bundle.listD)
    · rw [e2]; exact hN
    · by_cases e3 : w = .laysStatic Bundle.tN "UNASSIGNED_STACK" Bundle.steD
      · rw [e3]; exact lU
      · by_cases e4 : w = .laysStatic Bundle.tN "SUPPRESSED_SENTINEL" Bundle.listD
        · rw [e4]; exact lN
        · exact h1 w (List.mem_filter.mpr ⟨hw, by unfold vx_no; rw [decide_eq_true e1, decide_eq_true e2, decide_eq_true e3, decide_eq_true e4]; rfl⟩)
/-- where a static field lies, its class's statics cell in H -/
def vx_L (C n d : String) (A : Nat → Prop) (U : State) (H : Heap) : Prop := ∃ (c : ClassId) (k : Class) (i : Nat) (f : Field) (a : Nat) (cell : Cell), U.vm.findClass C = some c ∧ U.fieldFound? C n d = some (c, k, i, f) ∧ f.isStatic = true ∧ k.statics = some a ∧ H[a]? = some cell ∧ cell.vm.isStatics = true ∧ cell.cls = c ∧ f.slot < cell.slots.size ∧ k.staticTypes[f.slot]? = some f.type ∧ ¬ A a
theorem vx_L.moved {C n d : String} {A : Nat → Prop} {u U : State} {H : Heap} (hvm : u.vm.Alike U.vm) (h : vx_L C n d A u H) : vx_L C n d A U H := by
  obtain ⟨c, k, i, f, a, cell, h1, h2, h3, h4, h5, h6, h7, h8, h9, h10⟩ := h
  obtain ⟨k', hi', he⟩ := State.fieldFound?_setVm hvm h2
  exact ⟨c, k', i, f, a, cell, by rw [hvm.findClass]; exact h1, hi', h3, by rw [he]; exact h4, h5, h6, h7, h8, by rw [he]; exact h9, h10⟩
theorem vx_L.kept {C n d : String} {A : Nat → Prop} {U : State} {H H1 : Heap} (h : vx_L C n d A U H) (hq : ∀ a : Nat, a < H.size → ¬ A a → H1[a]? = H[a]?) : vx_L C n d A U H1 := by
  obtain ⟨c, k, i, f, a, cell, h1, h2, h3, h4, h5, h6, h7, h8, h9, h10⟩ := h
  exact ⟨c, k, i, f, a, cell, h1, h2, h3, h4, by rw [hq a (Array.getElem?_eq_some_iff.mp h5).1 h10]; exact h5, h6, h7, h8, h9, h10⟩
theorem vx_L.narrow {C n d : String} {A B : Nat → Prop} {U : State} {H : Heap} (h : vx_L C n d A U H) (hAB : ∀ q, B q → A q) : vx_L C n d B U H := by
  obtain ⟨c, k, i, f, a, cell, h1, h2, h3, h4, h5, h6, h7, h8, h9, h10⟩ := h
  exact ⟨c, k, i, f, a, cell, h1, h2, h3, h4, h5, h6, h7, h8, h9, fun z => h10 (hAB _ z)⟩
theorem vx_L.word {C n d : String} {A : Nat → Prop} {s : State} {args : Array Value} (h : vx_L C n d A s s.heap) : (Cond.laysStatic C n d).before args s = true := by
  obtain ⟨c, k, i, f, a, cell, h1, h2, h3, h4, h5, h6, h7, h8, h9, -⟩ := h
  show (Cond.laysStatic C n d).holds args s none s [] = true
  exact Cond.laysStatic_of h1 h2 h3 h4 h5 h6 h7 h8 h9
/-- .. and what it holds: null or some reference -/
def vx_Zq (C n d : String) (A : Nat → Prop) (U : State) (H : Heap) : Prop := va_Zq C n d A U H ∧ vx_L C n d A U H
theorem vx_Zq.moved {C n d : String} {A : Nat → Prop} {u U : State} {H : Heap} (hvm : u.vm.Alike U.vm) (h : vx_Zq C n d A u H) : vx_Zq C n d A U H := ⟨va_Zq.moved hvm h.1, vx_L.moved hvm h.2⟩
theorem vx_Zq.kept {C n d : String} {A : Nat → Prop} {U : State} {H H1 : Heap} (h : vx_Zq C n d A U H) (hq : ∀ a : Nat, a < H.size → ¬ A a → H1[a]? = H[a]?) : vx_Zq C n d A U H1 := ⟨va_Zq.kept h.1 hq, vx_L.kept h.2 hq⟩
theorem vx_Zq.narrow {C n d : String} {A B : Nat → Prop} {U : State} {H : Heap} (h : vx_Zq C n d A U H) (hAB : ∀ q, B q → A q) : vx_Zq C n d B U H := ⟨va_Zq.narrow h.1 hAB, vx_L.narrow h.2 hAB⟩
theorem vx_Zqof {args : Array Value} {s : State} {C n d : String} {A : Nat → Prop} (hl : (Cond.laysStatic C n d).before args s = true) (hini : (Cond.initialized C).before args s = true) (h : (Cond.isRef (.static C n d)).before args s = true) (hA : ∀ a : Nat, a < s.heap.size → ¬ A a) : vx_Zq C n d A s s.heap := by
  refine ⟨va_Zqof hl hini h hA, ?_⟩
  obtain ⟨c, k, i, f, a, cell, h1, h2, h3, h4, h5, h6, h7, h8, h9⟩ := Cond.laysStatic_spec hl
  exact ⟨c, k, i, f, a, cell, h1, h2, h3, h4, h5, h6, h7, h8, h9, hA a (Array.getElem?_eq_some_iff.mp h5).1⟩
theorem vx_isRef {C n d : String} {v : Value} {A : Nat → Prop} {s : State} {args : Array Value} (h : va_Z C n d v A s s.heap) (hv : v.isRef = true) : (Cond.isRef (.static C n d)).before args s = true := by
  obtain ⟨cf, kf, fi, f, a, cell, h1, h2, h3, h4, h5, h6, h7, -⟩ := h
  have he : (Term.static C n d).eval args s none [] s = some v := by
    simp [Term.eval, State.fieldNamed?, h1, h2, h4, h5, h6, h7]
  simp only [Cond.before, Cond.holds, Cond.value, he]
  cases v <;> simp_all [Value.isRef]
theorem vx_isRefq {C n d : String} {A : Nat → Prop} {s : State} {args : Array Value} (h : va_Zq C n d A s s.heap) : (Cond.isRef (.static C n d)).before args s = true := by
  rcases h with h | ⟨t, h⟩
  · exact vx_isRef h rfl
  · exact vx_isRef h rfl
/-- the same frame, seen from here: as if the method were called anew in this heap -/
theorem vx_rebase {T : State} (X : Stand p l e R s m args below meth c T locs cells slots) {R' : Room} (hf : R'.frames ≤ R.frames) (hl : R'.locals ≤ R.locals) (hc : cells + R'.cells ≤ R.cells) (hs : slots + R'.slots ≤ R.slots) :
    Stand p l e R' ((T.setVm s.vm).setFrames (.invoking m args :: below)) m args below meth c T [] 0 0 := by
  have htop : (T.setVm s.vm).topJava?.isSome := X.here.top
  have hF : ((T.setVm s.vm).setFrames (.invoking m args :: below)).frames = .invoking m args :: below := State.frames_setFrames _ (State.cur_lt_of_top htop)
  obtain ⟨g₀, hg0⟩ := Option.isSome_iff_exists.mp htop
  obtain ⟨r, hr⟩ := State.topJava?_eq_some.mp hg0
  have hl9 : e.platform.stackLimits (T.setVm s.vm).me = e.platform.stackLimits s.me := X.limits
  have hb9 : (T.setVm s.vm).me.stackBytes = s.me.stackBytes := X.bytes
  refine ⟨X.admits, X.cas, X.clock, hF, ?_, X.hears, X.method, X.code, X.here, X.tail, X.warmed, ?_, ?_, ?_⟩
  · have h := X.room
    have hU : ((T.setVm s.vm).setFrames (.invoking m args :: below)).localsInUse = s.localsInUse := by
      rw [State.localsInUse_invoking hF (meth := meth) (c := c) X.method X.code, State.localsInUse_invoking X.frames X.method X.code]
    simp only [State.hasRoom, Bool.and_eq_true, decide_eq_true_eq] at h ⊢
    obtain ⟨⟨⟨⟨h1, h2, h3, h4, h5, h6⟩, h7⟩, h8⟩, h9⟩ := h
    rw [X.frames, List.length_cons] at h2 h3
    have q1 := X.heapSize
    have q2 := X.used
    simp only [hF, hU, List.length_cons, State.stackLimits_setFrames, State.stackBytes_setFrames, hl9, hb9]
    refine ⟨⟨⟨⟨by omega, by omega, by omega, by omega, by omega, h6⟩, ?_⟩, ?_⟩, X.book⟩
    · show T.heap.size + R'.cells ≤ e.platform.maxCells
      omega
    · show T.slotsUsed + R'.slots ≤ e.platform.maxSlots
      omega
  · rw [State.stackLimits_setFrames]; rfl
  · rw [State.stackBytes_setFrames]; rfl
  · refine ⟨?_, Nat.le_refl _, Nat.le_refl _, ?_, ?_, fun a c9 h9 => ⟨c9, h9, rfl, rfl, fun _ _ => rfl⟩⟩
    · obtain ⟨t, ht, -⟩ := State.frames_cons hr
      show T.setVm s.vm = { ((T.setVm s.vm).setFrames (.invoking m args :: below)).setFrames (T.setVm s.vm).frames with heap := T.heap, slotsUsed := T.slotsUsed }
      rw [State.setFrames_setFrames, State.setFrames_self ht]
      rfl
    · show T.slotsUsed = T.slotsUsed + ((T.heap.toList.drop T.heap.size).map (·.slots.size)).sum
      rw [List.drop_eq_nil_of_le (Nat.le_of_eq Array.length_toList)]
      rfl
    · show ((T.heap.toList.drop T.heap.size).map (·.slots.size)).sum ≤ 0
      rw [List.drop_eq_nil_of_le (Nat.le_of_eq Array.length_toList)]
      exact Nat.le_refl _
/-- 'throw new E()': new; dup; invokespecial; athrow -/
theorem vx_throw0 {cc : ByteArray} {pc : Nat} (hexec : p.tables.exec = Jvm.exec) (hb : c.code = cc) (hl : l.stackTraces = false) {own cls : String} {names : List String} {ik ic mc ms : Nat} {A : Nat → Prop}
    (hown : s.vm.findClass own = some m.cls) (hcls : Bundle.fit cls = true) (hnames : ∀ n ∈ names, Bundle.fit n = true)
    (hk : (Cond.classLink own ik cls).before args s = true) (hini : (Cond.initialized cls).before args s = true) (hat : ∀ w ∈ vx_at0 own ic cls names, w.before args s = true)
    (hgood : ∀ w ∈ Cond.classLink own ik cls :: Cond.initialized cls :: vx_at0 own ic cls names, vx_ot w = true)
    (hU : vx_Zq Bundle.tN "UNASSIGNED_STACK" Bundle.steD A s s.heap) (hN : vx_Zq Bundle.tN "SUPPRESSED_SENTINEL" Bundle.listD A s s.heap) (hS : va_S A s.heap H locs) (hsize : ls.size = c.maxLocals)
    (d0 : decode cc pc = .ok (.new ik, 3)) (d3 : decode cc (pc + 3) = .ok (.dup, 1)) (d4 : decode cc (pc + 4) = .ok (.invokespecial ic, 3)) (d7 : decode cc (pc + 7) = .ok (.athrow, 1))
    (hout : ∀ x ∈ c.exceptionTable.toList, covers x (pc + 7) = false)
    (hRframes : names.length + 3 < R.frames) (hRlocals : (rest.map fun v => v.category).sum + (13 * (names.length + 1) + 42) ≤ R.locals) (hRcells : cells + 1 ≤ R.cells) (hRslots : slots + 6 ≤ R.slots) (hlocks : meth.locks = false)
    (hx : ∀ t : State, s.vm.Alike t.vm → H.size ≤ t.heap.size → (∀ q : Nat, q < H.size → t.heap[q]? = H[q]?) → XC cls s t)
    (hf : ∀ z ∈ locs, free z.base) (hc : cells + 1 ≤ mc) (hs : slots + 6 ≤ ms) :
    W p l e R s m args below meth c H locs cells slots (vx_MQ below Qc XC args s mc ms free) (F0 m pc ls rest) := by
  intro T hT X
  have htr : e.platform.stackTraces = false := (show e.platform.stackTraces = l.stackTraces by rw [X.admits.platform]).trans hl
  have Y := vx_rebase X (R' := { frames := R.frames, locals := R.locals, cells := 1, slots := 6 }) (Nat.le_refl _) (Nat.le_refl _) hRcells hRslots
  obtain ⟨s', hA⟩ : ∃ z, z = (T.setVm s.vm).setFrames (.invoking m args :: below) := ⟨_, rfl⟩
  rw [← hA] at Y
  have hvm : s'.vm = s.vm := by rw [hA]; rfl
  have hhp : s'.heap = H := by rw [hA]; exact hT
  have hW0 : s.WarmedH s'.vm := by rw [hvm]; exact State.WarmedH.refl s
  have hat' : ∀ w ∈ vx_at0 own ic cls names, w.before args s' = true := fun w hw => vx_ot_at hW0 hvm.symm (hgood w (List.mem_cons_of_mem _ (List.mem_cons_of_mem _ hw))) (hat w hw)
  have hk' : (Cond.classLink own ik cls).before args s' = true := vx_ot_at hW0 hvm.symm (hgood _ List.mem_cons_self) hk
  have hini' : (Cond.initialized cls).before args s' = true := vx_ot_at hW0 hvm.symm (hgood _ (List.mem_cons_of_mem _ List.mem_cons_self)) hini
  have hU' : vx_Zq Bundle.tN "UNASSIGNED_STACK" Bundle.steD A s' s'.heap := by rw [hhp]; exact vx_Zq.moved hW0.alike (hU.kept hS.2.1)
  have hN' : vx_Zq Bundle.tN "SUPPRESSED_SENTINEL" Bundle.listD A s' s'.heap := by rw [hhp]; exact vx_Zq.moved hW0.alike (hN.kept hS.2.1)
  have h : ∀ w ∈ Bundle.ownAtoms0 own ic cls names, w.before args s' = true := vx_own hat' (vx_isRefq hU'.1) (vx_isRefq hN'.1) hU'.2.word hN'.2.word
  have hown' : s'.vm.findClass own = some m.cls := by rw [hvm]; exact hown
  have hins : (Cond.instantiable cls 6).before args s' = true := h _ (by simp [Bundle.ownAtoms0])
  obtain ⟨vm₁, cX, kX, hfX, hkX, -, -, X₁, st1⟩ := Y.newCold hexec (own := own) (C := cls) (index := ik) (n := 6) hown' hk' hins hini'
    (g := F0 m pc ls rest) rfl (by rw [hb]; exact d0) (Nat.le_refl _) (Nat.le_refl _)
  generalize hT1 : (T.setVm vm₁).pushCell { cls := cX, slots := kX.instanceTypes.map defaultValue, vm := .none } = T1 at X₁ st1
  have hcat : (Value.ref T.heap.size).category = 1 := rfl
  have hcellA : T1.heap[T.heap.size]? = some (freshCell cX kX) := by rw [← hT1]; exact State.heap_pushCell_size _ _
  have d3' : decode c.code (pc + 3) = .ok (.dup, 1) := by rw [hb]; exact d3
  obtain ⟨U, hsteps, hrun, hend, hW, hsame, ce, hce, hO⟩ := X₁.ctorThrow0 hexec htr (own := own) (cls := cls) (names := names) (ic := ic) hown' hcls hnames h (fun x hx => nomatch hx) hfX hkX hcellA (by rw [hhp, hT]; exact Nat.le_refl _)
    (g := { method := m, pc := pc + 4, locals := ls, stack := .ref T.heap.size :: .ref T.heap.size :: rest, locked := none }) rfl hsize rfl rfl (rest := rest) rfl
    (by rw [hb]; exact d4) (by rw [hb]; exact d7) hout hRframes (by simp only [List.map_cons, List.sum_cons, hcat]; omega) hlocks
  obtain ⟨f1, f2⟩ := vx_frame hsame
  rw [hhp] at f1 f2
  have hWs : s.WarmedH U.vm := State.WarmedH.trans hW0 hW
  have hcl : s.vm.findClass cls = some ce.cls := by
    have h9 := hO.cls
    rw [hvm] at h9
    exact h9
  have hall : s.sameButNew ({ U with vm := s.vm } : State) locs mc ms := by
    subst hA
    obtain ⟨e1, e2⟩ := hsame
    rw [State.setFrames_setFrames] at e1
    have h2 : (T.setVm s.vm).sameButNew ({ U with vm := s.vm } : State) [] (0 + 1) (0 + 6) := ⟨e1, e2⟩
    have h3 := X.same.trans h2
    rw [List.append_nil] at h3
    exact h3.mono hc hs
  refine ⟨U, ?_, .threw T.heap.size, hrun, hend, Or.inr ⟨T.heap.size, rfl, cls, ce, locs, hx U hWs.alike f1 (fun q hq => f2 q hq (fun z hz => nomatch hz)), hce, hO.vm, hcl, hWs, hall, hf⟩⟩
  refine st1 _ ?_
  show Steps p.tables e below (T1.setTop { method := m, pc := pc + 3, locals := ls, stack := .ref T.heap.size :: rest, locked := none }) _
  jvm_step X₁.here [X₁.here.top, hexec, d3', Value.category]
  exact hsteps
/-- 'throw new E("text")': new; dup; ldc; invokespecial; athrow -/
theorem vx_throwS {cc : ByteArray} {pc : Nat} (hexec : p.tables.exec = Jvm.exec) (hb : c.code = cc) (hl : l.stackTraces = false) {own cls text : String} {names : List String} {ik is ic mc ms sa : Nat} {A : Nat → Prop}
    (hown : s.vm.findClass own = some m.cls) (hcls : Bundle.fit cls = true) (hnames : ∀ n ∈ names, Bundle.fit n = true)
    (hk : (Cond.classLink own ik cls).before args s = true) (hini : (Cond.initialized cls).before args s = true) (hstr : vk_R own is text sa s) (hat : ∀ w ∈ vx_atS own ic cls names, w.before args s = true)
    (hgood : ∀ w ∈ Cond.classLink own ik cls :: Cond.initialized cls :: vx_atS own ic cls names, vx_ot w = true)
    (hU : vx_Zq Bundle.tN "UNASSIGNED_STACK" Bundle.steD A s s.heap) (hN : vx_Zq Bundle.tN "SUPPRESSED_SENTINEL" Bundle.listD A s s.heap) (hS : va_S A s.heap H locs) (hsize : ls.size = c.maxLocals)
    (d0 : decode cc pc = .ok (.new ik, 3)) (d3 : decode cc (pc + 3) = .ok (.dup, 1)) (d4 : decode cc (pc + 4) = .ok (.ldc is, 2)) (d6 : decode cc (pc + 6) = .ok (.invokespecial ic, 3)) (d9 : decode cc (pc + 9) = .ok (.athrow, 1))
    (hout : ∀ x ∈ c.exceptionTable.toList, covers x (pc + 9) = false)
    (hRframes : names.length + 3 < R.frames) (hRlocals : (rest.map fun v => v.category).sum + (13 * (names.length + 1) + 43) ≤ R.locals) (hRcells : cells + 1 ≤ R.cells) (hRslots : slots + 6 ≤ R.slots) (hlocks : meth.locks = false)
    (hx : ∀ t : State, s.vm.Alike t.vm → H.size ≤ t.heap.size → (∀ q : Nat, q < H.size → t.heap[q]? = H[q]?) → XC cls s t)
    (hf : ∀ z ∈ locs, free z.base) (hc : cells + 1 ≤ mc) (hs : slots + 6 ≤ ms) :
    W p l e R s m args below meth c H locs cells slots (vx_MQ below Qc XC args s mc ms free) (F0 m pc ls rest) := by
  intro T hT X
  have htr : e.platform.stackTraces = false := (show e.platform.stackTraces = l.stackTraces by rw [X.admits.platform]).trans hl
  have Y := vx_rebase X (R' := { frames := R.frames, locals := R.locals, cells := 1, slots := 6 }) (Nat.le_refl _) (Nat.le_refl _) hRcells hRslots
  obtain ⟨s', hA⟩ : ∃ z, z = (T.setVm s.vm).setFrames (.invoking m args :: below) := ⟨_, rfl⟩
  rw [← hA] at Y
  have hvm : s'.vm = s.vm := by rw [hA]; rfl
  have hhp : s'.heap = H := by rw [hA]; exact hT
  have hW0 : s.WarmedH s'.vm := by rw [hvm]; exact State.WarmedH.refl s
  have hat' : ∀ w ∈ vx_atS own ic cls names, w.before args s' = true := fun w hw => vx_ot_at hW0 hvm.symm (hgood w (List.mem_cons_of_mem _ (List.mem_cons_of_mem _ hw))) (hat w hw)
  have hk' : (Cond.classLink own ik cls).before args s' = true := vx_ot_at hW0 hvm.symm (hgood _ List.mem_cons_self) hk
  have hini' : (Cond.initialized cls).before args s' = true := vx_ot_at hW0 hvm.symm (hgood _ (List.mem_cons_of_mem _ List.mem_cons_self)) hini
  have hU' : vx_Zq Bundle.tN "UNASSIGNED_STACK" Bundle.steD A s' s'.heap := by rw [hhp]; exact vx_Zq.moved hW0.alike (hU.kept hS.2.1)
  have hN' : vx_Zq Bundle.tN "SUPPRESSED_SENTINEL" Bundle.listD A s' s'.heap := by rw [hhp]; exact vx_Zq.moved hW0.alike (hN.kept hS.2.1)
  have h : ∀ w ∈ Bundle.ownAtoms own ic cls names, w.before args s' = true := vx_own hat' (vx_isRefq hU'.1) (vx_isRefq hN'.1) hU'.2.word hN'.2.word
  have hown' : s'.vm.findClass own = some m.cls := by rw [hvm]; exact hown
  have hins : (Cond.instantiable cls 6).before args s' = true := h _ (by simp [Bundle.ownAtoms])
  obtain ⟨vm₁, cX, kX, hfX, hkX, -, -, X₁, st1⟩ := Y.newCold hexec (own := own) (C := cls) (index := ik) (n := 6) hown' hk' hins hini'
    (g := F0 m pc ls rest) rfl (by rw [hb]; exact d0) (Nat.le_refl _) (Nat.le_refl _)
  generalize hT1 : (T.setVm vm₁).pushCell { cls := cX, slots := kX.instanceTypes.map defaultValue, vm := .none } = T1 at X₁ st1
  have hcat : (Value.ref T.heap.size).category = 1 := rfl
  have hcellA : T1.heap[T.heap.size]? = some (freshCell cX kX) := by rw [← hT1]; exact State.heap_pushCell_size _ _
  have d3' : decode c.code (pc + 3) = .ok (.dup, 1) := by rw [hb]; exact d3
  have d4' : decode c.code (pc + 4) = .ok (.ldc is, 2) := by rw [hb]; exact d4
  have hstr' : vk_R own is text sa s' := vk_R.warm hW0 hstr
  obtain ⟨U, hsteps, hrun, hend, hW, hsame, ce, hce, hO⟩ := X₁.ctorThrowS hexec htr (own := own) (cls := cls) (names := names) (ic := ic) hown' hcls hnames h (fun x hx => nomatch hx) hfX hkX hcellA (by rw [hhp, hT]; exact Nat.le_refl _) (msg := .ref sa) rfl
    (g := { method := m, pc := pc + 6, locals := ls, stack := .ref sa :: .ref T.heap.size :: .ref T.heap.size :: rest, locked := none }) rfl hsize rfl rfl (rest := rest) rfl
    (by rw [hb]; exact d6) (by rw [hb]; exact d9) hout hRframes (by simp only [List.map_cons, List.sum_cons, hcat]; omega) hlocks
  obtain ⟨f1, f2⟩ := vx_frame hsame
  rw [hhp] at f1 f2
  have hWs : s.WarmedH U.vm := State.WarmedH.trans hW0 hW
  have hcl : s.vm.findClass cls = some ce.cls := by
    have h9 := hO.cls
    rw [hvm] at h9
    exact h9
  have hall : s.sameButNew ({ U with vm := s.vm } : State) locs mc ms := by
    subst hA
    obtain ⟨e1, e2⟩ := hsame
    rw [State.setFrames_setFrames] at e1
    have h2 : (T.setVm s.vm).sameButNew ({ U with vm := s.vm } : State) [] (0 + 1) (0 + 6) := ⟨e1, e2⟩
    have h3 := X.same.trans h2
    rw [List.append_nil] at h3
    exact h3.mono hc hs
  refine ⟨U, ?_, .threw T.heap.size, hrun, hend, Or.inr ⟨T.heap.size, rfl, cls, ce, locs, hx U hWs.alike f1 (fun q hq => f2 q hq (fun z hz => nomatch hz)), hce, hO.vm, hcl, hWs, hall, hf⟩⟩
  refine st1 _ ?_
  show Steps p.tables e below (T1.setTop { method := m, pc := pc + 3, locals := ls, stack := .ref T.heap.size :: rest, locked := none }) _
  jvm_step X₁.here [X₁.here.top, hexec, d3', Value.category]
  exact X₁.ldcString hexec (own := own) (text := text) (index := is) (a := sa) hown' hstr'.1 hstr'.2
    (g := { method := m, pc := pc + 4, locals := ls, stack := .ref T.heap.size :: .ref T.heap.size :: rest, locked := none }) rfl d4' _ hsteps
/-- 'throw new E("text")', the text by a wide index -/
theorem vx_throwSW {cc : ByteArray} {pc : Nat} (hexec : p.tables.exec = Jvm.exec) (hb : c.code = cc) (hl : l.stackTraces = false) {own cls text : String} {names : List String} {ik is ic mc ms sa : Nat} {A : Nat → Prop}
    (hown : s.vm.findClass own = some m.cls) (hcls : Bundle.fit cls = true) (hnames : ∀ n ∈ names, Bundle.fit n = true)
    (hk : (Cond.classLink own ik cls).before args s = true) (hini : (Cond.initialized cls).before args s = true) (hstr : vk_R own is text sa s) (hat : ∀ w ∈ vx_atS own ic cls names, w.before args s = true)
    (hgood : ∀ w ∈ Cond.classLink own ik cls :: Cond.initialized cls :: vx_atS own ic cls names, vx_ot w = true)
    (hU : vx_Zq Bundle.tN "UNASSIGNED_STACK" Bundle.steD A s s.heap) (hN : vx_Zq Bundle.tN "SUPPRESSED_SENTINEL" Bundle.listD A s s.heap) (hS : va_S A s.heap H locs) (hsize : ls.size = c.maxLocals)
    (d0 : decode cc pc = .ok (.new ik, 3)) (d3 : decode cc (pc + 3) = .ok (.dup, 1)) (d4 : decode cc (pc + 4) = .ok (.ldc_w is, 3)) (d7 : decode cc (pc + 7) = .ok (.invokespecial ic, 3)) (d10 : decode cc (pc + 10) = .ok (.athrow, 1))
    (hout : ∀ x ∈ c.exceptionTable.toList, covers x (pc + 10) = false)
    (hRframes : names.length + 3 < R.frames) (hRlocals : (rest.map fun v => v.category).sum + (13 * (names.length + 1) + 43) ≤ R.locals) (hRcells : cells + 1 ≤ R.cells) (hRslots : slots + 6 ≤ R.slots) (hlocks : meth.locks = false)
    (hx : ∀ t : State, s.vm.Alike t.vm → H.size ≤ t.heap.size → (∀ q : Nat, q < H.size → t.heap[q]? = H[q]?) → XC cls s t)
    (hf : ∀ z ∈ locs, free z.base) (hc : cells + 1 ≤ mc) (hs : slots + 6 ≤ ms) :
    W p l e R s m args below meth c H locs cells slots (vx_MQ below Qc XC args s mc ms free) (F0 m pc ls rest) := by
  intro T hT X
  have htr : e.platform.stackTraces = false := (show e.platform.stackTraces = l.stackTraces by rw [X.admits.platform]).trans hl
  have Y := vx_rebase X (R' := { frames := R.frames, locals := R.locals, cells := 1, slots := 6 }) (Nat.le_refl _) (Nat.le_refl _) hRcells hRslots
  obtain ⟨s', hA⟩ : ∃ z, z = (T.setVm s.vm).setFrames (.invoking m args :: below) := ⟨_, rfl⟩
  rw [← hA] at Y
  have hvm : s'.vm = s.vm := by rw [hA]; rfl
  have hhp : s'.heap = H := by rw [hA]; exact hT
  have hW0 : s.WarmedH s'.vm := by rw [hvm]; exact State.WarmedH.refl s
  have hat' : ∀ w ∈ vx_atS own ic cls names, w.before args s' = true := fun w hw => vx_ot_at hW0 hvm.symm (hgood w (List.mem_cons_of_mem _ (List.mem_cons_of_mem _ hw))) (hat w hw)
  have hk' : (Cond.classLink own ik cls).before args s' = true := vx_ot_at hW0 hvm.symm (hgood _ List.mem_cons_self) hk
  have hini' : (Cond.initialized cls).before args s' = true := vx_ot_at hW0 hvm.symm (hgood _ (List.mem_cons_of_mem _ List.mem_cons_self)) hini
  have hU' : vx_Zq Bundle.tN "UNASSIGNED_STACK" Bundle.steD A s' s'.heap := by rw [hhp]; exact vx_Zq.moved hW0.alike (hU.kept hS.2.1)
  have hN' : vx_Zq Bundle.tN "SUPPRESSED_SENTINEL" Bundle.listD A s' s'.heap := by rw [hhp]; exact vx_Zq.moved hW0.alike (hN.kept hS.2.1)
  have h : ∀ w ∈ Bundle.ownAtoms own ic cls names, w.before args s' = true := vx_own hat' (vx_isRefq hU'.1) (vx_isRefq hN'.1) hU'.2.word hN'.2.word
  have hown' : s'.vm.findClass own = some m.cls := by rw [hvm]; exact hown
  have hins : (Cond.instantiable cls 6).before args s' = true := h _ (by simp [Bundle.ownAtoms])
  obtain ⟨vm₁, cX, kX, hfX, hkX, -, -, X₁, st1⟩ := Y.newCold hexec (own := own) (C := cls) (index := ik) (n := 6) hown' hk' hins hini'
    (g := F0 m pc ls rest) rfl (by rw [hb]; exact d0) (Nat.le_refl _) (Nat.le_refl _)
  generalize hT1 : (T.setVm vm₁).pushCell { cls := cX, slots := kX.instanceTypes.map defaultValue, vm := .none } = T1 at X₁ st1
  have hcat : (Value.ref T.heap.size).category = 1 := rfl
  have hcellA : T1.heap[T.heap.size]? = some (freshCell cX kX) := by rw [← hT1]; exact State.heap_pushCell_size _ _
  have d3' : decode c.code (pc + 3) = .ok (.dup, 1) := by rw [hb]; exact d3
  have d4' : decode c.code (pc + 4) = .ok (.ldc_w is, 3) := by rw [hb]; exact d4
  have hstr' : vk_R own is text sa s' := vk_R.warm hW0 hstr
  obtain ⟨U, hsteps, hrun, hend, hW, hsame, ce, hce, hO⟩ := X₁.ctorThrowS hexec htr (own := own) (cls := cls) (names := names) (ic := ic) hown' hcls hnames h (fun x hx => nomatch hx) hfX hkX hcellA (by rw [hhp, hT]; exact Nat.le_refl _) (msg := .ref sa) rfl
    (g := { method := m, pc := pc + 7, locals := ls, stack := .ref sa :: .ref T.heap.size :: .ref T.heap.size :: rest, locked := none }) rfl hsize rfl rfl (rest := rest) rfl
    (by rw [hb]; exact d7) (by rw [hb]; exact d10) hout hRframes (by simp only [List.map_cons, List.sum_cons, hcat]; omega) hlocks
  obtain ⟨f1, f2⟩ := vx_frame hsame
  rw [hhp] at f1 f2
  have hWs : s.WarmedH U.vm := State.WarmedH.trans hW0 hW
  have hcl : s.vm.findClass cls = some ce.cls := by
    have h9 := hO.cls
    rw [hvm] at h9
    exact h9
  have hall : s.sameButNew ({ U with vm := s.vm } : State) locs mc ms := by
    subst hA
    obtain ⟨e1, e2⟩ := hsame
    rw [State.setFrames_setFrames] at e1
    have h2 : (T.setVm s.vm).sameButNew ({ U with vm := s.vm } : State) [] (0 + 1) (0 + 6) := ⟨e1, e2⟩
    have h3 := X.same.trans h2
    rw [List.append_nil] at h3
    exact h3.mono hc hs
  refine ⟨U, ?_, .threw T.heap.size, hrun, hend, Or.inr ⟨T.heap.size, rfl, cls, ce, locs, hx U hWs.alike f1 (fun q hq => f2 q hq (fun z hz => nomatch hz)), hce, hO.vm, hcl, hWs, hall, hf⟩⟩
  refine st1 _ ?_
  show Steps p.tables e below (T1.setTop { method := m, pc := pc + 3, locals := ls, stack := .ref T.heap.size :: rest, locked := none }) _
  jvm_step X₁.here [X₁.here.top, hexec, d3', Value.category]
  exact X₁.ldcStringW hexec (own := own) (text := text) (index := is) (a := sa) hown' hstr'.1 hstr'.2
    (g := { method := m, pc := pc + 4, locals := ls, stack := .ref T.heap.size :: .ref T.heap.size :: rest, locked := none }) rfl d4' _ hsteps
end Ends
section Bodies
variable {l : Launch}
theorem vx_ofW {y : MethodName} {ws ws' : List Cond} {rm : Room} {Pc : Array Value → State → Prop} {Qc : Array Value → State → Outcome → State → Prop} {XC : String → State → State → Prop} {mc ms : Nat} {free : Addr → Prop} {cc : ByteArray} {maxL : Nat} {ret : Option FieldType}
    (hy : plainName y.cls = true) (hw : ws = Cond.code y cc maxL ret :: ws')
    (body : ∀ p e s m args below meth c s₁, BodyLoose p l y (headSpec ws rm) cc maxL ret e s m args below meth c s₁ → c.maxLocals = maxL → (∀ x ∈ c.exceptionTable.toList, False) → Pc args s →
      W p l e (headSpec ws rm).room s m args below meth c s.heap [] 0 0 (vx_MQ below Qc XC args s mc ms free) (entryFrame m args maxL)) : vx_Met l y ws rm Pc Qc XC mc ms free := by
  refine MetFree.of_bodyS (code := cc) (maxLocals := maxL) (ret := ret) hy ?_ ?_
  · intro args s m h hn
    obtain ⟨meth, c, h1, h2, h3, h4, h5, h6, -, -⟩ := Cond.code_spec hn (atoms_spec (ws := ws) h _ (by rw [hw]; exact List.mem_cons_self))
    exact ⟨meth, c, h1, h2, h3, h4, h5, h6⟩
  · intro p e s m args below meth c s₁ B hml hP _
    have hh0 : s₁.heap = s.heap := by rw [B.state]; rfl
    have ht : ∀ x ∈ c.exceptionTable.toList, False := by
      obtain ⟨meth9, c9, h1, h2, -, -, -, -, h7, -⟩ := Cond.code_spec B.named (atoms_spec (ws := ws) B.pre _ (by rw [hw]; exact List.mem_cons_self))
      cases Option.some.inj (h1.symm.trans B.method)
      cases Option.some.inj (h2.symm.trans (Stand.of_body B).code)
      intro x hx
      rw [Array.isEmpty_iff.mp h7] at hx
      cases hx
    obtain ⟨t, a1, o, b1, b2, b3⟩ := body p e s m args below meth c s₁ B hml ht hP s₁ hh0 (Stand.of_body B)
    exact ⟨t, o, a1, b1, b2, b3⟩
/-- the table of a body with handlers -/
theorem vx_table {p : Program} {x y : MethodName} {S : Spec} {cc bytes : ByteArray} {maxL maxL' : Nat} {ret ret' : Option FieldType} {e : Env} {s s₁ : State} {m : MethodId} {args : Array Value} {below : List Frame} {meth : Method} {c : Code} {hh : List (Nat × Nat × Nat × Nat)}
    (B : BodyLoose p l y S cc maxL ret e s m args below meth c s₁) (h : (Cond.codeWith y bytes maxL' ret' hh).before args s = true) : c.exceptionTable.toList = tableOf hh := by
  obtain ⟨m9, meth9, c9, hn9, h1, h2, -, -, h6, -⟩ := Cond.codeWith_spec h
  cases Option.some.inj (hn9.symm.trans B.named)
  cases Option.some.inj (h1.symm.trans B.method)
  cases Option.some.inj (h2.symm.trans (Stand.of_body B).code)
  rw [← h6, table_eq]
end Bodies
end VXA
/-! ===== END ===== -/
/-! ===== BEGIN a static call of a method with an exception table ===== -/
section VXS
variable {p : Program} {l : Launch} {e : Env} {R : Room} {s : State} {m : MethodId} {args : Array Value} {below : List Frame} {meth : Method} {c : Code} {T : State} {H : Heap} {locs : List Loc} {cells slots : Nat}
abbrev vx_CSW (R : Room) (s : State) (args : Array Value) (own : String) (index : Nat) (y : MethodName) (bytes : ByteArray) (maxL : Nat) (ret : Option FieldType) (hh : List (Nat × Nat × Nat × Nat)) (ws : List Cond) (rm : Room) (mc ms n : Nat) : Prop :=
  (rm.cells = mc ∧ rm.slots = ms ∧ rm.frames + 1 ≤ R.frames ∧ 8 + (maxL + 11) + rm.locals ≤ R.locals ∧ (∀ w ∈ ws, ∀ (a' : Array Value) (U : State), s.WarmedH U.vm → w.before a' U = true) ∧ Cond.codeWith y bytes maxL ret hh ∈ ws) ∧
  (Cond.codeWith y bytes maxL ret hh).before args s = true ∧ (Cond.initialized y.cls).before args s = true ∧ (y.cls ≠ "java/lang/invoke/MethodHandle" ∧ y.cls ≠ "java/lang/invoke/VarHandle") ∧
  (∀ sig, parseMethodDescriptor y.desc = some sig → n = sig.parameters.length) ∧ (Cond.methodLink own index y).before args s = true ∧ (Cond.static y).before args s = true
theorem vx_cwSW {own : String} {index maxL mc ms : Nat} {y : MethodName} {bytes : ByteArray} {ret : Option FieldType} {hh : List (Nat × Nat × Nat × Nat)} {Ts ws ws' : List Cond} {rm : Room} (n : Nat) (ht : ∀ w ∈ Ts, w.before args s = true) (hT : GoodIn Ts (va_wsS own index y ws)) (hw : ws = Cond.codeWith y bytes maxL ret hh :: ws') (hrc : rm.cells = mc) (hrs : rm.slots = ms)
    (hd : y.cls ≠ "java/lang/invoke/MethodHandle" ∧ y.cls ≠ "java/lang/invoke/VarHandle" ∧ (parseMethodDescriptor y.desc).map (fun d => d.parameters.length) = some n) (hR : rm.frames + 1 ≤ R.frames ∧ 8 + (maxL + 11) + rm.locals ≤ R.locals) :
    vx_CSW R s args own index y bytes maxL ret hh ws rm mc ms n := by
  have ok : ∀ w ∈ va_wsS own index y ws, w.before args s = true := fun w h => ht w (hT w h).1
  have hG : GoodIn Ts ws := fun w h => hT w (by unfold va_wsS; exact List.mem_append_right _ h)
  have hc : Cond.codeWith y bytes maxL ret hh ∈ ws := by rw [hw]; exact List.mem_cons_self
  refine ⟨⟨hrc, hrs, hR.1, hR.2, pay_in ht hG, hc⟩, ht _ (hG _ hc).1, ok _ (by simp [va_wsS]), ⟨hd.1, hd.2.1⟩, fun sig h => ?_, ok _ (by simp [va_wsS]), ok _ (by simp [va_wsS])⟩
  have h2 := hd.2.2
  rw [h] at h2
  exact (Option.some.inj h2).symm
theorem vx_callSW (X : Stand p l e R s m args below meth c T locs cells slots) (hexec : p.tables.exec = Jvm.exec) {own : String} {index : Nat} {y : MethodName} {bytes : ByteArray} {maxL : Nat} {ret : Option FieldType} {hh : List (Nat × Nat × Nat × Nat)}
    (hown : s.vm.findClass own = some m.cls) (hlink : (Cond.methodLink own index y).before args s = true) (hstat : (Cond.static y).before args s = true) (hinit : (Cond.initialized y.cls).before args s = true)
    (hcode : (Cond.codeWith y bytes maxL ret hh).before args s = true) (hy : y.cls ≠ "java/lang/invoke/MethodHandle" ∧ y.cls ≠ "java/lang/invoke/VarHandle")
    {W9 : Nat} {Pre : Pt → Array Value → Prop} {Post : Pt → Array Value → Option Value → Pt → Prop} (hK : Back l R p e below s args y 3 W9 Pre Post)
    {g : JFrame} (hg : g.method = m) (hsize : g.locals.size = c.maxLocals) {argsL rest : List Value} (hlen : ∀ sig, parseMethodDescriptor y.desc = some sig → argsL.length = sig.parameters.length)
    (hstack : g.stack = argsL.reverse ++ rest) (hW : 2 * g.monitorRoom + (rest.map fun v => v.category).sum ≤ W9) (hdg : decode c.code g.pc = .ok (.invokestatic index, 3))
    (hpre : ∀ vm₁, s.WarmedH vm₁ → Pre ⟨T.setVm vm₁, locs, cells, slots⟩ argsL.toArray) :
    ∃ (v : Option Value) (vm₁ : Vm) (B : Pt), s.WarmedH vm₁ ∧ Stand p l e R s m args below meth c B.U B.locs B.cells B.slots ∧ Post ⟨T.setVm vm₁, locs, cells, slots⟩ argsL.toArray v B ∧
      ∀ target, Steps p.tables e below (B.U.setTop { g with pc := g.pc + 3, stack := v.toList ++ rest }) target → Steps p.tables e below (T.setTop g) target := by
  obtain ⟨mk, methM, cM, hnamed, hmethM, -, -, -, -, -, -, hsigM⟩ := Cond.codeWith_spec hcode
  have hstatic : methM.isStatic = true := Cond.static_spec hnamed hmethM hstat
  obtain ⟨kP, hkP, -⟩ := className_of_methodNamed hnamed
  have hinitP : kP.init = .initialized := Cond.initialized_spec (findClass_of_methodNamed hnamed) hkP hinit
  obtain ⟨vm₁, X₁, hstep₁⟩ := X.invokestatic hexec hown hlink hnamed hmethM hstatic hkP hinitP hy (g := g) hg (argsL := argsL) (rest := rest) (hlen _ hsigM) hstack hdg
  obtain ⟨v, B, X', hpost, hsteps⟩ := hK m meth c ⟨T.setVm vm₁, locs, cells, slots⟩ { g with stack := rest } (.invokestatic index) mk argsL.toArray X₁ hg hsize hdg hW (X₁.named hnamed) (hpre vm₁ X₁.warmed)
  exact ⟨v, vm₁, B, X₁.warmed, X', hpost, fun target h => hstep₁ _ fun acts => by rw [doInvoke_state]; exact hsteps.trans h⟩
theorem vx_runSW {y : MethodName} {bytes cc : ByteArray} {maxL nL mc ms n index : Nat} {ret : Option FieldType} {hh : List (Nat × Nat × Nat × Nat)} {ws : List Cond} {rm : Room} {Pc : Array Value → State → Prop} {Qc : Array Value → State → Outcome → State → Prop} {free : Addr → Prop} {Ts : List Cond} {own : String} {As rest : List Value} {g : JFrame}
    (S : CallFix p m c cc nL s args Ts own) (hM : Met l y ws rm Pc Qc mc ms free) (cw : vx_CSW R s args own index y bytes maxL ret hh ws rm mc ms n) (hp : PreS s H Pc As)
    (hg : g.method = m) (hn : As.length = n) (hsize : g.locals.size = nL) (hstack : g.stack = As.reverse ++ rest) (hW : 2 * g.monitorRoom + (rest.map fun v => v.category).sum ≤ 8) (hdg : decode cc g.pc = .ok (.invokestatic index, 3)) (hf : cells + mc ≤ R.cells ∧ slots + ms ≤ R.slots) :
    va_Run p l e R s m args below meth c H locs cells slots mc ms g rest (Qc As.toArray) (free) := by
  obtain ⟨⟨hrc, hrs, hfr, hlo, hws, hcw⟩, hcode, hini, hy, hlen, hl, hstt⟩ := cw
  have hK : Back l R p e below s args y 3 8 (PreOf R mc ms Pc) (PostOf Qc mc ms free) := va_backW (hh := hh) (bytes := bytes) (maxL := maxL) (ret := ret) hM hp.1 hrc hrs hfr hlo hws hcw (fun a' U hW => word_at hW (Or.inl (by first | rfl | simp [Cond.onTables, Cond.keeps, Cond.steady])) hini)
  obtain ⟨hx, hb, hml, ho, -⟩ := S
  intro T hT X
  obtain ⟨v, vm₁, ⟨U', l2, c2, s2⟩, hW₁, X', ⟨g', mk, t, L, e1, e2, hq, h1, hL, h2, h3⟩, st⟩ := vx_callSW X hx (hh := hh) (bytes := bytes) (maxL := maxL) (ret := ret) ho hl hstt hini hcode hy hK hg (hsize.trans hml.symm) (argsL := As) (rest := rest) (fun sig h => hn.trans (hlen sig h)) hstack hW (by rw [hb]; exact hdg)
    (fun vm₁ hW₁ => ⟨hf.1, hf.2, hp.2 (T.setVm vm₁) hT hW₁⟩)
  dsimp only [Pt.U, Pt.locs, Pt.cells, Pt.slots] at X' e1 e2 h1 h2 h3 st
  subst h1; subst h2; subst h3
  exact ⟨v, (T.setVm vm₁).calling g' mk As.toArray, t, U', L, hT, X', hL, e1, e2, hq, st⟩
/-- not caught here, past rows that name other classes: it goes on to the caller -/
theorem vx_outP {p : Program} {l : Launch} {e : Env} {R : Room} {s : State} {m : MethodId} {args : Array Value} {below : List Frame} {meth : Method} {c : Code} {H : Heap} {locs : List Loc} {cells slots : Nat} {free : Addr → Prop} {ls : Array Slot} {rest : List Value} {Qc : Array Value → State → Outcome → State → Prop} {XC : String → State → State → Prop}
    {pc : Nat} {own E : String} {ce : Cell} {q : Addr} {mc ms : Nat} (hown : s.vm.findClass own = some m.cls) (hlocks : meth.locks = false)
    (hpass : ∀ z ∈ c.exceptionTable.toList, covers z pc = false ∨ (z.catchType ≠ 0 ∧ ∃ nm : String, (Cond.classLink own z.catchType nm).before args s = true ∧ va_Nc E nm s)) (hcell : H[q]? = some ce) (hv : ce.vm = .none) (hcl : s.vm.findClass E = some ce.cls)
    (hx : ∀ t : State, t.heap = H → s.vm.Alike t.vm → XC E s t) (hf : ∀ z ∈ locs, free z.base) (hc : cells ≤ mc) (hs : slots ≤ ms) :
    vx_W p l e R s m args below meth c H locs cells slots (vx_MQ below Qc XC args s mc ms free) (F0 m pc ls rest) q := by
  intro T hT X
  have hpl : e.platform.magicAccessors = ({} : Platform).magicAccessors := by rw [X.admits.platform]
  obtain ⟨vm', hW', X', st⟩ := X.outThrough hlocks q (g := F0 m pc ls rest) rfl rfl rfl (cell := ce) (by rw [hT]; exact hcell) (by rw [hv]; rfl)
    (by obtain ⟨k9, h9, -⟩ := Vm.findClass_spec hcl; exact ⟨k9, h9⟩) (fun z hz => by
      rcases hpass z hz with h | ⟨hz0, nm, hl1, hn1⟩
      · exact Or.inl h
      · obtain ⟨c6, hc6, hcl6⟩ := Cond.classLink_spec hown hl1 e.platform hpl
        obtain ⟨a8, b8, h1, h2, h3⟩ := hn1
        cases Option.some.inj (h1.symm.trans hcl)
        cases Option.some.inj (h2.symm.trans hc6)
        exact Or.inr ⟨hz0, _, hcl6, h3⟩)
  obtain ⟨g₀, hfr⟩ := X'.frames_eq
  have hcell9 : ((T.setVm vm').setFrames (.throwing q :: below)).heap[q]? = some ce := by
    show T.heap[q]? = some ce
    rw [hT]; exact hcell
  have hend : Ended ((T.setVm vm').setFrames (.throwing q :: below)) below (.threw q) := State.frames_setFrames _ (State.cur_lt_of_frames hfr)
  refine ⟨(T.setVm vm').setFrames (.throwing q :: below), ?_, .threw q, X'.here.running, hend, Or.inr ⟨q, rfl, E, ce, locs, hx _ hT (X'.ends _).1.alike, hcell9, hv, hcl, (X'.ends _).1, (X'.ends _).2.mono hc hs, hf⟩⟩
  rw [X.pushThrowing_eq]
  exact st
/-- a thing of a world lies in the heap -/
theorem vx_lt {D : va_G} {cl : List vw_C} {ws : va_W} {H1 : Heap} (h : va_P D cl ws H1) {k : Nat} {q : Nat × va_E} (hk : ws[k]? = some q) : q.1 < H1.size := (h k q hk).lt
end VXS
/-! ===== END ===== -/
/-! ===== BEGIN methods with a table of their own: called by a name, returning or throwing ===== -/
section VXH
/-! vx_backW, vx_callVX, vx_callSX, vx_callVW, vx_runVW, vx_runVX, vx_runSX, vx_ofWH follow the same proofs as their sisters above (Free/Laws.lean, Shelf42/LK1.lean); vx_outP calls Shelf42/NT130.lean (outThrough). -/
section
variable {l : Launch} {R : Room} {p : Program} {e : Env} {below : List Frame} {s : State} {sargs : Array Value} {y : MethodName} {len W9 : Nat}
theorem vx_backW {ws : List Cond} {rm : Room} {Pc : Array Value → State → Prop} {Qc : Array Value → State → Outcome → State → Prop} {XC : String → State → State → Prop} {mc ms : Nat} {free : Addr → Prop} {bytes : ByteArray} {maxL : Nat} {ret : Option FieldType} {hh : List (Nat × Nat × Nat × Nat)}
    (hM : vx_Met l y ws rm Pc Qc XC mc ms free) (hblind : FrameBlind Pc) (hrc : rm.cells = mc) (hrs : rm.slots = ms)
    (hframes : rm.frames + 1 ≤ R.frames) (hlocals : W9 + (maxL + 11) + rm.locals ≤ R.locals)
    (hws : ∀ w ∈ ws, ∀ a' U, s.WarmedH U.vm → w.before a' U = true) (hcode : Cond.codeWith y bytes maxL ret hh ∈ ws) (hinit : ∀ a' U, s.WarmedH U.vm → (Cond.initialized y.cls).before a' U = true) :
    vx_Back l R p e below s sargs y len W9 (PreOf R mc ms Pc) (PostOf Qc mc ms free) (vx_Post XC mc ms free) := by
  intro m meth c A g ig mk a X hg hsize hdg hW hn hp
  have h1 : (headSpec ws rm).pre.before a A.U = true := atoms_intro fun w hw => hws w hw _ _ X.warmed
  have h2 : (Cond.codeWith y bytes maxL ret hh).before a A.U = true := hws _ hcode _ _ X.warmed
  have h3 : (Cond.initialized y.cls).before a A.U = true := hinit _ _ X.warmed
  have h4 : A.cells + (headSpec ws rm).room.cells ≤ R.cells := by rw [show (headSpec ws rm).room.cells = mc from hrc]; exact hp.1
  have h5 : A.slots + (headSpec ws rm).room.slots ≤ R.slots := by rw [show (headSpec ws rm).room.slots = ms from hrs]; exact hp.2.1
  have hPc : Pc a (A.U.calling g mk a) := hblind _ _ _ _ hp.2.2
  obtain ⟨U, Ls, c0, s0⟩ := A
  dsimp only [Pt.U, Pt.locs, Pt.cells, Pt.slots] at h1 h2 h3 h4 h5 X hn hPc ⊢
  obtain ⟨m9, methY, cY, hn9, hmY, hcY, -, hlY, -⟩ := Cond.codeWith_spec h2
  cases Option.some.inj (hn9.symm.trans hn)
  obtain ⟨kY, hkY, -⟩ := className_of_methodNamed hn
  have hinitY : kY.init = .initialized := Cond.initialized_spec (findClass_of_methodNamed hn) hkY h3
  have h : At U g.method c below := by rw [hg]; exact X.here
  have hlocals9 : W9 + (maxL + 11) + (headSpec ws rm).room.locals ≤ R.locals := hlocals
  have happ : (headSpec ws rm).appliesLoose y e.platform (U.calling g mk a) = true :=
    Spec.appliesLoose_calling (g := g) h hdg hn hkY hinitY
      (X.room_calling (g := g) (R' := (headSpec ws rm).room) hsize hmY hcY hframes (by rw [hlY]; omega) h4 h5) h1
  obtain ⟨mid, hmid⟩ := h.above
  have hfr : (U.setTop g).frames = (.java g :: mid) ++ below := by rw [State.frames_setTop' g h.top, hmid]; rfl
  obtain ⟨o, s₂, hsteps, -, hend, hq⟩ := Steps.callFree hM p X.admits X.cas X.clock (acts := []) hfr happ hPc trivial
  have hq' : vx_Q Qc XC mc ms free a (U.calling g mk a) o s₂ := hq
  rw [State.frames_setTop' g h.top] at hend
  obtain ⟨g₀, hg0⟩ := Option.isSome_iff_exists.mp h.top
  obtain ⟨r, hr⟩ := State.topJava?_eq_some.mp hg0
  have hr' : (({ U with heap := s₂.heap, slotsUsed := s₂.slotsUsed } : State).setVm s₂.vm).frames = .java g₀ :: r := hr
  rcases hq' with ⟨hqc, L, hfe, hL⟩ | ⟨q, rfl, E, ce, L, hx, hce, hcv, hcl, hW₂, hsm, hL⟩
  · obtain ⟨⟨v, rfl⟩, hW₂, e2, q2, q3, q4, q5, q6⟩ := id hfe
    have e3 : s₂ = ({ (U.calling g mk a).setFrames s₂.frames with heap := s₂.heap, slotsUsed := s₂.slotsUsed } : State).setVm s₂.vm := by
      have : s₂ = ({ s₂ with vm := (U.calling g mk a).vm } : State).setVm s₂.vm := rfl
      rw [e2] at this
      exact this
    obtain ⟨c₂, i₂, len₂, hc₂, hd₂, hf₂⟩ := hend
    have hW' : U.WarmedH s₂.vm := hW₂
    have hcc : c₂ = c := by
      have h1 : s₂.code? g.method = U.code? g.method := by
        rw [State.code?_eq, State.code?_eq, hW'.alike.method?]
      exact Option.some.inj (hc₂.symm.trans (h1.trans h.code))
    subst hcc
    have hlen : len₂ = len := by rw [hdg] at hd₂; cases hd₂; rfl
    subst hlen
    have hs₂ : s₂ = (({ U with heap := s₂.heap, slotsUsed := s₂.slotsUsed } : State).setVm s₂.vm).setTop { g with pc := g.pc + len₂, stack := v.toList ++ g.stack } := by
      refine e3.trans ?_
      rw [hf₂, State.calling_eq h.top, State.setFrames_setFrames, State.setTop_of_frames _ hr', hr]
      rfl
    have hsame : U.sameButNew ({ U with heap := s₂.heap, slotsUsed := s₂.slotsUsed } : State) L mc ms := by
      refine ⟨?_, q2, q3, q4, q5, q6⟩
      obtain ⟨t, ht, -⟩ := State.frames_cons hr
      show ({ U with heap := s₂.heap, slotsUsed := s₂.slotsUsed } : State) = { U.setFrames U.frames with heap := s₂.heap, slotsUsed := s₂.slotsUsed }
      rw [State.setFrames_self ht]
    subst hg
    refine Or.inl ⟨v, ⟨(({ U with heap := s₂.heap, slotsUsed := s₂.slotsUsed } : State).setVm s₂.vm), Ls ++ L, c0 + mc, s0 + ms⟩,
      ⟨X.admits, X.cas, X.clock, X.frames, X.room, X.hears, X.method, X.code, (X.here.setHeapUsed s₂.heap s₂.slotsUsed).setVm hW'.alike, X.tail, State.WarmedH.trans X.warmed hW', X.limits, X.bytes, X.same.trans (hsame.setVm s.vm)⟩,
      ⟨g, mk, s₂, L, rfl, rfl, hqc, rfl, hL, rfl, rfl⟩, ?_⟩
    show Steps p.tables e below _ ((({ U with heap := s₂.heap, slotsUsed := s₂.slotsUsed } : State).setVm s₂.vm).setTop { g with pc := g.pc + len₂, stack := v.toList ++ g.stack })
    rw [← hs₂]
    exact hsteps
  · obtain ⟨e2, q2, q3, q4, q5, q6⟩ := id hsm
    have e3 : s₂ = ({ (U.calling g mk a).setFrames s₂.frames with heap := s₂.heap, slotsUsed := s₂.slotsUsed } : State).setVm s₂.vm := by
      have : s₂ = ({ s₂ with vm := (U.calling g mk a).vm } : State).setVm s₂.vm := rfl
      rw [e2] at this
      exact this
    have hf₂ : s₂.frames = .throwing q :: .java g :: U.frames.tail := hend
    have hW' : U.WarmedH s₂.vm := hW₂
    have hs₂ : s₂ = ((({ U with heap := s₂.heap, slotsUsed := s₂.slotsUsed } : State).setVm s₂.vm).setTop g).pushFrame (.throwing q) := by
      refine e3.trans ?_
      rw [hf₂, State.calling_eq h.top, State.setFrames_setFrames, State.pushFrame, State.frames_setTop _ hr', State.setTop_of_frames _ hr', State.setFrames_setFrames, hr]
      rfl
    have hsame : U.sameButNew ({ U with heap := s₂.heap, slotsUsed := s₂.slotsUsed } : State) L mc ms := by
      refine ⟨?_, q2, q3, q4, q5, q6⟩
      obtain ⟨t, ht, -⟩ := State.frames_cons hr
      show ({ U with heap := s₂.heap, slotsUsed := s₂.slotsUsed } : State) = { U.setFrames U.frames with heap := s₂.heap, slotsUsed := s₂.slotsUsed }
      rw [State.setFrames_self ht]
    subst hg
    refine Or.inr ⟨q, ⟨(({ U with heap := s₂.heap, slotsUsed := s₂.slotsUsed } : State).setVm s₂.vm), Ls ++ L, c0 + mc, s0 + ms⟩,
      ⟨X.admits, X.cas, X.clock, X.frames, X.room, X.hears, X.method, X.code, (X.here.setHeapUsed s₂.heap s₂.slotsUsed).setVm hW'.alike, X.tail, State.WarmedH.trans X.warmed hW', X.limits, X.bytes, X.same.trans (hsame.setVm s.vm)⟩,
      ⟨g, mk, s₂, L, E, ce, rfl, rfl, hx, hce, hcv, hcl, rfl, hL, rfl, rfl⟩, ?_⟩
    show Steps p.tables e below _ (((({ U with heap := s₂.heap, slotsUsed := s₂.slotsUsed } : State).setVm s₂.vm).setTop g).pushFrame (.throwing q))
    rw [← hs₂]
    exact hsteps
end
variable {p : Program} {l : Launch} {e : Env} {R : Room} {s : State} {m : MethodId} {args : Array Value} {below : List Frame} {meth : Method} {c : Code} {T : State} {H : Heap} {locs : List Loc} {cells slots : Nat}
theorem vx_callVX (X : Stand p l e R s m args below meth c T locs cells slots) (hexec : p.tables.exec = Jvm.exec) {own C : String} {index : Nat} {y : MethodName} {bytes : ByteArray} {maxL : Nat} {ret : Option FieldType} {hh : List (Nat × Nat × Nat × Nat)}
    (hown : s.vm.findClass own = some m.cls) (hlink : (Cond.methodLink own index y).before args s = true) (hinst : (Cond.instanceMethod y).before args s = true) (hsel : (Cond.selects C y y).before args s = true)
    (hcode : (Cond.codeWith y bytes maxL ret hh).before args s = true) (hy : y.cls ≠ "java/lang/invoke/MethodHandle" ∧ y.cls ≠ "java/lang/invoke/VarHandle")
    {W9 : Nat} {Pre : Pt → Array Value → Prop} {Post : Pt → Array Value → Option Value → Pt → Prop} {PostX : Pt → Array Value → Addr → Pt → Prop} (hK : vx_Back l R p e below s args y 3 W9 Pre Post PostX)
    {b : Addr} {cellB : Cell} (hcell : T.heap[b]? = some cellB) (hobj : cellB.vm.isStatics = false) (hcls : s.vm.findClass C = some cellB.cls)
    {g : JFrame} (hg : g.method = m) (hsize : g.locals.size = c.maxLocals) {argsL rest : List Value} (hlen : ∀ sig, parseMethodDescriptor y.desc = some sig → argsL.length = sig.parameters.length)
    (hstack : g.stack = argsL.reverse ++ .ref b :: rest) (hW : 2 * g.monitorRoom + (rest.map fun v => v.category).sum ≤ W9) (hdg : decode c.code g.pc = .ok (.invokevirtual index, 3))
    (hpre : ∀ vm₁, s.WarmedH vm₁ → Pre ⟨T.setVm vm₁, locs, cells, slots⟩ (Value.ref b :: argsL).toArray) :
    (∃ (v : Option Value) (vm₁ : Vm) (B : Pt), s.WarmedH vm₁ ∧ Stand p l e R s m args below meth c B.U B.locs B.cells B.slots ∧ Post ⟨T.setVm vm₁, locs, cells, slots⟩ (Value.ref b :: argsL).toArray v B ∧
      ∀ target, Steps p.tables e below (B.U.setTop { g with pc := g.pc + 3, stack := v.toList ++ rest }) target → Steps p.tables e below (T.setTop g) target) ∨
    (∃ (q : Addr) (vm₁ : Vm) (B : Pt), s.WarmedH vm₁ ∧ Stand p l e R s m args below meth c B.U B.locs B.cells B.slots ∧ PostX ⟨T.setVm vm₁, locs, cells, slots⟩ (Value.ref b :: argsL).toArray q B ∧
      Steps p.tables e below (T.setTop g) ((B.U.setTop { g with stack := rest }).pushFrame (.throwing q))) := by
  obtain ⟨mk, methM, hnamed, hmethM, hstM, habM⟩ := Cond.instanceMethod_spec hinst
  obtain ⟨m8, methM', cM, hn8, hmethM', -, -, -, -, -, -, hsigM⟩ := Cond.codeWith_spec hcode
  cases Option.some.inj (hn8.symm.trans hnamed)
  cases hmethM.symm.trans hmethM'
  obtain ⟨c2, r2, m2, q1, q2, q3, q4, kP, hkP, hkPi⟩ := Cond.selects_spec hsel
  cases hcls.symm.trans q1
  cases (State.methodFound?_of_named hnamed hy).symm.trans q2
  cases hnamed.symm.trans q3
  have hselP : selectMethod e.platform s.vm cellB.cls mk = .method mk := by rw [Launch.admits_selectMethod X.admits]; exact q4
  obtain ⟨vm₁, X₁, hstep₁⟩ := X.invokevirtual hexec hown hlink hnamed hmethM hstM hkP hkPi hy (a := b) (cell := cellB) hcell
    (fun z h => by rw [h] at hobj; cases hobj) hselP hmethM habM hkP hkPi (g := g) hg (argsL := argsL) (rest := rest) (hlen _ hsigM) hstack hdg
  rcases hK m meth c ⟨T.setVm vm₁, locs, cells, slots⟩ { g with stack := rest } (.invokevirtual index) mk (Value.ref b :: argsL).toArray X₁ hg hsize hdg hW (X₁.named hnamed) (hpre vm₁ X₁.warmed) with ⟨v, B, X', hpost, hsteps⟩ | ⟨q, B, X', hpost, hsteps⟩
  · exact Or.inl ⟨v, vm₁, B, X₁.warmed, X', hpost, fun target h => hstep₁ _ fun acts => by rw [doInvoke_state]; exact hsteps.trans h⟩
  · exact Or.inr ⟨q, vm₁, B, X₁.warmed, X', hpost, hstep₁ _ fun acts => by rw [doInvoke_state]; exact hsteps⟩
theorem vx_callSX (X : Stand p l e R s m args below meth c T locs cells slots) (hexec : p.tables.exec = Jvm.exec) {own : String} {index : Nat} {y : MethodName} {bytes : ByteArray} {maxL : Nat} {ret : Option FieldType} {hh : List (Nat × Nat × Nat × Nat)}
    (hown : s.vm.findClass own = some m.cls) (hlink : (Cond.methodLink own index y).before args s = true) (hstat : (Cond.static y).before args s = true) (hinit : (Cond.initialized y.cls).before args s = true)
    (hcode : (Cond.codeWith y bytes maxL ret hh).before args s = true) (hy : y.cls ≠ "java/lang/invoke/MethodHandle" ∧ y.cls ≠ "java/lang/invoke/VarHandle")
    {W9 : Nat} {Pre : Pt → Array Value → Prop} {Post : Pt → Array Value → Option Value → Pt → Prop} {PostX : Pt → Array Value → Addr → Pt → Prop} (hK : vx_Back l R p e below s args y 3 W9 Pre Post PostX)
    {g : JFrame} (hg : g.method = m) (hsize : g.locals.size = c.maxLocals) {argsL rest : List Value} (hlen : ∀ sig, parseMethodDescriptor y.desc = some sig → argsL.length = sig.parameters.length)
    (hstack : g.stack = argsL.reverse ++ rest) (hW : 2 * g.monitorRoom + (rest.map fun v => v.category).sum ≤ W9) (hdg : decode c.code g.pc = .ok (.invokestatic index, 3))
    (hpre : ∀ vm₁, s.WarmedH vm₁ → Pre ⟨T.setVm vm₁, locs, cells, slots⟩ argsL.toArray) :
    (∃ (v : Option Value) (vm₁ : Vm) (B : Pt), s.WarmedH vm₁ ∧ Stand p l e R s m args below meth c B.U B.locs B.cells B.slots ∧ Post ⟨T.setVm vm₁, locs, cells, slots⟩ argsL.toArray v B ∧
      ∀ target, Steps p.tables e below (B.U.setTop { g with pc := g.pc + 3, stack := v.toList ++ rest }) target → Steps p.tables e below (T.setTop g) target) ∨
    (∃ (q : Addr) (vm₁ : Vm) (B : Pt), s.WarmedH vm₁ ∧ Stand p l e R s m args below meth c B.U B.locs B.cells B.slots ∧ PostX ⟨T.setVm vm₁, locs, cells, slots⟩ argsL.toArray q B ∧
      Steps p.tables e below (T.setTop g) ((B.U.setTop { g with stack := rest }).pushFrame (.throwing q))) := by
  obtain ⟨mk, methM, cM, hnamed, hmethM, -, -, -, -, -, -, hsigM⟩ := Cond.codeWith_spec hcode
  have hstatic : methM.isStatic = true := Cond.static_spec hnamed hmethM hstat
  obtain ⟨kP, hkP, -⟩ := className_of_methodNamed hnamed
  have hinitP : kP.init = .initialized := Cond.initialized_spec (findClass_of_methodNamed hnamed) hkP hinit
  obtain ⟨vm₁, X₁, hstep₁⟩ := X.invokestatic hexec hown hlink hnamed hmethM hstatic hkP hinitP hy (g := g) hg (argsL := argsL) (rest := rest) (hlen _ hsigM) hstack hdg
  rcases hK m meth c ⟨T.setVm vm₁, locs, cells, slots⟩ { g with stack := rest } (.invokestatic index) mk argsL.toArray X₁ hg hsize hdg hW (X₁.named hnamed) (hpre vm₁ X₁.warmed) with ⟨v, B, X', hpost, hsteps⟩ | ⟨q, B, X', hpost, hsteps⟩
  · exact Or.inl ⟨v, vm₁, B, X₁.warmed, X', hpost, fun target h => hstep₁ _ fun acts => by rw [doInvoke_state]; exact hsteps.trans h⟩
  · exact Or.inr ⟨q, vm₁, B, X₁.warmed, X', hpost, hstep₁ _ fun acts => by rw [doInvoke_state]; exact hsteps⟩
theorem vx_callVW (X : Stand p l e R s m args below meth c T locs cells slots) (hexec : p.tables.exec = Jvm.exec) {own C : String} {index : Nat} {y : MethodName} {bytes : ByteArray} {maxL : Nat} {ret : Option FieldType} {hh : List (Nat × Nat × Nat × Nat)}
    (hown : s.vm.findClass own = some m.cls) (hlink : (Cond.methodLink own index y).before args s = true) (hinst : (Cond.instanceMethod y).before args s = true) (hsel : (Cond.selects C y y).before args s = true)
    (hcode : (Cond.codeWith y bytes maxL ret hh).before args s = true) (hy : y.cls ≠ "java/lang/invoke/MethodHandle" ∧ y.cls ≠ "java/lang/invoke/VarHandle")
    {W9 : Nat} {Pre : Pt → Array Value → Prop} {Post : Pt → Array Value → Option Value → Pt → Prop} (hK : Back l R p e below s args y 3 W9 Pre Post)
    {b : Addr} {cellB : Cell} (hcell : T.heap[b]? = some cellB) (hobj : cellB.vm.isStatics = false) (hcls : s.vm.findClass C = some cellB.cls)
    {g : JFrame} (hg : g.method = m) (hsize : g.locals.size = c.maxLocals) {argsL rest : List Value} (hlen : ∀ sig, parseMethodDescriptor y.desc = some sig → argsL.length = sig.parameters.length)
    (hstack : g.stack = argsL.reverse ++ .ref b :: rest) (hW : 2 * g.monitorRoom + (rest.map fun v => v.category).sum ≤ W9) (hdg : decode c.code g.pc = .ok (.invokevirtual index, 3))
    (hpre : ∀ vm₁, s.WarmedH vm₁ → Pre ⟨T.setVm vm₁, locs, cells, slots⟩ (Value.ref b :: argsL).toArray) :
    ∃ (v : Option Value) (vm₁ : Vm) (B : Pt), s.WarmedH vm₁ ∧ Stand p l e R s m args below meth c B.U B.locs B.cells B.slots ∧ Post ⟨T.setVm vm₁, locs, cells, slots⟩ (Value.ref b :: argsL).toArray v B ∧
      ∀ target, Steps p.tables e below (B.U.setTop { g with pc := g.pc + 3, stack := v.toList ++ rest }) target → Steps p.tables e below (T.setTop g) target := by
  obtain ⟨mk, methM, hnamed, hmethM, hstM, habM⟩ := Cond.instanceMethod_spec hinst
  obtain ⟨m8, methM', cM, hn8, hmethM', -, -, -, -, -, -, hsigM⟩ := Cond.codeWith_spec hcode
  cases Option.some.inj (hn8.symm.trans hnamed)
  cases hmethM.symm.trans hmethM'
  obtain ⟨c2, r2, m2, q1, q2, q3, q4, kP, hkP, hkPi⟩ := Cond.selects_spec hsel
  cases hcls.symm.trans q1
  cases (State.methodFound?_of_named hnamed hy).symm.trans q2
  cases hnamed.symm.trans q3
  have hselP : selectMethod e.platform s.vm cellB.cls mk = .method mk := by rw [Launch.admits_selectMethod X.admits]; exact q4
  obtain ⟨vm₁, X₁, hstep₁⟩ := X.invokevirtual hexec hown hlink hnamed hmethM hstM hkP hkPi hy (a := b) (cell := cellB) hcell
    (fun z h => by rw [h] at hobj; cases hobj) hselP hmethM habM hkP hkPi (g := g) hg (argsL := argsL) (rest := rest) (hlen _ hsigM) hstack hdg
  obtain ⟨v, B, X', hpost, hsteps⟩ := hK m meth c ⟨T.setVm vm₁, locs, cells, slots⟩ { g with stack := rest } (.invokevirtual index) mk (Value.ref b :: argsL).toArray X₁ hg hsize hdg hW (X₁.named hnamed) (hpre vm₁ X₁.warmed)
  exact ⟨v, vm₁, B, X₁.warmed, X', hpost, fun target h => hstep₁ _ fun acts => by rw [doInvoke_state]; exact hsteps.trans h⟩
abbrev vx_CVW (R : Room) (s : State) (args : Array Value) (own C : String) (index : Nat) (y : MethodName) (bytes : ByteArray) (maxL : Nat) (ret : Option FieldType) (hh : List (Nat × Nat × Nat × Nat)) (ws : List Cond) (rm : Room) (mc ms n : Nat) : Prop :=
  (rm.cells = mc ∧ rm.slots = ms ∧ rm.frames + 1 ≤ R.frames ∧ 8 + (maxL + 11) + rm.locals ≤ R.locals ∧ (∀ w ∈ ws, ∀ (a' : Array Value) (U : State), s.WarmedH U.vm → w.before a' U = true) ∧ Cond.codeWith y bytes maxL ret hh ∈ ws) ∧
  (Cond.codeWith y bytes maxL ret hh).before args s = true ∧ (Cond.initialized y.cls).before args s = true ∧ (y.cls ≠ "java/lang/invoke/MethodHandle" ∧ y.cls ≠ "java/lang/invoke/VarHandle") ∧
  (∀ sig, parseMethodDescriptor y.desc = some sig → n = sig.parameters.length) ∧ (Cond.methodLink own index y).before args s = true ∧ (Cond.instanceMethod y).before args s = true ∧ (Cond.selects C y y).before args s = true
theorem vx_cwVW {own C : String} {index maxL mc ms : Nat} {y : MethodName} {bytes : ByteArray} {ret : Option FieldType} {hh : List (Nat × Nat × Nat × Nat)} {Ts ws ws' : List Cond} {rm : Room} (n : Nat) (ht : ∀ w ∈ Ts, w.before args s = true) (hT : GoodIn Ts (wsV own index C y ws)) (hw : ws = Cond.codeWith y bytes maxL ret hh :: ws') (hrc : rm.cells = mc) (hrs : rm.slots = ms)
    (hd : y.cls = C ∧ y.cls ≠ "java/lang/invoke/MethodHandle" ∧ y.cls ≠ "java/lang/invoke/VarHandle" ∧ (parseMethodDescriptor y.desc).map (fun d => d.parameters.length) = some n) (hR : rm.frames + 1 ≤ R.frames ∧ 8 + (maxL + 11) + rm.locals ≤ R.locals) :
    vx_CVW R s args own C index y bytes maxL ret hh ws rm mc ms n := by
  obtain ⟨hC, hd⟩ := hd
  subst hC
  have ok : ∀ w ∈ wsV own index y.cls y ws, w.before args s = true := fun w h => ht w (hT w h).1
  have hG : GoodIn Ts ws := fun w h => hT w (by unfold wsV; exact List.mem_append_right _ h)
  have hc : Cond.codeWith y bytes maxL ret hh ∈ ws := by rw [hw]; exact List.mem_cons_self
  refine ⟨⟨hrc, hrs, hR.1, hR.2, pay_in ht hG, hc⟩, ht _ (hG _ hc).1, ok _ (by simp [wsV]), ⟨hd.1, hd.2.1⟩, fun sig h => ?_, ok _ (by simp [wsV]), ok _ (by simp [wsV]), ok _ (by simp [wsV])⟩
  have h2 := hd.2.2
  rw [h] at h2
  exact (Option.some.inj h2).symm
theorem vx_runVW {y : MethodName} {bytes cc : ByteArray} {maxL nL mc ms n index : Nat} {ret : Option FieldType} {hh : List (Nat × Nat × Nat × Nat)} {ws : List Cond} {rm : Room} {Pc : Array Value → State → Prop} {Qc : Array Value → State → Outcome → State → Prop} {free : Addr → Prop} {Ts : List Cond} {own C : String} {b : Addr} {As rest : List Value} {g : JFrame}
    (S : CallFix p m c cc nL s args Ts own) (hM : Met l y ws rm Pc Qc mc ms free) (cw : vx_CVW R s args own C index y bytes maxL ret hh ws rm mc ms n) (hp : PreV s H C b Pc As)
    (hg : g.method = m) (hn : As.length = n) (hsize : g.locals.size = nL) (hstack : g.stack = As.reverse ++ .ref b :: rest) (hW : 2 * g.monitorRoom + (rest.map fun v => v.category).sum ≤ 8) (hdg : decode cc g.pc = .ok (.invokevirtual index, 3)) (hf : cells + mc ≤ R.cells ∧ slots + ms ≤ R.slots) :
    va_Run p l e R s m args below meth c H locs cells slots mc ms g rest (Qc (Value.ref b :: As).toArray) free := by
  obtain ⟨⟨hrc, hrs, hfr, hlo, hws, hcw⟩, hcode, hini, hy, hlen, hl, hin, hse⟩ := cw
  have hK : Back l R p e below s args y 3 8 (PreOf R mc ms Pc) (PostOf Qc mc ms free) := va_backW (hh := hh) (bytes := bytes) (maxL := maxL) (ret := ret) hM hp.1 hrc hrs hfr hlo hws hcw (fun a' U hW => word_at hW (Or.inl (by first | rfl | simp [Cond.onTables, Cond.keeps, Cond.steady])) hini)
  obtain ⟨hx, hb, hml, ho, -⟩ := S
  obtain ⟨-, ⟨cellB, hcB, hoB, hclB⟩, hPc⟩ := hp
  intro T hT X
  obtain ⟨v, vm₁, ⟨U', l2, c2, s2⟩, hW₁, X', ⟨g', mk, t, L, e1, e2, hq, h1, hL, h2, h3⟩, st⟩ := vx_callVW X hx (C := C) (hh := hh) (bytes := bytes) (maxL := maxL) (ret := ret) ho hl hin hse hcode hy hK (by rw [hT]; exact hcB) hoB hclB hg (hsize.trans hml.symm) (argsL := As) (rest := rest) (fun sig h => hn.trans (hlen sig h)) hstack hW (by rw [hb]; exact hdg)
    (fun vm₁ hW₁ => ⟨hf.1, hf.2, hPc (T.setVm vm₁) hT hW₁⟩)
  dsimp only [Pt.U, Pt.locs, Pt.cells, Pt.slots] at X' e1 e2 h1 h2 h3 st
  subst h1; subst h2; subst h3
  exact ⟨v, (T.setVm vm₁).calling g' mk (Value.ref b :: As).toArray, t, U', L, hT, X', hL, e1, e2, hq, st⟩
section
variable {y : MethodName} {bytes cc : ByteArray} {maxL nL mc ms n index : Nat} {ret : Option FieldType} {ws : List Cond} {rm : Room} {Pc : Array Value → State → Prop} {Qc : Array Value → State → Outcome → State → Prop} {XC : String → State → State → Prop} {free : Addr → Prop} {Ts : List Cond} {own C : String} {b : Addr} {As rest : List Value} {g : JFrame}
theorem vx_runVX {hh : List (Nat × Nat × Nat × Nat)} (S : CallFix p m c cc nL s args Ts own) (hM : vx_Met l y ws rm Pc Qc XC mc ms free) (cw : vx_CVW R s args own C index y bytes maxL ret hh ws rm mc ms n) (hp : PreV s H C b Pc As)
    (hg : g.method = m) (hn : As.length = n) (hsize : g.locals.size = nL) (hstack : g.stack = As.reverse ++ .ref b :: rest) (hW : 2 * g.monitorRoom + (rest.map fun v => v.category).sum ≤ 8) (hdg : decode cc g.pc = .ok (.invokevirtual index, 3)) (hf : cells + mc ≤ R.cells ∧ slots + ms ≤ R.slots) :
    vx_Run p l e R s m args below meth c H locs cells slots mc ms g rest (Qc (Value.ref b :: As).toArray) XC free := by
  obtain ⟨⟨hrc, hrs, hfr, hlo, hws, hcw⟩, hcode, hini, hy, hlen, hl, hin, hse⟩ := cw
  have hK : vx_Back l R p e below s args y 3 8 (PreOf R mc ms Pc) (PostOf Qc mc ms free) (vx_Post XC mc ms free) := vx_backW (hh := hh) (bytes := bytes) (maxL := maxL) (ret := ret) hM hp.1 hrc hrs hfr hlo hws hcw (fun a' U hW => word_at hW (Or.inl (by first | rfl | simp [Cond.onTables, Cond.keeps, Cond.steady])) hini)
  obtain ⟨hx, hb, hml, ho, -⟩ := S
  obtain ⟨-, ⟨cellB, hcB, hoB, hclB⟩, hPc⟩ := hp
  intro T hT X
  rcases vx_callVX X hx (C := C) (hh := hh) (bytes := bytes) (maxL := maxL) (ret := ret) ho hl hin hse hcode hy hK (by rw [hT]; exact hcB) hoB hclB hg (hsize.trans hml.symm) (argsL := As) (rest := rest) (fun sig h => hn.trans (hlen sig h)) hstack hW (by rw [hb]; exact hdg)
    (fun vm₁ hW₁ => ⟨hf.1, hf.2, hPc (T.setVm vm₁) hT hW₁⟩) with ⟨v, vm₁, ⟨U', l2, c2, s2⟩, hW₁, X', ⟨g', mk, t, L, e1, e2, hq, h1, hL, h2, h3⟩, st⟩ | ⟨q, vm₁, ⟨U', l2, c2, s2⟩, hW₁, X', ⟨g', mk, t, L, E, ce, e1, e2, hq, hce, hcv, hcl, h1, hL, h2, h3⟩, st⟩
  · dsimp only [Pt.U, Pt.locs, Pt.cells, Pt.slots] at X' e1 e2 h1 h2 h3 st
    subst h1; subst h2; subst h3
    exact Or.inl ⟨v, (T.setVm vm₁).calling g' mk (Value.ref b :: As).toArray, t, U', L, hT, X', hL, e1, e2, hq, st⟩
  · dsimp only [Pt.U, Pt.locs, Pt.cells, Pt.slots] at X' e1 e2 h1 h2 h3 st hcl
    subst h1; subst h2; subst h3
    exact Or.inr ⟨q, (T.setVm vm₁).calling g' mk (Value.ref b :: As).toArray, t, U', L, E, ce, hT, X', hL, e1, e2, hq, hce, hcv, vx_cls hW₁ hcl, st⟩
theorem vx_runSX {hh : List (Nat × Nat × Nat × Nat)} (S : CallFix p m c cc nL s args Ts own) (hM : vx_Met l y ws rm Pc Qc XC mc ms free) (cw : vx_CSW R s args own index y bytes maxL ret hh ws rm mc ms n) (hp : PreS s H Pc As)
    (hg : g.method = m) (hn : As.length = n) (hsize : g.locals.size = nL) (hstack : g.stack = As.reverse ++ rest) (hW : 2 * g.monitorRoom + (rest.map fun v => v.category).sum ≤ 8) (hdg : decode cc g.pc = .ok (.invokestatic index, 3)) (hf : cells + mc ≤ R.cells ∧ slots + ms ≤ R.slots) :
    vx_Run p l e R s m args below meth c H locs cells slots mc ms g rest (Qc As.toArray) XC free := by
  obtain ⟨⟨hrc, hrs, hfr, hlo, hws, hcw⟩, hcode, hini, hy, hlen, hl, hstt⟩ := cw
  have hK : vx_Back l R p e below s args y 3 8 (PreOf R mc ms Pc) (PostOf Qc mc ms free) (vx_Post XC mc ms free) := vx_backW (hh := hh) (bytes := bytes) (maxL := maxL) (ret := ret) hM hp.1 hrc hrs hfr hlo hws hcw (fun a' U hW => word_at hW (Or.inl (by first | rfl | simp [Cond.onTables, Cond.keeps, Cond.steady])) hini)
  obtain ⟨hx, hb, hml, ho, -⟩ := S
  intro T hT X
  rcases vx_callSX X hx (hh := hh) (bytes := bytes) (maxL := maxL) (ret := ret) ho hl hstt hini hcode hy hK hg (hsize.trans hml.symm) (argsL := As) (rest := rest) (fun sig h => hn.trans (hlen sig h)) hstack hW (by rw [hb]; exact hdg)
    (fun vm₁ hW₁ => ⟨hf.1, hf.2, hp.2 (T.setVm vm₁) hT hW₁⟩) with ⟨v, vm₁, ⟨U', l2, c2, s2⟩, hW₁, X', ⟨g', mk, t, L, e1, e2, hq, h1, hL, h2, h3⟩, st⟩ | ⟨q, vm₁, ⟨U', l2, c2, s2⟩, hW₁, X', ⟨g', mk, t, L, E, ce, e1, e2, hq, hce, hcv, hcl, h1, hL, h2, h3⟩, st⟩
  · dsimp only [Pt.U, Pt.locs, Pt.cells, Pt.slots] at X' e1 e2 h1 h2 h3 st
    subst h1; subst h2; subst h3
    exact Or.inl ⟨v, (T.setVm vm₁).calling g' mk As.toArray, t, U', L, hT, X', hL, e1, e2, hq, st⟩
  · dsimp only [Pt.U, Pt.locs, Pt.cells, Pt.slots] at X' e1 e2 h1 h2 h3 st hcl
    subst h1; subst h2; subst h3
    exact Or.inr ⟨q, (T.setVm vm₁).calling g' mk As.toArray, t, U', L, E, ce, hT, X', hL, e1, e2, hq, hce, hcv, vx_cls hW₁ hcl, st⟩
end
end VXH
theorem vx_ofWH {l : Launch} {y : MethodName} {ws ws' : List Cond} {rm : Room} {Pc : Array Value → State → Prop} {Qc : Array Value → State → Outcome → State → Prop} {XC : String → State → State → Prop} {mc ms : Nat} {free : Addr → Prop} {cc : ByteArray} {maxL : Nat} {ret : Option FieldType} {hh : List (Nat × Nat × Nat × Nat)}
    (hy : plainName y.cls = true) (hw : ws = Cond.codeWith y cc maxL ret hh :: ws')
    (body : ∀ p e s m args below meth c s₁, BodyLoose p l y (headSpec ws rm) cc maxL ret e s m args below meth c s₁ → c.maxLocals = maxL → Pc args s →
      W p l e (headSpec ws rm).room s m args below meth c s.heap [] 0 0 (vx_MQ below Qc XC args s mc ms free) (entryFrame m args maxL)) : vx_Met l y ws rm Pc Qc XC mc ms free := by
  refine MetFree.of_bodyS (code := cc) (maxLocals := maxL) (ret := ret) hy ?_ ?_
  · intro args s m h hn
    obtain ⟨m9, meth, c, hn9, h1, h2, h3, h4, -, h5, h6, -⟩ := Cond.codeWith_spec (atoms_spec (ws := ws) h _ (by rw [hw]; exact List.mem_cons_self))
    cases hn.symm.trans hn9
    exact ⟨meth, c, h1, h2, h3, h4, h5, h6⟩
  · intro p e s m args below meth c s₁ B hml hP _
    have hh0 : s₁.heap = s.heap := by rw [B.state]; rfl
    obtain ⟨t, a1, o, b1, b2, b3⟩ := body p e s m args below meth c s₁ B hml hP s₁ hh0 (Stand.of_body B)
    exact ⟨t, o, a1, b1, b2, b3⟩
/-! ===== END ===== -/

/-! ===== BEGIN printed: names, fields, word lists, decode rows ===== -/
def RX0 : String := "GridHouse$Big"
def TX0 : u_T := fun k => match k with
  | 0 => ("GridHouse$Big", "limb", "[J", true)
  | 1 => ("GridHouse$Big", "size", "I", false)
  | _ => ("GridHouse$Big", "minus", "Z", false)
def tyX0 : Nat → FieldType := fun k => match k with
  | 0 => .array .long
  | 1 => .int
  | _ => .boolean
abbrev wsX00 : List Cond := u_ws RX0 TX0 3
theorem nmX0 : ∀ a, a < 3 → ∀ b, b < 3 → a ≠ b → (TX0 a).2.1 ≠ (TX0 b).2.1 := by decide +kernel
theorem tyX0_ok : ∀ k, k < 3 → parseFieldDescriptor (TX0 k).2.2.1 = some (tyX0 k) := by decide +kernel
abbrev cX0_init : ByteArray := prog_2_method_1_code
def yX0_init : MethodName := ⟨RX0, "<init>", "(I)V"⟩
abbrev cX0_many : ByteArray := prog_2_method_2_code
def yX0_many : MethodName := ⟨RX0, "many", "(II)[LGridHouse$Big;"⟩
abbrev cX0_sign : ByteArray := prog_2_method_3_code
def yX0_sign : MethodName := ⟨RX0, "sign", "()I"⟩
abbrev cX0_isSmall : ByteArray := prog_2_method_4_code
def yX0_isSmall : MethodName := ⟨RX0, "isSmall", "()Z"⟩
abbrev cX0_small : ByteArray := prog_2_method_5_code
def yX0_small : MethodName := ⟨RX0, "small", "()J"⟩
abbrev cX0_put : ByteArray := prog_2_method_6_code
def yX0_put : MethodName := ⟨RX0, "put", "(J)V"⟩
abbrev cX0_copy : ByteArray := prog_2_method_7_code
def yX0_copy : MethodName := ⟨RX0, "copy", "(LGridHouse$Big;)V"⟩
abbrev cX0_negate : ByteArray := prog_2_method_8_code
def yX0_negate : MethodName := ⟨RX0, "negate", "()V"⟩
abbrev cX0_unsign : ByteArray := prog_2_method_9_code
def yX0_unsign : MethodName := ⟨RX0, "unsign", "()V"⟩
abbrev cX0_trim : ByteArray := prog_2_method_10_code
def yX0_trim : MethodName := ⟨RX0, "trim", "()V"⟩
abbrev cX0_compareSize : ByteArray := prog_2_method_11_code
def yX0_compareSize : MethodName := ⟨RX0, "compareSize", "(LGridHouse$Big;)I"⟩
abbrev cX0_compare : ByteArray := prog_2_method_12_code
def yX0_compare : MethodName := ⟨RX0, "compare", "(LGridHouse$Big;)I"⟩
abbrev cX0_more : ByteArray := prog_2_method_13_code
def yX0_more : MethodName := ⟨RX0, "more", "(LGridHouse$Big;)V"⟩
abbrev cX0_less : ByteArray := prog_2_method_14_code
def yX0_less : MethodName := ⟨RX0, "less", "(LGridHouse$Big;)V"⟩
abbrev cX0_grow : ByteArray := prog_2_method_15_code
def yX0_grow : MethodName := ⟨RX0, "grow", "(LGridHouse$Big;)V"⟩
abbrev cX0_shrink : ByteArray := prog_2_method_16_code
def yX0_shrink : MethodName := ⟨RX0, "shrink", "(LGridHouse$Big;LGridHouse$Big;)V"⟩
abbrev cX0_wrap : ByteArray := prog_2_method_17_code
def yX0_wrap : MethodName := ⟨RX0, "wrap", "(LGridHouse$Big;LGridHouse$Big;)V"⟩
abbrev cX0_product : ByteArray := prog_2_method_18_code
def yX0_product : MethodName := ⟨RX0, "product", "(LGridHouse$Big;LGridHouse$Big;)V"⟩
abbrev cX0_scale : ByteArray := prog_2_method_19_code
def yX0_scale : MethodName := ⟨RX0, "scale", "(J)V"⟩
abbrev cX0_moreTimes : ByteArray := prog_2_method_20_code
def yX0_moreTimes : MethodName := ⟨RX0, "moreTimes", "(LGridHouse$Big;J)V"⟩
abbrev cX0_left : ByteArray := prog_2_method_21_code
def yX0_left : MethodName := ⟨RX0, "left", "(J)J"⟩
abbrev cX0_shorten : ByteArray := prog_2_method_22_code
def yX0_shorten : MethodName := ⟨RX0, "shorten", "(J)J"⟩
abbrev cX0_divide : ByteArray := prog_2_method_23_code
def yX0_divide : MethodName := ⟨RX0, "divide", "(LGridHouse$Big;LGridHouse$Big;)V"⟩
abbrev cX0_takeOff : ByteArray := prog_2_method_24_code
def yX0_takeOff : MethodName := ⟨RX0, "takeOff", "(LGridHouse$Big;I)J"⟩
abbrev cX0_addBack : ByteArray := prog_2_method_25_code
def yX0_addBack : MethodName := ⟨RX0, "addBack", "(LGridHouse$Big;I)V"⟩
def RX1 : String := "GridHouse$Dispatch"
def TX1 : u_T := fun k => match k with
  | 0 => ("GridHouse$Dispatch", "shape", "LGridHouse$Shape;", true)
  | 1 => ("GridHouse$Dispatch", "net", "LGridHouse$Net;", true)
  | 2 => ("GridHouse$Dispatch", "solver", "LGridHouse$Solver;", true)
  | 3 => ("GridHouse$Dispatch", "parts", "I", false)
  | 4 => ("GridHouse$Dispatch", "machineOf", "[I", true)
  | 5 => ("GridHouse$Dispatch", "costOf", "[I", true)
  | 6 => ("GridHouse$Dispatch", "startOf", "[I", true)
  | 7 => ("GridHouse$Dispatch", "turned", "[Z", true)
  | 8 => ("GridHouse$Dispatch", "most", "[I", true)
  | 9 => ("GridHouse$Dispatch", "keeper", "[I", true)
  | 10 => ("GridHouse$Dispatch", "rows", "I", false)
  | 11 => ("GridHouse$Dispatch", "columns", "I", false)
  | 12 => ("GridHouse$Dispatch", "rowVariable", "[I", true)
  | 13 => ("GridHouse$Dispatch", "columnVariable", "[I", true)
  | 14 => ("GridHouse$Dispatch", "cell", "[LGridHouse$Big;", true)
  | 15 => ("GridHouse$Dispatch", "common", "LGridHouse$Big;", true)
  | 16 => ("GridHouse$Dispatch", "help", "[LGridHouse$Big;", true)
  | 17 => ("GridHouse$Dispatch", "best", "[LGridHouse$Big;", true)
  | 18 => ("GridHouse$Dispatch", "known", "Z", false)
  | _ => ("GridHouse$Dispatch", "found", "Z", false)
def tyX1 : Nat → FieldType := fun k => match k with
  | 0 => .object "GridHouse$Shape"
  | 1 => .object "GridHouse$Net"
  | 2 => .object "GridHouse$Solver"
  | 3 => .int
  | 4 => .array .int
  | 5 => .array .int
  | 6 => .array .int
  | 7 => .array .boolean
  | 8 => .array .int
  | 9 => .array .int
  | 10 => .int
  | 11 => .int
  | 12 => .array .int
  | 13 => .array .int
  | 14 => .array (.object "GridHouse$Big")
  | 15 => .object "GridHouse$Big"
  | 16 => .array (.object "GridHouse$Big")
  | 17 => .array (.object "GridHouse$Big")
  | 18 => .boolean
  | _ => .boolean
abbrev wsX10 : List Cond := u_ws RX1 TX1 20
theorem nmX1 : ∀ a, a < 20 → ∀ b, b < 20 → a ≠ b → (TX1 a).2.1 ≠ (TX1 b).2.1 := by decide +kernel
theorem tyX1_ok : ∀ k, k < 20 → parseFieldDescriptor (TX1 k).2.2.1 = some (tyX1 k) := by decide +kernel
abbrev cX1_init : ByteArray := prog_3_method_1_code
def yX1_init : MethodName := ⟨RX1, "<init>", "(LGridHouse$Shape;LGridHouse$Solver;)V"⟩
abbrev cX1_solve : ByteArray := prog_3_method_2_code
def yX1_solve : MethodName := ⟨RX1, "solve", "()V"⟩
abbrev cX1_tellMachine : ByteArray := prog_3_method_3_code
def yX1_tellMachine : MethodName := ⟨RX1, "tellMachine", "(ILGridHouse$Hand;)V"⟩
abbrev cX1_tellCost : ByteArray := prog_3_method_4_code
def yX1_tellCost : MethodName := ⟨RX1, "tellCost", "(LGridHouse$Hand;)V"⟩
abbrev cX1_tellPrice : ByteArray := prog_3_method_5_code
def yX1_tellPrice : MethodName := ⟨RX1, "tellPrice", "(LGridHouse$Hand;)V"⟩
abbrev cX1_at : ByteArray := prog_3_method_6_code
def yX1_at : MethodName := ⟨RX1, "at", "(II)LGridHouse$Big;"⟩
abbrev cX1_trial : ByteArray := prog_3_method_7_code
def yX1_trial : MethodName := ⟨RX1, "trial", "(I)Z"⟩
abbrev cX1_cut : ByteArray := prog_3_method_8_code
def yX1_cut : MethodName := ⟨RX1, "cut", "()V"⟩
abbrev cX1_addPart : ByteArray := prog_3_method_9_code
def yX1_addPart : MethodName := ⟨RX1, "addPart", "(III)V"⟩
abbrev cX1_islandOf : ByteArray := prog_3_method_10_code
def yX1_islandOf : MethodName := ⟨RX1, "islandOf", "(I)I"⟩
abbrev cX1_share : ByteArray := prog_3_method_11_code
def yX1_share : MethodName := ⟨RX1, "share", "(I)Z"⟩
abbrev cX1_shareIn : ByteArray := prog_3_method_12_code
def yX1_shareIn : MethodName := ⟨RX1, "shareIn", "(II)Z"⟩
abbrev cX1_setOut : ByteArray := prog_3_method_13_code
def yX1_setOut : MethodName := ⟨RX1, "setOut", "()V"⟩
abbrev cX1_measureLines : ByteArray := prog_3_method_14_code
def yX1_measureLines : MethodName := ⟨RX1, "measureLines", "(I)V"⟩
abbrev cX1_injectStart : ByteArray := prog_3_method_15_code
def yX1_injectStart : MethodName := ⟨RX1, "injectStart", "(II)V"⟩
abbrev cX1_injectColumn : ByteArray := prog_3_method_16_code
def yX1_injectColumn : MethodName := ⟨RX1, "injectColumn", "(II)V"⟩
abbrev cX1_foldLines : ByteArray := prog_3_method_17_code
def yX1_foldLines : MethodName := ⟨RX1, "foldLines", "(IJ)V"⟩
abbrev cX1_fillParts : ByteArray := prog_3_method_18_code
def yX1_fillParts : MethodName := ⟨RX1, "fillParts", "()V"⟩
abbrev cX1_takeFromKeeper : ByteArray := prog_3_method_19_code
def yX1_takeFromKeeper : MethodName := ⟨RX1, "takeFromKeeper", "(III)V"⟩
abbrev cX1_add : ByteArray := prog_3_method_20_code
def yX1_add : MethodName := ⟨RX1, "add", "(IIJ)V"⟩
abbrev cX1_leaving : ByteArray := prog_3_method_21_code
def yX1_leaving : MethodName := ⟨RX1, "leaving", "()I"⟩
abbrev cX1_turn : ByteArray := prog_3_method_22_code
def yX1_turn : MethodName := ⟨RX1, "turn", "(I)V"⟩
abbrev cX1_entering : ByteArray := prog_3_method_23_code
def yX1_entering : MethodName := ⟨RX1, "entering", "(I)I"⟩
abbrev cX1_isAhead : ByteArray := prog_3_method_24_code
def yX1_isAhead : MethodName := ⟨RX1, "isAhead", "(III)Z"⟩
abbrev cX1_pivot : ByteArray := prog_3_method_25_code
def yX1_pivot : MethodName := ⟨RX1, "pivot", "(II)V"⟩
abbrev cX1_update : ByteArray := prog_3_method_26_code
def yX1_update : MethodName := ⟨RX1, "update", "(LGridHouse$Big;LGridHouse$Big;LGridHouse$Big;LGridHouse$Big;)V"⟩
def RX2 : String := "GridHouse$Flow"
def TX2 : u_T := fun k => match k with
  | 0 => ("GridHouse$Flow", "shape", "LGridHouse$Shape;", true)
  | 1 => ("GridHouse$Flow", "net", "LGridHouse$Net;", true)
  | 2 => ("GridHouse$Flow", "solver", "LGridHouse$Solver;", true)
  | 3 => ("GridHouse$Flow", "gap", "[I", true)
  | 4 => ("GridHouse$Flow", "total", "[I", true)
  | 5 => ("GridHouse$Flow", "solvable", "[Z", true)
  | 6 => ("GridHouse$Flow", "stuck", "[Z", true)
  | 7 => ("GridHouse$Flow", "top", "[LGridHouse$Big;", true)
  | 8 => ("GridHouse$Flow", "whole", "LGridHouse$Big;", true)
  | 9 => ("GridHouse$Flow", "one", "LGridHouse$Big;", true)
  | 10 => ("GridHouse$Flow", "other", "LGridHouse$Big;", true)
  | 11 => ("GridHouse$Flow", "solved", "Z", false)
  | 12 => ("GridHouse$Flow", "stuckCount", "I", false)
  | 13 => ("GridHouse$Flow", "lost", "I", false)
  | 14 => ("GridHouse$Flow", "overs", "I", false)
  | 15 => ("GridHouse$Flow", "troubles", "I", false)
  | _ => ("GridHouse$Flow", "troubleOf", "[I", true)
def tyX2 : Nat → FieldType := fun k => match k with
  | 0 => .object "GridHouse$Shape"
  | 1 => .object "GridHouse$Net"
  | 2 => .object "GridHouse$Solver"
  | 3 => .array .int
  | 4 => .array .int
  | 5 => .array .boolean
  | 6 => .array .boolean
  | 7 => .array (.object "GridHouse$Big")
  | 8 => .object "GridHouse$Big"
  | 9 => .object "GridHouse$Big"
  | 10 => .object "GridHouse$Big"
  | 11 => .boolean
  | 12 => .int
  | 13 => .int
  | 14 => .int
  | 15 => .int
  | _ => .array .int
abbrev wsX20 : List Cond := u_ws RX2 TX2 17
theorem nmX2 : ∀ a, a < 17 → ∀ b, b < 17 → a ≠ b → (TX2 a).2.1 ≠ (TX2 b).2.1 := by decide +kernel
theorem tyX2_ok : ∀ k, k < 17 → parseFieldDescriptor (TX2 k).2.2.1 = some (tyX2 k) := by decide +kernel
abbrev cX2_init : ByteArray := prog_4_method_1_code
def yX2_init : MethodName := ⟨RX2, "<init>", "(LGridHouse$Net;LGridHouse$Solver;)V"⟩
abbrev cX2_look : ByteArray := prog_4_method_2_code
def yX2_look : MethodName := ⟨RX2, "look", "()V"⟩
abbrev cX2_addLoads : ByteArray := prog_4_method_3_code
def yX2_addLoads : MethodName := ⟨RX2, "addLoads", "()V"⟩
abbrev cX2_addMachines : ByteArray := prog_4_method_4_code
def yX2_addMachines : MethodName := ⟨RX2, "addMachines", "()V"⟩
abbrev cX2_given : ByteArray := prog_4_method_5_code
def yX2_given : MethodName := ⟨RX2, "given", "(I)I"⟩
abbrev cX2_solve : ByteArray := prog_4_method_6_code
def yX2_solve : MethodName := ⟨RX2, "solve", "()V"⟩
abbrev cX2_inject : ByteArray := prog_4_method_7_code
def yX2_inject : MethodName := ⟨RX2, "inject", "(I)V"⟩
abbrev cX2_tellAngle : ByteArray := prog_4_method_8_code
def yX2_tellAngle : MethodName := ⟨RX2, "tellAngle", "(ILGridHouse$Hand;)V"⟩
abbrev cX2_tellGiven : ByteArray := prog_4_method_9_code
def yX2_tellGiven : MethodName := ⟨RX2, "tellGiven", "(ILGridHouse$Hand;)V"⟩
abbrev cX2_tellCarried : ByteArray := prog_4_method_10_code
def yX2_tellCarried : MethodName := ⟨RX2, "tellCarried", "(ILGridHouse$Hand;)V"⟩
abbrev cX2_carried : ByteArray := prog_4_method_11_code
def yX2_carried : MethodName := ⟨RX2, "carried", "(ILGridHouse$Big;LGridHouse$Big;)V"⟩
abbrev cX2_countOver : ByteArray := prog_4_method_12_code
def yX2_countOver : MethodName := ⟨RX2, "countOver", "()V"⟩
abbrev cX2_tryLines : ByteArray := prog_4_method_13_code
def yX2_tryLines : MethodName := ⟨RX2, "tryLines", "(LGridHouse$Flow;)V"⟩
abbrev cX2_note : ByteArray := prog_4_method_14_code
def yX2_note : MethodName := ⟨RX2, "note", "(ILGridHouse$Flow;)V"⟩
def RX3 : String := "GridHouse$Hand"
def TX3 : u_T := fun k => match k with
  | 0 => ("GridHouse$Hand", "above", "LGridHouse$Big;", true)
  | 1 => ("GridHouse$Hand", "below", "LGridHouse$Big;", true)
  | 2 => ("GridHouse$Hand", "great", "LGridHouse$Big;", true)
  | 3 => ("GridHouse$Hand", "small", "LGridHouse$Big;", true)
  | 4 => ("GridHouse$Hand", "often", "LGridHouse$Big;", true)
  | 5 => ("GridHouse$Hand", "figures", "[[I", true)
  | 6 => ("GridHouse$Hand", "lengths", "[I", true)
  | _ => ("GridHouse$Hand", "lowest", "Z", false)
def tyX3 : Nat → FieldType := fun k => match k with
  | 0 => .object "GridHouse$Big"
  | 1 => .object "GridHouse$Big"
  | 2 => .object "GridHouse$Big"
  | 3 => .object "GridHouse$Big"
  | 4 => .object "GridHouse$Big"
  | 5 => .array (.array .int)
  | 6 => .array .int
  | _ => .boolean
abbrev wsX30 : List Cond := u_ws RX3 TX3 8
theorem nmX3 : ∀ a, a < 8 → ∀ b, b < 8 → a ≠ b → (TX3 a).2.1 ≠ (TX3 b).2.1 := by decide +kernel
theorem tyX3_ok : ∀ k, k < 8 → parseFieldDescriptor (TX3 k).2.2.1 = some (tyX3 k) := by decide +kernel
abbrev cX3_init : ByteArray := prog_5_method_1_code
def yX3_init : MethodName := ⟨RX3, "<init>", "()V"⟩
abbrev cX3_made : ByteArray := prog_5_method_2_code
def yX3_made : MethodName := ⟨RX3, "made", "()I"⟩
abbrev cX3_length : ByteArray := prog_5_method_3_code
def yX3_length : MethodName := ⟨RX3, "length", "(I)I"⟩
abbrev cX3_digit : ByteArray := prog_5_method_4_code
def yX3_digit : MethodName := ⟨RX3, "digit", "(II)I"⟩
abbrev cX3_bringLow : ByteArray := prog_5_method_5_code
def yX3_bringLow : MethodName := ⟨RX3, "bringLow", "()V"⟩
abbrev cX3_common : ByteArray := prog_5_method_6_code
def yX3_common : MethodName := ⟨RX3, "common", "()LGridHouse$Big;"⟩
abbrev cX3_putCommon : ByteArray := prog_5_method_7_code
def yX3_putCommon : MethodName := ⟨RX3, "putCommon", "(LGridHouse$Big;JJ)V"⟩
abbrev cX3_divide : ByteArray := prog_5_method_8_code
def yX3_divide : MethodName := ⟨RX3, "divide", "(LGridHouse$Big;LGridHouse$Big;)V"⟩
abbrev cX3_write : ByteArray := prog_5_method_9_code
def yX3_write : MethodName := ⟨RX3, "write", "(ILGridHouse$Big;)V"⟩
def RX4 : String := "GridHouse$Meters"
def TX4 : u_T := fun k => match k with
  | 0 => ("GridHouse$Meters", "shape", "LGridHouse$Shape;", true)
  | 1 => ("GridHouse$Meters", "net", "LGridHouse$Net;", true)
  | 2 => ("GridHouse$Meters", "solver", "LGridHouse$Solver;", true)
  | 3 => ("GridHouse$Meters", "kind", "[I", true)
  | 4 => ("GridHouse$Meters", "place", "[I", true)
  | 5 => ("GridHouse$Meters", "value", "[I", true)
  | 6 => ("GridHouse$Meters", "weight", "[I", true)
  | 7 => ("GridHouse$Meters", "struck", "[Z", true)
  | 8 => ("GridHouse$Meters", "count", "I", false)
  | 9 => ("GridHouse$Meters", "known", "Z", false)
  | 10 => ("GridHouse$Meters", "seen", "[Z", true)
  | 11 => ("GridHouse$Meters", "whole", "[Z", true)
  | 12 => ("GridHouse$Meters", "top", "[LGridHouse$Big;", true)
  | 13 => ("GridHouse$Meters", "rests", "[LGridHouse$Big;", true)
  | 14 => ("GridHouse$Meters", "spreads", "[LGridHouse$Big;", true)
  | 15 => ("GridHouse$Meters", "common", "LGridHouse$Big;", true)
  | 16 => ("GridHouse$Meters", "help", "[LGridHouse$Big;", true)
  | 17 => ("GridHouse$Meters", "shows", "[[J", true)
  | _ => ("GridHouse$Meters", "ranks", "[I", true)
def tyX4 : Nat → FieldType := fun k => match k with
  | 0 => .object "GridHouse$Shape"
  | 1 => .object "GridHouse$Net"
  | 2 => .object "GridHouse$Solver"
  | 3 => .array .int
  | 4 => .array .int
  | 5 => .array .int
  | 6 => .array .int
  | 7 => .array .boolean
  | 8 => .int
  | 9 => .boolean
  | 10 => .array .boolean
  | 11 => .array .boolean
  | 12 => .array (.object "GridHouse$Big")
  | 13 => .array (.object "GridHouse$Big")
  | 14 => .array (.object "GridHouse$Big")
  | 15 => .object "GridHouse$Big"
  | 16 => .array (.object "GridHouse$Big")
  | 17 => .array (.array .long)
  | _ => .array .int
abbrev wsX40 : List Cond := u_ws RX4 TX4 19
theorem nmX4 : ∀ a, a < 19 → ∀ b, b < 19 → a ≠ b → (TX4 a).2.1 ≠ (TX4 b).2.1 := by decide +kernel
theorem tyX4_ok : ∀ k, k < 19 → parseFieldDescriptor (TX4 k).2.2.1 = some (tyX4 k) := by decide +kernel
abbrev cX4_init : ByteArray := prog_6_method_1_code
def yX4_init : MethodName := ⟨RX4, "<init>", "(LGridHouse$Shape;LGridHouse$Solver;)V"⟩
abbrev cX4_clear : ByteArray := prog_6_method_2_code
def yX4_clear : MethodName := ⟨RX4, "clear", "()V"⟩
abbrev cX4_told : ByteArray := prog_6_method_3_code
def yX4_told : MethodName := ⟨RX4, "told", "(IIII)I"⟩
abbrev cX4_strikes : ByteArray := prog_6_method_4_code
def yX4_strikes : MethodName := ⟨RX4, "strikes", "(IZ)Z"⟩
abbrev cX4_islandOf : ByteArray := prog_6_method_5_code
def yX4_islandOf : MethodName := ⟨RX4, "islandOf", "(I)I"⟩
abbrev cX4_isWhole : ByteArray := prog_6_method_6_code
def yX4_isWhole : MethodName := ⟨RX4, "isWhole", "(I)Z"⟩
abbrev cX4_solve : ByteArray := prog_6_method_7_code
def yX4_solve : MethodName := ⟨RX4, "solve", "()V"⟩
abbrev cX4_lay : ByteArray := prog_6_method_8_code
def yX4_lay : MethodName := ⟨RX4, "lay", "(I[J)V"⟩
abbrev cX4_layLine : ByteArray := prog_6_method_9_code
def yX4_layLine : MethodName := ⟨RX4, "layLine", "(II[J)V"⟩
abbrev cX4_layAngle : ByteArray := prog_6_method_10_code
def yX4_layAngle : MethodName := ⟨RX4, "layAngle", "(IJ[J)V"⟩
abbrev cX4_markSeen : ByteArray := prog_6_method_11_code
def yX4_markSeen : MethodName := ⟨RX4, "markSeen", "()V"⟩
abbrev cX4_rankByPrime : ByteArray := prog_6_method_12_code
def yX4_rankByPrime : MethodName := ⟨RX4, "rankByPrime", "(I)I"⟩
abbrev cX4_isFixed : ByteArray := prog_6_method_13_code
def yX4_isFixed : MethodName := ⟨RX4, "isFixed", "(II)Z"⟩
abbrev cX4_markWhole : ByteArray := prog_6_method_14_code
def yX4_markWhole : MethodName := ⟨RX4, "markWhole", "()V"⟩
abbrev cX4_weigh : ByteArray := prog_6_method_15_code
def yX4_weigh : MethodName := ⟨RX4, "weigh", "()V"⟩
abbrev cX4_clearTops : ByteArray := prog_6_method_16_code
def yX4_clearTops : MethodName := ⟨RX4, "clearTops", "([LGridHouse$Big;)V"⟩
abbrev cX4_heaviest : ByteArray := prog_6_method_17_code
def yX4_heaviest : MethodName := ⟨RX4, "heaviest", "()I"⟩
abbrev cX4_fill : ByteArray := prog_6_method_18_code
def yX4_fill : MethodName := ⟨RX4, "fill", "(I)J"⟩
abbrev cX4_addMeter : ByteArray := prog_6_method_19_code
def yX4_addMeter : MethodName := ⟨RX4, "addMeter", "(II)V"⟩
abbrev cX4_foldMeters : ByteArray := prog_6_method_20_code
def yX4_foldMeters : MethodName := ⟨RX4, "foldMeters", "(IJ)V"⟩
abbrev cX4_dot : ByteArray := prog_6_method_21_code
def yX4_dot : MethodName := ⟨RX4, "dot", "(III)J"⟩
abbrev cX4_tellAngle : ByteArray := prog_6_method_22_code
def yX4_tellAngle : MethodName := ⟨RX4, "tellAngle", "(ILGridHouse$Hand;)V"⟩
abbrev cX4_tellRest : ByteArray := prog_6_method_23_code
def yX4_tellRest : MethodName := ⟨RX4, "tellRest", "(IILGridHouse$Hand;)V"⟩
abbrev cX4_greatest : ByteArray := prog_6_method_24_code
def yX4_greatest : MethodName := ⟨RX4, "greatest", "()I"⟩
abbrev cX4_isWorse : ByteArray := prog_6_method_25_code
def yX4_isWorse : MethodName := ⟨RX4, "isWorse", "(II)Z"⟩
abbrev cX4_weighed : ByteArray := prog_6_method_26_code
def yX4_weighed : MethodName := ⟨RX4, "weighed", "(IILGridHouse$Big;)V"⟩
def RX5 : String := "GridHouse$Net"
def TX5 : u_T := fun k => match k with
  | 0 => ("GridHouse$Net", "count", "[I", true)
  | 1 => ("GridHouse$Net", "value", "[[I", true)
  | 2 => ("GridHouse$Net", "names", "[[J", true)
  | 3 => ("GridHouse$Net", "shortKind", "I", false)
  | 4 => ("GridHouse$Net", "shortBar", "I", false)
  | 5 => ("GridHouse$Net", "shortLine", "I", false)
  | 6 => ("GridHouse$Net", "shortPart", "I", false)
  | _ => ("GridHouse$Net", "shortZ", "I", false)
def tyX5 : Nat → FieldType := fun k => match k with
  | 0 => .array .int
  | 1 => .array (.array .int)
  | 2 => .array (.array .long)
  | 3 => .int
  | 4 => .int
  | 5 => .int
  | 6 => .int
  | _ => .int
abbrev wsX50 : List Cond := u_ws RX5 TX5 8
theorem nmX5 : ∀ a, a < 8 → ∀ b, b < 8 → a ≠ b → (TX5 a).2.1 ≠ (TX5 b).2.1 := by decide +kernel
theorem tyX5_ok : ∀ k, k < 8 → parseFieldDescriptor (TX5 k).2.2.1 = some (tyX5 k) := by decide +kernel
abbrev cX5_init : ByteArray := prog_7_method_1_code
def yX5_init : MethodName := ⟨RX5, "<init>", "()V"⟩
abbrev cX5_has : ByteArray := prog_7_method_2_code
def yX5_has : MethodName := ⟨RX5, "has", "(II)Z"⟩
abbrev cX5_at : ByteArray := prog_7_method_3_code
def yX5_at : MethodName := ⟨RX5, "at", "(III)I"⟩
abbrev cX5_put : ByteArray := prog_7_method_4_code
def yX5_put : MethodName := ⟨RX5, "put", "(IIII)V"⟩
abbrev cX5_is : ByteArray := prog_7_method_5_code
def yX5_is : MethodName := ⟨RX5, "is", "(III)Z"⟩
abbrev cX5_hasShort : ByteArray := prog_7_method_6_code
def yX5_hasShort : MethodName := ⟨RX5, "hasShort", "()Z"⟩
abbrev cX5_putShort : ByteArray := prog_7_method_7_code
def yX5_putShort : MethodName := ⟨RX5, "putShort", "(IIIII)V"⟩
abbrev cX5_copyValues : ByteArray := prog_7_method_8_code
def yX5_copyValues : MethodName := ⟨RX5, "copyValues", "(LGridHouse$Net;)V"⟩
abbrev cX5_copy : ByteArray := prog_7_method_9_code
def yX5_copy : MethodName := ⟨RX5, "copy", "(LGridHouse$Net;)V"⟩
abbrev cX5_allows : ByteArray := prog_7_method_10_code
def yX5_allows : MethodName := ⟨RX5, "allows", "(IIII)Z"⟩
abbrev cX5_isWithin : ByteArray := prog_7_method_11_code
def yX5_isWithin : MethodName := ⟨RX5, "isWithin", "(III)Z"⟩
abbrev cX5_agrees : ByteArray := prog_7_method_12_code
def yX5_agrees : MethodName := ⟨RX5, "agrees", "(III)Z"⟩
abbrev cX5_named : ByteArray := prog_7_method_13_code
def yX5_named : MethodName := ⟨RX5, "named", "(J)I"⟩
abbrev cX5_named_ : ByteArray := prog_7_method_14_code
def yX5_named_ : MethodName := ⟨RX5, "named", "(LGridHouse$Tape;I)I"⟩
abbrev cX5_read : ByteArray := prog_7_method_15_code
def yX5_read : MethodName := ⟨RX5, "read", "(LGridHouse$Tape;)I"⟩
abbrev cX5_readObject : ByteArray := prog_7_method_16_code
def yX5_readObject : MethodName := ⟨RX5, "readObject", "(LGridHouse$Tape;)Z"⟩
abbrev cX5_blank : ByteArray := prog_7_method_17_code
def yX5_blank : MethodName := ⟨RX5, "blank", "(II)V"⟩
abbrev cX5_readEnds : ByteArray := prog_7_method_18_code
def yX5_readEnds : MethodName := ⟨RX5, "readEnds", "(LGridHouse$Tape;II)Z"⟩
abbrev cX5_readState : ByteArray := prog_7_method_19_code
def yX5_readState : MethodName := ⟨RX5, "readState", "(LGridHouse$Tape;I)Z"⟩
abbrev cX5_readNumbers : ByteArray := prog_7_method_20_code
def yX5_readNumbers : MethodName := ⟨RX5, "readNumbers", "(LGridHouse$Tape;II)Z"⟩
def RX6 : String := "GridHouse$Relays"
def TX6 : u_T := fun k => match k with
  | 0 => ("GridHouse$Relays", "line", "[I", true)
  | 1 => ("GridHouse$Relays", "end", "[I", true)
  | 2 => ("GridHouse$Relays", "opens", "[I", true)
  | 3 => ("GridHouse$Relays", "impedance", "[Z", true)
  | 4 => ("GridHouse$Relays", "rowCount", "[I", true)
  | 5 => ("GridHouse$Relays", "setting", "[I", true)
  | 6 => ("GridHouse$Relays", "delay", "[I", true)
  | 7 => ("GridHouse$Relays", "count", "I", false)
  | 8 => ("GridHouse$Relays", "failing", "[Z", true)
  | 9 => ("GridHouse$Relays", "later", "I", false)
  | 10 => ("GridHouse$Relays", "running", "Z", false)
  | 11 => ("GridHouse$Relays", "time", "I", false)
  | 12 => ("GridHouse$Relays", "net", "LGridHouse$Net;", true)
  | 13 => ("GridHouse$Relays", "shorts", "LGridHouse$Shorts;", true)
  | 14 => ("GridHouse$Relays", "tripAt", "[J", true)
  | 15 => ("GridHouse$Relays", "openAt", "[J", true)
  | 16 => ("GridHouse$Relays", "backupAt", "[J", true)
  | 17 => ("GridHouse$Relays", "hasOrder", "[Z", true)
  | 18 => ("GridHouse$Relays", "opened", "[[J", true)
  | _ => ("GridHouse$Relays", "openedCount", "I", false)
def tyX6 : Nat → FieldType := fun k => match k with
  | 0 => .array .int
  | 1 => .array .int
  | 2 => .array .int
  | 3 => .array .boolean
  | 4 => .array .int
  | 5 => .array .int
  | 6 => .array .int
  | 7 => .int
  | 8 => .array .boolean
  | 9 => .int
  | 10 => .boolean
  | 11 => .int
  | 12 => .object "GridHouse$Net"
  | 13 => .object "GridHouse$Shorts"
  | 14 => .array .long
  | 15 => .array .long
  | 16 => .array .long
  | 17 => .array .boolean
  | 18 => .array (.array .long)
  | _ => .int
abbrev wsX60 : List Cond := u_ws RX6 TX6 20
theorem nmX6 : ∀ a, a < 20 → ∀ b, b < 20 → a ≠ b → (TX6 a).2.1 ≠ (TX6 b).2.1 := by decide +kernel
theorem tyX6_ok : ∀ k, k < 20 → parseFieldDescriptor (TX6 k).2.2.1 = some (tyX6 k) := by decide +kernel
abbrev cX6_init : ByteArray := prog_8_method_1_code
def yX6_init : MethodName := ⟨RX6, "<init>", "(LGridHouse$Solver;)V"⟩
abbrev cX6_clear : ByteArray := prog_8_method_2_code
def yX6_clear : MethodName := ⟨RX6, "clear", "()V"⟩
abbrev cX6_told : ByteArray := prog_8_method_3_code
def yX6_told : MethodName := ⟨RX6, "told", "(IIII)I"⟩
abbrev cX6_rowTold : ByteArray := prog_8_method_4_code
def yX6_rowTold : MethodName := ⟨RX6, "rowTold", "(III)I"⟩
abbrev cX6_isMet : ByteArray := prog_8_method_5_code
def yX6_isMet : MethodName := ⟨RX6, "isMet", "(LGridHouse$Shorts;II)Z"⟩
abbrev cX6_start : ByteArray := prog_8_method_6_code
def yX6_start : MethodName := ⟨RX6, "start", "(LGridHouse$Net;)I"⟩
abbrev cX6_look : ByteArray := prog_8_method_7_code
def yX6_look : MethodName := ⟨RX6, "look", "(J)I"⟩
abbrev cX6_note : ByteArray := prog_8_method_8_code
def yX6_note : MethodName := ⟨RX6, "note", "(IZJ)V"⟩
abbrev cX6_advance : ByteArray := prog_8_method_9_code
def yX6_advance : MethodName := ⟨RX6, "advance", "(I)I"⟩
abbrev cX6_nextTime : ByteArray := prog_8_method_10_code
def yX6_nextTime : MethodName := ⟨RX6, "nextTime", "()J"⟩
abbrev cX6_openAll : ByteArray := prog_8_method_11_code
def yX6_openAll : MethodName := ⟨RX6, "openAll", "(J)I"⟩
abbrev cX6_backUpAll : ByteArray := prog_8_method_12_code
def yX6_backUpAll : MethodName := ⟨RX6, "backUpAll", "(J)I"⟩
abbrev cX6_backUp : ByteArray := prog_8_method_13_code
def yX6_backUp : MethodName := ⟨RX6, "backUp", "(IJ)V"⟩
abbrev cX6_nodeOf : ByteArray := prog_8_method_14_code
def yX6_nodeOf : MethodName := ⟨RX6, "nodeOf", "(II)I"⟩
abbrev cX6_tripAll : ByteArray := prog_8_method_15_code
def yX6_tripAll : MethodName := ⟨RX6, "tripAll", "(J)I"⟩
abbrev cX6_command : ByteArray := prog_8_method_16_code
def yX6_command : MethodName := ⟨RX6, "command", "(IJ)Z"⟩
abbrev cX6_openedAs : ByteArray := prog_8_method_17_code
def yX6_openedAs : MethodName := ⟨RX6, "openedAs", "(II)I"⟩
def RX7 : String := "GridHouse$Rules"
def TX7 : u_T := fun k => match k with
  | 0 => ("GridHouse$Rules", "stages", "[LGridHouse$Flow;", true)
  | 1 => ("GridHouse$Rules", "code", "[I", false)
  | 2 => ("GridHouse$Rules", "draft", "[I", false)
  | 3 => ("GridHouse$Rules", "drafted", "I", false)
  | 4 => ("GridHouse$Rules", "waiting", "[I", true)
  | 5 => ("GridHouse$Rules", "waitCount", "I", false)
  | 6 => ("GridHouse$Rules", "count", "I", false)
  | 7 => ("GridHouse$Rules", "steps", "[I", false)
  | 8 => ("GridHouse$Rules", "draftSteps", "[I", false)
  | 9 => ("GridHouse$Rules", "stepCount", "I", false)
  | 10 => ("GridHouse$Rules", "done", "I", false)
  | 11 => ("GridHouse$Rules", "stopped", "I", false)
  | 12 => ("GridHouse$Rules", "stoppedBy", "I", false)
  | 13 => ("GridHouse$Rules", "tried", "[I", true)
  | 14 => ("GridHouse$Rules", "triedCount", "I", false)
  | 15 => ("GridHouse$Rules", "choice", "[I", true)
  | 16 => ("GridHouse$Rules", "oversBySet", "[I", true)
  | 17 => ("GridHouse$Rules", "leastLost", "I", false)
  | 18 => ("GridHouse$Rules", "found", "[I", true)
  | _ => ("GridHouse$Rules", "foundCount", "I", false)
def tyX7 : Nat → FieldType := fun k => match k with
  | 0 => .array (.object "GridHouse$Flow")
  | 1 => .array .int
  | 2 => .array .int
  | 3 => .int
  | 4 => .array .int
  | 5 => .int
  | 6 => .int
  | 7 => .array .int
  | 8 => .array .int
  | 9 => .int
  | 10 => .int
  | 11 => .int
  | 12 => .int
  | 13 => .array .int
  | 14 => .int
  | 15 => .array .int
  | 16 => .array .int
  | 17 => .int
  | 18 => .array .int
  | _ => .int
abbrev wsX70 : List Cond := u_ws RX7 TX7 20
theorem nmX7 : ∀ a, a < 20 → ∀ b, b < 20 → a ≠ b → (TX7 a).2.1 ≠ (TX7 b).2.1 := by decide +kernel
theorem tyX7_ok : ∀ k, k < 20 → parseFieldDescriptor (TX7 k).2.2.1 = some (tyX7 k) := by decide +kernel
abbrev cX7_init : ByteArray := prog_9_method_1_code
def yX7_init : MethodName := ⟨RX7, "<init>", "([LGridHouse$Flow;)V"⟩
abbrev cX7_clear : ByteArray := prog_9_method_2_code
def yX7_clear : MethodName := ⟨RX7, "clear", "()V"⟩
abbrev cX7_readRules : ByteArray := prog_9_method_3_code
def yX7_readRules : MethodName := ⟨RX7, "readRules", "(LGridHouse$Tape;LGridHouse$Net;)I"⟩
abbrev cX7_actOf : ByteArray := prog_9_method_4_code
def yX7_actOf : MethodName := ⟨RX7, "actOf", "(I)I"⟩
abbrev cX7_readRule : ByteArray := prog_9_method_5_code
def yX7_readRule : MethodName := ⟨RX7, "readRule", "(LGridHouse$Tape;LGridHouse$Net;)Z"⟩
abbrev cX7_put : ByteArray := prog_9_method_6_code
def yX7_put : MethodName := ⟨RX7, "put", "(I)V"⟩
abbrev cX7_readCondition : ByteArray := prog_9_method_7_code
def yX7_readCondition : MethodName := ⟨RX7, "readCondition", "(LGridHouse$Tape;LGridHouse$Net;I)Z"⟩
abbrev cX7_closeBrackets : ByteArray := prog_9_method_8_code
def yX7_closeBrackets : MethodName := ⟨RX7, "closeBrackets", "(LGridHouse$Tape;I)I"⟩
abbrev cX7_push : ByteArray := prog_9_method_9_code
def yX7_push : MethodName := ⟨RX7, "push", "(I)V"⟩
abbrev cX7_release : ByteArray := prog_9_method_10_code
def yX7_release : MethodName := ⟨RX7, "release", "(I)V"⟩
abbrev cX7_readAsked : ByteArray := prog_9_method_11_code
def yX7_readAsked : MethodName := ⟨RX7, "readAsked", "(LGridHouse$Tape;)I"⟩
abbrev cX7_askedOf : ByteArray := prog_9_method_12_code
def yX7_askedOf : MethodName := ⟨RX7, "askedOf", "(I)I"⟩
abbrev cX7_readBound : ByteArray := prog_9_method_13_code
def yX7_readBound : MethodName := ⟨RX7, "readBound", "(LGridHouse$Tape;)Z"⟩
abbrev cX7_readObjects : ByteArray := prog_9_method_14_code
def yX7_readObjects : MethodName := ⟨RX7, "readObjects", "(LGridHouse$Tape;LGridHouse$Net;II)Z"⟩
abbrev cX7_objectOf : ByteArray := prog_9_method_15_code
def yX7_objectOf : MethodName := ⟨RX7, "objectOf", "(LGridHouse$Tape;LGridHouse$Net;II)I"⟩
abbrev cX7_readOrder : ByteArray := prog_9_method_16_code
def yX7_readOrder : MethodName := ⟨RX7, "readOrder", "(LGridHouse$Tape;LGridHouse$Net;)I"⟩
abbrev cX7_follow : ByteArray := prog_9_method_17_code
def yX7_follow : MethodName := ⟨RX7, "follow", "(LGridHouse$Net;)LGridHouse$Net;"⟩
abbrev cX7_firstAgainst : ByteArray := prog_9_method_18_code
def yX7_firstAgainst : MethodName := ⟨RX7, "firstAgainst", "(IILGridHouse$Flow;LGridHouse$Flow;)I"⟩
abbrev cX7_holds : ByteArray := prog_9_method_19_code
def yX7_holds : MethodName := ⟨RX7, "holds", "(IIILGridHouse$Flow;LGridHouse$Flow;)Z"⟩
abbrev cX7_isSo : ByteArray := prog_9_method_20_code
def yX7_isSo : MethodName := ⟨RX7, "isSo", "(IIILGridHouse$Flow;)Z"⟩
abbrev cX7_meant : ByteArray := prog_9_method_21_code
def yX7_meant : MethodName := ⟨RX7, "meant", "(IILGridHouse$Net;)I"⟩
abbrev cX7_setOut : ByteArray := prog_9_method_22_code
def yX7_setOut : MethodName := ⟨RX7, "setOut", "(LGridHouse$Net;)V"⟩
abbrev cX7_bringBack : ByteArray := prog_9_method_23_code
def yX7_bringBack : MethodName := ⟨RX7, "bringBack", "(I)I"⟩
abbrev cX7_isFree : ByteArray := prog_9_method_24_code
def yX7_isFree : MethodName := ⟨RX7, "isFree", "(III)Z"⟩
abbrev cX7_weigh : ByteArray := prog_9_method_25_code
def yX7_weigh : MethodName := ⟨RX7, "weigh", "(II)V"⟩
def RX8 : String := "GridHouse$Shape"
def TX8 : u_T := fun k => match k with
  | 0 => ("GridHouse$Shape", "net", "LGridHouse$Net;", true)
  | 1 => ("GridHouse$Shape", "node", "[I", true)
  | 2 => ("GridHouse$Shape", "island", "[I", true)
  | 3 => ("GridHouse$Shape", "row", "[I", true)
  | 4 => ("GridHouse$Shape", "live", "[Z", true)
  | 5 => ("GridHouse$Shape", "ends", "[[I", true)
  | 6 => ("GridHouse$Shape", "joins", "[Z", true)
  | 7 => ("GridHouse$Shape", "spot", "[I", true)
  | 8 => ("GridHouse$Shape", "on", "[Z", true)
  | 9 => ("GridHouse$Shape", "nodes", "I", false)
  | 10 => ("GridHouse$Shape", "islands", "I", false)
  | _ => ("GridHouse$Shape", "lives", "I", false)
def tyX8 : Nat → FieldType := fun k => match k with
  | 0 => .object "GridHouse$Net"
  | 1 => .array .int
  | 2 => .array .int
  | 3 => .array .int
  | 4 => .array .boolean
  | 5 => .array (.array .int)
  | 6 => .array .boolean
  | 7 => .array .int
  | 8 => .array .boolean
  | 9 => .int
  | 10 => .int
  | _ => .int
abbrev wsX80 : List Cond := u_ws RX8 TX8 12
theorem nmX8 : ∀ a, a < 12 → ∀ b, b < 12 → a ≠ b → (TX8 a).2.1 ≠ (TX8 b).2.1 := by decide +kernel
theorem tyX8_ok : ∀ k, k < 12 → parseFieldDescriptor (TX8 k).2.2.1 = some (tyX8 k) := by decide +kernel
abbrev cX8_init : ByteArray := prog_10_method_1_code
def yX8_init : MethodName := ⟨RX8, "<init>", "(LGridHouse$Net;)V"⟩
abbrev cX8_look : ByteArray := prog_10_method_2_code
def yX8_look : MethodName := ⟨RX8, "look", "(Z)V"⟩
abbrev cX8_join : ByteArray := prog_10_method_3_code
def yX8_join : MethodName := ⟨RX8, "join", "([III)V"⟩
abbrev cX8_tally : ByteArray := prog_10_method_4_code
def yX8_tally : MethodName := ⟨RX8, "tally", "()V"⟩
abbrev cX8_islandOfLine : ByteArray := prog_10_method_5_code
def yX8_islandOfLine : MethodName := ⟨RX8, "islandOfLine", "(I)I"⟩
abbrev cX8_islandOfMachine : ByteArray := prog_10_method_6_code
def yX8_islandOfMachine : MethodName := ⟨RX8, "islandOfMachine", "(I)I"⟩
abbrev cX8_islandOfLoad : ByteArray := prog_10_method_7_code
def yX8_islandOfLoad : MethodName := ⟨RX8, "islandOfLoad", "(I)I"⟩
abbrev cX8_rowOfEnd : ByteArray := prog_10_method_8_code
def yX8_rowOfEnd : MethodName := ⟨RX8, "rowOfEnd", "(II)I"⟩
abbrev cX8_rowOfMachine : ByteArray := prog_10_method_9_code
def yX8_rowOfMachine : MethodName := ⟨RX8, "rowOfMachine", "(I)I"⟩
abbrev cX8_rowOfLoad : ByteArray := prog_10_method_10_code
def yX8_rowOfLoad : MethodName := ⟨RX8, "rowOfLoad", "(I)I"⟩
abbrev cX8_isMachineIn : ByteArray := prog_10_method_11_code
def yX8_isMachineIn : MethodName := ⟨RX8, "isMachineIn", "(I[Z)Z"⟩
abbrev cX8_isLineIn : ByteArray := prog_10_method_12_code
def yX8_isLineIn : MethodName := ⟨RX8, "isLineIn", "(I[Z)Z"⟩
abbrev cX8_loops : ByteArray := prog_10_method_13_code
def yX8_loops : MethodName := ⟨RX8, "loops", "()I"⟩
abbrev cX8_number : ByteArray := prog_10_method_14_code
def yX8_number : MethodName := ⟨RX8, "number", "([ZZ)I"⟩
abbrev cX8_lay : ByteArray := prog_10_method_15_code
def yX8_lay : MethodName := ⟨RX8, "lay", "(LGridHouse$Solver;[ZII)J"⟩
abbrev cX8_bits : ByteArray := prog_10_method_16_code
def yX8_bits : MethodName := ⟨RX8, "bits", "([ZII)I"⟩
abbrev cX8_bitsOf : ByteArray := prog_10_method_17_code
def yX8_bitsOf : MethodName := ⟨RX8, "bitsOf", "(I)I"⟩
def RX9 : String := "GridHouse$Shorts"
def TX9 : u_T := fun k => match k with
  | 0 => ("GridHouse$Shorts", "shape", "LGridHouse$Shape;", true)
  | 1 => ("GridHouse$Shorts", "net", "LGridHouse$Net;", true)
  | 2 => ("GridHouse$Shorts", "solver", "LGridHouse$Solver;", true)
  | 3 => ("GridHouse$Shorts", "taken", "[Z", true)
  | 4 => ("GridHouse$Shorts", "known", "Z", false)
  | 5 => ("GridHouse$Shorts", "active", "Z", false)
  | 6 => ("GridHouse$Shorts", "grounded", "Z", false)
  | 7 => ("GridHouse$Shorts", "island", "I", false)
  | 8 => ("GridHouse$Shorts", "place", "I", false)
  | 9 => ("GridHouse$Shorts", "top1", "[LGridHouse$Big;", true)
  | 10 => ("GridHouse$Shorts", "top0", "[LGridHouse$Big;", true)
  | 11 => ("GridHouse$Shorts", "whole", "[LGridHouse$Big;", true)
  | 12 => ("GridHouse$Shorts", "part", "[LGridHouse$Big;", true)
  | 13 => ("GridHouse$Shorts", "below", "LGridHouse$Big;", true)
  | 14 => ("GridHouse$Shorts", "asked", "[LGridHouse$Big;", true)
  | 15 => ("GridHouse$Shorts", "reach", "[I", true)
  | 16 => ("GridHouse$Shorts", "square", "[LGridHouse$Big;", true)
  | 17 => ("GridHouse$Shorts", "help", "[LGridHouse$Big;", true)
  | 18 => ("GridHouse$Shorts", "first", "LGridHouse$Big;", true)
  | _ => ("GridHouse$Shorts", "second", "LGridHouse$Big;", true)
def tyX9 : Nat → FieldType := fun k => match k with
  | 0 => .object "GridHouse$Shape"
  | 1 => .object "GridHouse$Net"
  | 2 => .object "GridHouse$Solver"
  | 3 => .array .boolean
  | 4 => .boolean
  | 5 => .boolean
  | 6 => .boolean
  | 7 => .int
  | 8 => .int
  | 9 => .array (.object "GridHouse$Big")
  | 10 => .array (.object "GridHouse$Big")
  | 11 => .array (.object "GridHouse$Big")
  | 12 => .array (.object "GridHouse$Big")
  | 13 => .object "GridHouse$Big"
  | 14 => .array (.object "GridHouse$Big")
  | 15 => .array .int
  | 16 => .array (.object "GridHouse$Big")
  | 17 => .array (.object "GridHouse$Big")
  | 18 => .object "GridHouse$Big"
  | _ => .object "GridHouse$Big"
abbrev wsX90 : List Cond := u_ws RX9 TX9 20
theorem nmX9 : ∀ a, a < 20 → ∀ b, b < 20 → a ≠ b → (TX9 a).2.1 ≠ (TX9 b).2.1 := by decide +kernel
theorem tyX9_ok : ∀ k, k < 20 → parseFieldDescriptor (TX9 k).2.2.1 = some (tyX9 k) := by decide +kernel
abbrev cX9_init : ByteArray := prog_11_method_1_code
def yX9_init : MethodName := ⟨RX9, "<init>", "(LGridHouse$Shape;LGridHouse$Solver;)V"⟩
abbrev cX9_solve : ByteArray := prog_11_method_2_code
def yX9_solve : MethodName := ⟨RX9, "solve", "()V"⟩
abbrev cX9_isOdd : ByteArray := prog_11_method_3_code
def yX9_isOdd : MethodName := ⟨RX9, "isOdd", "()Z"⟩
abbrev cX9_isOnLine : ByteArray := prog_11_method_4_code
def yX9_isOnLine : MethodName := ⟨RX9, "isOnLine", "()Z"⟩
abbrev cX9_isThere : ByteArray := prog_11_method_5_code
def yX9_isThere : MethodName := ⟨RX9, "isThere", "()Z"⟩
abbrev cX9_isGrounded : ByteArray := prog_11_method_6_code
def yX9_isGrounded : MethodName := ⟨RX9, "isGrounded", "()Z"⟩
abbrev cX9_sequence : ByteArray := prog_11_method_7_code
def yX9_sequence : MethodName := ⟨RX9, "sequence", "(Z)V"⟩
abbrev cX9_bits : ByteArray := prog_11_method_8_code
def yX9_bits : MethodName := ⟨RX9, "bits", "(Z)I"⟩
abbrev cX9_lay : ByteArray := prog_11_method_9_code
def yX9_lay : MethodName := ⟨RX9, "lay", "(ZI)J"⟩
abbrev cX9_sixteenths : ByteArray := prog_11_method_10_code
def yX9_sixteenths : MethodName := ⟨RX9, "sixteenths", "(I)I"⟩
abbrev cX9_weigh : ByteArray := prog_11_method_11_code
def yX9_weigh : MethodName := ⟨RX9, "weigh", "()V"⟩
abbrev cX9_weighOdd : ByteArray := prog_11_method_12_code
def yX9_weighOdd : MethodName := ⟨RX9, "weighOdd", "(LGridHouse$Big;LGridHouse$Big;)V"⟩
abbrev cX9_tellInto : ByteArray := prog_11_method_13_code
def yX9_tellInto : MethodName := ⟨RX9, "tellInto", "(ILGridHouse$Hand;)V"⟩
abbrev cX9_volts : ByteArray := prog_11_method_14_code
def yX9_volts : MethodName := ⟨RX9, "volts", "(I)V"⟩
abbrev cX9_scaleAll : ByteArray := prog_11_method_15_code
def yX9_scaleAll : MethodName := ⟨RX9, "scaleAll", "(I)V"⟩
abbrev cX9_currents : ByteArray := prog_11_method_16_code
def yX9_currents : MethodName := ⟨RX9, "currents", "(II)V"⟩
abbrev cX9_tell : ByteArray := prog_11_method_17_code
def yX9_tell : MethodName := ⟨RX9, "tell", "(ILGridHouse$Hand;)V"⟩
abbrev cX9_squares : ByteArray := prog_11_method_18_code
def yX9_squares : MethodName := ⟨RX9, "squares", "()V"⟩
abbrev cX9_belowSquares : ByteArray := prog_11_method_19_code
def yX9_belowSquares : MethodName := ⟨RX9, "belowSquares", "(LGridHouse$Big;)V"⟩
abbrev cX9_measure : ByteArray := prog_11_method_20_code
def yX9_measure : MethodName := ⟨RX9, "measure", "(IIZ)Z"⟩
abbrev cX9_isAbove : ByteArray := prog_11_method_21_code
def yX9_isAbove : MethodName := ⟨RX9, "isAbove", "(I)Z"⟩
def RX10 : String := "GridHouse$Solver"
def TX10 : u_T := fun k => match k with
  | 0 => ("GridHouse$Solver", "cell", "[[J", true)
  | 1 => ("GridHouse$Solver", "leader", "[I", true)
  | 2 => ("GridHouse$Solver", "prime", "J", false)
  | 3 => ("GridHouse$Solver", "determinant", "J", false)
  | 4 => ("GridHouse$Solver", "modulus", "LGridHouse$Big;", true)
  | 5 => ("GridHouse$Solver", "half", "LGridHouse$Big;", true)
  | 6 => ("GridHouse$Solver", "lift", "J", false)
  | 7 => ("GridHouse$Solver", "next", "I", false)
  | _ => ("GridHouse$Solver", "bitsLeft", "I", false)
def tyX10 : Nat → FieldType := fun k => match k with
  | 0 => .array (.array .long)
  | 1 => .array .int
  | 2 => .long
  | 3 => .long
  | 4 => .object "GridHouse$Big"
  | 5 => .object "GridHouse$Big"
  | 6 => .long
  | 7 => .int
  | _ => .int
abbrev wsX100 : List Cond := u_ws RX10 TX10 9
theorem nmX10 : ∀ a, a < 9 → ∀ b, b < 9 → a ≠ b → (TX10 a).2.1 ≠ (TX10 b).2.1 := by decide +kernel
theorem tyX10_ok : ∀ k, k < 9 → parseFieldDescriptor (TX10 k).2.2.1 = some (tyX10 k) := by decide +kernel
abbrev cX10_init : ByteArray := prog_12_method_1_code
def yX10_init : MethodName := ⟨RX10, "<init>", "()V"⟩
abbrev cX10_start : ByteArray := prog_12_method_2_code
def yX10_start : MethodName := ⟨RX10, "start", "(I)V"⟩
abbrev cX10_start_ : ByteArray := prog_12_method_3_code
def yX10_start_ : MethodName := ⟨RX10, "start", "(I[LGridHouse$Big;LGridHouse$Big;)V"⟩
abbrev cX10_more : ByteArray := prog_12_method_4_code
def yX10_more : MethodName := ⟨RX10, "more", "()Z"⟩
abbrev cX10_close : ByteArray := prog_12_method_5_code
def yX10_close : MethodName := ⟨RX10, "close", "()V"⟩
abbrev cX10_fold : ByteArray := prog_12_method_6_code
def yX10_fold : MethodName := ⟨RX10, "fold", "(LGridHouse$Big;J)V"⟩
abbrev cX10_settle : ByteArray := prog_12_method_7_code
def yX10_settle : MethodName := ⟨RX10, "settle", "([LGridHouse$Big;I)V"⟩
abbrev cX10_take : ByteArray := prog_12_method_8_code
def yX10_take : MethodName := ⟨RX10, "take", "(LGridHouse$Shape;[LGridHouse$Big;LGridHouse$Big;IJ)V"⟩
abbrev cX10_times : ByteArray := prog_12_method_9_code
def yX10_times : MethodName := ⟨RX10, "times", "(J)J"⟩
abbrev cX10_blank : ByteArray := prog_12_method_10_code
def yX10_blank : MethodName := ⟨RX10, "blank", "(II)V"⟩
abbrev cX10_plus : ByteArray := prog_12_method_11_code
def yX10_plus : MethodName := ⟨RX10, "plus", "(IIJ)V"⟩
abbrev cX10_edge : ByteArray := prog_12_method_12_code
def yX10_edge : MethodName := ⟨RX10, "edge", "(IIJ)V"⟩
abbrev cX10_residue : ByteArray := prog_12_method_13_code
def yX10_residue : MethodName := ⟨RX10, "residue", "(J)J"⟩
abbrev cX10_inverse : ByteArray := prog_12_method_14_code
def yX10_inverse : MethodName := ⟨RX10, "inverse", "(J)J"⟩
abbrev cX10_reduce : ByteArray := prog_12_method_15_code
def yX10_reduce : MethodName := ⟨RX10, "reduce", "(III)I"⟩
abbrev cX10_clear : ByteArray := prog_12_method_16_code
def yX10_clear : MethodName := ⟨RX10, "clear", "(IIII)V"⟩
def RX11 : String := "GridHouse$Tape"
def TX11 : u_T := fun k => match k with
  | 0 => ("GridHouse$Tape", "bytes", "[B", true)
  | 1 => ("GridHouse$Tape", "keys", "[J", true)
  | 2 => ("GridHouse$Tape", "at", "I", false)
  | 3 => ("GridHouse$Tape", "letterFirst", "Z", false)
  | 4 => ("GridHouse$Tape", "length", "I", false)
  | 5 => ("GridHouse$Tape", "from", "I", false)
  | 6 => ("GridHouse$Tape", "word", "J", false)
  | _ => ("GridHouse$Tape", "number", "I", false)
def tyX11 : Nat → FieldType := fun k => match k with
  | 0 => .array .byte
  | 1 => .array .long
  | 2 => .int
  | 3 => .boolean
  | 4 => .int
  | 5 => .int
  | 6 => .long
  | _ => .int
abbrev wsX110 : List Cond := u_ws RX11 TX11 8
theorem nmX11 : ∀ a, a < 8 → ∀ b, b < 8 → a ≠ b → (TX11 a).2.1 ≠ (TX11 b).2.1 := by decide +kernel
theorem tyX11_ok : ∀ k, k < 8 → parseFieldDescriptor (TX11 k).2.2.1 = some (tyX11 k) := by decide +kernel
abbrev cX11_init : ByteArray := prog_13_method_1_code
def yX11_init : MethodName := ⟨RX11, "<init>", "()V"⟩
abbrev cX11_learn : ByteArray := prog_13_method_2_code
def yX11_learn : MethodName := ⟨RX11, "learn", "(Ljava/lang/String;I)I"⟩
abbrev cX11_write : ByteArray := prog_13_method_3_code
def yX11_write : MethodName := ⟨RX11, "write", "(I)V"⟩
abbrev cX11_rewind : ByteArray := prog_13_method_4_code
def yX11_rewind : MethodName := ⟨RX11, "rewind", "()V"⟩
abbrev cX11_next : ByteArray := prog_13_method_5_code
def yX11_next : MethodName := ⟨RX11, "next", "()Z"⟩
abbrev cX11_readOn : ByteArray := prog_13_method_6_code
def yX11_readOn : MethodName := ⟨RX11, "readOn", "(I)V"⟩
abbrev cX11_isFigure : ByteArray := prog_13_method_7_code
def yX11_isFigure : MethodName := ⟨RX11, "isFigure", "(I)Z"⟩
abbrev cX11_isPlain : ByteArray := prog_13_method_8_code
def yX11_isPlain : MethodName := ⟨RX11, "isPlain", "(I)Z"⟩
abbrev cX11_key : ByteArray := prog_13_method_9_code
def yX11_key : MethodName := ⟨RX11, "key", "()I"⟩
abbrev cX11_isName : ByteArray := prog_13_method_10_code
def yX11_isName : MethodName := ⟨RX11, "isName", "()Z"⟩
abbrev cX11_isSign : ByteArray := prog_13_method_11_code
def yX11_isSign : MethodName := ⟨RX11, "isSign", "(C)Z"⟩
abbrev cX11_whole : ByteArray := prog_13_method_12_code
def yX11_whole : MethodName := ⟨RX11, "whole", "()J"⟩
abbrev cX11_byteOf : ByteArray := prog_13_method_13_code
def yX11_byteOf : MethodName := ⟨RX11, "byteOf", "(JI)I"⟩
def RX12 : String := "GridHouse"
def TX12 : u_T := fun k => match k with
  | 0 => ("GridHouse", "tape", "LGridHouse$Tape;", true)
  | 1 => ("GridHouse", "net", "LGridHouse$Net;", true)
  | 2 => ("GridHouse", "spare", "LGridHouse$Net;", true)
  | 3 => ("GridHouse", "kept", "[LGridHouse$Net;", true)
  | 4 => ("GridHouse", "isKept", "[Z", true)
  | 5 => ("GridHouse", "hand", "LGridHouse$Hand;", true)
  | 6 => ("GridHouse", "solver", "LGridHouse$Solver;", true)
  | 7 => ("GridHouse", "flow", "LGridHouse$Flow;", true)
  | 8 => ("GridHouse", "stages", "[LGridHouse$Flow;", true)
  | 9 => ("GridHouse", "meters", "LGridHouse$Meters;", true)
  | 10 => ("GridHouse", "shorts", "LGridHouse$Shorts;", true)
  | 11 => ("GridHouse", "relays", "LGridHouse$Relays;", true)
  | 12 => ("GridHouse", "dispatch", "LGridHouse$Dispatch;", true)
  | 13 => ("GridHouse", "rules", "LGridHouse$Rules;", true)
  | _ => ("GridHouse", "looked", "Z", false)
def tyX12 : Nat → FieldType := fun k => match k with
  | 0 => .object "GridHouse$Tape"
  | 1 => .object "GridHouse$Net"
  | 2 => .object "GridHouse$Net"
  | 3 => .array (.object "GridHouse$Net")
  | 4 => .array .boolean
  | 5 => .object "GridHouse$Hand"
  | 6 => .object "GridHouse$Solver"
  | 7 => .object "GridHouse$Flow"
  | 8 => .array (.object "GridHouse$Flow")
  | 9 => .object "GridHouse$Meters"
  | 10 => .object "GridHouse$Shorts"
  | 11 => .object "GridHouse$Relays"
  | 12 => .object "GridHouse$Dispatch"
  | 13 => .object "GridHouse$Rules"
  | _ => .boolean
abbrev wsX120 : List Cond := u_ws RX12 TX12 15
theorem nmX12 : ∀ a, a < 15 → ∀ b, b < 15 → a ≠ b → (TX12 a).2.1 ≠ (TX12 b).2.1 := by decide +kernel
theorem tyX12_ok : ∀ k, k < 15 → parseFieldDescriptor (TX12 k).2.2.1 = some (tyX12 k) := by decide +kernel
abbrev cX12_init : ByteArray := prog_1_method_1_code
def yX12_init : MethodName := ⟨RX12, "<init>", "()V"⟩
abbrev cX12_feed : ByteArray := prog_1_method_2_code
def yX12_feed : MethodName := ⟨RX12, "feed", "(IIIII)I"⟩
abbrev cX12_end : ByteArray := prog_1_method_3_code
def yX12_end : MethodName := ⟨RX12, "end", "(I)V"⟩
abbrev cX12_net : ByteArray := prog_1_method_4_code
def yX12_net : MethodName := ⟨RX12, "net", "()I"⟩
abbrev cX12_rules : ByteArray := prog_1_method_5_code
def yX12_rules : MethodName := ⟨RX12, "rules", "()I"⟩
abbrev cX12_order : ByteArray := prog_1_method_6_code
def yX12_order : MethodName := ⟨RX12, "order", "()I"⟩
abbrev cX12_find : ByteArray := prog_1_method_7_code
def yX12_find : MethodName := ⟨RX12, "find", "()I"⟩
abbrev cX12_count : ByteArray := prog_1_method_8_code
def yX12_count : MethodName := ⟨RX12, "count", "(I)I"⟩
abbrev cX12_countTold : ByteArray := prog_1_method_9_code
def yX12_countTold : MethodName := ⟨RX12, "countTold", "(I)I"⟩
abbrev cX12_countFound : ByteArray := prog_1_method_10_code
def yX12_countFound : MethodName := ⟨RX12, "countFound", "(I)I"⟩
abbrev cX12_name : ByteArray := prog_1_method_11_code
def yX12_name : MethodName := ⟨RX12, "name", "(III)I"⟩
abbrev cX12_get : ByteArray := prog_1_method_12_code
def yX12_get : MethodName := ⟨RX12, "get", "(III)I"⟩
abbrev cX12_set : ByteArray := prog_1_method_13_code
def yX12_set : MethodName := ⟨RX12, "set", "(IIII)I"⟩
abbrev cX12_keep : ByteArray := prog_1_method_14_code
def yX12_keep : MethodName := ⟨RX12, "keep", "(I)V"⟩
abbrev cX12_back : ByteArray := prog_1_method_15_code
def yX12_back : MethodName := ⟨RX12, "back", "(I)V"⟩
abbrev cX12_changed : ByteArray := prog_1_method_16_code
def yX12_changed : MethodName := ⟨RX12, "changed", "()V"⟩
abbrev cX12_now : ByteArray := prog_1_method_17_code
def yX12_now : MethodName := ⟨RX12, "now", "()LGridHouse$Flow;"⟩
abbrev cX12_testBar : ByteArray := prog_1_method_18_code
def yX12_testBar : MethodName := ⟨RX12, "testBar", "(I)V"⟩
abbrev cX12_testLine : ByteArray := prog_1_method_19_code
def yX12_testLine : MethodName := ⟨RX12, "testLine", "(I)V"⟩
abbrev cX12_testMachine : ByteArray := prog_1_method_20_code
def yX12_testMachine : MethodName := ⟨RX12, "testMachine", "(I)V"⟩
abbrev cX12_testWithin : ByteArray := prog_1_method_21_code
def yX12_testWithin : MethodName := ⟨RX12, "testWithin", "(III)V"⟩
abbrev cX12_bar : ByteArray := prog_1_method_22_code
def yX12_bar : MethodName := ⟨RX12, "bar", "(II)I"⟩
abbrev cX12_maybeLive : ByteArray := prog_1_method_23_code
def yX12_maybeLive : MethodName := ⟨RX12, "maybeLive", "(I)Z"⟩
abbrev cX12_angle : ByteArray := prog_1_method_24_code
def yX12_angle : MethodName := ⟨RX12, "angle", "(I)I"⟩
abbrev cX12_carries : ByteArray := prog_1_method_25_code
def yX12_carries : MethodName := ⟨RX12, "carries", "(I)I"⟩
abbrev cX12_gives : ByteArray := prog_1_method_26_code
def yX12_gives : MethodName := ⟨RX12, "gives", "(I)I"⟩
abbrev cX12_figures : ByteArray := prog_1_method_27_code
def yX12_figures : MethodName := ⟨RX12, "figures", "(I)I"⟩
abbrev cX12_figure : ByteArray := prog_1_method_28_code
def yX12_figure : MethodName := ⟨RX12, "figure", "(II)I"⟩
abbrev cX12_screen : ByteArray := prog_1_method_29_code
def yX12_screen : MethodName := ⟨RX12, "screen", "()I"⟩
abbrev cX12_trouble : ByteArray := prog_1_method_30_code
def yX12_trouble : MethodName := ⟨RX12, "trouble", "(II)I"⟩
abbrev cX12_meter : ByteArray := prog_1_method_31_code
def yX12_meter : MethodName := ⟨RX12, "meter", "(IIII)I"⟩
abbrev cX12_strike : ByteArray := prog_1_method_32_code
def yX12_strike : MethodName := ⟨RX12, "strike", "(IZ)Z"⟩
abbrev cX12_testMeter : ByteArray := prog_1_method_33_code
def yX12_testMeter : MethodName := ⟨RX12, "testMeter", "(I)V"⟩
abbrev cX12_estimated : ByteArray := prog_1_method_34_code
def yX12_estimated : MethodName := ⟨RX12, "estimated", "()LGridHouse$Meters;"⟩
abbrev cX12_seen : ByteArray := prog_1_method_35_code
def yX12_seen : MethodName := ⟨RX12, "seen", "(I)I"⟩
abbrev cX12_estimate : ByteArray := prog_1_method_36_code
def yX12_estimate : MethodName := ⟨RX12, "estimate", "(I)I"⟩
abbrev cX12_rest : ByteArray := prog_1_method_37_code
def yX12_rest : MethodName := ⟨RX12, "rest", "(II)I"⟩
abbrev cX12_worst : ByteArray := prog_1_method_38_code
def yX12_worst : MethodName := ⟨RX12, "worst", "()I"⟩
abbrev cX12_shortAt : ByteArray := prog_1_method_39_code
def yX12_shortAt : MethodName := ⟨RX12, "shortAt", "(III)V"⟩
abbrev cX12_shortOn : ByteArray := prog_1_method_40_code
def yX12_shortOn : MethodName := ⟨RX12, "shortOn", "(IIII)V"⟩
abbrev cX12_clearShort : ByteArray := prog_1_method_41_code
def yX12_clearShort : MethodName := ⟨RX12, "clearShort", "()Z"⟩
abbrev cX12_shorted : ByteArray := prog_1_method_42_code
def yX12_shorted : MethodName := ⟨RX12, "shorted", "()LGridHouse$Shorts;"⟩
abbrev cX12_into : ByteArray := prog_1_method_43_code
def yX12_into : MethodName := ⟨RX12, "into", "(I)I"⟩
abbrev cX12_voltage : ByteArray := prog_1_method_44_code
def yX12_voltage : MethodName := ⟨RX12, "voltage", "(II)I"⟩
abbrev cX12_current : ByteArray := prog_1_method_45_code
def yX12_current : MethodName := ⟨RX12, "current", "(III)I"⟩
abbrev cX12_relay : ByteArray := prog_1_method_46_code
def yX12_relay : MethodName := ⟨RX12, "relay", "(IIII)I"⟩
abbrev cX12_testSwitch : ByteArray := prog_1_method_47_code
def yX12_testSwitch : MethodName := ⟨RX12, "testSwitch", "(I)V"⟩
abbrev cX12_row : ByteArray := prog_1_method_48_code
def yX12_row : MethodName := ⟨RX12, "row", "(III)I"⟩
abbrev cX12_fails : ByteArray := prog_1_method_49_code
def yX12_fails : MethodName := ⟨RX12, "fails", "(IZ)Z"⟩
abbrev cX12_backup : ByteArray := prog_1_method_50_code
def yX12_backup : MethodName := ⟨RX12, "backup", "(I)I"⟩
abbrev cX12_met : ByteArray := prog_1_method_51_code
def yX12_met : MethodName := ⟨RX12, "met", "(II)Z"⟩
abbrev cX12_begin : ByteArray := prog_1_method_52_code
def yX12_begin : MethodName := ⟨RX12, "begin", "()I"⟩
abbrev cX12_run : ByteArray := prog_1_method_53_code
def yX12_run : MethodName := ⟨RX12, "run", "(I)I"⟩
abbrev cX12_opened : ByteArray := prog_1_method_54_code
def yX12_opened : MethodName := ⟨RX12, "opened", "(II)I"⟩
abbrev cX12_ordered : ByteArray := prog_1_method_55_code
def yX12_ordered : MethodName := ⟨RX12, "ordered", "(I)Z"⟩
abbrev cX12_testDispatch : ByteArray := prog_1_method_56_code
def yX12_testDispatch : MethodName := ⟨RX12, "testDispatch", "()V"⟩
abbrev cX12_dispatch : ByteArray := prog_1_method_57_code
def yX12_dispatch : MethodName := ⟨RX12, "dispatch", "()I"⟩
abbrev cX12_cost : ByteArray := prog_1_method_58_code
def yX12_cost : MethodName := ⟨RX12, "cost", "()I"⟩
abbrev cX12_sets : ByteArray := prog_1_method_59_code
def yX12_sets : MethodName := ⟨RX12, "sets", "(I)I"⟩
abbrev cX12_price : ByteArray := prog_1_method_60_code
def yX12_price : MethodName := ⟨RX12, "price", "(I)I"⟩
abbrev cX12_barred : ByteArray := prog_1_method_61_code
def yX12_barred : MethodName := ⟨RX12, "barred", "(I)I"⟩
abbrev cX12_carry : ByteArray := prog_1_method_62_code
def yX12_carry : MethodName := ⟨RX12, "carry", "()I"⟩
abbrev cX12_restore : ByteArray := prog_1_method_63_code
def yX12_restore : MethodName := ⟨RX12, "restore", "(I)I"⟩
abbrev cX12_step : ByteArray := prog_1_method_64_code
def yX12_step : MethodName := ⟨RX12, "step", "(I)I"⟩
def RX13 : String := "GridHouseModel"
def TX13 : u_T := fun k => match k with
  | 0 => ("GridHouseModel", "thrown", "I", false)
  | 1 => ("GridHouseModel", "big", "[I", true)
  | 2 => ("GridHouseModel", "length", "[I", true)
  | 3 => ("GridHouseModel", "sign", "[I", true)
  | 4 => ("GridHouseModel", "product", "[I", true)
  | 5 => ("GridHouseModel", "upper", "[I", true)
  | 6 => ("GridHouseModel", "lower", "[I", true)
  | 7 => ("GridHouseModel", "inverseOf", "[J", true)
  | 8 => ("GridHouseModel", "residue", "[J", true)
  | 9 => ("GridHouseModel", "used", "[I", true)
  | 10 => ("GridHouseModel", "usedCount", "I", false)
  | 11 => ("GridHouseModel", "p", "J", false)
  | 12 => ("GridHouseModel", "matrix", "[J", true)
  | 13 => ("GridHouseModel", "mixed", "[J", true)
  | 14 => ("GridHouseModel", "tape", "[I", true)
  | 15 => ("GridHouseModel", "taped", "I", false)
  | 16 => ("GridHouseModel", "wordAt", "[I", true)
  | 17 => ("GridHouseModel", "wordSize", "[I", true)
  | 18 => ("GridHouseModel", "words", "I", false)
  | 19 => ("GridHouseModel", "at", "I", false)
  | 20 => ("GridHouseModel", "textSize", "I", false)
  | 21 => ("GridHouseModel", "fault", "I", false)
  | 22 => ("GridHouseModel", "count", "[I", true)
  | 23 => ("GridHouseModel", "field", "[I", true)
  | 24 => ("GridHouseModel", "name", "[I", true)
  | 25 => ("GridHouseModel", "nameSize", "[I", true)
  | 26 => ("GridHouseModel", "newCount", "[I", true)
  | 27 => ("GridHouseModel", "newField", "[I", true)
  | 28 => ("GridHouseModel", "newName", "[I", true)
  | 29 => ("GridHouseModel", "newSize", "[I", true)
  | 30 => ("GridHouseModel", "kept", "[I", true)
  | 31 => ("GridHouseModel", "isKept", "[Z", true)
  | 32 => ("GridHouseModel", "stateNow", "[I", true)
  | 33 => ("GridHouseModel", "inNow", "[I", true)
  | 34 => ("GridHouseModel", "node", "[I", true)
  | 35 => ("GridHouseModel", "island", "[I", true)
  | 36 => ("GridHouseModel", "isLive", "[Z", true)
  | 37 => ("GridHouseModel", "nodeAt", "[I", true)
  | 38 => ("GridHouseModel", "nodes", "I", false)
  | 39 => ("GridHouseModel", "placeOf", "[I", true)
  | 40 => ("GridHouseModel", "hasFlows", "Z", false)
  | 41 => ("GridHouseModel", "isStuck", "[Z", true)
  | 42 => ("GridHouseModel", "lack", "[J", true)
  | 43 => ("GridHouseModel", "share", "[J", true)
  | 44 => ("GridHouseModel", "isOver", "[Z", true)
  | 45 => ("GridHouseModel", "overCount", "I", false)
  | 46 => ("GridHouseModel", "stuckCount", "I", false)
  | 47 => ("GridHouseModel", "lost", "I", false)
  | 48 => ("GridHouseModel", "putIn", "[J", true)
  | 49 => ("GridHouseModel", "hasTroubles", "Z", false)
  | 50 => ("GridHouseModel", "troubles", "I", false)
  | 51 => ("GridHouseModel", "isScreened", "[Z", true)
  | 52 => ("GridHouseModel", "troubleLine", "[I", true)
  | 53 => ("GridHouseModel", "troubleSort", "[I", true)
  | 54 => ("GridHouseModel", "troubleLost", "[I", true)
  | 55 => ("GridHouseModel", "troubleOver", "[I", true)
  | 56 => ("GridHouseModel", "meters", "I", false)
  | 57 => ("GridHouseModel", "meterKind", "[I", true)
  | 58 => ("GridHouseModel", "meterAt", "[I", true)
  | 59 => ("GridHouseModel", "meterValue", "[I", true)
  | 60 => ("GridHouseModel", "meterWeight", "[I", true)
  | 61 => ("GridHouseModel", "isStruck", "[Z", true)
  | 62 => ("GridHouseModel", "hasEstimates", "Z", false)
  | 63 => ("GridHouseModel", "isWhole", "[Z", true)
  | 64 => ("GridHouseModel", "isSeen", "[Z", true)
  | 65 => ("GridHouseModel", "shows", "[J", true)
  | 66 => ("GridHouseModel", "conductance", "[J", true)
  | 67 => ("GridHouseModel", "rankWith", "[I", true)
  | 68 => ("GridHouseModel", "hasShort", "Z", false)
  | 69 => ("GridHouseModel", "shortKind", "I", false)
  | 70 => ("GridHouseModel", "isOnLine", "Z", false)
  | 71 => ("GridHouseModel", "shortPlace", "I", false)
  | 72 => ("GridHouseModel", "shortK", "I", false)
  | 73 => ("GridHouseModel", "shortZ", "I", false)
  | 74 => ("GridHouseModel", "isVoid", "Z", false)
  | 75 => ("GridHouseModel", "shortIsland", "I", false)
  | 76 => ("GridHouseModel", "hasZero", "Z", false)
  | 77 => ("GridHouseModel", "hasNetShort", "Z", false)
  | 78 => ("GridHouseModel", "relays", "I", false)
  | 79 => ("GridHouseModel", "relayLine", "[I", true)
  | 80 => ("GridHouseModel", "relayEnd", "[I", true)
  | 81 => ("GridHouseModel", "relaySwitch", "[I", true)
  | 82 => ("GridHouseModel", "relayKind", "[I", true)
  | 83 => ("GridHouseModel", "rowCount", "[I", true)
  | 84 => ("GridHouseModel", "setting", "[I", true)
  | 85 => ("GridHouseModel", "delay", "[I", true)
  | 86 => ("GridHouseModel", "doesFail", "[Z", true)
  | 87 => ("GridHouseModel", "back", "I", false)
  | 88 => ("GridHouseModel", "isB", "Z", false)
  | 89 => ("GridHouseModel", "signOfOne", "I", false)
  | 90 => ("GridHouseModel", "hasRun", "Z", false)
  | 91 => ("GridHouseModel", "runTime", "I", false)
  | 92 => ("GridHouseModel", "runState", "[I", true)
  | 93 => ("GridHouseModel", "hasOrder", "[Z", true)
  | 94 => ("GridHouseModel", "opensAt", "[J", true)
  | 95 => ("GridHouseModel", "backupAt", "[J", true)
  | 96 => ("GridHouseModel", "since", "[J", true)
  | 97 => ("GridHouseModel", "hasTripped", "[Z", true)
  | 98 => ("GridHouseModel", "openedSwitch", "[I", true)
  | 99 => ("GridHouseModel", "openedAt", "[I", true)
  | 100 => ("GridHouseModel", "openedCount", "I", false)
  | 101 => ("GridHouseModel", "hasDispatch", "I", false)
  | 102 => ("GridHouseModel", "machines", "I", false)
  | 103 => ("GridHouseModel", "machineAt", "[I", true)
  | 104 => ("GridHouseModel", "low", "[I", true)
  | 105 => ("GridHouseModel", "high", "[I", true)
  | 106 => ("GridHouseModel", "slope", "[I", true)
  | 107 => ("GridHouseModel", "dimensions", "[I", true)
  | 108 => ("GridHouseModel", "rowsAt", "[I", true)
  | 109 => ("GridHouseModel", "machineOf", "[I", true)
  | 110 => ("GridHouseModel", "lineRows", "I", false)
  | 111 => ("GridHouseModel", "demand", "J", false)
  | 112 => ("GridHouseModel", "moreAt", "I", false)
  | 113 => ("GridHouseModel", "moreBy", "I", false)
  | 114 => ("GridHouseModel", "ruleCount", "I", false)
  | 115 => ("GridHouseModel", "ruleAct", "[I", true)
  | 116 => ("GridHouseModel", "ruleFrom", "[I", true)
  | 117 => ("GridHouseModel", "code", "[I", true)
  | 118 => ("GridHouseModel", "newRules", "I", false)
  | 119 => ("GridHouseModel", "codes", "I", false)
  | 120 => ("GridHouseModel", "newAct", "[I", true)
  | 121 => ("GridHouseModel", "newFrom", "[I", true)
  | 122 => ("GridHouseModel", "newCode", "[I", true)
  | 123 => ("GridHouseModel", "steps", "I", false)
  | 124 => ("GridHouseModel", "stepAct", "[I", true)
  | 125 => ("GridHouseModel", "stepOf", "[I", true)
  | 126 => ("GridHouseModel", "newStepAct", "[I", true)
  | 127 => ("GridHouseModel", "newStepOf", "[I", true)
  | 128 => ("GridHouseModel", "seenField", "[I", true)
  | 129 => ("GridHouseModel", "seenNode", "[I", true)
  | 130 => ("GridHouseModel", "seenLive", "[Z", true)
  | 131 => ("GridHouseModel", "seenLost", "[I", true)
  | 132 => ("GridHouseModel", "seenOver", "[I", true)
  | 133 => ("GridHouseModel", "seenLoops", "[I", true)
  | 134 => ("GridHouseModel", "pile", "[Z", true)
  | 135 => ("GridHouseModel", "barredBy", "I", false)
  | 136 => ("GridHouseModel", "fieldsBefore", "[I", true)
  | 137 => ("GridHouseModel", "restored", "I", false)
  | 138 => ("GridHouseModel", "restoredSwitch", "[I", true)
  | 139 => ("GridHouseModel", "openSwitch", "[I", true)
  | 140 => ("GridHouseModel", "openCount", "I", false)
  | 141 => ("GridHouseModel", "row", "[I", true)
  | 142 => ("GridHouseModel", "bestLost", "I", false)
  | 143 => ("GridHouseModel", "isWell", "[I", true)
  | _ => ("GridHouseModel", "lostBy", "[I", true)
def tyX13 : Nat → FieldType := fun k => match k with
  | 0 => .int
  | 1 => .array .int
  | 2 => .array .int
  | 3 => .array .int
  | 4 => .array .int
  | 5 => .array .int
  | 6 => .array .int
  | 7 => .array .long
  | 8 => .array .long
  | 9 => .array .int
  | 10 => .int
  | 11 => .long
  | 12 => .array .long
  | 13 => .array .long
  | 14 => .array .int
  | 15 => .int
  | 16 => .array .int
  | 17 => .array .int
  | 18 => .int
  | 19 => .int
  | 20 => .int
  | 21 => .int
  | 22 => .array .int
  | 23 => .array .int
  | 24 => .array .int
  | 25 => .array .int
  | 26 => .array .int
  | 27 => .array .int
  | 28 => .array .int
  | 29 => .array .int
  | 30 => .array .int
  | 31 => .array .boolean
  | 32 => .array .int
  | 33 => .array .int
  | 34 => .array .int
  | 35 => .array .int
  | 36 => .array .boolean
  | 37 => .array .int
  | 38 => .int
  | 39 => .array .int
  | 40 => .boolean
  | 41 => .array .boolean
  | 42 => .array .long
  | 43 => .array .long
  | 44 => .array .boolean
  | 45 => .int
  | 46 => .int
  | 47 => .int
  | 48 => .array .long
  | 49 => .boolean
  | 50 => .int
  | 51 => .array .boolean
  | 52 => .array .int
  | 53 => .array .int
  | 54 => .array .int
  | 55 => .array .int
  | 56 => .int
  | 57 => .array .int
  | 58 => .array .int
  | 59 => .array .int
  | 60 => .array .int
  | 61 => .array .boolean
  | 62 => .boolean
  | 63 => .array .boolean
  | 64 => .array .boolean
  | 65 => .array .long
  | 66 => .array .long
  | 67 => .array .int
  | 68 => .boolean
  | 69 => .int
  | 70 => .boolean
  | 71 => .int
  | 72 => .int
  | 73 => .int
  | 74 => .boolean
  | 75 => .int
  | 76 => .boolean
  | 77 => .boolean
  | 78 => .int
  | 79 => .array .int
  | 80 => .array .int
  | 81 => .array .int
  | 82 => .array .int
  | 83 => .array .int
  | 84 => .array .int
  | 85 => .array .int
  | 86 => .array .boolean
  | 87 => .int
  | 88 => .boolean
  | 89 => .int
  | 90 => .boolean
  | 91 => .int
  | 92 => .array .int
  | 93 => .array .boolean
  | 94 => .array .long
  | 95 => .array .long
  | 96 => .array .long
  | 97 => .array .boolean
  | 98 => .array .int
  | 99 => .array .int
  | 100 => .int
  | 101 => .int
  | 102 => .int
  | 103 => .array .int
  | 104 => .array .int
  | 105 => .array .int
  | 106 => .array .int
  | 107 => .array .int
  | 108 => .array .int
  | 109 => .array .int
  | 110 => .int
  | 111 => .long
  | 112 => .int
  | 113 => .int
  | 114 => .int
  | 115 => .array .int
  | 116 => .array .int
  | 117 => .array .int
  | 118 => .int
  | 119 => .int
  | 120 => .array .int
  | 121 => .array .int
  | 122 => .array .int
  | 123 => .int
  | 124 => .array .int
  | 125 => .array .int
  | 126 => .array .int
  | 127 => .array .int
  | 128 => .array .int
  | 129 => .array .int
  | 130 => .array .boolean
  | 131 => .array .int
  | 132 => .array .int
  | 133 => .array .int
  | 134 => .array .boolean
  | 135 => .int
  | 136 => .array .int
  | 137 => .int
  | 138 => .array .int
  | 139 => .array .int
  | 140 => .int
  | 141 => .array .int
  | 142 => .int
  | 143 => .array .int
  | _ => .array .int
abbrev wsX130 : List Cond := u_ws RX13 TX13 145
theorem nmX13 : ∀ a, a < 145 → ∀ b, b < 145 → a ≠ b → (TX13 a).2.1 ≠ (TX13 b).2.1 := by decide +kernel
theorem tyX13_ok : ∀ k, k < 145 → parseFieldDescriptor (TX13 k).2.2.1 = some (tyX13 k) := by decide +kernel
abbrev cX13_thrown : ByteArray := prog_15_method_1_code
def yX13_thrown : MethodName := ⟨RX13, "thrown", "()I"⟩
abbrev cX13_in : ByteArray := prog_15_method_2_code
def yX13_in : MethodName := ⟨RX13, "in", "(JJJ)Z"⟩
abbrev cX13_put : ByteArray := prog_15_method_3_code
def yX13_put : MethodName := ⟨RX13, "put", "(IJ)V"⟩
abbrev cX13_copy : ByteArray := prog_15_method_4_code
def yX13_copy : MethodName := ⟨RX13, "copy", "(II)V"⟩
abbrev cX13_compareSizes : ByteArray := prog_15_method_5_code
def yX13_compareSizes : MethodName := ⟨RX13, "compareSizes", "(II)I"⟩
abbrev cX13_compare : ByteArray := prog_15_method_6_code
def yX13_compare : MethodName := ⟨RX13, "compare", "(II)I"⟩
abbrev cX13_addSizes : ByteArray := prog_15_method_7_code
def yX13_addSizes : MethodName := ⟨RX13, "addSizes", "(III)V"⟩
abbrev cX13_lessSizes : ByteArray := prog_15_method_8_code
def yX13_lessSizes : MethodName := ⟨RX13, "lessSizes", "(III)V"⟩
abbrev cX13_plus : ByteArray := prog_15_method_9_code
def yX13_plus : MethodName := ⟨RX13, "plus", "(IIII)V"⟩
abbrev cX13_times : ByteArray := prog_15_method_10_code
def yX13_times : MethodName := ⟨RX13, "times", "(III)V"⟩
abbrev cX13_scale : ByteArray := prog_15_method_11_code
def yX13_scale : MethodName := ⟨RX13, "scale", "(IIJ)V"⟩
abbrev cX13_divide : ByteArray := prog_15_method_12_code
def yX13_divide : MethodName := ⟨RX13, "divide", "(IIII)V"⟩
abbrev cX13_spread : ByteArray := prog_15_method_13_code
def yX13_spread : MethodName := ⟨RX13, "spread", "([IIJ)V"⟩
abbrev cX13_takeAway : ByteArray := prog_15_method_14_code
def yX13_takeAway : MethodName := ⟨RX13, "takeAway", "(IIJ)J"⟩
abbrev cX13_finish : ByteArray := prog_15_method_15_code
def yX13_finish : MethodName := ⟨RX13, "finish", "(II)V"⟩
abbrev cX13_divideByOne : ByteArray := prog_15_method_16_code
def yX13_divideByOne : MethodName := ⟨RX13, "divideByOne", "(IIIJ)V"⟩
abbrev cX13_common : ByteArray := prog_15_method_17_code
def yX13_common : MethodName := ⟨RX13, "common", "(III)V"⟩
abbrev cX13_parts : ByteArray := prog_15_method_18_code
def yX13_parts : MethodName := ⟨RX13, "parts", "(III)V"⟩
abbrev cX13_lowest : ByteArray := prog_15_method_19_code
def yX13_lowest : MethodName := ⟨RX13, "lowest", "(II)V"⟩
abbrev cX13_make : ByteArray := prog_15_method_20_code
def yX13_make : MethodName := ⟨RX13, "make", "(II)I"⟩
abbrev cX13_makeWhole : ByteArray := prog_15_method_21_code
def yX13_makeWhole : MethodName := ⟨RX13, "makeWhole", "(JJ)I"⟩
abbrev cX13_figures : ByteArray := prog_15_method_22_code
def yX13_figures : MethodName := ⟨RX13, "figures", "(I)I"⟩
abbrev cX13_figure : ByteArray := prog_15_method_23_code
def yX13_figure : MethodName := ⟨RX13, "figure", "(II)I"⟩
abbrev cX13_mod : ByteArray := prog_15_method_24_code
def yX13_mod : MethodName := ⟨RX13, "mod", "(J)J"⟩
abbrev cX13_inverse : ByteArray := prog_15_method_25_code
def yX13_inverse : MethodName := ⟨RX13, "inverse", "(JJ)J"⟩
abbrev cX13_inverse_ : ByteArray := prog_15_method_26_code
def yX13_inverse_ : MethodName := ⟨RX13, "inverse", "(J)J"⟩
abbrev cX13_solve : ByteArray := prog_15_method_27_code
def yX13_solve : MethodName := ⟨RX13, "solve", "(II)J"⟩
abbrev cX13_swap : ByteArray := prog_15_method_28_code
def yX13_swap : MethodName := ⟨RX13, "swap", "(III)V"⟩
abbrev cX13_clear : ByteArray := prog_15_method_29_code
def yX13_clear : MethodName := ⟨RX13, "clear", "(IIII)V"⟩
abbrev cX13_clearMatrix : ByteArray := prog_15_method_30_code
def yX13_clearMatrix : MethodName := ⟨RX13, "clearMatrix", "(II)V"⟩
abbrev cX13_join : ByteArray := prog_15_method_31_code
def yX13_join : MethodName := ⟨RX13, "join", "(IIJ)V"⟩
abbrev cX13_usePrime : ByteArray := prog_15_method_32_code
def yX13_usePrime : MethodName := ⟨RX13, "usePrime", "(I)V"⟩
abbrev cX13_tell : ByteArray := prog_15_method_33_code
def yX13_tell : MethodName := ⟨RX13, "tell", "(IJ)V"⟩
abbrev cX13_fromResidues : ByteArray := prog_15_method_34_code
def yX13_fromResidues : MethodName := ⟨RX13, "fromResidues", "(II)V"⟩
abbrev cX13_stretch : ByteArray := prog_15_method_35_code
def yX13_stretch : MethodName := ⟨RX13, "stretch", "(IJJ)V"⟩
abbrev cX13_feed : ByteArray := prog_15_method_36_code
def yX13_feed : MethodName := ⟨RX13, "feed", "(IIIII)I"⟩
abbrev cX13_end : ByteArray := prog_15_method_37_code
def yX13_end : MethodName := ⟨RX13, "end", "(I)V"⟩
abbrev cX13_isLetter : ByteArray := prog_15_method_38_code
def yX13_isLetter : MethodName := ⟨RX13, "isLetter", "(I)Z"⟩
abbrev cX13_isFigure : ByteArray := prog_15_method_39_code
def yX13_isFigure : MethodName := ⟨RX13, "isFigure", "(I)Z"⟩
abbrev cX13_findWords : ByteArray := prog_15_method_40_code
def yX13_findWords : MethodName := ⟨RX13, "findWords", "()V"⟩
abbrev cX13_isAt : ByteArray := prog_15_method_41_code
def yX13_isAt : MethodName := ⟨RX13, "isAt", "(II)Z"⟩
abbrev cX13_isKey : ByteArray := prog_15_method_42_code
def yX13_isKey : MethodName := ⟨RX13, "isKey", "(I)Z"⟩
abbrev cX13_is : ByteArray := prog_15_method_43_code
def yX13_is : MethodName := ⟨RX13, "is", "(Ljava/lang/String;)Z"⟩
abbrev cX13_wrong : ByteArray := prog_15_method_44_code
def yX13_wrong : MethodName := ⟨RX13, "wrong", "()V"⟩
abbrev cX13_want : ByteArray := prog_15_method_45_code
def yX13_want : MethodName := ⟨RX13, "want", "(Ljava/lang/String;)V"⟩
abbrev cX13_takes : ByteArray := prog_15_method_46_code
def yX13_takes : MethodName := ⟨RX13, "takes", "(Ljava/lang/String;)Z"⟩
abbrev cX13_number : ByteArray := prog_15_method_47_code
def yX13_number : MethodName := ⟨RX13, "number", "(II)I"⟩
abbrev cX13_isName : ByteArray := prog_15_method_48_code
def yX13_isName : MethodName := ⟨RX13, "isName", "()Z"⟩
abbrev cX13_most : ByteArray := prog_15_method_49_code
def yX13_most : MethodName := ⟨RX13, "most", "(I)I"⟩
abbrev cX13_fields : ByteArray := prog_15_method_50_code
def yX13_fields : MethodName := ⟨RX13, "fields", "(I)I"⟩
abbrev cX13_f : ByteArray := prog_15_method_51_code
def yX13_f : MethodName := ⟨RX13, "f", "(III)I"⟩
abbrev cX13_of : ByteArray := prog_15_method_52_code
def yX13_of : MethodName := ⟨RX13, "of", "(III)I"⟩
abbrev cX13_isObject : ByteArray := prog_15_method_53_code
def yX13_isObject : MethodName := ⟨RX13, "isObject", "(II)Z"⟩
abbrev cX13_named : ByteArray := prog_15_method_54_code
def yX13_named : MethodName := ⟨RX13, "named", "(IZ)I"⟩
abbrev cX13_newOne : ByteArray := prog_15_method_55_code
def yX13_newOne : MethodName := ⟨RX13, "newOne", "(I)V"⟩
abbrev cX13_newBar : ByteArray := prog_15_method_56_code
def yX13_newBar : MethodName := ⟨RX13, "newBar", "(I)I"⟩
abbrev cX13_readNet : ByteArray := prog_15_method_57_code
def yX13_readNet : MethodName := ⟨RX13, "readNet", "()V"⟩
abbrev cX13_readObject : ByteArray := prog_15_method_58_code
def yX13_readObject : MethodName := ⟨RX13, "readObject", "(I)V"⟩
abbrev cX13_readMachine : ByteArray := prog_15_method_59_code
def yX13_readMachine : MethodName := ⟨RX13, "readMachine", "(II)V"⟩
abbrev cX13_net : ByteArray := prog_15_method_60_code
def yX13_net : MethodName := ⟨RX13, "net", "()I"⟩
abbrev cX13_changed : ByteArray := prog_15_method_61_code
def yX13_changed : MethodName := ⟨RX13, "changed", "()V"⟩
abbrev cX13_find : ByteArray := prog_15_method_62_code
def yX13_find : MethodName := ⟨RX13, "find", "()I"⟩
abbrev cX13_name : ByteArray := prog_15_method_63_code
def yX13_name : MethodName := ⟨RX13, "name", "(III)I"⟩
abbrev cX13_get : ByteArray := prog_15_method_64_code
def yX13_get : MethodName := ⟨RX13, "get", "(III)I"⟩
abbrev cX13_mayBe : ByteArray := prog_15_method_65_code
def yX13_mayBe : MethodName := ⟨RX13, "mayBe", "(IIII)Z"⟩
abbrev cX13_set : ByteArray := prog_15_method_66_code
def yX13_set : MethodName := ⟨RX13, "set", "(IIII)I"⟩
abbrev cX13_keep : ByteArray := prog_15_method_67_code
def yX13_keep : MethodName := ⟨RX13, "keep", "(I)V"⟩
abbrev cX13_back : ByteArray := prog_15_method_68_code
def yX13_back : MethodName := ⟨RX13, "back", "(I)V"⟩
abbrev cX13_asItIs : ByteArray := prog_15_method_69_code
def yX13_asItIs : MethodName := ⟨RX13, "asItIs", "()V"⟩
abbrev cX13_merge : ByteArray := prog_15_method_70_code
def yX13_merge : MethodName := ⟨RX13, "merge", "([III)V"⟩
abbrev cX13_topology : ByteArray := prog_15_method_71_code
def yX13_topology : MethodName := ⟨RX13, "topology", "()V"⟩
abbrev cX13_nodeOfLine : ByteArray := prog_15_method_72_code
def yX13_nodeOfLine : MethodName := ⟨RX13, "nodeOfLine", "(II)I"⟩
abbrev cX13_islandOfLine : ByteArray := prog_15_method_73_code
def yX13_islandOfLine : MethodName := ⟨RX13, "islandOfLine", "(I)I"⟩
abbrev cX13_isBetween : ByteArray := prog_15_method_74_code
def yX13_isBetween : MethodName := ⟨RX13, "isBetween", "(I)Z"⟩
abbrev cX13_listNodes : ByteArray := prog_15_method_75_code
def yX13_listNodes : MethodName := ⟨RX13, "listNodes", "(I)V"⟩
abbrev cX13_bar : ByteArray := prog_15_method_76_code
def yX13_bar : MethodName := ⟨RX13, "bar", "(II)I"⟩
abbrev cX13_netTopology : ByteArray := prog_15_method_77_code
def yX13_netTopology : MethodName := ⟨RX13, "netTopology", "()V"⟩
abbrev cX13_netFlows : ByteArray := prog_15_method_78_code
def yX13_netFlows : MethodName := ⟨RX13, "netFlows", "()V"⟩
abbrev cX13_flows : ByteArray := prog_15_method_79_code
def yX13_flows : MethodName := ⟨RX13, "flows", "()V"⟩
abbrev cX13_times_ : ByteArray := prog_15_method_80_code
def yX13_times_ : MethodName := ⟨RX13, "times", "(I)J"⟩
abbrev cX13_putAllIn : ByteArray := prog_15_method_81_code
def yX13_putAllIn : MethodName := ⟨RX13, "putAllIn", "(I)V"⟩
abbrev cX13_joinLines : ByteArray := prog_15_method_82_code
def yX13_joinLines : MethodName := ⟨RX13, "joinLines", "(I)J"⟩
abbrev cX13_flowsOf : ByteArray := prog_15_method_83_code
def yX13_flowsOf : MethodName := ⟨RX13, "flowsOf", "(I)V"⟩
abbrev cX13_tellLines : ByteArray := prog_15_method_84_code
def yX13_tellLines : MethodName := ⟨RX13, "tellLines", "(IIJ)V"⟩
abbrev cX13_angleAt : ByteArray := prog_15_method_85_code
def yX13_angleAt : MethodName := ⟨RX13, "angleAt", "(II)J"⟩
abbrev cX13_angle : ByteArray := prog_15_method_86_code
def yX13_angle : MethodName := ⟨RX13, "angle", "(I)I"⟩
abbrev cX13_carries : ByteArray := prog_15_method_87_code
def yX13_carries : MethodName := ⟨RX13, "carries", "(I)I"⟩
abbrev cX13_gives : ByteArray := prog_15_method_88_code
def yX13_gives : MethodName := ⟨RX13, "gives", "(I)I"⟩
abbrev cX13_count : ByteArray := prog_15_method_89_code
def yX13_count : MethodName := ⟨RX13, "count", "(I)I"⟩
abbrev cX13_screenAll : ByteArray := prog_15_method_90_code
def yX13_screenAll : MethodName := ⟨RX13, "screenAll", "()V"⟩
abbrev cX13_screen : ByteArray := prog_15_method_91_code
def yX13_screen : MethodName := ⟨RX13, "screen", "()I"⟩
abbrev cX13_trouble : ByteArray := prog_15_method_92_code
def yX13_trouble : MethodName := ⟨RX13, "trouble", "(II)I"⟩
abbrev cX13_meter : ByteArray := prog_15_method_93_code
def yX13_meter : MethodName := ⟨RX13, "meter", "(IIII)I"⟩
abbrev cX13_strike : ByteArray := prog_15_method_94_code
def yX13_strike : MethodName := ⟨RX13, "strike", "(IZ)Z"⟩
abbrev cX13_islandOfMeter : ByteArray := prog_15_method_95_code
def yX13_islandOfMeter : MethodName := ⟨RX13, "islandOfMeter", "(I)I"⟩
abbrev cX13_addShown : ByteArray := prog_15_method_96_code
def yX13_addShown : MethodName := ⟨RX13, "addShown", "(IIJ)V"⟩
abbrev cX13_showAll : ByteArray := prog_15_method_97_code
def yX13_showAll : MethodName := ⟨RX13, "showAll", "(I)V"⟩
abbrev cX13_counts : ByteArray := prog_15_method_98_code
def yX13_counts : MethodName := ⟨RX13, "counts", "(II)Z"⟩
abbrev cX13_estimates : ByteArray := prog_15_method_99_code
def yX13_estimates : MethodName := ⟨RX13, "estimates", "()V"⟩
abbrev cX13_estimateOf : ByteArray := prog_15_method_100_code
def yX13_estimateOf : MethodName := ⟨RX13, "estimateOf", "(II)V"⟩
abbrev cX13_equations : ByteArray := prog_15_method_101_code
def yX13_equations : MethodName := ⟨RX13, "equations", "(II)J"⟩
abbrev cX13_tellEstimate : ByteArray := prog_15_method_102_code
def yX13_tellEstimate : MethodName := ⟨RX13, "tellEstimate", "(IIJ)V"⟩
abbrev cX13_seenOf : ByteArray := prog_15_method_103_code
def yX13_seenOf : MethodName := ⟨RX13, "seenOf", "(II)V"⟩
abbrev cX13_isNew : ByteArray := prog_15_method_104_code
def yX13_isNew : MethodName := ⟨RX13, "isNew", "(II)Z"⟩
abbrev cX13_reduced : ByteArray := prog_15_method_105_code
def yX13_reduced : MethodName := ⟨RX13, "reduced", "(II)I"⟩
abbrev cX13_seen : ByteArray := prog_15_method_106_code
def yX13_seen : MethodName := ⟨RX13, "seen", "(I)I"⟩
abbrev cX13_estimate : ByteArray := prog_15_method_107_code
def yX13_estimate : MethodName := ⟨RX13, "estimate", "(I)I"⟩
abbrev cX13_rest : ByteArray := prog_15_method_108_code
def yX13_rest : MethodName := ⟨RX13, "rest", "(II)I"⟩
abbrev cX13_worst : ByteArray := prog_15_method_109_code
def yX13_worst : MethodName := ⟨RX13, "worst", "()I"⟩
abbrev cX13_isWorse : ByteArray := prog_15_method_110_code
def yX13_isWorse : MethodName := ⟨RX13, "isWorse", "(II)Z"⟩
abbrev cX13_worstOf : ByteArray := prog_15_method_111_code
def yX13_worstOf : MethodName := ⟨RX13, "worstOf", "(III)V"⟩
abbrev cX13_shortAt : ByteArray := prog_15_method_112_code
def yX13_shortAt : MethodName := ⟨RX13, "shortAt", "(III)V"⟩
abbrev cX13_shortOn : ByteArray := prog_15_method_113_code
def yX13_shortOn : MethodName := ⟨RX13, "shortOn", "(IIII)V"⟩
abbrev cX13_shortIs : ByteArray := prog_15_method_114_code
def yX13_shortIs : MethodName := ⟨RX13, "shortIs", "(IZIII)V"⟩
abbrev cX13_clearShort : ByteArray := prog_15_method_115_code
def yX13_clearShort : MethodName := ⟨RX13, "clearShort", "()Z"⟩
abbrev cX13_netShort : ByteArray := prog_15_method_116_code
def yX13_netShort : MethodName := ⟨RX13, "netShort", "()V"⟩
abbrev cX13_placeRow : ByteArray := prog_15_method_117_code
def yX13_placeRow : MethodName := ⟨RX13, "placeRow", "()I"⟩
abbrev cX13_shorts : ByteArray := prog_15_method_118_code
def yX13_shorts : MethodName := ⟨RX13, "shorts", "()V"⟩
abbrev cX13_isOnIn : ByteArray := prog_15_method_119_code
def yX13_isOnIn : MethodName := ⟨RX13, "isOnIn", "(II)Z"⟩
abbrev cX13_potentials : ByteArray := prog_15_method_120_code
def yX13_potentials : MethodName := ⟨RX13, "potentials", "(III)V"⟩
abbrev cX13_joinParts : ByteArray := prog_15_method_121_code
def yX13_joinParts : MethodName := ⟨RX13, "joinParts", "(II)J"⟩
abbrev cX13_currentsOfShort : ByteArray := prog_15_method_122_code
def yX13_currentsOfShort : MethodName := ⟨RX13, "currentsOfShort", "()V"⟩
abbrev cX13_into : ByteArray := prog_15_method_123_code
def yX13_into : MethodName := ⟨RX13, "into", "(I)I"⟩
abbrev cX13_voltagesOf : ByteArray := prog_15_method_124_code
def yX13_voltagesOf : MethodName := ⟨RX13, "voltagesOf", "(I)V"⟩
abbrev cX13_currentsInto : ByteArray := prog_15_method_125_code
def yX13_currentsInto : MethodName := ⟨RX13, "currentsInto", "(II)V"⟩
abbrev cX13_squareA : ByteArray := prog_15_method_126_code
def yX13_squareA : MethodName := ⟨RX13, "squareA", "(II)V"⟩
abbrev cX13_squareB : ByteArray := prog_15_method_127_code
def yX13_squareB : MethodName := ⟨RX13, "squareB", "(II)V"⟩
abbrev cX13_makeOf : ByteArray := prog_15_method_128_code
def yX13_makeOf : MethodName := ⟨RX13, "makeOf", "(I)I"⟩
abbrev cX13_voltage : ByteArray := prog_15_method_129_code
def yX13_voltage : MethodName := ⟨RX13, "voltage", "(II)I"⟩
abbrev cX13_current : ByteArray := prog_15_method_130_code
def yX13_current : MethodName := ⟨RX13, "current", "(III)I"⟩
abbrev cX13_rowsOfShort : ByteArray := prog_15_method_131_code
def yX13_rowsOfShort : MethodName := ⟨RX13, "rowsOfShort", "()V"⟩
abbrev cX13_relay : ByteArray := prog_15_method_132_code
def yX13_relay : MethodName := ⟨RX13, "relay", "(IIII)I"⟩
abbrev cX13_row : ByteArray := prog_15_method_133_code
def yX13_row : MethodName := ⟨RX13, "row", "(III)I"⟩
abbrev cX13_fails : ByteArray := prog_15_method_134_code
def yX13_fails : MethodName := ⟨RX13, "fails", "(IZ)Z"⟩
abbrev cX13_backup : ByteArray := prog_15_method_135_code
def yX13_backup : MethodName := ⟨RX13, "backup", "(I)I"⟩
abbrev cX13_lookAt : ByteArray := prog_15_method_136_code
def yX13_lookAt : MethodName := ⟨RX13, "lookAt", "(I)V"⟩
abbrev cX13_isMet : ByteArray := prog_15_method_137_code
def yX13_isMet : MethodName := ⟨RX13, "isMet", "(II)Z"⟩
abbrev cX13_met : ByteArray := prog_15_method_138_code
def yX13_met : MethodName := ⟨RX13, "met", "(II)Z"⟩
abbrev cX13_asInRun : ByteArray := prog_15_method_139_code
def yX13_asInRun : MethodName := ⟨RX13, "asInRun", "()V"⟩
abbrev cX13_look : ByteArray := prog_15_method_140_code
def yX13_look : MethodName := ⟨RX13, "look", "(J)I"⟩
abbrev cX13_begin : ByteArray := prog_15_method_141_code
def yX13_begin : MethodName := ⟨RX13, "begin", "()I"⟩
abbrev cX13_giveOrder : ByteArray := prog_15_method_142_code
def yX13_giveOrder : MethodName := ⟨RX13, "giveOrder", "(IJ)Z"⟩
abbrev cX13_isDue : ByteArray := prog_15_method_143_code
def yX13_isDue : MethodName := ⟨RX13, "isDue", "(II)Z"⟩
abbrev cX13_nextTime : ByteArray := prog_15_method_144_code
def yX13_nextTime : MethodName := ⟨RX13, "nextTime", "()J"⟩
abbrev cX13_openAll : ByteArray := prog_15_method_145_code
def yX13_openAll : MethodName := ⟨RX13, "openAll", "(J)I"⟩
abbrev cX13_backUp : ByteArray := prog_15_method_146_code
def yX13_backUp : MethodName := ⟨RX13, "backUp", "(IJ)V"⟩
abbrev cX13_actsAt : ByteArray := prog_15_method_147_code
def yX13_actsAt : MethodName := ⟨RX13, "actsAt", "(J)I"⟩
abbrev cX13_run : ByteArray := prog_15_method_148_code
def yX13_run : MethodName := ⟨RX13, "run", "(I)I"⟩
abbrev cX13_opened : ByteArray := prog_15_method_149_code
def yX13_opened : MethodName := ⟨RX13, "opened", "(II)I"⟩
abbrev cX13_ordered : ByteArray := prog_15_method_150_code
def yX13_ordered : MethodName := ⟨RX13, "ordered", "(I)Z"⟩
abbrev cX13_cellOf : ByteArray := prog_15_method_151_code
def yX13_cellOf : MethodName := ⟨RX13, "cellOf", "(III)I"⟩
abbrev cX13_aimOf : ByteArray := prog_15_method_152_code
def yX13_aimOf : MethodName := ⟨RX13, "aimOf", "(III)I"⟩
abbrev cX13_pointOf : ByteArray := prog_15_method_153_code
def yX13_pointOf : MethodName := ⟨RX13, "pointOf", "(II)I"⟩
abbrev cX13_sharesOf : ByteArray := prog_15_method_154_code
def yX13_sharesOf : MethodName := ⟨RX13, "sharesOf", "(I)V"⟩
abbrev cX13_sharesBy : ByteArray := prog_15_method_155_code
def yX13_sharesBy : MethodName := ⟨RX13, "sharesBy", "(II)J"⟩
abbrev cX13_linePlanes : ByteArray := prog_15_method_156_code
def yX13_linePlanes : MethodName := ⟨RX13, "linePlanes", "(I)V"⟩
abbrev cX13_shorten : ByteArray := prog_15_method_157_code
def yX13_shorten : MethodName := ⟨RX13, "shorten", "(III)V"⟩
abbrev cX13_bestOfCell : ByteArray := prog_15_method_158_code
def yX13_bestOfCell : MethodName := ⟨RX13, "bestOfCell", "()Z"⟩
abbrev cX13_solveLevel : ByteArray := prog_15_method_159_code
def yX13_solveLevel : MethodName := ⟨RX13, "solveLevel", "(I)Z"⟩
abbrev cX13_onPlane : ByteArray := prog_15_method_160_code
def yX13_onPlane : MethodName := ⟨RX13, "onPlane", "(III)V"⟩
abbrev cX13_cross : ByteArray := prog_15_method_161_code
def yX13_cross : MethodName := ⟨RX13, "cross", "(IIIIII)V"⟩
abbrev cX13_boundRows : ByteArray := prog_15_method_162_code
def yX13_boundRows : MethodName := ⟨RX13, "boundRows", "(III)V"⟩
abbrev cX13_fromPlane : ByteArray := prog_15_method_163_code
def yX13_fromPlane : MethodName := ⟨RX13, "fromPlane", "(III)V"⟩
abbrev cX13_lowestPoint : ByteArray := prog_15_method_164_code
def yX13_lowestPoint : MethodName := ⟨RX13, "lowestPoint", "(II)V"⟩
abbrev cX13_turns : ByteArray := prog_15_method_165_code
def yX13_turns : MethodName := ⟨RX13, "turns", "(I)Z"⟩
abbrev cX13_cell : ByteArray := prog_15_method_166_code
def yX13_cell : MethodName := ⟨RX13, "cell", "(I)V"⟩
abbrev cX13_sideOf : ByteArray := prog_15_method_167_code
def yX13_sideOf : MethodName := ⟨RX13, "sideOf", "(III)I"⟩
abbrev cX13_costOf : ByteArray := prog_15_method_168_code
def yX13_costOf : MethodName := ⟨RX13, "costOf", "(III)V"⟩
abbrev cX13_isBetter : ByteArray := prog_15_method_169_code
def yX13_isBetter : MethodName := ⟨RX13, "isBetter", "()Z"⟩
abbrev cX13_bestOf : ByteArray := prog_15_method_170_code
def yX13_bestOf : MethodName := ⟨RX13, "bestOf", "(I)Z"⟩
abbrev cX13_dispatchOf : ByteArray := prog_15_method_171_code
def yX13_dispatchOf : MethodName := ⟨RX13, "dispatchOf", "(I)Z"⟩
abbrev cX13_dispatchNet : ByteArray := prog_15_method_172_code
def yX13_dispatchNet : MethodName := ⟨RX13, "dispatchNet", "()V"⟩
abbrev cX13_addDispatch : ByteArray := prog_15_method_173_code
def yX13_addDispatch : MethodName := ⟨RX13, "addDispatch", "()V"⟩
abbrev cX13_dispatch : ByteArray := prog_15_method_174_code
def yX13_dispatch : MethodName := ⟨RX13, "dispatch", "()I"⟩
abbrev cX13_cost : ByteArray := prog_15_method_175_code
def yX13_cost : MethodName := ⟨RX13, "cost", "()I"⟩
abbrev cX13_sets : ByteArray := prog_15_method_176_code
def yX13_sets : MethodName := ⟨RX13, "sets", "(I)I"⟩
abbrev cX13_price : ByteArray := prog_15_method_177_code
def yX13_price : MethodName := ⟨RX13, "price", "(I)I"⟩
abbrev cX13_act : ByteArray := prog_15_method_178_code
def yX13_act : MethodName := ⟨RX13, "act", "()I"⟩
abbrev cX13_isOfBar : ByteArray := prog_15_method_179_code
def yX13_isOfBar : MethodName := ⟨RX13, "isOfBar", "(I)Z"⟩
abbrev cX13_add : ByteArray := prog_15_method_180_code
def yX13_add : MethodName := ⟨RX13, "add", "(IZII)V"⟩
abbrev cX13_word : ByteArray := prog_15_method_181_code
def yX13_word : MethodName := ⟨RX13, "word", "(II)I"⟩
abbrev cX13_condition : ByteArray := prog_15_method_182_code
def yX13_condition : MethodName := ⟨RX13, "condition", "(II)V"⟩
abbrev cX13_allOf : ByteArray := prog_15_method_183_code
def yX13_allOf : MethodName := ⟨RX13, "allOf", "(II)V"⟩
abbrev cX13_one : ByteArray := prog_15_method_184_code
def yX13_one : MethodName := ⟨RX13, "one", "(II)V"⟩
abbrev cX13_told : ByteArray := prog_15_method_185_code
def yX13_told : MethodName := ⟨RX13, "told", "(IZ)V"⟩
abbrev cX13_rules : ByteArray := prog_15_method_186_code
def yX13_rules : MethodName := ⟨RX13, "rules", "()I"⟩
abbrev cX13_order : ByteArray := prog_15_method_187_code
def yX13_order : MethodName := ⟨RX13, "order", "()I"⟩
abbrev cX13_see : ByteArray := prog_15_method_188_code
def yX13_see : MethodName := ⟨RX13, "see", "(I)V"⟩
abbrev cX13_overOf : ByteArray := prog_15_method_189_code
def yX13_overOf : MethodName := ⟨RX13, "overOf", "(I)I"⟩
abbrev cX13_objectOf : ByteArray := prog_15_method_190_code
def yX13_objectOf : MethodName := ⟨RX13, "objectOf", "(II)I"⟩
abbrev cX13_holdsCode : ByteArray := prog_15_method_191_code
def yX13_holdsCode : MethodName := ⟨RX13, "holdsCode", "(II)Z"⟩
abbrev cX13_holds : ByteArray := prog_15_method_192_code
def yX13_holds : MethodName := ⟨RX13, "holds", "(II)Z"⟩
abbrev cX13_fieldOf : ByteArray := prog_15_method_193_code
def yX13_fieldOf : MethodName := ⟨RX13, "fieldOf", "(II)I"⟩
abbrev cX13_valueOf : ByteArray := prog_15_method_194_code
def yX13_valueOf : MethodName := ⟨RX13, "valueOf", "(I)I"⟩
abbrev cX13_isBarred : ByteArray := prog_15_method_195_code
def yX13_isBarred : MethodName := ⟨RX13, "isBarred", "(II)Z"⟩
abbrev cX13_remember : ByteArray := prog_15_method_196_code
def yX13_remember : MethodName := ⟨RX13, "remember", "()V"⟩
abbrev cX13_comeBack : ByteArray := prog_15_method_197_code
def yX13_comeBack : MethodName := ⟨RX13, "comeBack", "()V"⟩
abbrev cX13_goThrough : ByteArray := prog_15_method_198_code
def yX13_goThrough : MethodName := ⟨RX13, "goThrough", "()I"⟩
abbrev cX13_barred : ByteArray := prog_15_method_199_code
def yX13_barred : MethodName := ⟨RX13, "barred", "(I)I"⟩
abbrev cX13_carry : ByteArray := prog_15_method_200_code
def yX13_carry : MethodName := ⟨RX13, "carry", "()I"⟩
abbrev cX13_wellBy : ByteArray := prog_15_method_201_code
def yX13_wellBy : MethodName := ⟨RX13, "wellBy", "(I)V"⟩
abbrev cX13_goOn : ByteArray := prog_15_method_202_code
def yX13_goOn : MethodName := ⟨RX13, "goOn", "(III)V"⟩
abbrev cX13_restore : ByteArray := prog_15_method_203_code
def yX13_restore : MethodName := ⟨RX13, "restore", "(I)I"⟩
abbrev cX13_step : ByteArray := prog_15_method_204_code
def yX13_step : MethodName := ⟨RX13, "step", "(I)I"⟩
abbrev cX13_init : ByteArray := prog_15_method_205_code
def yX13_init : MethodName := ⟨RX13, "<init>", "()V"⟩
def RJ6 : String := "java/lang/Integer"
def TJ6 : u_T := fun k => match k with
  | _ => ("", "", "", false)
def tyJ6 : Nat → FieldType := fun k => match k with
  | _ => .int
abbrev wsJ60 : List Cond := u_ws RJ6 TJ6 0
theorem nmJ6 : ∀ a, a < 0 → ∀ b, b < 0 → a ≠ b → (TJ6 a).2.1 ≠ (TJ6 b).2.1 := by decide +kernel
theorem tyJ6_ok : ∀ k, k < 0 → parseFieldDescriptor (TJ6 k).2.2.1 = some (tyJ6 k) := by decide +kernel
abbrev cJ6_compare_7cf53 : ByteArray := prog_20_method_40_code
def yJ6_compare_7cf53 : MethodName := ⟨RJ6, "compare", "(II)I"⟩
def RJ9 : String := "java/lang/Math"
def TJ9 : u_T := fun k => match k with
  | _ => ("", "", "", false)
def tyJ9 : Nat → FieldType := fun k => match k with
  | _ => .int
abbrev wsJ90 : List Cond := u_ws RJ9 TJ9 0
theorem nmJ9 : ∀ a, a < 0 → ∀ b, b < 0 → a ≠ b → (TJ9 a).2.1 ≠ (TJ9 b).2.1 := by decide +kernel
theorem tyJ9_ok : ∀ k, k < 0 → parseFieldDescriptor (TJ9 k).2.2.1 = some (tyJ9 k) := by decide +kernel
abbrev cJ9_abs_067f4 : ByteArray := prog_21_method_61_code
def yJ9_abs_067f4 : MethodName := ⟨RJ9, "abs", "(J)J"⟩
abbrev cJ9_max_7cf53 : ByteArray := prog_21_method_65_code
def yJ9_max_7cf53 : MethodName := ⟨RJ9, "max", "(II)I"⟩
abbrev cJ9_max_f86c9 : ByteArray := prog_21_method_66_code
def yJ9_max_f86c9 : MethodName := ⟨RJ9, "max", "(JJ)J"⟩
abbrev cJ9_min_7cf53 : ByteArray := prog_21_method_69_code
def yJ9_min_7cf53 : MethodName := ⟨RJ9, "min", "(II)I"⟩
abbrev cJ9_min_f86c9 : ByteArray := prog_21_method_70_code
def yJ9_min_f86c9 : MethodName := ⟨RJ9, "min", "(JJ)J"⟩
def RJ0 : String := "java/lang/String"
def TJ0 : u_T := fun k => match k with
  | _ => ("", "", "", false)
def tyJ0 : Nat → FieldType := fun k => match k with
  | _ => .int
abbrev wsJ00 : List Cond := u_ws RJ0 TJ0 0
theorem nmJ0 : ∀ a, a < 0 → ∀ b, b < 0 → a ≠ b → (TJ0 a).2.1 ≠ (TJ0 b).2.1 := by decide +kernel
theorem tyJ0_ok : ∀ k, k < 0 → parseFieldDescriptor (TJ0 k).2.2.1 = some (tyJ0 k) := by decide +kernel
abbrev cJ0_length_8abf5 : ByteArray := prog_23_method_54_code
def yJ0_length_8abf5 : MethodName := ⟨RJ0, "length", "()I"⟩
abbrev cJ0_charAt_5068e : ByteArray := prog_23_method_56_code
def yJ0_charAt_5068e : MethodName := ⟨RJ0, "charAt", "(I)C"⟩
abbrev cJ0_coder_7d493 : ByteArray := prog_23_method_152_code
def yJ0_coder_7d493 : MethodName := ⟨RJ0, "coder", "()B"⟩
abbrev cJ0_isLatin1_aae02 : ByteArray := prog_23_method_154_code
def yJ0_isLatin1_aae02 : MethodName := ⟨RJ0, "isLatin1", "()Z"⟩
abbrev cJ0_checkIndex_df160 : ByteArray := prog_23_method_155_code
def yJ0_checkIndex_df160 : MethodName := ⟨RJ0, "checkIndex", "(II)V"⟩
def RJ1 : String := "java/lang/StringLatin1"
def TJ1 : u_T := fun k => match k with
  | _ => ("", "", "", false)
def tyJ1 : Nat → FieldType := fun k => match k with
  | _ => .int
abbrev wsJ10 : List Cond := u_ws RJ1 TJ1 0
theorem nmJ1 : ∀ a, a < 0 → ∀ b, b < 0 → a ≠ b → (TJ1 a).2.1 ≠ (TJ1 b).2.1 := by decide +kernel
theorem tyJ1_ok : ∀ k, k < 0 → parseFieldDescriptor (TJ1 k).2.2.1 = some (tyJ1 k) := by decide +kernel
abbrev cJ1_charAt_3b067 : ByteArray := prog_24_method_2_code
def yJ1_charAt_3b067 : MethodName := ⟨RJ1, "charAt", "([BI)C"⟩
def RJ2 : String := "java/lang/StringUTF16"
def TJ2 : u_T := fun k => match k with
  | _ => ("", "", "", false)
def tyJ2 : Nat → FieldType := fun k => match k with
  | _ => .int
abbrev wsJ20 : List Cond := u_ws RJ2 TJ2 0
theorem nmJ2 : ∀ a, a < 0 → ∀ b, b < 0 → a ≠ b → (TJ2 a).2.1 ≠ (TJ2 b).2.1 := by decide +kernel
theorem tyJ2_ok : ∀ k, k < 0 → parseFieldDescriptor (TJ2 k).2.2.1 = some (tyJ2 k) := by decide +kernel
abbrev cJ2_getChar_3b067 : ByteArray := prog_25_method_5_code
def yJ2_getChar_3b067 : MethodName := ⟨RJ2, "getChar", "([BI)C"⟩
abbrev cJ2_length_9d52b : ByteArray := prog_25_method_6_code
def yJ2_length_9d52b : MethodName := ⟨RJ2, "length", "([B)I"⟩
abbrev cJ2_charAt_3b067 : ByteArray := prog_25_method_83_code
def yJ2_charAt_3b067 : MethodName := ⟨RJ2, "charAt", "([BI)C"⟩
abbrev cJ2_checkIndex_2214a : ByteArray := prog_25_method_91_code
def yJ2_checkIndex_2214a : MethodName := ⟨RJ2, "checkIndex", "(I[B)V"⟩
def RJ10 : String := "java/lang/System"
def TJ10 : u_T := fun k => match k with
  | _ => ("", "", "", false)
def tyJ10 : Nat → FieldType := fun k => match k with
  | _ => .int
abbrev wsJ100 : List Cond := u_ws RJ10 TJ10 0
theorem nmJ10 : ∀ a, a < 0 → ∀ b, b < 0 → a ≠ b → (TJ10 a).2.1 ≠ (TJ10 b).2.1 := by decide +kernel
theorem tyJ10_ok : ∀ k, k < 0 → parseFieldDescriptor (TJ10 k).2.2.1 = some (tyJ10 k) := by decide +kernel
def RJ3 : String := "jdk/internal/util/Preconditions"
def TJ3 : u_T := fun k => match k with
  | _ => ("", "", "", false)
def tyJ3 : Nat → FieldType := fun k => match k with
  | _ => .int
abbrev wsJ30 : List Cond := u_ws RJ3 TJ3 0
theorem nmJ3 : ∀ a, a < 0 → ∀ b, b < 0 → a ≠ b → (TJ3 a).2.1 ≠ (TJ3 b).2.1 := by decide +kernel
theorem tyJ3_ok : ∀ k, k < 0 → parseFieldDescriptor (TJ3 k).2.2.1 = some (tyJ3 k) := by decide +kernel
abbrev cJ3_checkIndex_8e157 : ByteArray := prog_28_method_11_code
def yJ3_checkIndex_8e157 : MethodName := ⟨RJ3, "checkIndex", "(IILjava/util/function/BiFunction;)I"⟩
def RL : String := "GridHouseLaw"
abbrev cL_feed : ByteArray := method_3_code
def yL_feed : MethodName := ⟨RL, "feed", "(LGridHouse;IIIII[J)I"⟩
abbrev cL_end : ByteArray := method_4_code
def yL_end : MethodName := ⟨RL, "end", "(LGridHouse;I)I"⟩
abbrev cL_count : ByteArray := method_5_code
def yL_count : MethodName := ⟨RL, "count", "(LGridHouse;I[J)I"⟩
abbrev cL_get : ByteArray := method_6_code
def yL_get : MethodName := ⟨RL, "get", "(LGridHouse;III[J)I"⟩
abbrev cL_set : ByteArray := method_7_code
def yL_set : MethodName := ⟨RL, "set", "(LGridHouse;IIII[J)I"⟩
abbrev cL_keep : ByteArray := method_8_code
def yL_keep : MethodName := ⟨RL, "keep", "(LGridHouse;I)I"⟩
abbrev cL_back : ByteArray := method_9_code
def yL_back : MethodName := ⟨RL, "back", "(LGridHouse;I)I"⟩
abbrev cL_bar : ByteArray := method_10_code
def yL_bar : MethodName := ⟨RL, "bar", "(LGridHouse;II[J)I"⟩
abbrev cL_angle : ByteArray := method_11_code
def yL_angle : MethodName := ⟨RL, "angle", "(LGridHouse;I[J)I"⟩
abbrev cL_carries : ByteArray := method_12_code
def yL_carries : MethodName := ⟨RL, "carries", "(LGridHouse;I[J)I"⟩
abbrev cL_gives : ByteArray := method_13_code
def yL_gives : MethodName := ⟨RL, "gives", "(LGridHouse;I[J)I"⟩
abbrev cL_figures : ByteArray := method_14_code
def yL_figures : MethodName := ⟨RL, "figures", "(LGridHouse;I[J)I"⟩
abbrev cL_figure : ByteArray := method_15_code
def yL_figure : MethodName := ⟨RL, "figure", "(LGridHouse;II[J)I"⟩
abbrev cL_trouble : ByteArray := method_16_code
def yL_trouble : MethodName := ⟨RL, "trouble", "(LGridHouse;II[J)I"⟩
abbrev cL_meter : ByteArray := method_17_code
def yL_meter : MethodName := ⟨RL, "meter", "(LGridHouse;IIII[J)I"⟩
abbrev cL_strike : ByteArray := method_18_code
def yL_strike : MethodName := ⟨RL, "strike", "(LGridHouse;IZ[J)I"⟩
abbrev cL_seen : ByteArray := method_19_code
def yL_seen : MethodName := ⟨RL, "seen", "(LGridHouse;I[J)I"⟩
abbrev cL_estimate : ByteArray := method_20_code
def yL_estimate : MethodName := ⟨RL, "estimate", "(LGridHouse;I[J)I"⟩
abbrev cL_rest : ByteArray := method_21_code
def yL_rest : MethodName := ⟨RL, "rest", "(LGridHouse;II[J)I"⟩
abbrev cL_shortAt : ByteArray := method_22_code
def yL_shortAt : MethodName := ⟨RL, "shortAt", "(LGridHouse;III)I"⟩
abbrev cL_shortOn : ByteArray := method_23_code
def yL_shortOn : MethodName := ⟨RL, "shortOn", "(LGridHouse;IIII)I"⟩
abbrev cL_into : ByteArray := method_24_code
def yL_into : MethodName := ⟨RL, "into", "(LGridHouse;I[J)I"⟩
abbrev cL_voltage : ByteArray := method_25_code
def yL_voltage : MethodName := ⟨RL, "voltage", "(LGridHouse;II[J)I"⟩
abbrev cL_current : ByteArray := method_26_code
def yL_current : MethodName := ⟨RL, "current", "(LGridHouse;III[J)I"⟩
abbrev cL_relay : ByteArray := method_27_code
def yL_relay : MethodName := ⟨RL, "relay", "(LGridHouse;IIII[J)I"⟩
abbrev cL_row : ByteArray := method_28_code
def yL_row : MethodName := ⟨RL, "row", "(LGridHouse;III[J)I"⟩
abbrev cL_fails : ByteArray := method_29_code
def yL_fails : MethodName := ⟨RL, "fails", "(LGridHouse;IZ[J)I"⟩
abbrev cL_backup : ByteArray := method_30_code
def yL_backup : MethodName := ⟨RL, "backup", "(LGridHouse;I[J)I"⟩
abbrev cL_met : ByteArray := method_31_code
def yL_met : MethodName := ⟨RL, "met", "(LGridHouse;II[J)I"⟩
abbrev cL_begin : ByteArray := method_32_code
def yL_begin : MethodName := ⟨RL, "begin", "(LGridHouse;[J)I"⟩
abbrev cL_run : ByteArray := method_33_code
def yL_run : MethodName := ⟨RL, "run", "(LGridHouse;I[J)I"⟩
abbrev cL_cost : ByteArray := method_34_code
def yL_cost : MethodName := ⟨RL, "cost", "(LGridHouse;[J)I"⟩
abbrev cL_sets : ByteArray := method_35_code
def yL_sets : MethodName := ⟨RL, "sets", "(LGridHouse;I[J)I"⟩
abbrev cL_price : ByteArray := method_36_code
def yL_price : MethodName := ⟨RL, "price", "(LGridHouse;I[J)I"⟩
abbrev cL_barred : ByteArray := method_37_code
def yL_barred : MethodName := ⟨RL, "barred", "(LGridHouse;I[J)I"⟩
abbrev cL_restore : ByteArray := method_38_code
def yL_restore : MethodName := ⟨RL, "restore", "(LGridHouse;I[J)I"⟩
abbrev cL_law : ByteArray := code
def yL_law : MethodName := ⟨RL, "law", "([I)Z"⟩
abbrev vwCl : List vw_C := [(RX0, TX0, 3), (RX1, TX1, 20), (RX2, TX2, 17), (RX3, TX3, 8), (RX4, TX4, 19), (RX5, TX5, 8), (RX6, TX6, 20), (RX7, TX7, 20), (RX8, TX8, 12), (RX9, TX9, 20), (RX10, TX10, 9), (RX11, TX11, 8), (RX12, TX12, 15), (RX13, TX13, 145)]
/-! ===== END printed: names ===== -/
