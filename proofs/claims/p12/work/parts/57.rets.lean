/-! ===== the checker's steps, sound: a method's ends ===== -/
/-- what a method's run must end with -/
def zPm (G : zW) (sp : zSp) (rk : Nat) (ν0 : Nat → Int) (hp0 : xH) (out : xE) : Prop := ∃ r, xend rk (some out) = some r ∧ zEnd G sp ν0 hp0 r
/-- the result, by the kind of return -/
noncomputable def zretV (rk n : Nat) (X : zQ) (θ : List zE) (a : Option zV) (stk : List zV) (os : List zO) : Option (List zO) := match rk, a, stk with
  | 0, none, [] => some os
  | 1, some t, [.inl e] => cond (zmatV θ t (.inl e) && zwsV n t) (some os) none
  | 2, some t, [.inr (.inl e)] => cond (zmatV θ t (.inr (.inl e)) && zwsV n t) (some os) none
  | 3, some t, [.inr (.inr x)] => cond (zmatV θ t (.inr (.inr x)) && zwsV n t) (some os) none
  | 4, some t, [.inl e] => cond (zmatV θ t (.inl e) && zwsV n t) (zin 0 1 X.2.1 e os) none
  | 5, some t, [.inl e] => cond (zmatV θ t (.inl e) && zwsV n t) (zin 0 127 X.2.1 e os) none
  | _, _, _ => none
noncomputable def zret (rk : Nat) (g : List zE) (sp : zSp) (X : zQ) (stk : List zV) (os : List zO) : Option (List zO) := match os with
  | (32, (cs, (θ, t))) :: os1 => match sp.2.2.2.2.2.2.1[t.1]? with
    | some al => cond (Nat.beq g.length sp.2.1 && (al.2.2.1.all (fun f => zltB (sp.2.1 + al.1) f) && (al.2.2.2.all (fun q => (Nat.blt q.1 (sp.2.1 + al.1) && zltB (sp.2.1 + al.1) q.2.2) && zmatI X (g ++ θ) q) && zmatF X.2.1 (g ++ θ) al.2.2.1 cs)))
      (zretV rk (sp.2.1 + al.1) X (g ++ θ) al.2.1 stk os1) none
    | none => none
  | _ => none
section ZRets
variable {G : zW} {hp0 : xH} {ν0 : Nat → Int} {g : List zE} {o : Nat} {ft : Nat → List Nat} {call : xF} {pool : Nat → xP} {hs : List (Nat × (Nat × (Nat × Nat)))} {tab : Lean.RArray xI} {N : Nat}
variable {pc nx len : Nat} {X : zQ} {loc : zLc} {stk : List zV} {os r : List zO} {ν : Nat → Int} {l : List (Nat × xA)} {s : List xA} {hp : xH} {i : Instr} {sp : zSp} {rk : Nat} {gm : List zE} {ν1 : Nat → Int}
theorem zwsV_ok {n m : Nat} {θ : List zE} {t v : zV} {u : xA} (h : (zmatV θ t v && zwsV n t) = true) (hu : zR m ν v u) : zR n (zval ν θ) t u := by
  obtain ⟨h1, h2⟩ := and_true' h
  refine zmatV_ok h1 (fun e he => ?_) (fun x he => ?_) hu
  · rcases he with rfl | rfl
    · exact zltB_ok h2
    · exact zltB_ok h2
  · rw [he] at h2
    exact Nat.le_of_ble_eq_true h2
theorem zretV_ok {W : zWr} {n : Nat} {θ : List zE} {a : Option zV} (hr : zRel G W hp0 ν0 g ν X hp) (hst : zSt X.1 ν stk s) (h : zretV rk n X θ a stk os = some r) : ∃ rv, xend rk (some (0, (pc, (s, (hp, 0))))) = some (0, (rv, (hp, 0))) ∧ zrv n (zval ν θ) a rv := by
  have hF : ∀ f ∈ X.2.1, 0 ≤ zv ν f := fun f hf => (hr.1 f hf).2
  match rk, a, stk, h, hst with
  | 0, none, [], _, hst =>
    rw [hst.nil]
    exact ⟨none, rfl, trivial⟩
  | 1, some t, [.inl e], h, hst =>
    obtain ⟨h1, _⟩ := cond_some h
    obtain ⟨u, s1, rfl, h2, h3⟩ := hst.cons
    rw [h3.nil]
    refine ⟨some u, ?_, zwsV_ok h1 h2⟩
    obtain ⟨_, b2, rfl⟩ := h2
    show cond (xbd (.inl (zc32 (zv ν e)))).isSome _ none = _
    rw [zbd b2]
    rfl
  | 2, some t, [.inr (.inl e)], h, hst =>
    obtain ⟨h1, _⟩ := cond_some h
    obtain ⟨u, s1, rfl, h2, h3⟩ := hst.cons
    rw [h3.nil]
    refine ⟨some u, ?_, zwsV_ok h1 h2⟩
    obtain ⟨_, b2, rfl⟩ := h2
    show cond (xbdl (.inr (.inl (zc64 (zv ν e))))).isSome _ none = _
    rw [zbdl b2]
    rfl
  | 3, some t, [.inr (.inr x)], h, hst =>
    obtain ⟨h1, _⟩ := cond_some h
    obtain ⟨u, s1, rfl, h2, h3⟩ := hst.cons
    rw [h3.nil]
    refine ⟨some u, ?_, zwsV_ok h1 h2⟩
    obtain ⟨_, k, _, rfl⟩ := h2
    rfl
  | 4, some t, [.inl e], h, hst =>
    obtain ⟨h1, h9⟩ := cond_some h
    obtain ⟨u, s1, rfl, h2, h3⟩ := hst.cons
    rw [h3.nil]
    refine ⟨some u, ?_, zwsV_ok h1 h2⟩
    obtain ⟨_, b2, rfl⟩ := h2
    obtain ⟨c1, c2⟩ := zin_ok hF h9
    rcases (show zv ν e = 0 ∨ zv ν e = 1 by omega) with e1 | e1
    · rw [e1]; rfl
    · rw [e1]; rfl
  | 5, some t, [.inl e], h, hst =>
    obtain ⟨h1, h9⟩ := cond_some h
    obtain ⟨u, s1, rfl, h2, h3⟩ := hst.cons
    rw [h3.nil]
    refine ⟨some u, ?_, zwsV_ok h1 h2⟩
    obtain ⟨_, b2, rfl⟩ := h2
    obtain ⟨c1, c2⟩ := zin_ok hF h9
    show cond (Nat.blt (zc32 (zv ν e)) 128) _ none = _
    rw [blt_true (show zc32 (zv ν e) < 128 by unfold zc32; omega)]
    rfl
theorem zret_ok (h01 : ∀ x, x < sp.2.1 → ν1 x = ν0 x) (hr : zRel G sp.2.2.2.2.2.1 hp0 ν0 (g ++ gm) ν X hp) (hst : zSt X.1 ν stk s) (h : zret rk g sp X stk os = some r) : zPm G sp rk ν1 hp0 (0, (pc, (s, (hp, 0)))) := by
  unfold zret at h
  split at h
  · rename_i cs θ t os1
    split at h
    · next al hal =>
      obtain ⟨h1, h⟩ := cond_some h
      obtain ⟨b1, h1⟩ := and_true' h1
      obtain ⟨b2, h1⟩ := and_true' h1
      obtain ⟨b3, b4⟩ := and_true' h1
      obtain ⟨rv, c1, c2⟩ := zretV_ok (pc := pc) hr hst h
      have b1 := Nat.eq_of_beq_eq_true b1
      obtain ⟨_, _, _, r4, r5, r6, r7⟩ := id hr
      refine ⟨_, c1, r5, r6, Or.inl ⟨rfl, r7, al, List.mem_of_getElem? hal, zval ν (g ++ θ), fun x hx => ?_, fun f hf => ?_, fun q hq => ?_, c2⟩⟩
      · have hx9 : x < g.length := by omega
        obtain ⟨_, e1⟩ := r4 x g[x] (by rw [List.getElem?_append_left hx9]; exact List.getElem?_eq_getElem hx9)
        show _ = zv ν ((g ++ θ).getD x (zK 0))
        rw [h01 x hx, List.getD_eq_getElem?_getD, List.getElem?_append_left hx9, List.getElem?_eq_getElem hx9]
        exact e1.symm
      · exact ⟨zltB_ok (List.all_eq_true.mp b2 f hf), zmatF_ok (fun f hf => (hr.1 f hf).2) b4 f hf⟩
      · obtain ⟨d1, d2⟩ := and_true' (List.all_eq_true.mp b3 q hq)
        obtain ⟨d1, d3⟩ := and_true' d1
        exact ⟨Nat.le_of_ble_eq_true d1, zltB_ok d3, zmatI_ok hr d2⟩
    · cases h
  · cases h
theorem zi_ret (h01 : ∀ x, x < sp.2.1 → ν1 x = ν0 x) (ht : xget tab pc = (pc, (i, (len, nx)))) (he : ∀ K l s hp, xstep o ft call pool hs K i pc nx l s hp = some (0, (pc, (s, (hp, 0))))) (h : zret rk g sp X stk os = some r) : zOk G sp.2.2.2.2.2.1 hp0 ν0 (g ++ gm) o ft call pool hs tab (zPm G sp rk ν1 hp0) (N + 1) pc X loc stk := by
  intro ν l s hp hr hl hst
  exact zG.done ht (fun K => he K l s hp) (zret_ok h01 hr hst h)
/-- 'new E(..)', that is thrown -/
theorem zi_thr {kk : Nat} (hd : zJd G) (ht : xget tab pc = (pc, (.new kk, (len, nx)))) (h : (Nat.beq (pool kk).1 11 && (Nat.blt (pool kk).2.1 3 && (Nat.testBit sp.2.2.2.2.2.2.2 (pool kk).2.1 && Nat.ble (zcats stk) 8))) = true) : zOk G sp.2.2.2.2.2.1 hp0 ν0 g o ft call pool hs tab (zPm G sp rk ν1 hp0) (N + 1) pc X loc stk := by
  intro ν l s hp hr hl hst
  obtain ⟨b1, h⟩ := and_true' h
  obtain ⟨b2, h⟩ := and_true' h
  obtain ⟨b3, b4⟩ := and_true' h
  refine zG.done (out := (1, (pc, (s, (hp, (pool kk).2.1))))) ht (fun K => ?_) ⟨(1, (none, ((hp.1, (hp.2.1, (false, (Nat.add hp.2.2.2.1 1, Nat.add hp.2.2.2.2 6)))), (pool kk).2.1))), ?_, ?_, ?_, Or.inr ⟨rfl, Nat.le_of_ble_eq_true b2, b3, ?_⟩⟩
  · show cond (Nat.beq (pool kk).1 11) (some (1, (pc, (s, (hp, (pool kk).2.1))))) _ = _
    rw [b1, cond_true]
  · show cond (Nat.ble (xcats s) 8) _ none = _
    rw [hst.cats, b4, cond_true]
  · exact ⟨hr.2.2.2.2.1.1, hd hp _ (fun _ _ _ _ => rfl) hr.2.2.2.2.1.2⟩
  · exact hr.2.2.2.2.2.1
  · rw [← hr.2.2.2.2.2.2]
    rfl
/-- what a callee throws goes on -/
theorem zpx_pm : zPx G sp.2.2.2.2.2.1 hp0 sp.2.2.2.2.2.2.2 (zPm G sp rk ν0 hp0) := fun _ _ h E a b c d e => ⟨(1, (none, (h, E))), rfl, a, b, Or.inr ⟨rfl, d, e, c⟩⟩
end ZRets
