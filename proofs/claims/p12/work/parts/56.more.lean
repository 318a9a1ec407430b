/-! ===== the checker's steps, sound: iinc, tableswitch, constants' references, returns, throws ===== -/
def ztabs (K : zKs) (X : zQ) (e : zE) (pc : Nat) (lo : Int) (loc : zLc) (rest : List zV) : List Int → Nat → List zO → Option (List zO)
  | [], _, os => some os
  | off :: offs, j, os => xj (xtgt pc off) fun t => xj (K t (zaddf X [zfLe e (zK (lo + (j : Int))), zfLe (zK (lo + (j : Int))) e]) loc rest os) fun o1 => ztabs K X e pc lo loc rest offs (j + 1) o1
theorem ztabs_get {K : zKs} {X : zQ} {e : zE} {pc : Nat} {lo : Int} {loc : zLc} {rest : List zV} : ∀ {offs : List Int} {j : Nat} {os r : List zO}, ztabs K X e pc lo loc rest offs j os = some r → ∀ m off, offs[m]? = some off → ∃ t os' r', xtgt pc off = some t ∧ K t (zaddf X [zfLe e (zK (lo + ((j + m : Nat) : Int))), zfLe (zK (lo + ((j + m : Nat) : Int))) e]) loc rest os' = some r' := by
  intro offs
  induction offs with
  | nil => intro j os r _ m off h; cases h
  | cons a offs ih =>
    intro j os r h m off hm
    obtain ⟨t, h1, h⟩ := xj_some h
    obtain ⟨o1, h2, h3⟩ := xj_some h
    cases m with
    | zero =>
      cases hm
      exact ⟨t, os, o1, h1, h2⟩
    | succ m =>
      obtain ⟨t', os', r', g1, g2⟩ := ih h3 m off hm
      refine ⟨t', os', r', g1, ?_⟩
      rw [show j + (m + 1) = j + 1 + m by omega]
      exact g2
def ztab (K : zKs) (X : zQ) (e : zE) (pc : Nat) (d lo hi : Int) (offs : Array Int) (loc : zLc) (rest : List zV) (os : List zO) : Option (List zO) := match zisK e with
  | some x => cond (decide (x < lo) || decide (hi < x)) (xj (xtgt pc d) fun t => K t X loc rest os) (xj offs[(x - lo).toNat]? fun off => xj (xtgt pc off) fun t => K t X loc rest os)
  | none => cond (decide (hi < lo + (offs.toList.length : Int))) (xj (xtgt pc d) fun t => xj (K t (zaddf X [zfLt e (zK lo)]) loc rest os) fun o1 => xj (K t (zaddf X [zfLt (zK hi) e]) loc rest o1) fun o2 => ztabs K X e pc lo loc rest offs.toList 0 o2) none
noncomputable def zcref (G : zW) (K : zKs) (k : Nat) (X : zQ) (nx : Nat) (loc : zLc) (stk : List zV) (os : List zO) : Option (List zO) := match os with
  | (31, (_, (_, t))) :: os' => cond (Nat.blt k G.2.2.1 && (Nat.testBit t.1 (zro G k) && decide ((zat G k : Int) = t.2.1))) (K nx (X.1 + 1, (X.2.1, ((X.1, (t.1, zK t.2.1)) :: X.2.2.1, X.2.2.2))) loc (.inr (.inr X.1) :: stk) os') none
  | _ => none
section ZMore
variable {G : zW} {W : zWr} {B : zB} {hp0 : xH} {ν0 : Nat → Int} {g : List zE} {o : Nat} {ft : Nat → List Nat} {call : xF} {pool : Nat → xP} {hs : List (Nat × (Nat × (Nat × Nat)))} {tab : Lean.RArray xI} {P : xE → Prop} {N : Nat}
variable {K : zKs} {pc nx len : Nat} {X : zQ} {loc : zLc} {stk rest : List zV} {os r : List zO} {ν : Nat → Int} {l : List (Nat × xA)} {s : List xA} {hp : xH} {i : Instr}
theorem zi_iinc {k : Nat} {n : Int} (hK : zHK G W hp0 ν0 g o ft call pool hs tab P N K) (ht : xget tab pc = (pc, (.iinc k n, (len, nx)))) (h : (xj (zldI loc k) fun e => zput32 (fun X v os => K nx X (zst1 loc k v) stk os) X (zmad 1 e (zK n)) os) = some r) : zOk G W hp0 ν0 g o ft call pool hs tab P (N + 1) pc X loc stk := by
  intro ν l s hp hr hl hst
  obtain ⟨e, h1, h2⟩ := xj_some h
  obtain ⟨h3, h4, h5⟩ := zldI_ok hl h1
  have h6 := zput32_ok hr (zmad_lt (k := 1) h4 (zlt_K _ n)) h2
  rw [zmad_ok, zK_ok, Int.one_mul] at h6
  refine zG.step ht (fun K9 => ?_) (zgo1 hK h6 hl hst)
  show xj (xlk l k) (fun a => xj (xbin (fun x y => xm32 (Nat.add x y)) a (.inl (x32 (Int32.ofInt n)))) fun b => K9 nx (xst1 l k b) s hp) = _
  rw [h3, zx32_ofInt]
  show K9 nx (xst1 l k (.inl (xm32 (Nat.add (zc32 (zv ν e)) (zc32 n))))) s hp = _
  rw [zc32_add]
theorem zi_tab {d lo hi : Int} {offs : Array Int} {e : zE} (hK : zHK G W hp0 ν0 g o ft call pool hs tab P N K) (ht : xget tab pc = (pc, (.tableswitch d lo hi offs, (len, nx)))) (h : ztab K X e pc d lo hi offs loc rest os = some r) : zOk G W hp0 ν0 g o ft call pool hs tab P (N + 1) pc X loc (.inl e :: rest) := by
  intro ν l s hp hr hl hst
  obtain ⟨ua, s1, rfl, ⟨a1, a2, rfl⟩, h2⟩ := hst.cons
  have hz : (Int32.ofNat (zc32 (zv ν e))).toInt = zv ν e := by rw [zc32_of, zof32 a2]
  have hx : ∀ K9 : xK, xstep o ft call pool hs K9 (.tableswitch d lo hi offs) pc nx l (.inl (zc32 (zv ν e)) :: s1) hp = cond (decide (zv ν e < lo) || decide (hi < zv ν e)) (xj (xtgt pc d) fun t => K9 t l s1 hp) (xj offs[(zv ν e - lo).toNat]? fun off => xj (xtgt pc off) fun t => K9 t l s1 hp) := fun K9 => by
    show cond (decide ((Int32.ofNat (zc32 (zv ν e))).toInt < lo) || decide (hi < (Int32.ofNat (zc32 (zv ν e))).toInt)) (xj (xtgt pc d) fun t => K9 t l s1 hp) (xj offs[((Int32.ofNat (zc32 (zv ν e))).toInt - lo).toNat]? fun off => xj (xtgt pc off) fun t => K9 t l s1 hp) = _
    rw [hz]
  unfold ztab at h
  split at h
  · next x hx9 =>
    have hv := zisK_ok (ν := ν) hx9
    rw [hv] at hx
    cases hb : (decide (x < lo) || decide (hi < x)) with
    | true =>
      rw [hb, cond_true] at h
      obtain ⟨t, h3, h4⟩ := xj_some h
      exact zG.step ht (fun K9 => by rw [hv, hx, hb, cond_true, h3]; rfl) (hK _ _ _ _ _ _ h4 ν l s1 hp hr hl h2)
    | false =>
      rw [hb, cond_false] at h
      obtain ⟨off, h3, h4⟩ := xj_some h
      obtain ⟨t, h5, h6⟩ := xj_some h4
      exact zG.step ht (fun K9 => by rw [hv, hx, hb, cond_false, h3]; show xj (xtgt pc off) _ = _; rw [h5]; rfl) (hK _ _ _ _ _ _ h6 ν l s1 hp hr hl h2)
  · obtain ⟨h0, h⟩ := cond_some h
    have h0 := of_decide_eq_true h0
    obtain ⟨t, h3, h⟩ := xj_some h
    obtain ⟨o1, h4, h⟩ := xj_some h
    obtain ⟨o2, h5, h6⟩ := xj_some h
    by_cases c1 : zv ν e < lo
    · exact zG.step ht (fun K9 => by rw [hx, decide_eq_true c1, Bool.true_or, cond_true, h3]; rfl) (zrun hK h4 (zall1 (zfLt_ok a1 (zlt_K _ _) (by rw [zK_ok]; exact c1))) hr hl h2)
    · by_cases c2 : hi < zv ν e
      · exact zG.step ht (fun K9 => by rw [hx, decide_eq_true c2, Bool.or_true, cond_true, h3]; rfl) (zrun hK h5 (zall1 (zfLt_ok (zlt_K _ _) a1 (by rw [zK_ok]; exact c2))) hr hl h2)
      · have hm : (zv ν e - lo).toNat < offs.toList.length := by omega
        obtain ⟨t', os', r', g1, g2⟩ := ztabs_get h6 (zv ν e - lo).toNat _ (List.getElem?_eq_getElem hm)
        have he : lo + ((0 + (zv ν e - lo).toNat : Nat) : Int) = zv ν e := by omega
        rw [he] at g2
        refine zG.step ht (fun K9 => ?_) (zrun hK g2 (zall2 (zfLe_ok a1 (zlt_K _ _) (by rw [zK_ok]; exact Int.le_refl _)) (zfLe_ok (zlt_K _ _) a1 (by rw [zK_ok]; exact Int.le_refl _))) hr hl h2)
        rw [hx, decide_eq_false c1, decide_eq_false c2, Bool.false_or, cond_false, ← Array.getElem?_toList, List.getElem?_eq_getElem hm]
        show xj (xtgt pc _) _ = _
        rw [g1]
        rfl
theorem zi_ref {k : Nat} (hK : zHK G W hp0 ν0 g o ft call pool hs tab P N K) (ht : xget tab pc = (pc, (i, (len, nx)))) (he : ∀ K l s hp, xstep o ft call pool hs K i pc nx l s hp = K nx l (.inr (.inr (.inl k)) :: s) hp) (h : zcref G K k X nx loc stk os = some r) : zOk G W hp0 ν0 g o ft call pool hs tab P (N + 1) pc X loc stk := by
  intro ν l s hp hr hl hst
  unfold zcref at h
  split at h
  · rename_i t os'
    obtain ⟨h1, h⟩ := cond_some h
    obtain ⟨b1, h1⟩ := and_true' h1
    obtain ⟨b2, b3⟩ := and_true' h1
    have f1 := hr.fresh (k : Int) [] (fun f hf => by cases hf)
    have hle : X.1 ≤ X.1 + 1 := Nat.le_succ _
    have f2 := f1.refs (x := X.1) (a := zK t.2.1) (Nat.lt_succ_self _) (zlt_K _ _) zup_new (Nat.le_of_ble_eq_true b1) b2 (by rw [zK_ok]; exact of_decide_eq_true b3)
    exact zG.step ht (fun K9 => he K9 l s hp) (hK _ _ _ _ _ _ h _ l (.inr (.inr (.inl k)) :: s) hp f2 (hl.mono hle zup_old) ⟨⟨Nat.lt_succ_self _, k, zup_new, rfl⟩, hst.mono hle zup_old⟩)
  · cases h
end ZMore
