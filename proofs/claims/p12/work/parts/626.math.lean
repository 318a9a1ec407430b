/-! ===== the checker's steps, sound: Math.max, Math.min of ints ===== -/
def zmm (mx : Bool) (K : zKs) (nx : Nat) (X : zQ) (loc : zLc) (stk : List zV) (os : List zO) : Option (List zO) := match stk with
  | .inl b :: .inl a :: rest => cond (Nat.ble (zcats rest) 4) (xj (K nx (zaddf X [zfLt a b]) loc (.inl (cond mx b a) :: rest) os) fun o1 => K nx (zaddf X [zfLe b a]) loc (.inl (cond mx a b) :: rest) o1) none
  | _ => none
section ZMath
variable {G : zW} {W : zWr} {B : zB} {hp0 : xH} {ν0 : Nat → Int} {g : List zE} {o : Nat} {ft : Nat → List Nat} {call : xF} {pool : Nat → xP} {hs : List (Nat × (Nat × (Nat × Nat)))} {tab : Lean.RArray xI} {P : xE → Prop} {N : Nat}
variable {K : zKs} {pc nx len : Nat} {X : zQ} {loc : zLc} {stk : List zV} {os r : List zO} {i : Instr}
theorem zoff32 {z : Int} (h : zi32 z) : xm32 (Nat.add (zc32 z) 2147483648) = (z + 2147483648).toNat := by
  obtain ⟨h1, h2⟩ := h
  show (zc32 z + 2147483648) % 4294967296 = _
  unfold zc32
  omega
theorem zi_mm {mx : Bool} (hK : zHK G W hp0 ν0 g o ft call pool hs tab P N K) (ht : xget tab pc = (pc, (i, (len, nx)))) (he : ∀ K l s hp, xstep o ft call pool hs K i pc nx l s hp = xmath (fun x y => cond (Nat.blt (xm32 (Nat.add x 2147483648)) (xm32 (Nat.add y 2147483648))) (cond mx y x) (cond mx x y)) K nx l s hp) (h : zmm mx K nx X loc stk os = some r) : zOk G W hp0 ν0 g o ft call pool hs tab P (N + 1) pc X loc stk := by
  intro ν l s hp hr hl hst
  unfold zmm at h
  split at h
  · rename_i b a rest
    obtain ⟨h0, h⟩ := cond_some h
    obtain ⟨o1, h1, h2⟩ := xj_some h
    obtain ⟨ub, s1, rfl, hb, h9⟩ := hst.cons
    obtain ⟨ua, s2, rfl, ha, h8⟩ := h9.cons
    obtain ⟨b1, b2, rfl⟩ := id hb
    obtain ⟨a1, a2, rfl⟩ := id ha
    have hx : ∀ K9 : xK, xstep o ft call pool hs K9 i pc nx l (.inl (zc32 (zv ν b)) :: .inl (zc32 (zv ν a)) :: s2) hp = K9 nx l (.inl (cond (Nat.blt (zv ν a + 2147483648).toNat (zv ν b + 2147483648).toNat) (cond mx (zc32 (zv ν b)) (zc32 (zv ν a))) (cond mx (zc32 (zv ν a)) (zc32 (zv ν b)))) :: s2) hp := fun K9 => by
      rw [he]
      show cond (Nat.ble (xcats s2) 4) (K9 nx l (.inl (cond (Nat.blt (xm32 (Nat.add (zc32 (zv ν a)) 2147483648)) (xm32 (Nat.add (zc32 (zv ν b)) 2147483648))) (cond mx (zc32 (zv ν b)) (zc32 (zv ν a))) (cond mx (zc32 (zv ν a)) (zc32 (zv ν b)))) :: s2) hp) none = _
      rw [h8.cats, h0, cond_true, zoff32 a2, zoff32 b2]
    have a3 := a2.1
    by_cases c : zv ν a < zv ν b
    · refine zG.step ht (fun K9 => ?_) (zrun hK h1 (zall1 (zfLt_ok a1 b1 c)) hr hl (s := .inl (cond mx (zc32 (zv ν b)) (zc32 (zv ν a))) :: s2) ⟨?_, h8⟩)
      · rw [hx, blt_true (by omega), cond_true]
      · cases mx with
        | true => exact hb
        | false => exact ha
    · refine zG.step ht (fun K9 => ?_) (zrun hK h2 (zall1 (zfLe_ok b1 a1 (by omega))) hr hl (s := .inl (cond mx (zc32 (zv ν a)) (zc32 (zv ν b))) :: s2) ⟨?_, h8⟩)
      · rw [hx, blt_false (by omega), cond_false]
      · cases mx with
        | true => exact ha
        | false => exact hb
  · cases h
end ZMath
