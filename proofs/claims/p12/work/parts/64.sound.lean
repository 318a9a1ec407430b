/-! ===== the checker is sound ===== -/
section ZSound
variable {G : zW} {B : zB} {o : Nat} {ft : Nat → List Nat} {call : xF} {pool : Nat → xP} {hs : List (Nat × (Nat × (Nat × Nat)))} {tab : Lean.RArray xI} {rk : Nat} {sp : zSp} {S : Lean.RArray zSp} {ok : Nat → Bool} {Ts : List zTm}
theorem zOk.mono {W : zWr} {hp0 : xH} {ν0 : Nat → Int} {g : List zE} {P : xE → Prop} {N N' pc : Nat} {X : zQ} {loc : zLc} {stk : List zV} (h : zOk G W hp0 ν0 g o ft call pool hs tab P N pc X loc stk) (hN : N ≤ N') : zOk G W hp0 ν0 g o ft call pool hs tab P N' pc X loc stk := fun ν l s hp a b c => (h ν l s hp a b c).mono hN
theorem zck_ok {g : List zE} {m : zE} {hp0 : xH} {ν0 ν1 : Nat → Int} {N : Nat} {b : Int} (hS : ∀ i, ok i = true → zSpOk G call (xget S i)) (HB : zBok G o B) (hn : ∀ pc E, xcatch hs pc E = none) (hT : ∀ T ∈ Ts, zTmB sp.2.1 T = true) (hg : g.length = sp.2.1) (h01 : ∀ x, x < sp.2.1 → ν1 x = ν0 x) (hb : ν0 sp.2.1 ≤ b) (hH : zHds G sp.2.2.2.2.2.1 hp0 ν1 sp.2.1 o ft call pool hs tab (zPm G sp rk ν1 hp0) Ts N b) : ∀ f, zHK G sp.2.2.2.2.2.1 hp0 ν0 (g ++ [m]) o ft call pool hs tab (zPm G sp rk ν1 hp0) (N + f) (zck G B pool S ok rk tab Ts sp g m f) := by
  intro f
  induction f with
  | zero => intro pc X loc stk os r h; cases h
  | succ f ih =>
    intro pc X loc stk os r h
    have h : cond (Nat.beq (zhd os) 33) (zgoH Ts g m pc X loc stk os) (cond (Nat.ble 40 (zhd os)) (zbend (zck G B pool S ok rk tab Ts sp g m f) pc X loc stk os)
      (cond (Nat.beq (xget tab pc).1 pc) (zstep G B pool S ok rk g sp (zck G B pool S ok rk tab Ts sp g m f) pc (xget tab pc).2.2.2 X loc (xget tab pc).2.1 stk os) none)) = some r := h
    cases h1 : Nat.beq (zhd os) 33 with
    | true =>
      rw [h1, cond_true] at h
      exact (zi_head hT hH hg h01 hb h).mono (Nat.le_add_right _ _)
    | false =>
      rw [h1, cond_false] at h
      cases h2 : Nat.ble 40 (zhd os) with
      | true =>
        rw [h2, cond_true] at h
        exact (zbend_ok ih h).mono (Nat.le_succ _)
      | false =>
        rw [h2, cond_false] at h
        obtain ⟨h3, h⟩ := cond_some h
        refine zstep_ok (len := (xget tab pc).2.2.1) hS HB hn h01 zpx_pm ih ?_ h
        exact Prod.ext (Nat.eq_of_beq_eq_true h3) rfl
/-- a method's checks: heads well told, the entry among them, every head's body -/
noncomputable def zmB (G : zW) (B : zB) (pool : Nat → xP) (S : Lean.RArray zSp) (ok : Nat → Bool) (rk : Nat) (tab : Lean.RArray xI) (sp : zSp) (T0 : zTm) (Ts : List zTm) (b L : Nat) (c1 c2 : zC) : Bool :=
  (T0 :: Ts).all (fun T => zTmB sp.2.1 T) && (zentB sp T0 b c1 c2 && Nat.ble (Nat.mul b L) xfuel)
noncomputable def zbodyB (G : zW) (B : zB) (pool : Nat → xP) (S : Lean.RArray zSp) (ok : Nat → Bool) (rk : Nat) (tab : Lean.RArray xI) (sp : zSp) (Ts : List zTm) (L : Nat) (T : zTm) (os : List zO) : Bool := (zck G B pool S ok rk tab Ts sp T.g T.m L T.1 T.X T.2.2.1 [] os).isSome
theorem zmeth_sound (hS : ∀ i, ok i = true → zSpOk G call (xget S i)) (HB : zBok G o B) (hn : ∀ pc E, xcatch hs pc E = none) {T0 : zTm} {Ts : List zTm} {b L : Nat} {c1 c2 : zC} (h : zmB G B pool S ok rk tab sp T0 Ts b L c1 c2 = true) (hbody : ∀ T ∈ T0 :: Ts, ∃ os, zbodyB G B pool S ok rk tab sp (T0 :: Ts) L T os = true)
    {ν : Nat → Int} {us : List xA} {hp : xH} (h1 : zTJ G hp) (h2 : zFs sp.2.1 ν sp.2.2.2.1) (h3 : zIs G sp.2.1 ν sp.2.2.2.2.1) (h4 : zSt sp.2.1 ν sp.2.2.1 us) :
    ∃ r, xend rk (xrun o ft call pool hs tab xfuel 0 (xargs us 0) [] hp) = some r ∧ zEnd G sp ν hp r := by
  obtain ⟨b1, h⟩ := and_true' h
  obtain ⟨b2, b3⟩ := and_true' h
  have hT : ∀ T ∈ T0 :: Ts, zTmB sp.2.1 T = true := fun T hT => List.all_eq_true.mp b1 T hT
  have hlen : ∀ T ∈ T0 :: Ts, T.g.length = sp.2.1 := fun T hT9 => by
    obtain ⟨_, h⟩ := and_true' (hT T hT9)
    obtain ⟨_, h⟩ := and_true' h
    obtain ⟨_, h⟩ := and_true' h
    obtain ⟨h, _⟩ := and_true' h
    exact Nat.eq_of_beq_eq_true h
  refine zmeth_ok (L := L) hlen (List.mem_cons_self ..) b2 (Nat.le_of_ble_eq_true b3) (fun hp0 ν1 T hT9 ν0 N b h01 hb hH => ?_) h1 h2 h3 h4
  obtain ⟨os, h5⟩ := hbody T hT9
  obtain ⟨r, h6⟩ := Option.isSome_iff_exists.mp h5
  exact zck_ok hS HB hn hT (hlen T hT9) h01 hb hH L _ _ _ _ _ _ h6
end ZSound
