/-! ===== the reference's rows of whole numbers ===== -/
def yML : List (Nat × (Nat × (Nat × (Nat × (Int × Int))))) := [(1, (2074, (873472, (0, (0, 999999999))))), (2, (2075, (3412, (0, (0, 256))))), (3, (2076, (3412, (0, (-1, 1))))), (4, (2077, (512, (0, (0, 999999999))))), (5, (2078, (258, (0, (0, 999999999))))), (6, (2079, (258, (0, (0, 999999999)))))]
def yMW (G : zW) : Prop := yOB G 2073 13 ∧ ∀ q ∈ yML, yFR G 2073 13 q.1 q.2.1 ∧ yIA G q.2.1 q.2.2.1 q.2.2.2.1 (q.2.2.2.1, q.2.2.2.2)
theorem yF_big {G : zW} (W : yMW G) : yFR G 2073 13 1 2074 := (W.2 (1, (2074, (873472, (0, (0, 999999999))))) (List.mem_of_getElem? (i := 0) rfl)).1
theorem yA_big {G : zW} (W : yMW G) : yIA G 2074 873472 0 (0, (0, 999999999)) := (W.2 (1, (2074, (873472, (0, (0, 999999999))))) (List.mem_of_getElem? (i := 0) rfl)).2
theorem yF_length {G : zW} (W : yMW G) : yFR G 2073 13 2 2075 := (W.2 (2, (2075, (3412, (0, (0, 256))))) (List.mem_of_getElem? (i := 1) rfl)).1
theorem yA_length {G : zW} (W : yMW G) : yIA G 2075 3412 0 (0, (0, 256)) := (W.2 (2, (2075, (3412, (0, (0, 256))))) (List.mem_of_getElem? (i := 1) rfl)).2
theorem yF_sign {G : zW} (W : yMW G) : yFR G 2073 13 3 2076 := (W.2 (3, (2076, (3412, (0, (-1, 1))))) (List.mem_of_getElem? (i := 2) rfl)).1
theorem yA_sign {G : zW} (W : yMW G) : yIA G 2076 3412 0 (0, (-1, 1)) := (W.2 (3, (2076, (3412, (0, (-1, 1))))) (List.mem_of_getElem? (i := 2) rfl)).2
theorem yF_product {G : zW} (W : yMW G) : yFR G 2073 13 4 2077 := (W.2 (4, (2077, (512, (0, (0, 999999999))))) (List.mem_of_getElem? (i := 3) rfl)).1
theorem yA_product {G : zW} (W : yMW G) : yIA G 2077 512 0 (0, (0, 999999999)) := (W.2 (4, (2077, (512, (0, (0, 999999999))))) (List.mem_of_getElem? (i := 3) rfl)).2
theorem yF_upper {G : zW} (W : yMW G) : yFR G 2073 13 5 2078 := (W.2 (5, (2078, (258, (0, (0, 999999999))))) (List.mem_of_getElem? (i := 4) rfl)).1
theorem yA_upper {G : zW} (W : yMW G) : yIA G 2078 258 0 (0, (0, 999999999)) := (W.2 (5, (2078, (258, (0, (0, 999999999))))) (List.mem_of_getElem? (i := 4) rfl)).2
theorem yF_lower {G : zW} (W : yMW G) : yFR G 2073 13 6 2079 := (W.2 (6, (2079, (258, (0, (0, 999999999))))) (List.mem_of_getElem? (i := 5) rfl)).1
theorem yA_lower {G : zW} (W : yMW G) : yIA G 2079 258 0 (0, (0, 999999999)) := (W.2 (6, (2079, (258, (0, (0, 999999999))))) (List.mem_of_getElem? (i := 5) rfl)).2
/-- digit k of register r; how many; the sign -/
noncomputable def yD (hp : xH) (r k : Nat) : Int := ys hp 2074 (256 * r + k)
noncomputable def yL (hp : xH) (r : Nat) : Int := ys hp 2075 r
noncomputable def yS (hp : xH) (r : Nat) : Int := ys hp 2076 r
/-- only the registers' cells, and those of a list, have changed -/
def yFr (Ks : List Nat) (hp hp' : xH) : Prop := ∀ k j, k ∉ Ks → zsl hp' k j = zsl hp k j
theorem yFr.rf {Ks : List Nat} (hp : xH) : yFr Ks hp hp := fun _ _ _ => rfl
theorem yFr.tr {Ks : List Nat} {a b c : xH} (h1 : yFr Ks a b) (h2 : yFr Ks b c) : yFr Ks a c := fun k j hk => (h2 k j hk).trans (h1 k j hk)
theorem yFr.sub {Ks Js : List Nat} {a b : xH} (h : yFr Ks a b) (hs : ∀ k ∈ Ks, k ∈ Js) : yFr Js a b := fun k j hk => h k j fun z => hk (hs k z)
theorem yFr.put {Ks : List Nat} {a b : xH} {k n : Nat} {v : xA} (hk : k ∈ Ks) (h : ∀ k' j', zsl b k' j' = if k' = k ∧ j' = n then v else zsl a k' j') : yFr Ks a b := fun k' j hk' => by
  rw [h, if_neg]
  rintro ⟨rfl, -⟩
  exact hk' hk
theorem yFr.same {Ks : List Nat} {a b : xH} (h : yFr Ks a b) {k : Nat} (hk : k ∉ Ks) (j : Nat) : ys b k j = ys a k j := by
  show ydec (zsl b k j) = ydec (zsl a k j)
  rw [h k j hk]
/-- register s is the same -/
def ySm (hp hp' : xH) (s : Nat) : Prop := yL hp' s = yL hp s ∧ yS hp' s = yS hp s ∧ ∀ k, k < 256 → yD hp' s k = yD hp s k
/-- what a method leaves -/
def yNx (G : zW) (Ks : List Nat) (hp hp' : xH) : Prop := zTy G hp' ∧ hp'.2 = hp.2 ∧ yFr Ks hp hp'
section YReg
variable {G : zW} {hp : xH}
theorem yL_bd (W : yMW G) (hT : zTy G hp) {r : Nat} (hr : r < 3412) : 0 ≤ yL hp r ∧ yL hp r ≤ 256 := by
  obtain ⟨-, -, a, b⟩ := (yA_length W).int hT hr
  exact ⟨a, b⟩
theorem yS_bd (W : yMW G) (hT : zTy G hp) {r : Nat} (hr : r < 3412) : -1 ≤ yS hp r ∧ yS hp r ≤ 1 := by
  obtain ⟨-, -, a, b⟩ := (yA_sign W).int hT hr
  exact ⟨a, b⟩
theorem yD_bd (W : yMW G) (hT : zTy G hp) {r k : Nat} (hr : r < 3412) (hk : k < 256) : 0 ≤ yD hp r k ∧ yD hp r k ≤ 999999999 := by
  obtain ⟨-, -, a, b⟩ := (yA_big W).int hT (j := 256 * r + k) (by omega)
  exact ⟨a, b⟩
end YReg
