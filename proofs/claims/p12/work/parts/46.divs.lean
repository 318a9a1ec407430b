/-! ===== the checker's quotients ===== -/
theorem zq_facts {a c : Int} (ha : 0 ≤ a) (hc : 1 ≤ c) : a.tdiv c = a / c ∧ 0 ≤ a / c ∧ a / c ≤ a ∧ c * (a / c) ≤ a ∧ a ≤ c * (a / c) + (c - 1) ∧ 0 ≤ a - (a.tdiv c) * c ∧ a - (a.tdiv c) * c ≤ c - 1 ∧ a - (a.tdiv c) * c ≤ a := by
  have e1 := Int.mul_ediv_add_emod a c
  have e2 := Int.emod_nonneg a (show c ≠ 0 by omega)
  have e3 := Int.emod_lt_of_pos a (show 0 < c by omega)
  have e4 : 0 ≤ a / c := Int.ediv_nonneg ha (by omega)
  have e5 : a / c ≤ c * (a / c) := by
    have := Int.mul_le_mul_of_nonneg_right hc e4
    rw [Int.one_mul] at this
    exact this
  have e6 := Int.tdiv_eq_ediv_of_nonneg (b := c) ha
  rw [e6, Int.mul_comm (a / c) c]
  have e7 : 0 ≤ c * (a / c) := Int.mul_nonneg (by omega) e4
  generalize c * (a / c) = p at *
  refine ⟨rfl, e4, ?_, ?_, ?_, ?_, ?_, ?_⟩ <;> omega
theorem zq_any {a c : Int} (hc : 1 ≤ c) : -(c - 1) ≤ a - (a.tdiv c) * c ∧ a - (a.tdiv c) * c ≤ c - 1 ∧ ((a.tdiv c ≤ a ∧ 0 ≤ a.tdiv c) ∨ (a ≤ a.tdiv c ∧ a.tdiv c ≤ 0)) := by
  by_cases ha : 0 ≤ a
  · obtain ⟨h1, h2, h3, h4, h5, h6, h7, h8⟩ := zq_facts ha hc
    refine ⟨by omega, h7, Or.inl ⟨by rw [h1]; exact h3, by rw [h1]; exact h2⟩⟩
  · obtain ⟨h1, h2, h3, h4, h5, h6, h7, h8⟩ := zq_facts (a := -a) (c := c) (by omega) hc
    have e : a.tdiv c = -((-a).tdiv c) := by rw [Int.neg_tdiv, Int.neg_neg]
    have e2 : a - (a.tdiv c) * c = -(-a - ((-a).tdiv c) * c) := by
      rw [e, Int.neg_mul]
      omega
    rw [e2]
    refine ⟨by omega, by omega, Or.inr ?_⟩
    rw [e, h1]
    omega
section Divs
variable {G : zW} {W : zWr} {hp0 : xH} {ν0 : Nat → Int} {g : List zE} {K : zKv} {r os : List zO} {ν : Nat → Int} {X : zQ} {hp : xH}
theorem zdiv_ok {top : Int} {mk : zE → zV} {mkU : Int → xA} (hmk : ∀ (n : Nat) (ν : Nat → Int) (e : zE), zlt n e → -top - 1 ≤ zv ν e → zv ν e ≤ top → zR n ν (mk e) (mkU (zv ν e))) {rem : Bool} (h : zRel G W hp0 ν0 g ν X hp) {a b : zE} (ha : zlt X.1 a) (hb : zlt X.1 b) (h1 : -top - 1 ≤ zv ν a) (h2 : zv ν a ≤ top) (h3 : zv ν b ≤ top)
    (hk : zdiv top mk rem K X a b os = some r) : 1 ≤ zv ν b ∧ zRes G W hp0 ν0 g K r ν X hp (mkU (cond rem (zv ν a - (zv ν a).tdiv (zv ν b) * zv ν b) ((zv ν a).tdiv (zv ν b)))) := by
  have hF : ∀ f ∈ X.2.1, 0 ≤ zv ν f := fun f hf => (h.1 f hf).2
  have hlX : zlt (X.1 + 1) (zX X.1) := zlt_X (Nat.lt_succ_self _)
  have ha' := ha.mono (Nat.le_succ X.1)
  have hb' := hb.mono (Nat.le_succ X.1)
  have hva : ∀ z, zv (zup ν X.1 z) a = zv ν a := fun z => (zv_same zup_old ha).symm
  have hvb : ∀ z, zv (zup ν X.1 z) b = zv ν b := fun z => (zv_same zup_old hb).symm
  have hvx : ∀ z, zv (zup ν X.1 z) (zX X.1) = z := fun z => (zX_ok _ _).trans zup_new
  unfold zdiv at hk
  split at hk
  · split at hk
    · next c1 _ _ _ c =>
      obtain ⟨q, hk⟩ := cond_some hk
      obtain ⟨q1, q⟩ := and_true' q
      obtain ⟨q2, q3⟩ := and_true' q
      have p1 := of_decide_eq_true q1
      have p2 := of_decide_eq_true q2
      have p3 := zent_ok hF q3
      have ec : zv ν (([], c) : zE) = c := zK_ok ν c
      rw [ec]
      obtain ⟨f1, f2, f3, f4, f5, f6, f7, f8⟩ := zq_facts p3 (show 1 ≤ c by omega)
      refine ⟨by omega, zup ν X.1 (zv ν a / c), _, _, _, hk, h.fresh (zv ν a / c) _ fun f hf => ?_, Nat.le_succ _, zup_old, ?_⟩
      · rcases List.mem_append.mp hf with hf | hf
        · exact zbtw_ok f2 (by omega) f hf
        · rcases List.mem_cons.mp hf with rfl | hf
          · refine ⟨zmad_lt hlX ha', ?_⟩
            rw [zmad_ok, hvx, hva, Int.neg_mul]
            omega
          · rcases List.mem_cons.mp hf with rfl | hf
            · refine ⟨zmad_lt hlX (zmad_lt ha' (zlt_K _ _)), ?_⟩
              rw [zmad_ok, hvx, zmad_ok, hva, zK_ok]
              omega
            · cases hf
      · cases rem with
        | true =>
          have e : zv (zup ν X.1 (zv ν a / c)) (zmad (-c) (zX X.1) a) = zv ν a - (zv ν a).tdiv c * c := by
            rw [zmad_ok, hvx, hva, f1, Int.neg_mul, Int.mul_comm c]
            omega
          have := hmk (X.1 + 1) (zup ν X.1 (zv ν a / c)) (zmad (-c) (zX X.1) a) (zmad_lt hlX ha') (by rw [e]; omega) (by rw [e]; omega)
          rw [e] at this
          exact this
        | false =>
          have := hmk (X.1 + 1) (zup ν X.1 (zv ν a / c)) (zX X.1) hlX (by rw [hvx]; omega) (by rw [hvx]; omega)
          rw [hvx] at this
          show zR (X.1 + 1) (zup ν X.1 (zv ν a / c)) (mk (zX X.1)) (mkU ((zv ν a).tdiv c))
          rw [f1]
          exact this
    · cases hk
  · next c1 c2 _ _ =>
    obtain ⟨q, hk⟩ := cond_some hk
    obtain ⟨q1, q2⟩ := and_true' q
    have p1 := zent_ok hF q1
    have p2 := zent_ok hF q2
    rw [zmad_ok, zK_ok] at p2
    obtain ⟨f1, f2, f3, f4, f5, f6, f7, f8⟩ := zq_facts p1 (show 1 ≤ zv ν b by omega)
    refine ⟨by omega, ?_⟩
    cases rem with
    | true =>
      refine ⟨zup ν X.1 (zv ν a - (zv ν a).tdiv (zv ν b) * zv ν b), _, _, _, hk, h.fresh _ _ fun f hf => ?_, Nat.le_succ _, zup_old, ?_⟩
      · rcases List.mem_append.mp hf with hf | hf
        · exact zbtw_ok f6 (by omega) f hf
        · rcases List.mem_cons.mp hf with rfl | hf
          · refine ⟨zmad_lt hlX (zmad_lt hb' (zlt_K _ _)), ?_⟩
            rw [zmad_ok, hvx, zmad_ok, hvb, zK_ok]
            omega
          · rcases List.mem_cons.mp hf with rfl | hf
            · refine ⟨zmad_lt hlX ha', ?_⟩
              rw [zmad_ok, hvx, hva]
              omega
            · cases hf
      · have := hmk (X.1 + 1) (zup ν X.1 (zv ν a - (zv ν a).tdiv (zv ν b) * zv ν b)) (zX X.1) hlX (by rw [hvx]; omega) (by rw [hvx]; omega)
        rw [hvx] at this
        exact this
    | false =>
      refine ⟨zup ν X.1 ((zv ν a).tdiv (zv ν b)), _, _, _, hk, h.fresh _ _ fun f hf => ?_, Nat.le_succ _, zup_old, ?_⟩
      · rcases List.mem_append.mp hf with hf | hf
        · exact zbtw_ok (by rw [f1]; exact f2) (by rw [f1]; omega) f hf
        · rcases List.mem_cons.mp hf with rfl | hf
          · refine ⟨zmad_lt hlX ha', ?_⟩
            rw [zmad_ok, hvx, hva, f1]
            omega
          · cases hf
      · have := hmk (X.1 + 1) (zup ν X.1 ((zv ν a).tdiv (zv ν b))) (zX X.1) hlX (by rw [hvx, f1]; omega) (by rw [hvx, f1]; omega)
        rw [hvx] at this
        exact this
  · next c2 _ _ =>
    obtain ⟨q2, hk⟩ := cond_some hk
    have p2 := zent_ok hF q2
    rw [zmad_ok, zK_ok] at p2
    obtain ⟨f1, f2, f3⟩ := zq_any (a := zv ν a) (show 1 ≤ zv ν b by omega)
    refine ⟨by omega, ?_⟩
    cases rem with
    | true =>
      refine ⟨zup ν X.1 (zv ν a - (zv ν a).tdiv (zv ν b) * zv ν b), _, _, _, hk, h.fresh _ _ fun f hf => ?_, Nat.le_succ _, zup_old, ?_⟩
      · rcases List.mem_append.mp hf with hf | hf
        · exact zbtw_ok (by omega) (by omega) f hf
        · rcases List.mem_cons.mp hf with rfl | hf
          · refine ⟨zmad_lt hlX (zmad_lt hb' (zlt_K _ _)), ?_⟩
            rw [zmad_ok, hvx, zmad_ok, hvb, zK_ok]
            omega
          · rcases List.mem_cons.mp hf with rfl | hf
            · refine ⟨zmad_lt hlX (zmad_lt hb' (zlt_K _ _)), ?_⟩
              rw [zmad_ok, hvx, zmad_ok, hvb, zK_ok]
              omega
            · cases hf
      · have := hmk (X.1 + 1) (zup ν X.1 (zv ν a - (zv ν a).tdiv (zv ν b) * zv ν b)) (zX X.1) hlX (by rw [hvx]; omega) (by rw [hvx]; omega)
        rw [hvx] at this
        exact this
    | false =>
      refine ⟨zup ν X.1 ((zv ν a).tdiv (zv ν b)), _, _, _, hk, h.fresh _ _ fun f hf => ?_, Nat.le_succ _, zup_old, ?_⟩
      · rcases List.mem_append.mp hf with hf | hf
        · exact zbtw_ok (by omega) (by omega) f hf
        · cases hf
      · have := hmk (X.1 + 1) (zup ν X.1 ((zv ν a).tdiv (zv ν b))) (zX X.1) hlX (by rw [hvx]; omega) (by rw [hvx]; omega)
        rw [hvx] at this
        exact this
  · cases hk
end Divs
