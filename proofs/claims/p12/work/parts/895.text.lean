/-! ===== texts: their lengths and letters ===== -/
section YText
variable {o : Nat} {ft : Nat → List Nat} {call : xF} {pool : Nat → xP} {hs : List (Nat × (Nat × (Nat × Nat)))} {tab : Lean.RArray xI} {P : xE → Prop}
variable {N pc nx len : Nat} {i : Instr} {L : List (Nat × xA)} {stk rest : List xA} {hp : xH} {G : zW}
theorem yTX.at {k j n : Nat} (h : yTX G k j n) (hT : zTy G hp) : xcell hp k = some (.inr (.inr [j])) := by
  have h2 := hT.2.2 k h.1
  rw [h.2.1, h.2.2.1] at h2
  have h3 : (1 : Nat) = 0 ∨ xcell hp k = some (.inr (.inr [j])) := h2
  rcases h3 with e | e
  · cases e
  · exact e
theorem yG.getV {kk k j : Nat} (hX : xcell hp k = some (.inr (.inr [j]))) (ht : xget tab pc = (pc, (.getfield kk, (len, nx)))) (hq : pool kk = (24, (0, (0, 0)))) (h : yG o ft call pool hs tab P N nx L (yR j :: rest) hp) : yG o ft call pool hs tab P (N + 1) pc L (yR k :: rest) hp := yG.step (pc' := nx) (stk' := yR j :: rest) ht (fun K l => by
  show cond (Nat.beq (pool kk).1 0) (match xcell hp k with
    | some (.inl c) => cond (Nat.beq c.1 (pool kk).2.1) (K nx l (xget c.2 (pool kk).2.2.1 :: rest) hp) none
    | _ => none) (match xcell hp k with
    | some (.inr (.inr [j])) => cond (Nat.beq (pool kk).1 24) (K nx l (.inr (.inr (.inl j)) :: rest) hp) (cond (Nat.beq (pool kk).1 25) (K nx l (.inl 0 :: rest) hp) none)
    | _ => none) = _
  rw [hX, hq]
  rfl) h
theorem yG.getC {kk k j : Nat} (hX : xcell hp k = some (.inr (.inr [j]))) (ht : xget tab pc = (pc, (.getfield kk, (len, nx)))) (hq : pool kk = (25, (0, (0, 0)))) (h : yG o ft call pool hs tab P N nx L (yI 0 :: rest) hp) : yG o ft call pool hs tab P (N + 1) pc L (yR k :: rest) hp := yG.step (pc' := nx) (stk' := yI 0 :: rest) ht (fun K l => by
  show cond (Nat.beq (pool kk).1 0) (match xcell hp k with
    | some (.inl c) => cond (Nat.beq c.1 (pool kk).2.1) (K nx l (xget c.2 (pool kk).2.2.1 :: rest) hp) none
    | _ => none) (match xcell hp k with
    | some (.inr (.inr [j])) => cond (Nat.beq (pool kk).1 24) (K nx l (.inr (.inr (.inl j)) :: rest) hp) (cond (Nat.beq (pool kk).1 25) (K nx l (.inl 0 :: rest) hp) none)
    | _ => none) = _
  rw [hX, hq]
  rfl) h
theorem yG.getS1 {kk : Nat} (ht : xget tab pc = (pc, (.getstatic kk, (len, nx)))) (hq : pool kk = (26, (0, (0, 0)))) (h : yG o ft call pool hs tab P N nx L (yI 1 :: stk) hp) : yG o ft call pool hs tab P (N + 1) pc L stk hp := yG.step (pc' := nx) (stk' := yI 1 :: stk) ht (fun K l => by
  show cond (Nat.beq (pool kk).1 10) (K nx l (.inr (.inr (.inl (pool kk).2.1)) :: stk) hp) (cond (Nat.beq (pool kk).1 26) (K nx l (.inl 1 :: stk) hp) (cond (Nat.beq (pool kk).1 27) (K nx l (.inr (.inr (.inr (.inr (.inr (.inl true))))) :: stk) hp) none)) = _
  rw [hq]
  rfl) h
theorem yG.getS2 {kk : Nat} (ht : xget tab pc = (pc, (.getstatic kk, (len, nx)))) (hq : pool kk = (27, (0, (0, 0)))) (h : yG o ft call pool hs tab P N nx L (.inr (.inr (.inr (.inr (.inr (.inl true))))) :: stk) hp) : yG o ft call pool hs tab P (N + 1) pc L stk hp := yG.step (pc' := nx) (stk' := .inr (.inr (.inr (.inr (.inr (.inl true))))) :: stk) ht (fun K l => by
  show cond (Nat.beq (pool kk).1 10) (K nx l (.inr (.inr (.inl (pool kk).2.1)) :: stk) hp) (cond (Nat.beq (pool kk).1 26) (K nx l (.inl 1 :: stk) hp) (cond (Nat.beq (pool kk).1 27) (K nx l (.inr (.inr (.inr (.inr (.inr (.inl true))))) :: stk) hp) none)) = _
  rw [hq]
  rfl) h
theorem yG.alen {k n kd : Nat} {t : zT} (hT : zTy G hp) (hA : yIA G k n kd t) (ht : xget tab pc = (pc, (.arraylength, (len, nx)))) (h : n < 2147483648 → yG o ft call pool hs tab P N nx L (yI (n : Int) :: rest) hp) : yG o ft call pool hs tab P (N + 1) pc L (yR k :: rest) hp := by
  obtain ⟨bb, f, f1, -, -, f4, -⟩ := hT.arr hA.1 hA.2.1
  rw [hA.2.2] at f1 f4
  have e : (.inl (zc32 (n : Int)) : xA) = .inl n := by rw [zc32_nat f4]
  refine yG.step (pc' := nx) (stk' := yI (n : Int) :: rest) ht (fun K l => ?_) (h f4)
  show (match xcell hp k with
    | some (.inr (.inl c)) => K nx l (.inl c.2.1 :: rest) hp
    | _ => none) = K nx l (.inl (zc32 (n : Int)) :: rest) hp
  rw [f1, e]
theorem yG.bald3 {k n : Nat} {lo hi e : Int} (hT : zTy G hp) (hA : yIA G k n 3 (0, (lo, hi))) (ht : xget tab pc = (pc, (.baload, (len, nx)))) (h0 : 0 ≤ e) (h1 : e < n) (h : ∀ z, z = ys hp k e.toNat → zi32 z → lo ≤ z → z ≤ hi → yG o ft call pool hs tab P N nx L (yI z :: rest) hp) : yG o ft call pool hs tab P (N + 1) pc L (yI e :: yR k :: rest) hp := by
  obtain ⟨a, b, c, d⟩ := hA.yIF.int hT (j := e.toNat) (by omega) rfl
  refine yG.aldF (ok := fun t => Nat.beq t 2 || Nat.beq t 3) hT hA.yIF rfl ht (fun _ _ _ => rfl) h0 h1 ?_
  rw [a]
  exact h _ rfl b c d
theorem yG.invT {kk k j mi na : Nat} {as : List xA} {Q : Option xA → xH → Prop} (hX : xcell hp k = some (.inr (.inr [j]))) (ht : xget tab pc = (pc, (.invokevirtual kk, (len, nx)))) (hq : pool kk = (28, (mi, (na, 0)))) (hs9 : xtake na [] stk = some (as, yR k :: rest)) (hr : Nat.ble (xcats rest) 8 = true) (hc : yC call mi (yR k :: as) hp Q) (h : ∀ rv hp', Q rv hp' → yG o ft call pool hs tab P N nx L (yret rv rest) hp') : yG o ft call pool hs tab P (N + 1) pc L stk hp := by
  obtain ⟨rv, hp', c1, c2⟩ := hc
  refine fun l hl => zG.step (pc' := nx) (loc' := l) (stk' := yret rv rest) (hp' := hp') ht (fun K => ?_) (h rv hp' c2 l hl)
  show xinvV call hs (pool kk) K pc nx l stk hp = _
  unfold xinvV
  rw [hq, hs9]
  show (match xcell hp k with
    | some (.inr (.inr _)) => cond (Nat.ble (xcats rest) 8) (xback hs K pc nx l rest (call mi (yR k :: as) hp)) none
    | _ => none) = _
  rw [hX]
  show cond (Nat.ble (xcats rest) 8) (xback hs K pc nx l rest (call mi (yR k :: as) hp)) none = _
  rw [hr, c1]
  cases rv <;> rfl
theorem yP.byte {Q : Option xA → xH → Prop} {z : Int} (h0 : 0 ≤ z) (h1 : z ≤ 127) (h : Q (some (yI z)) hp) : yP 5 Q (0, (pc, ([yI z], (hp, 0)))) := ⟨_, hp, by
  obtain ⟨n, rfl⟩ : ∃ n : Nat, z = (n : Int) := ⟨z.toNat, by omega⟩
  show (cond (Nat.blt (zc32 (n : Int)) 128) (some (0, (some (yI (n : Int)), (hp, 0)))) none : Option xO) = _
  rw [zc32_nat (by omega), blt_true (show n < 128 by omega)]
  rfl, h⟩
theorem yiand' {a c : Int} (ha : zi32 a) (h0 : 0 ≤ a) : 0 ≤ (Int32.ofNat (zc32 a) &&& Int32.ofNat (zc32 c)).toInt ∧ (Int32.ofNat (zc32 a) &&& Int32.ofNat (zc32 c)).toInt ≤ a := by
  rw [Int32.and_comm]
  exact yiand ha h0
theorem yi2c {z : Int} (h0 : 0 ≤ z) (h1 : z ≤ 255) : xi2c (yI z) = some (yI z) := by
  obtain ⟨n, rfl⟩ : ∃ n : Nat, z = (n : Int) := ⟨z.toNat, by omega⟩
  have hn : n < 256 := by omega
  show (some (.inl (x32 ((Int32.ofNat (zc32 (n : Int))).toUInt32 % 65536).toInt32)) : Option xA) = some (.inl (zc32 (n : Int)))
  rw [zc32_nat (by omega)]
  have : ∀ n : Fin 256, x32 ((Int32.ofNat n.val).toUInt32 % 65536).toInt32 = n.val := by decide +kernel
  rw [this ⟨n, hn⟩]
end YText
section YText2
variable {G : zW} {hp : xH} {k j n : Nat}
theorem y_coder (hX : yTX G k j n) (d : Nat) (hT : zTy G hp) : yC (xcall 89 xfts xpools xms (d + 1)) 2 [yR k] hp (yQei hp 0) := by
  refine yC.of (M := (xt_J0_coder_7d493, (1, (5, (15, []))))) rfl rfl (N := 20) (yfuel (by decide)) ?_
  show yG 89 xfts (xcall 89 xfts xpools xms d) (xpool xp_RJ0) [] xt_J0_coder_7d493 (yP 5 (yQei hp 0)) 20 0 [(0, yR k)] [] hp
  refine yG.getS1 rfl rfl ?_
  refine yG.ifz rfl (t := 13) rfl ⟨by omega, by omega⟩ (fun c => absurd (show (1 : Int) = 0 from c) (by omega)) (fun c => ?_)
  refine yG.load xak rfl (fun _ _ => rfl) (v := yR k) rfl rfl ?_
  refine yG.getC (hX.at hT) rfl rfl ?_
  refine yG.goto rfl (t := 14) rfl ?_
  refine yG.ret rfl (fun _ _ => rfl) ?_
  exact yP.byte (by omega) (by omega) ⟨rfl, rfl⟩
theorem y_isLatin1 (hX : yTX G k j n) (d : Nat) (hT : zTy G hp) : yC (xcall 89 xfts xpools xms (d + 1)) 3 [yR k] hp (yQei hp 1) := by
  refine yC.of (M := (xt_J0_isLatin1_aae02, (1, (4, (15, []))))) rfl rfl (N := 20) (yfuel (by decide)) ?_
  show yG 89 xfts (xcall 89 xfts xpools xms d) (xpool xp_RJ0) [] xt_J0_isLatin1_aae02 (yP 4 (yQei hp 1)) 20 0 [(0, yR k)] [] hp
  refine yG.getS1 rfl rfl ?_
  refine yG.ifz rfl (t := 17) rfl ⟨by omega, by omega⟩ (fun c => absurd (show (1 : Int) = 0 from c) (by omega)) (fun c => ?_)
  refine yG.load xak rfl (fun _ _ => rfl) (v := yR k) rfl rfl ?_
  refine yG.getC (hX.at hT) rfl rfl ?_
  refine yG.ifz rfl (t := 17) rfl ⟨by omega, by omega⟩ (fun c => absurd (show (0 : Int) ≠ 0 from c) (by omega)) (fun c => ?_)
  refine yG.num (c := 1) rfl (fun _ _ => rfl) (by decide) ?_
  refine yG.goto rfl (t := 18) rfl ?_
  refine yG.ret rfl (fun _ _ => rfl) ?_
  exact yP.bool (by omega) ⟨rfl, rfl⟩
theorem y_strlen (hX : yTX G k j n) (d : Nat) (hT : zTy G hp) : yC (xcall 89 xfts xpools xms (d + 2)) 4 [yR k] hp (yQei hp (n : Int)) := by
  refine yC.of (M := (xt_J0_length_8abf5, (1, (1, (15, []))))) rfl rfl (N := 20) (yfuel (by decide)) ?_
  show yG 89 xfts (xcall 89 xfts xpools xms (d + 1)) (xpool xp_RJ0) [] xt_J0_length_8abf5 (yP 1 (yQei hp (n : Int))) 20 0 [(0, yR k)] [] hp
  refine yG.load xak rfl (fun _ _ => rfl) (v := yR k) rfl rfl ?_
  refine yG.getV (hX.at hT) rfl rfl ?_
  refine yG.alen hT hX.2.2.2 rfl (fun hn => ?_)
  refine yG.load xak rfl (fun _ _ => rfl) (v := yR k) rfl rfl ?_
  refine yG.invT (rest := [yI (n : Int)]) (hX.at hT) rfl rfl rfl rfl (y_coder hX d hT) (fun rv hp9 q9 => ?_)
  obtain ⟨rfl, e9⟩ := q9
  rw [e9]
  show yG _ _ _ _ _ _ _ _ _ _ [yI 0, yI (n : Int)] _
  refine yG.bit32 rfl (fun _ _ => rfl) (fun z e_z l_z u_z => ?_)
  have b_z : z = (n : Int) / 1 := by rw [e_z]; exact yishr (n := 0) ⟨by omega, by omega⟩ (by decide)
  refine yG.ret rfl (fun _ _ => rfl) ?_
  exact yP.int ⟨by omega, by omega⟩ ⟨congrArg (fun z => some (yI z)) (by omega), rfl⟩
theorem y_check3 (d : Nat) (a : xA) (hc : xcat a = 1) (p : Int) (m : Nat) (h0 : 0 ≤ p) (h1 : p < m) (h2 : m < 2147483648) : yC (xcall 89 xfts xpools xms (d + 1)) 6 [yI p, yI (m : Int), a] hp (yQei hp p) := by
  refine yC.of (M := (xt_J3_checkIndex_8e157, (3, (1, (17, []))))) rfl ?_ (N := 20) (yfuel (by decide)) ?_
  · show Nat.ble (xcats [yI p, yI (m : Int), a]) 3 = true
    show Nat.ble (1 + (1 + (xcat a + 0))) 3 = true
    rw [hc]
    rfl
  show yG 89 xfts (xcall 89 xfts xpools xms d) (xpool xp_RJ3) [] xt_J3_checkIndex_8e157 (yP 1 (yQei hp p)) 20 0 [(0, yI p), (1, yI (m : Int)), (2, a)] [] hp
  refine yG.load xik rfl (fun _ _ => rfl) (v := yI p) rfl rfl ?_
  refine yG.ifz rfl (t := 9) rfl ⟨by omega, by omega⟩ (fun c => absurd (show p < 0 from c) (by omega)) (fun c => ?_)
  refine yG.load xik rfl (fun _ _ => rfl) (v := yI p) rfl rfl ?_
  refine yG.load xik rfl (fun _ _ => rfl) (v := yI (m : Int)) rfl rfl ?_
  refine yG.icmp rfl (t := 16) rfl ⟨by omega, by omega⟩ ⟨by omega, by omega⟩ (fun c => ?_) (fun c => absurd (show p ≥ (m : Int) from c) (by omega))
  refine yG.load xik rfl (fun _ _ => rfl) (v := yI p) rfl rfl ?_
  refine yG.ret rfl (fun _ _ => rfl) ?_
  exact yP.int ⟨by omega, by omega⟩ ⟨rfl, rfl⟩
theorem y_check0 (d : Nat) (p : Int) (m : Nat) (h0 : 0 ≤ p) (h1 : p < m) (h2 : m < 2147483648) : yC (xcall 89 xfts xpools xms (d + 2)) 1 [yI p, yI (m : Int)] hp (fun rv hp' => rv = none ∧ hp' = hp) := by
  refine yC.of (M := (xt_J0_checkIndex_df160, (2, (0, (15, []))))) rfl rfl (N := 20) (yfuel (by decide)) ?_
  show yG 89 xfts (xcall 89 xfts xpools xms (d + 1)) (xpool xp_RJ0) [] xt_J0_checkIndex_df160 (yP 0 (fun rv hp' => rv = none ∧ hp' = hp)) 20 0 [(0, yI p), (1, yI (m : Int))] [] hp
  refine yG.load xik rfl (fun _ _ => rfl) (v := yI p) rfl rfl ?_
  refine yG.load xik rfl (fun _ _ => rfl) (v := yI (m : Int)) rfl rfl ?_
  refine yG.getS2 rfl rfl ?_
  refine yG.invS (rest := []) rfl rfl rfl rfl (y_check3 d _ rfl p m h0 h1 h2) (fun rv hp9 q9 => ?_)
  obtain ⟨rfl, e9⟩ := q9
  rw [e9]
  show yG _ _ _ _ _ _ _ _ _ _ [yI p] _
  refine yG.step (pc' := 9) (stk' := []) rfl (fun _ _ => rfl) ?_
  refine yG.ret rfl (fun _ _ => rfl) ?_
  exact yP.void ⟨rfl, rfl⟩
theorem y_charAt1 (hX : yTX G k j n) (d : Nat) (hT : zTy G hp) (p : Int) (h0 : 0 ≤ p) (h1 : p < n) : yC (xcall 89 xfts xpools xms (d + 3)) 5 [yR j, yI p] hp (yQpi hp 0 127) := by
  refine yC.of (M := (xt_J1_charAt_3b067, (2, (5, (16, []))))) rfl rfl (N := 20) (yfuel (by decide)) ?_
  show yG 89 xfts (xcall 89 xfts xpools xms (d + 2)) (xpool xp_RJ1) [] xt_J1_charAt_3b067 (yP 5 (yQpi hp 0 127)) 20 0 [(0, yR j), (1, yI p)] [] hp
  refine yG.load xik rfl (fun _ _ => rfl) (v := yI p) rfl rfl ?_
  refine yG.load xak rfl (fun _ _ => rfl) (v := yR j) rfl rfl ?_
  refine yG.alen hT hX.2.2.2 rfl (fun hn => ?_)
  refine yG.invS (rest := []) rfl rfl rfl rfl (y_check0 d p n h0 h1 hn) (fun rv hp9 q9 => ?_)
  obtain ⟨rfl, e9⟩ := q9
  rw [e9]
  show yG _ _ _ _ _ _ _ _ _ _ [] _
  refine yG.load xak rfl (fun _ _ => rfl) (v := yR j) rfl rfl ?_
  refine yG.load xik rfl (fun _ _ => rfl) (v := yI p) rfl rfl ?_
  refine yG.bald3 hT hX.2.2.2 rfl h0 h1 (fun z e_z i_z l_z u_z => ?_)
  refine yG.num (c := 255) rfl (fun _ _ => rfl) (by decide) ?_
  refine yG.bit32 rfl (fun _ _ => rfl) (fun w e_w l_w u_w => ?_)
  have b_w : 0 ≤ w ∧ w ≤ z := by rw [e_w]; exact yiand' i_z l_z
  refine yG.step (pc' := 14) (stk' := [yI w]) rfl (fun K l => ?_) ?_
  · show xj (xi2c (yI w)) (fun v => K 14 l (v :: []) hp) = _
    rw [yi2c (by omega) (by omega)]
    rfl
  refine yG.ret rfl (fun _ _ => rfl) ?_
  exact yP.byte (by omega) (by omega) ⟨⟨w, rfl, by omega, by omega⟩, rfl⟩
theorem y_charAt (hX : yTX G k j n) (d : Nat) (hT : zTy G hp) (p : Int) (h0 : 0 ≤ p) (h1 : p < n) : yC (xcall 89 xfts xpools xms (d + 4)) 0 [yR k, yI p] hp (yQpi hp 0 127) := by
  refine yC.of (M := (xt_J0_charAt_5068e, (2, (5, (15, []))))) rfl rfl (N := 20) (yfuel (by decide)) ?_
  show yG 89 xfts (xcall 89 xfts xpools xms (d + 3)) (xpool xp_RJ0) [] xt_J0_charAt_5068e (yP 5 (yQpi hp 0 127)) 20 0 [(0, yR k), (1, yI p)] [] hp
  refine yG.load xak rfl (fun _ _ => rfl) (v := yR k) rfl rfl ?_
  refine yG.invT (rest := []) (hX.at hT) rfl rfl rfl rfl (y_isLatin1 hX (d + 2) hT) (fun rv hp9 q9 => ?_)
  obtain ⟨rfl, e9⟩ := q9
  rw [e9]
  show yG _ _ _ _ _ _ _ _ _ _ [yI 1] _
  refine yG.ifz rfl (t := 16) rfl ⟨by omega, by omega⟩ (fun c => absurd (show (1 : Int) = 0 from c) (by omega)) (fun c => ?_)
  refine yG.load xak rfl (fun _ _ => rfl) (v := yR k) rfl rfl ?_
  refine yG.getV (hX.at hT) rfl rfl ?_
  refine yG.load xik rfl (fun _ _ => rfl) (v := yI p) rfl rfl ?_
  refine yG.invS (rest := []) rfl rfl rfl rfl (y_charAt1 hX d hT p h0 h1) (fun rv hp9 q9 => ?_)
  obtain ⟨⟨z, rfl, l_z, u_z⟩, e9⟩ := q9
  rw [e9]
  show yG _ _ _ _ _ _ _ _ _ _ [yI z] _
  refine yG.ret rfl (fun _ _ => rfl) ?_
  exact yP.byte l_z u_z ⟨⟨z, rfl, l_z, u_z⟩, rfl⟩
end YText2
/-- each word has a letter, lies within the tape -/
def yWd (hp : xH) : Prop := ∀ i : Int, 0 ≤ i → i < ys hp 2073 18 → ys hp 2086 i.toNat + ys hp 2087 i.toNat ≤ 4000 ∧ 1 ≤ ys hp 2087 i.toNat
theorem yWd.fr {G : zW} {FS KS : List Nat} {a b : xH} (h : yWd a) (A : yAx G FS KS a b) (h1 : (FS.contains 18 || KS.contains 2073) = false) (h2 : KS.contains 2086 = false) (h3 : KS.contains 2087 = false) : yWd b := by
  intro i i0 i1
  have f1 : FS.contains 18 = false ∧ KS.contains 2073 = false := by
    cases e : FS.contains 18 <;> cases e2 : KS.contains 2073 <;> rw [e, e2] at h1 <;> first | exact ⟨rfl, rfl⟩ | cases h1
  rw [A.ys f1.2 (by rw [f1.1]; rfl)] at i1
  rw [A.ys h2 rfl, A.ys h3 rfl]
  exact h i i0 i1
section YTab
variable {o : Nat} {ft : Nat → List Nat} {call : xF} {pool : Nat → xP} {hs : List (Nat × (Nat × (Nat × Nat)))} {tab : Lean.RArray xI} {P : xE → Prop}
variable {N pc nx len : Nat} {L : List (Nat × xA)} {rest : List xA} {hp : xH}
theorem ytab {K : xK} {d lo hi a : Int} {offs : Array Int} {l : List (Nat × xA)} (ha : zi32 a) : xtab K pc d lo hi offs l (yI a :: rest) hp = cond (decide (a < lo) || decide (hi < a)) (xj (xtgt pc d) fun t => K t l rest hp) (xj offs[(a - lo).toNat]? fun off => xj (xtgt pc off) fun t => K t l rest hp) := by
  show cond (decide ((Int32.ofNat (zc32 a)).toInt < lo) || decide (hi < (Int32.ofNat (zc32 a)).toInt)) (xj (xtgt pc d) fun t => K t l rest hp) (xj offs[((Int32.ofNat (zc32 a)).toInt - lo).toNat]? fun off => xj (xtgt pc off) fun t => K t l rest hp) = _
  rw [zc32_of, zof32 ha]
theorem yG.tswC {d lo hi a off : Int} {offs : Array Int} {i t : Nat} (ht : xget tab pc = (pc, (.tableswitch d lo hi offs, (len, nx)))) (ha : zi32 a) (e : a = lo + (i : Int)) (h9 : a ≤ hi) (hoff : offs[i]? = some off) (hg : xtgt pc off = some t) (h : yG o ft call pool hs tab P N t L rest hp) : yG o ft call pool hs tab P (N + 1) pc L (yI a :: rest) hp := by
  refine yG.step (pc' := t) (stk' := rest) ht (fun K l => ?_) h
  show xtab K pc d lo hi offs l (yI a :: rest) hp = _
  rw [ytab ha, decide_eq_false (show ¬ a < lo by omega), decide_eq_false (show ¬ hi < a by omega), show (a - lo).toNat = i by omega, hoff]
  show xj (xtgt pc off) (fun t => K t l rest hp) = _
  rw [hg]
  rfl
theorem yG.tswD {d lo hi a : Int} {offs : Array Int} {t : Nat} (ht : xget tab pc = (pc, (.tableswitch d lo hi offs, (len, nx)))) (ha : zi32 a) (h9 : a < lo ∨ hi < a) (hg : xtgt pc d = some t) (h : yG o ft call pool hs tab P N t L rest hp) : yG o ft call pool hs tab P (N + 1) pc L (yI a :: rest) hp := by
  refine yG.step (pc' := t) (stk' := rest) ht (fun K l => ?_) h
  show xtab K pc d lo hi offs l (yI a :: rest) hp = _
  have e : (decide (a < lo) || decide (hi < a)) = true := by
    rcases h9 with h9 | h9
    · rw [decide_eq_true h9]; rfl
    · rw [decide_eq_true h9, Bool.or_true]
  rw [ytab ha, e, cond_true, hg]
  rfl
end YTab
/-- a meter that is not on a line is at a bar -/
def yMt (hp : xH) : Prop := ∀ i : Int, 0 ≤ i → i < 32 → ys hp 2115 i.toNat = 0 ∨ ys hp 2116 i.toNat ≤ 15
theorem yMt.fr {G : zW} {FS KS : List Nat} {a b : xH} (h : yMt a) (A : yAx G FS KS a b) (h2 : KS.contains 2115 = false) (h3 : KS.contains 2116 = false) : yMt b := by
  intro i i0 i1
  rw [A.ys h2 rfl, A.ys h3 rfl]
  exact h i i0 i1
