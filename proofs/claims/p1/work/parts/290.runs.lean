/-! ===== the runs ===== -/
def xfinB (r : Option xE) : Bool := match r with
  | some (0, (_, ([.inl 1], (h, _)))) => Nat.ble h.2.2.2.1 600002 && Nat.ble h.2.2.2.2 7302232
  | _ => false
noncomputable def xK0 : xK := fun _ _ _ _ => none
noncomputable def xgoC (c : xC) : Bool := xfinB (xrunL xK0 1000 23 xloc1 [] (xput xbase 0 c))
noncomputable def xgo (l : List xA) : Bool := xgoC (xscript l)
noncomputable def xAllK (f : List xA → Bool) : List (List xA) → List xA → Bool := List.rec (fun acc => f acc) (fun B _ ih acc => B.all fun a => ih (acc ++ [a]))
def xcovB : List xA → Nat → Bool
  | [], lo => Nat.blt 4294967295 lo
  | .inl n :: t, lo => Nat.ble (xm32 (Nat.add n 2147483648)) lo && xcovB t (Nat.add (xm32 (Nat.add n 2147483648)) 1)
  | .inr (.inr (.inr (.inl q))) :: t, lo => Nat.ble q.1 lo && xcovB t (Nat.add q.2 1)
  | _ :: _, _ => false
/-- a call's numbers: for each, the sorts that are looked at one by one -/
def xcaseB (k : Nat) (Bs : List (List xA)) : Bool := Nat.beq Bs.length 5 && Bs.all (fun B => xcovB B 0)
theorem xAllK_nil {f : List xA → Bool} {Bs : List (List xA)} {acc : List xA} : xAllK f ([] :: Bs) acc = true := rfl
theorem xAllK_cons {f : List xA → Bool} {Bs : List (List xA)} {acc : List xA} {a : xA} {B : List xA} (h1 : xAllK f ([a] :: Bs) acc = true) (h2 : xAllK f (B :: Bs) acc = true) : xAllK f ((a :: B) :: Bs) acc = true := by
  have h1 : (xAllK f Bs (acc ++ [a]) && true) = true := h1
  have h2 : (B.all fun a => xAllK f Bs (acc ++ [a])) = true := h2
  show (xAllK f Bs (acc ++ [a]) && B.all fun a => xAllK f Bs (acc ++ [a])) = true
  rw [h2]
  exact h1
set_option maxRecDepth 1000000 in
theorem xs_0 : xgoC (some (.inr (.inl (0, (0, (5, .leaf xTop)))))) = true := by decide +kernel
set_option maxRecDepth 1000000 in
theorem xs_1 : xgoC (some (.inr (.inl (0, (1, (5, .leaf xTop)))))) = true := by decide +kernel
set_option maxRecDepth 1000000 in
theorem xs_2 : xgoC (some (.inr (.inl (0, (2, (5, .leaf xTop)))))) = true := by decide +kernel
set_option maxRecDepth 1000000 in
theorem xs_3 : xgoC (some (.inr (.inl (0, (3, (5, .leaf xTop)))))) = true := by decide +kernel
set_option maxRecDepth 1000000 in
theorem xs_4 : xgoC (some (.inr (.inl (0, (4, (5, .leaf xTop)))))) = true := by decide +kernel
set_option maxRecDepth 1000000 in
theorem xs_5 : xgoC (some (.inr (.inl (0, (5, (5, .leaf xTop)))))) = true := by decide +kernel
def xB_0 : List (List xA) := [[(.inr (.inr (.inr (.inl (0, 4294967295)))))], [(.inr (.inr (.inr (.inl (0, 4294967295)))))], [(.inr (.inr (.inr (.inl (0, 4294967295)))))], [(.inr (.inr (.inr (.inl (0, 4294967295)))))], [(.inr (.inr (.inr (.inl (0, 4294967295)))))]]
theorem xcs_0 : xcaseB 0 xB_0 = true := by decide +kernel
set_option maxRecDepth 1000000 in
theorem xk_0 : xAllK xgo xB_0 [.inr (.inr (.inr (.inr (.inr (.inr 0)))))] = true := by decide +kernel
def xB_1 : List (List xA) := [[(.inr (.inr (.inr (.inl (0, 2147483647))))), (.inl 0), (.inr (.inr (.inr (.inl (2147483649, 4294967295)))))], [(.inr (.inr (.inr (.inl (0, 4294967295)))))], [(.inr (.inr (.inr (.inl (0, 4294967295)))))], [(.inr (.inr (.inr (.inl (0, 4294967295)))))], [(.inr (.inr (.inr (.inl (0, 4294967295)))))]]
theorem xcs_1 : xcaseB 1 xB_1 = true := by decide +kernel
set_option maxRecDepth 1000000 in
theorem xk_1 : xAllK xgo xB_1 [.inr (.inr (.inr (.inr (.inr (.inr 1)))))] = true := by decide +kernel
def xB_2 : List (List xA) := [[(.inr (.inr (.inr (.inl (0, 4294967295)))))], [(.inr (.inr (.inr (.inl (0, 4294967295)))))], [(.inr (.inr (.inr (.inl (0, 4294967295)))))], [(.inr (.inr (.inr (.inl (0, 4294967295)))))], [(.inr (.inr (.inr (.inl (0, 4294967295)))))]]
theorem xcs_2 : xcaseB 2 xB_2 = true := by decide +kernel
set_option maxRecDepth 1000000 in
theorem xk_2 : xAllK xgo xB_2 [.inr (.inr (.inr (.inr (.inr (.inr 2)))))] = true := by decide +kernel
def xB_3 : List (List xA) := [[(.inr (.inr (.inr (.inl (0, 4294967295)))))], [(.inr (.inr (.inr (.inl (0, 4294967295)))))], [(.inr (.inr (.inr (.inl (0, 4294967295)))))], [(.inr (.inr (.inr (.inl (0, 4294967295)))))], [(.inr (.inr (.inr (.inl (0, 4294967295)))))]]
theorem xcs_3 : xcaseB 3 xB_3 = true := by decide +kernel
set_option maxRecDepth 1000000 in
theorem xk_3 : xAllK xgo xB_3 [.inr (.inr (.inr (.inr (.inr (.inr 3)))))] = true := by decide +kernel
def xB_4 : List (List xA) := [[(.inr (.inr (.inr (.inl (0, 4294967295)))))], [(.inr (.inr (.inr (.inl (0, 4294967295)))))], [(.inr (.inr (.inr (.inl (0, 4294967295)))))], [(.inr (.inr (.inr (.inl (0, 4294967295)))))], [(.inr (.inr (.inr (.inl (0, 4294967295)))))]]
theorem xcs_4 : xcaseB 4 xB_4 = true := by decide +kernel
set_option maxRecDepth 1000000 in
theorem xk_4 : xAllK xgo xB_4 [.inr (.inr (.inr (.inr (.inr (.inr 4)))))] = true := by decide +kernel
def xB_5 : List (List xA) := [[(.inr (.inr (.inr (.inl (0, 4294967295)))))], [(.inr (.inr (.inr (.inl (0, 4294967295)))))], [(.inr (.inr (.inr (.inl (0, 4294967295)))))], [(.inr (.inr (.inr (.inl (0, 4294967295)))))], [(.inr (.inr (.inr (.inl (0, 4294967295)))))]]
theorem xcs_5 : xcaseB 5 xB_5 = true := by decide +kernel
set_option maxRecDepth 1000000 in
theorem xk_5 : xAllK xgo xB_5 [.inr (.inr (.inr (.inr (.inr (.inr 5)))))] = true := by decide +kernel
def xB_6 : List (List xA) := [[(.inr (.inr (.inr (.inl (0, 2147483647))))), (.inl 0), (.inl 1), (.inl 2), (.inl 3), (.inl 4), (.inl 5), (.inl 6), (.inl 7), (.inl 8), (.inl 9), (.inl 10), (.inl 11), (.inl 12), (.inl 13), (.inl 14), (.inl 15), (.inr (.inr (.inr (.inl (2147483664, 4294967295)))))], [(.inr (.inr (.inr (.inl (0, 4294967295)))))], [(.inr (.inr (.inr (.inl (0, 4294967295)))))], [(.inr (.inr (.inr (.inl (0, 4294967295)))))], [(.inr (.inr (.inr (.inl (0, 4294967295)))))]]
theorem xcs_6 : xcaseB 6 xB_6 = true := by decide +kernel
set_option maxRecDepth 1000000 in
theorem xk_6 : xAllK xgo xB_6 [.inr (.inr (.inr (.inr (.inr (.inr 6)))))] = true := by decide +kernel
def xB_7 : List (List xA) := [[(.inr (.inr (.inr (.inl (0, 2147483647))))), (.inl 0), (.inl 1), (.inl 2), (.inl 3), (.inl 4), (.inr (.inr (.inr (.inl (2147483653, 4294967295)))))], [(.inr (.inr (.inr (.inl (0, 2147483647))))), (.inl 0), (.inr (.inr (.inr (.inl (2147483649, 4294967295)))))], [(.inr (.inr (.inr (.inl (0, 4294967295)))))], [(.inr (.inr (.inr (.inl (0, 4294967295)))))], [(.inr (.inr (.inr (.inl (0, 4294967295)))))]]
theorem xcs_7 : xcaseB 7 xB_7 = true := by decide +kernel
set_option maxRecDepth 1000000 in
theorem xk_7 : xAllK xgo xB_7 [.inr (.inr (.inr (.inr (.inr (.inr 7)))))] = true := by decide +kernel
def xB_8 : List (List xA) := [[(.inr (.inr (.inr (.inl (0, 2147483647))))), (.inl 0), (.inl 1), (.inl 2), (.inl 3), (.inl 4), (.inr (.inr (.inr (.inl (2147483653, 4294967295)))))], [(.inr (.inr (.inr (.inl (0, 2147483647))))), (.inl 0), (.inr (.inr (.inr (.inl (2147483649, 4294967295)))))], [(.inr (.inr (.inr (.inl (0, 4294967295)))))], [(.inr (.inr (.inr (.inl (0, 4294967295)))))], [(.inr (.inr (.inr (.inl (0, 4294967295)))))]]
theorem xcs_8 : xcaseB 8 xB_8 = true := by decide +kernel
set_option maxRecDepth 1000000 in
theorem xk_8 : xAllK xgo xB_8 [.inr (.inr (.inr (.inr (.inr (.inr 8)))))] = true := by decide +kernel
def xB_9 : List (List xA) := [[(.inr (.inr (.inr (.inl (0, 2147483647))))), (.inl 0), (.inl 1), (.inl 2), (.inl 3), (.inl 4), (.inr (.inr (.inr (.inl (2147483653, 4294967295)))))], [(.inr (.inr (.inr (.inl (0, 2147483647))))), (.inl 0), (.inr (.inr (.inr (.inl (2147483649, 4294967295)))))], [(.inr (.inr (.inr (.inl (0, 4294967295)))))], [(.inr (.inr (.inr (.inl (0, 4294967295)))))], [(.inr (.inr (.inr (.inl (0, 4294967295)))))]]
theorem xcs_9 : xcaseB 9 xB_9 = true := by decide +kernel
set_option maxRecDepth 1000000 in
theorem xk_9 : xAllK xgo xB_9 [.inr (.inr (.inr (.inr (.inr (.inr 9)))))] = true := by decide +kernel
