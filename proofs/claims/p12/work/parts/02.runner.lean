/-! ===== THE RUNNER: a machine over abstract values that the kernel runs; what it says is proved of the real one in the parts behind ===== -/
/-- an abstract value: an int's bits; a long's bits; a reference by its number; an int, a long between two (each plus 2^31, 2^63); null or some reference; an int with these last six bits -/
abbrev xA : Type := Nat ⊕ (Nat ⊕ (Nat ⊕ ((Nat × Nat) ⊕ ((Nat × Nat) ⊕ (Bool ⊕ Nat)))))
/-- a cell: an object (class, fields), an array (kind, length, bits, elements), a text -/
abbrev xC : Type := Option ((Nat × Lean.RArray xA) ⊕ ((Nat × (Nat × (Nat × Lean.RArray xA))) ⊕ List Nat))
/-- the cells; how many; whether the next one's address is known; how many cells and slots were made -/
abbrev xH : Type := Lean.RArray xC × (Nat × (Bool × (Nat × Nat)))
/-- an end: which (0 a return, 1 'new E("..")' that is thrown, 2 thrown by a callee), pc, stack, cells, exception -/
abbrev xE : Type := Nat × (Nat × (List xA × (xH × Nat)))
/-- a call's end: 0 returned, 1 threw -/
abbrev xO : Type := Nat × (Option xA × (xH × Nat))
/-- what a pool entry is -/
abbrev xP : Type := Nat × (Nat × (Nat × Nat))
/-- an instruction: its pc, itself, its length, the next one's pc -/
abbrev xI : Type := Nat × (Instr × (Nat × Nat))
/-- a method: its table, locals, kind of return, class, handlers (start, end, handler, exception) -/
abbrev xM : Type := Lean.RArray xI × (Nat × (Nat × (Nat × List (Nat × (Nat × (Nat × Nat))))))
noncomputable def xget {α : Type} (t : Lean.RArray α) (n : Nat) : α :=
  Lean.RArray.rec (fun x => x) (fun p _ _ l r => cond (Nat.ble p n) r l) t
noncomputable def xset {α : Type} (x : α) (n k : Nat) : Nat → Lean.RArray α → Lean.RArray α :=
  Nat.rec (fun _ _ => .leaf x)
    (fun k ih lo t => Lean.RArray.casesOn t
      (fun y => cond (Nat.ble (Nat.add lo (Nat.pow 2 k)) n) (.branch (Nat.add lo (Nat.pow 2 k)) (.leaf y) (ih (Nat.add lo (Nat.pow 2 k)) (.leaf y))) (.branch (Nat.add lo (Nat.pow 2 k)) (ih lo (.leaf y)) (.leaf y)))
      (fun _ l r => cond (Nat.ble (Nat.add lo (Nat.pow 2 k)) n) (.branch (Nat.add lo (Nat.pow 2 k)) l (ih (Nat.add lo (Nat.pow 2 k)) r)) (.branch (Nat.add lo (Nat.pow 2 k)) (ih lo l) r))) k
abbrev x32 (v : Int32) : Nat := v.toUInt32.toNat
abbrev x64 (v : Int64) : Nat := v.toUInt64.toNat
abbrev xm32 (n : Nat) : Nat := Nat.mod n 4294967296
abbrev xm64 (n : Nat) : Nat := Nat.mod n 18446744073709551616
abbrev xTop : xA := .inr (.inr (.inr (.inl (0, 4294967295))))
abbrev xTopL : xA := .inr (.inr (.inr (.inr (.inl (0, 18446744073709551615)))))
/-- between what an int lies (plus 2^31) -/
def xbd (a : xA) : Option (Nat × Nat) := match a with
  | .inl n => some (xm32 (Nat.add n 2147483648), xm32 (Nat.add n 2147483648))
  | .inr (.inr (.inr (.inl q))) => some q
  | .inr (.inr (.inr (.inr (.inr (.inr _))))) => some (0, 4294967295)
  | _ => none
def xbdl (a : xA) : Option (Nat × Nat) := match a with
  | .inr (.inl n) => some (xm64 (Nat.add n 9223372036854775808), xm64 (Nat.add n 9223372036854775808))
  | .inr (.inr (.inr (.inr (.inl q)))) => some q
  | _ => none
def xlt (p q : Nat × Nat) : Option Bool := cond (Nat.blt p.2 q.1) (some true) (cond (Nat.ble q.2 p.1) (some false) none)
def xeq (p q : Nat × Nat) : Option Bool := cond (Nat.blt p.2 q.1 || Nat.blt q.2 p.1) (some false) (cond (Nat.beq p.1 p.2 && (Nat.beq q.1 q.2 && Nat.beq p.1 q.1)) (some true) none)
def xnot (b : Option Bool) : Option Bool := match b with
  | some b => some (!b)
  | none => none
def xcnd (c : ClassFile.Cond) (p q : Nat × Nat) : Option Bool := match c with
  | .eq => xeq p q
  | .ne => xnot (xeq p q)
  | .lt => xlt p q
  | .ge => xnot (xlt p q)
  | .gt => xlt q p
  | .le => xnot (xlt q p)
def xbin (f : Nat → Nat → Nat) (a b : xA) : Option xA := match a, b with
  | .inl x, .inl y => some (.inl (f x y))
  | a, b => cond ((xbd a).isSome && (xbd b).isSome) (some xTop) none
def xbinl (f : Nat → Nat → Nat) (a b : xA) : Option xA := match a, b with
  | .inr (.inl x), .inr (.inl y) => some (.inr (.inl (f x y)))
  | a, b => cond ((xbdl a).isSome && (xbdl b).isSome) (some xTopL) none
/-- a long shifted by an int -/
def xshl (f : Nat → Nat → Nat) (a b : xA) : Option xA := match a, b with
  | .inr (.inl x), .inl y => some (.inr (.inl (f x y)))
  | _, _ => none
def xdivi (f : Nat → Nat → Nat) (a b : xA) : Option xA := match b with
  | .inl y => cond (Nat.beq (xm32 y) 0) none (xbin f a b)
  | _ => none
def xdivl (f : Nat → Nat → Nat) (a b : xA) : Option xA := match b with
  | .inr (.inl y) => cond (Nat.beq (xm64 y) 0) none (xbinl f a b)
  | _ => none
def xand (a b : xA) : Option xA := match a, b with
  | .inr (.inr (.inr (.inr (.inr (.inr k))))), .inl 63 => some (.inl k)
  | a, b => xbin (fun x y => x32 (Int32.ofNat x &&& Int32.ofNat y)) a b
def xneg (a : xA) : Option xA := match a with
  | .inl x => some (.inl (x32 (-Int32.ofNat x)))
  | a => cond (xbd a).isSome (some xTop) none
def xnegl (a : xA) : Option xA := match a with
  | .inr (.inl x) => some (.inr (.inl (x64 (-Int64.ofNat x))))
  | a => cond (xbdl a).isSome (some xTopL) none
def xi2l (a : xA) : Option xA := match a with
  | .inl x => some (.inr (.inl (x64 (Int32.ofNat x).toInt64)))
  | a => match xbd a with
    | some q => some (.inr (.inr (.inr (.inr (.inl (Nat.add q.1 9223372034707292160, Nat.add q.2 9223372034707292160))))))
    | none => none
def xl2i (a : xA) : Option xA := match a with
  | .inr (.inl x) => some (.inl (x32 (Int64.ofNat x).toInt32))
  | a => cond (xbdl a).isSome (some xTop) none
def xi2b (a : xA) : Option xA := match a with
  | .inl x => some (.inl (x32 (Int32.ofNat x).toInt8.toInt32))
  | a => cond (xbd a).isSome (some xTop) none
def xi2c (a : xA) : Option xA := match a with
  | .inl x => some (.inl (x32 ((Int32.ofNat x).toUInt32 % 65536).toInt32))
  | a => cond (xbd a).isSome (some xTop) none
def xlcmp (a b : xA) : Option xA := match xbdl a, xbdl b with
  | some p, some q => match xeq p q with
    | some true => some (.inl 0)
    | some false => match xlt p q with
      | some true => some (.inl 4294967295)
      | some false => some (.inl 1)
      | none => none
    | none => none
  | _, _ => none
def xcat (a : xA) : Nat := match a with
  | .inr (.inl _) => 2
  | .inr (.inr (.inr (.inr (.inl _)))) => 2
  | _ => 1
noncomputable def xcats (l : List xA) : Nat := List.rec 0 (fun a _ ih => Nat.add (xcat a) ih) l
noncomputable def xlk (l : List (Nat × xA)) (i : Nat) : Option xA := List.rec none (fun q _ ih => cond (Nat.beq q.1 i) (some q.2) ih) l
def xst1 (l : List (Nat × xA)) (i : Nat) (a : xA) : List (Nat × xA) := (i, a) :: l.filter (fun q => !(Nat.beq q.1 i) && !(Nat.beq (Nat.add q.1 1) i && Nat.beq (xcat q.2) 2))
def xst2 (l : List (Nat × xA)) (i : Nat) (a : xA) : List (Nat × xA) := (i, a) :: l.filter (fun q => !(Nat.beq q.1 i) && (!(Nat.beq q.1 (Nat.add i 1)) && !(Nat.beq (Nat.add q.1 1) i && Nat.beq (xcat q.2) 2)))
noncomputable def xargs (l : List xA) : Nat → List (Nat × xA) := List.rec (fun _ => []) (fun a _ ih i => (i, a) :: ih (Nat.add i (xcat a))) l
noncomputable def xtake (n : Nat) : List xA → List xA → Option (List xA × List xA) :=
  Nat.rec (fun acc l => some (acc, l)) (fun _ ih acc l => List.casesOn l none (fun a t => ih (a :: acc) t)) n
noncomputable def xcell (h : xH) (k : Nat) : xC := cond (Nat.blt k 4096) (xget h.1 k) none
noncomputable def xput (h : xH) (k : Nat) (c : xC) : xH := (xset c k 12 0 h.1, h.2)
/-- a new cell: its number, the cells; none where the next address is not known or the row is full -/
noncomputable def xnew (h : xH) (c : xC) (slots : Nat) : Option (Nat × xH) :=
  cond (h.2.2.1 && Nat.blt h.2.1 4096) (some (h.2.1, (xset c h.2.1 12 0 h.1, (Nat.add h.2.1 1, (true, (Nat.add h.2.2.2.1 1, Nat.add h.2.2.2.2 slots)))))) none
/-- a branch's target -/
def xtgt (pc : Nat) (off : Int) : Option Nat := match Int.add (Int.ofNat pc) off with
  | .ofNat t => some t
  | .negSucc _ => none
/-- whether a field of a kind (0 int, 1 long, 2 boolean, 3 a reference) may hold it -/
def xfit (ft : Nat) (a : xA) : Bool := match ft with
  | 0 => (xbd a).isSome
  | 1 => (xbdl a).isSome
  | 2 => match a with
    | .inl n => Nat.beq n 0 || Nat.beq n 1
    | _ => false
  | 3 => match a with
    | .inr (.inr (.inl _)) => true
    | .inr (.inr (.inr (.inr (.inr (.inl false))))) => true
    | _ => false
  | _ => false
/-- what an array of a kind (0 int, 1 long, 2 boolean, 3 byte) keeps of it -/
def xkeep (ty : Nat) (a : xA) : Option xA := match ty with
  | 0 => cond (xbd a).isSome (some a) none
  | 1 => cond (xbdl a).isSome (some a) none
  | 2 => match a with
    | .inl n => cond (Nat.beq n 0 || Nat.beq n 1) (some a) none
    | _ => none
  | 3 => match a with
    | .inl n => some (.inl (x32 (Int32.ofNat n).toInt8.toInt32))
    | a => cond (xbd a).isSome (some xTop) none
  | _ => none
/-- the element of an array of a kind -/
noncomputable def xald (ok : Nat → Bool) (h : xH) (r i : xA) : Option xA := match r, i with
  | .inr (.inr (.inl k)), .inl n => match xcell h k with
    | some (.inr (.inl c)) => cond (ok c.1 && (Nat.blt n c.2.1 && Nat.blt n 2147483648)) (some (xget c.2.2.2 n)) none
    | _ => none
  | _, _ => none
/-- a store; old cells (below o) are never written -/
noncomputable def xast (o : Nat) (ok : Nat → Bool) (h : xH) (r i v : xA) : Option xH := match r, i with
  | .inr (.inr (.inl k)), .inl n => match xcell h k with
    | some (.inr (.inl c)) => match xkeep c.1 v with
      | some w => cond (ok c.1 && (Nat.blt n c.2.1 && (Nat.blt n 2147483648 && (Nat.ble o k && Nat.blt n (Nat.pow 2 c.2.2.1))))) (some (xput h k (some (.inr (.inl (c.1, (c.2.1, (c.2.2.1, xset w n c.2.2.1 0 c.2.2.2)))))))) none
      | none => none
    | _ => none
  | _, _ => none
/-- handlers: the first that covers the pc and takes the exception -/
noncomputable def xcatch (hs : List (Nat × (Nat × (Nat × Nat)))) (pc E : Nat) : Option Nat :=
  List.rec none (fun q _ ih => cond (Nat.ble q.1 pc && (Nat.blt pc q.2.1 && Nat.beq q.2.2.2 E)) (some q.2.2.1) ih) hs
