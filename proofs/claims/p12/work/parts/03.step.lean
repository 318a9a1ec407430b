/-! ===== the runner's step ===== -/
abbrev xK : Type := Nat → List (Nat × xA) → List xA → xH → Option xE
abbrev xF : Type := Nat → List xA → xH → Option xO
/-- what is behind a pool number: a table whose leaves bear their numbers -/
noncomputable def xpool (t : Lean.RArray (Nat × xP)) (i : Nat) : xP := cond (Nat.beq (xget t i).1 i) (xget t i).2 (99, (0, (0, 0)))
def xj {α β : Type} (a : Option α) (k : α → Option β) : Option β := match a with
  | some a => k a
  | none => none
/-- behind a call -/
noncomputable def xback (hs : List (Nat × (Nat × (Nat × Nat)))) (K : xK) (pc nx : Nat) (loc : List (Nat × xA)) (rest : List xA) (r : Option xO) : Option xE := match r with
  | some (0, (rv, (h, _))) => match rv with
    | none => K nx loc rest h
    | some v => K nx loc (v :: rest) h
  | some (1, (_, (h, E))) => match xcatch hs pc E with
    | some t => K t loc [.inr (.inr (.inr (.inr (.inr (.inl true)))))] h
    | none => some (2, (pc, (rest, (h, E))))
  | _ => none
noncomputable def xinvV (call : xF) (hs : List (Nat × (Nat × (Nat × Nat)))) (P : xP) (K : xK) (pc nx : Nat) (loc : List (Nat × xA)) (stk : List xA) (hp : xH) : Option xE :=
  cond (Nat.beq P.1 1) (xj (xtake P.2.2.1 [] stk) fun q => match q.2 with
    | .inr (.inr (.inl k)) :: rest => match xcell hp k with
      | some (.inl c) => cond (Nat.beq c.1 P.2.2.2 && Nat.ble (xcats rest) 8) (xback hs K pc nx loc rest (call P.2.1 (.inr (.inr (.inl k)) :: q.1) hp)) none
      | _ => none
    | _ => none)
  (cond (Nat.beq P.1 28) (xj (xtake P.2.2.1 [] stk) fun q => match q.2 with
    | .inr (.inr (.inl k)) :: rest => match xcell hp k with
      | some (.inr (.inr _)) => cond (Nat.ble (xcats rest) 8) (xback hs K pc nx loc rest (call P.2.1 (.inr (.inr (.inl k)) :: q.1) hp)) none
      | _ => none
    | _ => none) none)
noncomputable def xmath (f : Nat → Nat → Nat) (K : xK) (nx : Nat) (loc : List (Nat × xA)) (stk : List xA) (hp : xH) : Option xE := match stk with
  | .inl y :: .inl x :: rest => cond (Nat.ble (xcats rest) 4) (K nx loc (.inl (f x y) :: rest) hp) none
  | _ => none
noncomputable def xmathl (f : Nat → Nat → Nat) (K : xK) (nx : Nat) (loc : List (Nat × xA)) (stk : List xA) (hp : xH) : Option xE := match stk with
  | .inr (.inl y) :: .inr (.inl x) :: rest => cond (Nat.ble (xcats rest) 4) (K nx loc (.inr (.inl (f x y)) :: rest) hp) none
  | _ => none
/-- an element that an array of a kind may hold -/
def xfa (ty : Nat) (a : xA) : Bool := match ty with
  | 0 => (xbd a).isSome
  | 1 => (xbdl a).isSome
  | 2 => match a with
    | .inl n => Nat.beq n 0 || Nat.beq n 1
    | _ => false
  | 3 => match a with
    | .inl n => Nat.blt n 128
    | _ => false
  | _ => false
noncomputable def xfall (ty : Nat) (f : Lean.RArray xA) (i : Nat) : Nat → Bool := fun n => Nat.rec true (fun n ih => xfa ty (xget f (Nat.add i n)) && ih) n
/-- n elements from place i of one array to place j of another one -/
noncomputable def xcopy (f : Lean.RArray xA) (k : Nat) : Nat → Nat → Nat → Lean.RArray xA → Lean.RArray xA :=
  fun i j n => Nat.rec (fun g => g) (fun n ih g => ih (xset (xget f (Nat.add i n)) (Nat.add j n) k 0 g)) n
noncomputable def xinvS (o : Nat) (call : xF) (hs : List (Nat × (Nat × (Nat × Nat)))) (P : xP) (K : xK) (pc nx : Nat) (loc : List (Nat × xA)) (stk : List xA) (hp : xH) : Option xE :=
  cond (Nat.beq P.1 2) (xj (xtake P.2.2.1 [] stk) fun q => cond (Nat.ble (xcats q.2) 8) (xback hs K pc nx loc q.2 (call P.2.1 q.1 hp)) none)
  (cond (Nat.beq P.1 13) (xmath (fun x y => cond (Nat.blt (xm32 (Nat.add x 2147483648)) (xm32 (Nat.add y 2147483648))) y x) K nx loc stk hp)
  (cond (Nat.beq P.1 14) (xmath (fun x y => cond (Nat.blt (xm32 (Nat.add x 2147483648)) (xm32 (Nat.add y 2147483648))) x y) K nx loc stk hp)
  (cond (Nat.beq P.1 15) (match stk with
    | .inr (.inl x) :: rest => cond (Nat.ble (xcats rest) 4) (K nx loc (.inr (.inl (cond (Nat.blt x 9223372036854775808) x (x64 (-Int64.ofNat x)))) :: rest) hp) none
    | _ => none)
  (cond (Nat.beq P.1 12) (match stk with
    | .inl n :: .inl j :: .inr (.inr (.inl kd)) :: .inl i :: .inr (.inr (.inl ks)) :: rest => match xcell hp ks, xcell hp kd with
      | some (.inr (.inl cs)), some (.inr (.inl cd)) =>
        cond (xfall cs.1 cs.2.2.2 i n && (Nat.beq cs.1 cd.1 && (Nat.ble cs.1 3 && (Nat.ble (Nat.add i n) cs.2.1 && (Nat.ble (Nat.add j n) cd.2.1 && (Nat.blt cs.2.1 2147483648 && (Nat.blt cd.2.1 2147483648 && (Nat.ble o kd && (Nat.ble (Nat.add j n) (Nat.pow 2 cd.2.2.1) && Nat.ble (xcats rest) 4)))))))))
          (K nx loc rest (xput hp kd (some (.inr (.inl (cd.1, (cd.2.1, (cd.2.2.1, xcopy cs.2.2.2 cd.2.2.1 i j n cd.2.2.2)))))))) none
      | _, _ => none
    | _ => none) none))))
noncomputable def xinvI (call : xF) (hs : List (Nat × (Nat × (Nat × Nat)))) (P : xP) (K : xK) (pc nx : Nat) (loc : List (Nat × xA)) (stk : List xA) (hp : xH) : Option xE :=
  cond (Nat.beq P.1 4) (match stk with
    | .inr (.inr (.inl k)) :: rest => cond (Nat.ble (xcats rest) 8) (K nx loc rest hp) none
    | _ => none)
  (cond (Nat.beq P.1 3) (xj (xtake P.2.2.1 [] stk) fun q => match q.2 with
    | .inr (.inr (.inl k)) :: rest => cond (Nat.ble (xcats rest) 8) (xback hs K pc nx loc rest (call P.2.1 (.inr (.inr (.inl k)) :: q.1) hp)) none
    | _ => none) none)
noncomputable def xif (K : xK) (pc nx : Nat) (off : Int) (loc : List (Nat × xA)) (rest : List xA) (hp : xH) (b : Option Bool) : Option xE := xj (xtgt pc off) fun t => match b with
  | some true => K t loc rest hp
  | some false => K nx loc rest hp
  | none => none
noncomputable def xtab (K : xK) (pc : Nat) (dflt lo hi : Int) (offs : Array Int) (loc : List (Nat × xA)) (stk : List xA) (hp : xH) : Option xE := match stk with
  | .inl n :: rest => cond (decide ((Int32.ofNat n).toInt < lo) || decide (hi < (Int32.ofNat n).toInt)) (xj (xtgt pc dflt) fun t => K t loc rest hp)
      (xj offs[((Int32.ofNat n).toInt - lo).toNat]? fun off => xj (xtgt pc off) fun t => K t loc rest hp)
  | _ => none
/-- the class's fields at their start: by their kinds -/
def xdef (ft : Nat) : xA := match ft with
  | 0 => .inl 0
  | 1 => .inr (.inl 0)
  | 2 => .inl 0
  | _ => .inr (.inr (.inr (.inr (.inr (.inl false)))))
noncomputable def xborn (ts : List Nat) : Nat → Lean.RArray xA → Lean.RArray xA := List.rec (fun _ t => t) (fun ft _ ih k t => ih (Nat.add k 1) (xset (xdef ft) k 8 0 t)) ts
def xaty (t : ArrayType) : Option Nat := match t with
  | .int => some 0
  | .long => some 1
  | .boolean => some 2
  | .byte => some 3
  | _ => none
/-- bits that hold so many places -/
def xbits (n : Nat) : Nat := cond (Nat.ble n 32) 5 (cond (Nat.ble n 1024) 10 20)
noncomputable def xnewarr (ty : Nat) (z : xA) (K : xK) (nx : Nat) (loc : List (Nat × xA)) (stk : List xA) (hp : xH) : Option xE := match stk with
  | .inl n :: rest => cond (Nat.ble n 1048576) (xj (xnew hp (some (.inr (.inl (ty, (n, (xbits n, .leaf z)))))) n) fun q => K nx loc (.inr (.inr (.inl q.1)) :: rest) q.2) none
  | _ => none

/-- kinds of value -/
def xik (a : xA) : Bool := (xbd a).isSome
def xlk2 (a : xA) : Bool := (xbdl a).isSome
def xak (a : xA) : Bool := match a with
  | .inr (.inr (.inl _)) => true
  | .inr (.inr (.inr (.inr (.inr (.inl _))))) => true
  | _ => false
/-- a reference into an array of references: kind 4 + t holds objects of class t, kind 64 + t arrays of kind t -/
noncomputable def xaast (o : Nat) (K : xK) (nx : Nat) (loc : List (Nat × xA)) (stk : List xA) (hp : xH) : Option xE := match stk with
  | .inr (.inr (.inl v)) :: .inl n :: .inr (.inr (.inl k)) :: rest => match xcell hp k, xcell hp v with
    | some (.inr (.inl c)), some e =>
      cond ((match e with
        | .inl q => Nat.beq c.1 (Nat.add 4 q.1)
        | .inr (.inl q) => Nat.beq c.1 (Nat.add 64 q.1) && (Nat.blt q.1 4 && Nat.ble o v)
        | _ => false) && (Nat.blt n c.2.1 && (Nat.blt n 2147483648 && (Nat.ble o k && Nat.blt n (Nat.pow 2 c.2.2.1))))) (K nx loc rest (xput hp k (some (.inr (.inl (c.1, (c.2.1, (c.2.2.1, xset (.inr (.inr (.inl v))) n c.2.2.1 0 c.2.2.2)))))))) none
    | _, _ => none
  | _ => none
/-- rows of an array of arrays: n of them, each of m elements, from the next number on -/
noncomputable def xrows (ty m b : Nat) (z : xA) : Nat → Nat → Lean.RArray xC → Lean.RArray xC := fun n lo => Nat.rec (fun h => h) (fun n ih h => ih (xset (some (.inr (.inl (ty, (m, (b, .leaf z)))))) (Nat.add lo n) 12 0 h)) n
noncomputable def xrefs (b lo : Nat) : Nat → Lean.RArray xA → Lean.RArray xA := fun n => Nat.rec (fun t => t) (fun n ih t => ih (xset (.inr (.inr (.inl (Nat.add lo n)))) n b 0 t)) n
noncomputable def xmulti (P : xP) (K : xK) (nx : Nat) (loc : List (Nat × xA)) (stk : List xA) (hp : xH) : Option xE := match stk with
  | .inl m :: .inl n :: rest => cond (Nat.beq P.1 22 && (Nat.ble P.2.1 1 && (Nat.ble n 32 && (Nat.ble m 1048576 && (hp.2.2.1 && Nat.blt (Nat.add hp.2.1 n) 4096)))))
      (K nx loc (.inr (.inr (.inl hp.2.1)) :: rest)
        (xset (some (.inr (.inl (Nat.add 64 P.2.1, (n, (5, xrefs 5 (Nat.add hp.2.1 1) n (.leaf (.inr (.inr (.inr (.inr (.inr (.inl false))))))))))))) hp.2.1 12 0
          (xrows P.2.1 m (xbits m) (cond (Nat.beq P.2.1 1) (.inr (.inl 0)) (.inl 0)) n (Nat.add hp.2.1 1) hp.1),
         (Nat.add hp.2.1 (Nat.add n 1), (true, (Nat.add (Nat.add hp.2.2.2.1 1) n, Nat.add (Nat.add hp.2.2.2.2 n) (Nat.mul n m)))))) none
  | _ => none
/-- one step -/
noncomputable def xstep (o : Nat) (ft : Nat → List Nat) (call : xF) (pool : Nat → xP) (hs : List (Nat × (Nat × (Nat × Nat)))) (K : xK) (i : Instr) (pc nx : Nat) (loc : List (Nat × xA)) (stk : List xA) (hp : xH) : Option xE := match i with
  | .nop => none
  | .aconst_null => K nx loc (.inr (.inr (.inr (.inr (.inr (.inl false))))) :: stk) hp
  | .iconst n => K nx loc (.inl (x32 (Int32.ofInt n)) :: stk) hp
  | .bipush n => K nx loc (.inl (x32 (Int8.ofInt n).toInt32) :: stk) hp
  | .sipush n => K nx loc (.inl (x32 (Int16.ofInt n).toInt32) :: stk) hp
  | .lconst n => K nx loc (.inr (.inl n.val) :: stk) hp
  | .ldc k => cond (Nat.beq (pool k).1 8) (K nx loc (.inl (pool k).2.1 :: stk) hp) (cond (Nat.beq (pool k).1 7) (K nx loc (.inr (.inr (.inl (pool k).2.1)) :: stk) hp) none)
  | .ldc_w k => cond (Nat.beq (pool k).1 8) (K nx loc (.inl (pool k).2.1 :: stk) hp) (cond (Nat.beq (pool k).1 7) (K nx loc (.inr (.inr (.inl (pool k).2.1)) :: stk) hp) none)
  | .ldc2_w k => cond (Nat.beq (pool k).1 9) (K nx loc (.inr (.inl (pool k).2.1) :: stk) hp) none
  | .iload_n k => xj (xlk loc k.val) fun a => cond (xik a) (K nx loc (a :: stk) hp) none
  | .iload k => xj (xlk loc k) fun a => cond (xik a) (K nx loc (a :: stk) hp) none
  | .lload_n k => xj (xlk loc k.val) fun a => cond (xlk2 a) (K nx loc (a :: stk) hp) none
  | .lload k => xj (xlk loc k) fun a => cond (xlk2 a) (K nx loc (a :: stk) hp) none
  | .aload_n k => xj (xlk loc k.val) fun a => cond (xak a) (K nx loc (a :: stk) hp) none
  | .aload k => xj (xlk loc k) fun a => cond (xak a) (K nx loc (a :: stk) hp) none
  | .istore_n k => match stk with
    | a :: rest => cond (xik a) (K nx (xst1 loc k.val a) rest hp) none
    | _ => none
  | .istore k => match stk with
    | a :: rest => cond (xik a) (K nx (xst1 loc k a) rest hp) none
    | _ => none
  | .astore_n k => match stk with
    | a :: rest => cond (xak a) (K nx (xst1 loc k.val a) rest hp) none
    | _ => none
  | .astore k => match stk with
    | a :: rest => cond (xak a) (K nx (xst1 loc k a) rest hp) none
    | _ => none
  | .lstore_n k => match stk with
    | a :: rest => cond (xlk2 a) (K nx (xst2 loc k.val a) rest hp) none
    | _ => none
  | .lstore k => match stk with
    | a :: rest => cond (xlk2 a) (K nx (xst2 loc k a) rest hp) none
    | _ => none
  | .iinc k n => xj (xlk loc k) fun a => xj (xbin (fun x y => xm32 (Nat.add x y)) a (.inl (x32 (Int32.ofInt n)))) fun b => K nx (xst1 loc k b) stk hp
  | .iadd => match stk with
    | b :: a :: rest => xj (xbin (fun x y => xm32 (Nat.add x y)) a b) fun v => K nx loc (v :: rest) hp
    | _ => none
  | .isub => match stk with
    | b :: a :: rest => xj (xbin (fun x y => xm32 (Nat.add x (Nat.sub 4294967296 (xm32 y)))) a b) fun v => K nx loc (v :: rest) hp
    | _ => none
  | .imul => match stk with
    | b :: a :: rest => xj (xbin (fun x y => xm32 (Nat.mul x y)) a b) fun v => K nx loc (v :: rest) hp
    | _ => none
  | .iand => match stk with
    | b :: a :: rest => xj (xand a b) fun v => K nx loc (v :: rest) hp
    | _ => none
  | .ior => match stk with
    | b :: a :: rest => xj (xbin (fun x y => x32 (Int32.ofNat x ||| Int32.ofNat y)) a b) fun v => K nx loc (v :: rest) hp
    | _ => none
  | .ixor => match stk with
    | b :: a :: rest => xj (xbin (fun x y => x32 (Int32.ofNat x ^^^ Int32.ofNat y)) a b) fun v => K nx loc (v :: rest) hp
    | _ => none
  | .idiv => match stk with
    | b :: a :: rest => xj (xdivi (fun x y => x32 (Int32.ofNat x / Int32.ofNat y)) a b) fun v => K nx loc (v :: rest) hp
    | _ => none
  | .irem => match stk with
    | b :: a :: rest => xj (xdivi (fun x y => x32 (Int32.ofNat x - (Int32.ofNat x / Int32.ofNat y) * Int32.ofNat y)) a b) fun v => K nx loc (v :: rest) hp
    | _ => none
  | .ishl => match stk with
    | b :: a :: rest => xj (xbin (fun x y => x32 (Int32.ofNat x <<< (Int32.ofNat y &&& 31))) a b) fun v => K nx loc (v :: rest) hp
    | _ => none
  | .ishr => match stk with
    | b :: a :: rest => xj (xbin (fun x y => x32 (Int32.ofNat x >>> (Int32.ofNat y &&& 31))) a b) fun v => K nx loc (v :: rest) hp
    | _ => none
  | .iushr => match stk with
    | b :: a :: rest => xj (xbin (fun x y => x32 ((Int32.ofNat x).toUInt32 >>> ((Int32.ofNat y).toUInt32 &&& Int32.toUInt32 31)).toInt32) a b) fun v => K nx loc (v :: rest) hp
    | _ => none
  | .ladd => match stk with
    | b :: a :: rest => xj (xbinl (fun x y => x64 (Int64.ofNat x + Int64.ofNat y)) a b) fun v => K nx loc (v :: rest) hp
    | _ => none
  | .lsub => match stk with
    | b :: a :: rest => xj (xbinl (fun x y => x64 (Int64.ofNat x - Int64.ofNat y)) a b) fun v => K nx loc (v :: rest) hp
    | _ => none
  | .lmul => match stk with
    | b :: a :: rest => xj (xbinl (fun x y => x64 (Int64.ofNat x * Int64.ofNat y)) a b) fun v => K nx loc (v :: rest) hp
    | _ => none
  | .land => match stk with
    | b :: a :: rest => xj (xbinl (fun x y => x64 (Int64.ofNat x &&& Int64.ofNat y)) a b) fun v => K nx loc (v :: rest) hp
    | _ => none
  | .lor => match stk with
    | b :: a :: rest => xj (xbinl (fun x y => x64 (Int64.ofNat x ||| Int64.ofNat y)) a b) fun v => K nx loc (v :: rest) hp
    | _ => none
  | .lxor => match stk with
    | b :: a :: rest => xj (xbinl (fun x y => x64 (Int64.ofNat x ^^^ Int64.ofNat y)) a b) fun v => K nx loc (v :: rest) hp
    | _ => none
  | .ldiv => match stk with
    | b :: a :: rest => xj (xdivl (fun x y => x64 (Int64.ofNat x / Int64.ofNat y)) a b) fun v => K nx loc (v :: rest) hp
    | _ => none
  | .lrem => match stk with
    | b :: a :: rest => xj (xdivl (fun x y => x64 (Int64.ofNat x - (Int64.ofNat x / Int64.ofNat y) * Int64.ofNat y)) a b) fun v => K nx loc (v :: rest) hp
    | _ => none
  | .lshl => match stk with
    | b :: a :: rest => xj (xshl (fun x y => x64 (Int64.ofNat x <<< ((Int32.ofNat y).toInt64 &&& 63))) a b) fun v => K nx loc (v :: rest) hp
    | _ => none
  | .lshr => match stk with
    | b :: a :: rest => xj (xshl (fun x y => x64 (Int64.ofNat x >>> ((Int32.ofNat y).toInt64 &&& 63))) a b) fun v => K nx loc (v :: rest) hp
    | _ => none
  | .lushr => match stk with
    | b :: a :: rest => xj (xshl (fun x y => x64 ((Int64.ofNat x).toUInt64 >>> ((Int32.ofNat y).toInt64.toUInt64 &&& Int64.toUInt64 63)).toInt64) a b) fun v => K nx loc (v :: rest) hp
    | _ => none
  | .lcmp => match stk with
    | b :: a :: rest => xj (xlcmp a b) fun v => K nx loc (v :: rest) hp
    | _ => none
  | .ineg => match stk with
    | a :: rest => xj (xneg a) fun v => K nx loc (v :: rest) hp
    | _ => none
  | .lneg => match stk with
    | a :: rest => xj (xnegl a) fun v => K nx loc (v :: rest) hp
    | _ => none
  | .i2l => match stk with
    | a :: rest => xj (xi2l a) fun v => K nx loc (v :: rest) hp
    | _ => none
  | .l2i => match stk with
    | a :: rest => xj (xl2i a) fun v => K nx loc (v :: rest) hp
    | _ => none
  | .i2b => match stk with
    | a :: rest => xj (xi2b a) fun v => K nx loc (v :: rest) hp
    | _ => none
  | .i2c => match stk with
    | a :: rest => xj (xi2c a) fun v => K nx loc (v :: rest) hp
    | _ => none
  | .dup => match stk with
    | a :: rest => cond (Nat.beq (xcat a) 1) (K nx loc (a :: a :: rest) hp) none
    | _ => none
  | .dup_x1 => match stk with
    | a :: b :: rest => cond (Nat.beq (xcat a) 1 && Nat.beq (xcat b) 1) (K nx loc (a :: b :: a :: rest) hp) none
    | _ => none
  | .pop => match stk with
    | a :: rest => cond (Nat.beq (xcat a) 1) (K nx loc rest hp) none
    | _ => none
  | .dup2 => match stk with
    | a :: b :: rest => cond (Nat.beq (xcat a) 1 && Nat.beq (xcat b) 1) (K nx loc (a :: b :: a :: b :: rest) hp) none
    | _ => none
  | .pop2 => match stk with
    | a :: rest => cond (Nat.beq (xcat a) 2) (K nx loc rest hp) none
    | _ => none
  | .goto off => xj (xtgt pc off) fun t => K t loc stk hp
  | .ifCond c off => match stk with
    | a :: rest => xj (xbd a) fun p => xif K pc nx off loc rest hp (xcnd c p (2147483648, 2147483648))
    | _ => none
  | .if_icmp c off => match stk with
    | b :: a :: rest => xj (xbd a) fun p => xj (xbd b) fun q => xif K pc nx off loc rest hp (xcnd c p q)
    | _ => none
  | .tableswitch d lo hi offs => xtab K pc d lo hi offs loc stk hp
  | .arraylength => match stk with
    | .inr (.inr (.inl k)) :: rest => match xcell hp k with
      | some (.inr (.inl c)) => K nx loc (.inl c.2.1 :: rest) hp
      | _ => none
    | _ => none
  | .iaload => match stk with
    | i :: r :: rest => xj (xald (fun t => Nat.beq t 0) hp r i) fun v => K nx loc (v :: rest) hp
    | _ => none
  | .laload => match stk with
    | i :: r :: rest => xj (xald (fun t => Nat.beq t 1) hp r i) fun v => K nx loc (v :: rest) hp
    | _ => none
  | .baload => match stk with
    | i :: r :: rest => xj (xald (fun t => Nat.beq t 2 || Nat.beq t 3) hp r i) fun v => K nx loc (v :: rest) hp
    | _ => none
  | .aaload => match stk with
    | i :: r :: rest => xj (xald (fun t => Nat.ble 4 t) hp r i) fun v => K nx loc (v :: rest) hp
    | _ => none
  | .iastore => match stk with
    | v :: i :: r :: rest => xj (xast o (fun t => Nat.beq t 0) hp r i v) fun h => K nx loc rest h
    | _ => none
  | .lastore => match stk with
    | v :: i :: r :: rest => xj (xast o (fun t => Nat.beq t 1) hp r i v) fun h => K nx loc rest h
    | _ => none
  | .bastore => match stk with
    | v :: i :: r :: rest => xj (xast o (fun t => Nat.beq t 2 || Nat.beq t 3) hp r i v) fun h => K nx loc rest h
    | _ => none
  | .getfield k => match stk with
    | .inr (.inr (.inl r)) :: rest => cond (Nat.beq (pool k).1 0) (match xcell hp r with
      | some (.inl c) => cond (Nat.beq c.1 (pool k).2.1) (K nx loc (xget c.2 (pool k).2.2.1 :: rest) hp) none
      | _ => none) (match xcell hp r with
      | some (.inr (.inr [j])) => cond (Nat.beq (pool k).1 24) (K nx loc (.inr (.inr (.inl j)) :: rest) hp) (cond (Nat.beq (pool k).1 25) (K nx loc (.inl 0 :: rest) hp) none)
      | _ => none)
    | _ => none
  | .putfield k => match stk with
    | v :: .inr (.inr (.inl r)) :: rest => cond (Nat.beq (pool k).1 0 && Nat.ble o r) (match xcell hp r with
      | some (.inl c) => cond (Nat.beq c.1 (pool k).2.1 && xfit (Nat.mod (pool k).2.2.2 8) v) (K nx loc rest (xput hp r (some (.inl (c.1, xset v (pool k).2.2.1 8 0 c.2))))) none
      | _ => none) none
    | _ => none
  | .getstatic k => cond (Nat.beq (pool k).1 10) (K nx loc (.inr (.inr (.inl (pool k).2.1)) :: stk) hp) (cond (Nat.beq (pool k).1 26) (K nx loc (.inl 1 :: stk) hp) (cond (Nat.beq (pool k).1 27) (K nx loc (.inr (.inr (.inr (.inr (.inr (.inl true))))) :: stk) hp) none))
  | .new k => cond (Nat.beq (pool k).1 11) (some (1, (pc, (stk, (hp, (pool k).2.1))))) (cond (Nat.beq (pool k).1 5) (xj (xnew hp (some (.inl ((pool k).2.1, xborn (ft (pool k).2.1) 0 (.leaf (.inl 0))))) (ft (pool k).2.1).length) fun q => K nx loc (.inr (.inr (.inl q.1)) :: stk) q.2) none)
  | .newarray t => xj (xaty t) fun ty => xnewarr ty (cond (Nat.beq ty 1) (.inr (.inl 0)) (.inl 0)) K nx loc stk hp
  | .anewarray k => cond (Nat.beq (pool k).1 6) (xnewarr (pool k).2.1 (.inr (.inr (.inr (.inr (.inr (.inl false)))))) K nx loc stk hp) (cond (Nat.beq (pool k).1 5) (xnewarr (Nat.add 4 (pool k).2.1) (.inr (.inr (.inr (.inr (.inr (.inl false)))))) K nx loc stk hp) none)
  | .aastore => xaast o K nx loc stk hp
  | .multianewarray k _ => xmulti (pool k) K nx loc stk hp
  | .invokevirtual k => xinvV call hs (pool k) K pc nx loc stk hp
  | .invokestatic k => xinvS o call hs (pool k) K pc nx loc stk hp
  | .invokespecial k => xinvI call hs (pool k) K pc nx loc stk hp
  | .ireturn => some (0, (pc, (stk, (hp, 0))))
  | .lreturn => some (0, (pc, (stk, (hp, 0))))
  | .areturn => some (0, (pc, (stk, (hp, 0))))
  | .return_ => some (0, (pc, (stk, (hp, 0))))
  | _ => none
/-- fetch and step -/
noncomputable def xrun (o : Nat) (ft : Nat → List Nat) (call : xF) (pool : Nat → xP) (hs : List (Nat × (Nat × (Nat × Nat)))) (tab : Lean.RArray xI) (fuel : Nat) : xK :=
  Nat.rec (fun _ _ _ _ => none) (fun _ ih pc loc stk hp => cond (Nat.beq (xget tab pc).1 pc) (xstep o ft call pool hs ih (xget tab pc).2.1 (xget tab pc).1 (xget tab pc).2.2.2 loc stk hp) none) fuel
/-- a method's end, by its kind of return (0 void, 1 int, 2 long, 3 reference, 4 boolean) -/
noncomputable def xend (rk : Nat) (r : Option xE) : Option xO := match r with
  | some (0, (_, (stk, (h, _)))) => match rk, stk with
    | 0, [] => some (0, (none, (h, 0)))
    | 1, [a] => cond (xbd a).isSome (some (0, (some a, (h, 0)))) none
    | 2, [a] => cond (xbdl a).isSome (some (0, (some a, (h, 0)))) none
    | 3, [.inr (.inr (.inl k))] => some (0, (some (.inr (.inr (.inl k))), (h, 0)))
    | 5, [.inl n] => cond (Nat.blt n 128) (some (0, (some (.inl n), (h, 0)))) none
    | 4, [.inl n] => cond (Nat.beq n 0 || Nat.beq n 1) (some (0, (some (.inl n), (h, 0)))) none
    | _, _ => none
  | some (1, (_, (stk, (h, E)))) => cond (Nat.ble (xcats stk) 8) (some (1, (none, ((h.1, (h.2.1, (false, (Nat.add h.2.2.2.1 1, Nat.add h.2.2.2.2 6)))), E)))) none
  | some (2, (_, (_, (h, E)))) => some (1, (none, (h, E)))
  | _ => none
/-- more steps than any method takes -/
abbrev xfuel : Nat := 262990036732531178038934129344072132222777155158173183455103251498393784269241712144986113434147122561740262895169461195238117756244677317704982104228572381561212835383679294290422948158152103995789000997628676899560596232346120974908831923957340799317334150712479854981078509643877041261187437100241420292292608473909928411105188490947124833955202248744332100580637003124978589491701695101808522061144843988133835134392637134823111877950723612680051572092587304567795110529164655597745623493917666867764187788625626430807225372261804837757576924651004054357620509329318741181910302634590696915593034823530153709878779890484879296339230111226354211571882271620010313015281930283862315849076977839995175045613976541071627672844619877731857807882480736163944455464480204366826389362507650345097862743477536825185737660772096012005787655040340126830095654612290557154932895992004605627798883755016155261782793564913249076322325755408008932243212108139543350054637939825478955115864579828008151366973217156309375261794492221838351346755841787461956930463580019972252258474651225968013608249728144497174382556307456108252603180844022203972935764718652932872857806435862235278355507414253308302460895923907550669237900634542848067408226046188724428808270623931372529897600844053559282689767944682906728760170053262543541430353858564676074854888809673863754351699304583126312993551839361674816334826836902638988247747907218828567459135627245585690901082233494426017513437437450606566758210178615418983148835611372015235685972118555498224938951900015215262758914173507914651653705992813757367611955261206147546008890502789281477959095303190149250968082178459572180060041398557654197699926145432581851591295651116102787753690028132138983913381506866059845035666755092379619259265054149972222584766582527743256394864409489058959258511157809244889757489729059857104856687703650301577046137206267229068077601966317404451211227289272788700728650304049945577648327987164623100008748167004619079020191805791438893321260457114822255079733023101010863073670147484190556813422050853921435708168321378455723960331769908445601406060005877517634194842267627550684895959092017415328119244693781939961967831566708331874698636123649732616432876842269436819304236457575085952737686167748921194450944987730620397476605664783305777748249034845661884963295006640639036003210246453863203380880948514175060669209154296628097872499948831985526284098465378846181022241374196462641717502794537067729051885641975472020828764687565865530333975926092825932391716128896418062111596060964294605089428046485129049581767028249508037026230349193862697830751871969640025979147249578695949189335884001962338893140682509823431283076620933048883456675115155462413209734504001630720431459384047818573094054848658465459140990305568928623226699354733109253752858788529251937659813470255354610519115907982159751340195649711580795222387676475047121576965232737615114755253957597707815729239373131289256411611803467912602298144051934893413908218137453091195702850776636867402388080710114813805556922209809938655903504831596489043669336632105608061026734199822904422939462549317030021122411931713883622693434286350645844069375503358308145852113585512562025757036512306082941111425683382892863981713665960406907381048324679610981968765795333044165113293745159204745140043258518543947733834839066171415664096031329606559939708383147577196994778199673016780661026447292923722450614157324992130459917113687079857115288548576890881868484609375000251091100591939225144364623867640694682641627464807665789387787689831730056348581547108372564766498098746064782050028071539077898842037620098556690693362375581939009816510810444721312265364621496113598026186959884236863688099019836470414246949514271345503502536416933499943904297965854102816933528374914910924536336672192825368068425744345077479816020677800450470070351836069587377020877527513545766658979509716820037213887408955559931679863269431038050962802251853710848275433057116675899294898777773774566623490638554659657157224098555309545764847398353268524685647755038614198354450209398397307240381158187010481500853511660748813913651798097170556607931135475307632200291474771586044913722975022506963202321801281720549376
noncomputable def xcall (o : Nat) (ft : Nat → List Nat) (pools : Lean.RArray (Lean.RArray (Nat × xP))) (ms : Lean.RArray xM) (d : Nat) : xF :=
  Nat.rec (fun _ _ _ => none) (fun _ ih mi as hp => cond (Nat.ble (xcats as) (xget ms mi).2.1) (xend (xget ms mi).2.2.1 (xrun o ft ih (xpool (xget pools (xget ms mi).2.2.2.1)) (xget ms mi).2.2.2.2 (xget ms mi).1 xfuel 0 (xargs as 0) [] hp)) none) d
/-- how long an instruction is -/
def xlen (i : Instr) (len : Nat) : Nat := match i with
  | .aload _ => 2
  | .astore _ => 2
  | .iload _ => 2
  | .istore _ => 2
  | .lload _ => 2
  | .lstore _ => 2
  | .bipush _ => 2
  | .sipush _ => 3
  | .ldc _ => 2
  | .ldc_w _ => 3
  | .ldc2_w _ => 3
  | .iinc _ _ => 3
  | .goto _ => 3
  | .ifCond _ _ => 3
  | .if_icmp _ _ => 3
  | .getfield _ => 3
  | .putfield _ => 3
  | .getstatic _ => 3
  | .new _ => 3
  | .newarray _ => 2
  | .anewarray _ => 3
  | .multianewarray _ _ => 4
  | .invokevirtual _ => 3
  | .invokestatic _ => 3
  | .invokespecial _ => 3
  | .tableswitch _ _ _ _ => len
  | _ => 1
/-- whether the local that an instruction writes is there -/
def xsto (nL : Nat) (i : Instr) : Bool := match i with
  | .istore_n k => Nat.blt k.val nL
  | .astore_n k => Nat.blt k.val nL
  | .lstore_n k => Nat.blt (Nat.add k.val 1) nL
  | .istore k => Nat.blt k nL
  | .astore k => Nat.blt k nL
  | .lstore k => Nat.blt (Nat.add k 1) nL
  | .iinc k _ => Nat.blt k nL
  | _ => true
