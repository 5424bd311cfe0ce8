/-! THE MACHINE OF THIS PROOF: an interpreter over an abstract memory. A value: an int, a long, or a reference (a group and a row of it). -/
abbrev AV : Type := Int32 ⊕ Int64 ⊕ Option (Nat × Nat)
abbrev vi (x : Int32) : AV := Sum.inl x
abbrev vL (x : Int64) : AV := Sum.inr (Sum.inl x)
abbrev vR (x : Option (Nat × Nat)) : AV := Sum.inr (Sum.inr x)
/-- ints, longs, references by group, row and place; the groups' shapes; how many cells there are; how many slots -/
abbrev Mem : Type := (Nat → Nat → Nat → Int32) × (Nat → Nat → Nat → Int64) × (Nat → Nat → Nat → Option (Nat × Nat)) × (Nat → Nat × Nat × Nat × Nat) × Nat × Nat
abbrev Mem.mi (M : Mem) : Nat → Nat → Nat → Int32 := M.1
abbrev Mem.ml (M : Mem) : Nat → Nat → Nat → Int64 := M.2.1
abbrev Mem.mr (M : Mem) : Nat → Nat → Nat → Option (Nat × Nat) := M.2.2.1
abbrev Mem.sh (M : Mem) : Nat → Nat × Nat × Nat × Nat := M.2.2.2.1
abbrev Mem.cnt (M : Mem) : Nat := M.2.2.2.2.1
abbrev Mem.slt (M : Mem) : Nat := M.2.2.2.2.2
/-- the answer of a method: returned (nothing or a value), or thrown (which, where it lies) -/
abbrev Out : Type := Option AV ⊕ (Nat × Nat)
/-- an instruction with its length, a constant, four numbers, the locals that live behind it and at its target -/
abbrev Ent : Type := Instr × Nat × Int × (Nat × Nat × Nat × Nat) × Option (List Nat) × Option (List Nat)
abbrev LVs : Type := List (Nat × AV)
def acat (v : AV) : Nat := match v with
  | .inr (.inl _) => 2
  | _ => 1
def lget : LVs → Nat → Option AV
  | [], _ => none
  | (j, v) :: t, i => bif Nat.beq j i then some v else lget t i
def ldrop1 (i : Nat) : LVs → LVs
  | [] => []
  | (j, v) :: t => bif Nat.beq j i || (Nat.beq (j + 1) i && Nat.beq (acat v) 2) then ldrop1 i t else (j, v) :: ldrop1 i t
def ldrop2 (i : Nat) : LVs → LVs
  | [] => []
  | (j, v) :: t => bif Nat.beq j i || (Nat.beq j (i + 1) || (Nat.beq (j + 1) i && Nat.beq (acat v) 2)) then ldrop2 i t else (j, v) :: ldrop2 i t
def lset (lv : LVs) (i : Nat) (v : AV) : LVs := bif Nat.beq (acat v) 2 then (i, v) :: ldrop2 i lv else (i, v) :: ldrop1 i lv
def ltrims : List Nat → LVs → LVs
  | [], _ => []
  | i :: t, lv => match lget lv i with
    | some v => (i, v) :: ltrims t lv
    | none => ltrims t lv
def ltrim (k : Option (List Nat)) (lv : LVs) : LVs := match k with
  | none => lv
  | some l => ltrims l lv
def aargs : Nat → List AV → LVs
  | _, [] => []
  | i, v :: t => (i, v) :: aargs (i + acat v) t
def asum : List AV → Nat
  | [] => 0
  | v :: t => acat v + asum t
/-- a place of an array is there -/
def inb (i : Int32) (n : Nat) : Bool := decide (0 ≤ i.toInt ∧ i.toInt < n)
def up3 {α : Type} (f : Nat → Nat → Nat → α) (a r j : Nat) (x : α) : Nat → Nat → Nat → α := fun a' r' j' => if a' = a then (if r' = r then (if j' = j then x else f a' r' j') else f a' r' j') else f a' r' j'
def cl3 {α : Type} (f : Nat → Nat → Nat → α) (a : Nat) (x : α) : Nat → Nat → Nat → α := fun a' r' j' => if a' = a then x else f a' r' j'
def cp3 {α : Type} (f : Nat → Nat → Nat → α) (a r b t sp dp n : Nat) : Nat → Nat → Nat → α := fun a' r' j' => if a' = b then (if r' = t then (if dp ≤ j' ∧ j' < dp + n then f a r (sp + (j' - dp)) else f a' r' j') else f a' r' j') else f a' r' j'
def up1 {α : Type} (f : Nat → α) (a : Nat) (x : α) : Nat → α := fun a' => if a' = a then x else f a'
/-- array types: 0 int, 1 byte, 2 boolean, 3 long, 4.. of objects, 6 int[][], 7 long[][] -/
def rowT (t : Nat) : Nat := bif Nat.beq t 6 then 0 else 3
/-- what a cell is: (1, its class, 0), (2, its array type, its length), or (0, ..) -/
def shp (M : Mem) (a r : Nat) : Nat × Nat × Nat := match M.2.2.2.1 a, r with
  | (1, c, _, _), 0 => (1, c, 0)
  | (2, t, n, _), 0 => (2, t, n)
  | (3, t, n, _), 0 => (2, t, n)
  | (3, t, n, k), r + 1 => bif Nat.blt r n then (2, rowT t, k) else (0, 0, 0)
  | _, _ => (0, 0, 0)
def isObj (M : Mem) (a r ci : Nat) : Bool := match shp M a r with
  | (1, c, _) => Nat.beq c ci
  | _ => false
/-- the length of an array of that type -/
def arrLen (M : Mem) (a r t : Nat) : Option Nat := match shp M a r with
  | (2, t', n) => bif Nat.beq t' t then some n else none
  | _ => none
/-- what stays on the stack alone -/
def alu (ins : Instr) (c : Int) (st : List AV) : Option (List AV) := match ins, st with
  | .iconst n, st => some (vi (Int32.ofInt n) :: st)
  | .bipush n, st => some (vi (Int8.ofInt n).toInt32 :: st)
  | .sipush n, st => some (vi (Int16.ofInt n).toInt32 :: st)
  | .lconst n, st => some (vL (Int64.ofNat (n : Nat)) :: st)
  | .aconst_null, st => some (vR none :: st)
  | .iadd, .inl y :: .inl x :: st => some (vi (x + y) :: st)
  | .isub, .inl y :: .inl x :: st => some (vi (x - y) :: st)
  | .imul, .inl y :: .inl x :: st => some (vi (x * y) :: st)
  | .iand, .inl y :: .inl x :: st => some (vi (x &&& y) :: st)
  | .ior, .inl y :: .inl x :: st => some (vi (x ||| y) :: st)
  | .ixor, .inl y :: .inl x :: st => some (vi (x ^^^ y) :: st)
  | .ishl, .inl y :: .inl x :: st => some (vi (x <<< (y &&& 31)) :: st)
  | .ishr, .inl y :: .inl x :: st => some (vi (x >>> (y &&& 31)) :: st)
  | .iushr, .inl y :: .inl x :: st => some (vi (x.toUInt32 >>> (y.toUInt32 &&& Int32.toUInt32 31)).toInt32 :: st)
  | .land, .inr (.inl y) :: .inr (.inl x) :: st => some (vL (x &&& y) :: st)
  | .lor, .inr (.inl y) :: .inr (.inl x) :: st => some (vL (x ||| y) :: st)
  | .lxor, .inr (.inl y) :: .inr (.inl x) :: st => some (vL (x ^^^ y) :: st)
  | .lsub, .inr (.inl y) :: .inr (.inl x) :: st => some (vL (x - y) :: st)
  | .ladd, .inr (.inl y) :: .inr (.inl x) :: st => some (vL (x + y) :: st)
  | .lshl, .inl y :: .inr (.inl x) :: st => some (vL (x <<< (y.toInt64 &&& 63)) :: st)
  | .lshr, .inl y :: .inr (.inl x) :: st => some (vL (x >>> (y.toInt64 &&& 63)) :: st)
  | .lushr, .inl y :: .inr (.inl x) :: st => some (vL (x.toUInt64 >>> (y.toInt64.toUInt64 &&& Int64.toUInt64 63)).toInt64 :: st)
  | .lcmp, .inr (.inl y) :: .inr (.inl x) :: st => some (vi (lg_cmp x y) :: st)
  | .i2l, .inl x :: st => some (vL x.toInt64 :: st)
  | .l2i, .inr (.inl x) :: st => some (vi x.toInt32 :: st)
  | .i2b, .inl x :: st => some (vi x.toInt8.toInt32 :: st)
  | .dup, v :: st => bif Nat.beq (acat v) 1 then some (v :: v :: st) else none
  | .dup2, v :: w :: st => bif Nat.beq (acat v) 1 && Nat.beq (acat w) 1 then some (v :: w :: v :: w :: st) else none
  | .pop, v :: st => bif Nat.beq (acat v) 1 then some st else none
  | .ldc _, st => some (vi (Int32.ofInt c) :: st)
  | .ldc_w _, st => some (vi (Int32.ofInt c) :: st)
  | .ldc2_w _, st => some (vL (Int64.ofInt c) :: st)
  | _, _ => none
def icnd (c : ClassFile.Cond) (x y : Int32) : Bool := match c with
  | .eq => decide (x = y)
  | .ne => !decide (x = y)
  | .lt => decide (x < y)
  | .ge => decide (y ≤ x)
  | .gt => decide (y < x)
  | .le => decide (x ≤ y)
/-- branches: whether, how far, what is left on the stack -/
def brn (ins : Instr) (st : List AV) : Option (Bool × Int × List AV) := match ins, st with
  | .goto o, st => some (true, o, st)
  | .if_icmp c o, .inl y :: .inl x :: st => some (icnd c x y, o, st)
  | .ifCond c o, .inl x :: st => some (icnd c x 0, o, st)
  | .ifnull o, .inr (.inr v) :: st => some (v.isNone, o, st)
  | .ifnonnull o, .inr (.inr v) :: st => some (!v.isNone, o, st)
  | _, _ => none
/-- locals -/
def loc (ins : Instr) : Option (Bool × Nat × Nat) := match ins with
  | .iload i => some (true, i, 0)
  | .iload_n i => some (true, i, 0)
  | .lload i => some (true, i, 1)
  | .lload_n i => some (true, i, 1)
  | .aload i => some (true, i, 2)
  | .aload_n i => some (true, i, 2)
  | .istore i => some (false, i, 0)
  | .istore_n i => some (false, i, 0)
  | .lstore i => some (false, i, 1)
  | .lstore_n i => some (false, i, 1)
  | .astore i => some (false, i, 2)
  | .astore_n i => some (false, i, 2)
  | _ => none
def akind (v : AV) : Nat := match v with
  | .inl _ => 0
  | .inr (.inl _) => 1
  | .inr (.inr _) => 2
def popI (st : List AV) : Option (Int32 × List AV) := match st with
  | .inl x :: st => some (x, st)
  | _ => none
def popL (st : List AV) : Option (Int64 × List AV) := match st with
  | .inr (.inl x) :: st => some (x, st)
  | _ => none
/-- a reference that is there -/
def popR (st : List AV) : Option ((Nat × Nat) × List AV) := match st with
  | .inr (.inr (some q)) :: st => some (q, st)
  | _ => none
/-- a place of an array: the array, the place -/
def popA (st : List AV) : Option ((Nat × Nat) × Int32 × List AV) := match st with
  | .inl i :: .inr (.inr (some q)) :: st => some (q, i, st)
  | _ => none
def fld (M : Mem) (a r k tag : Nat) : AV := match tag with
  | 0 => vi (M.1 a r k)
  | 1 => vL (M.2.1 a r k)
  | _ => vR (M.2.2.1 a r k)
def setf (M : Mem) (a r k : Nat) (v : AV) : Mem := match v with
  | .inl x => (up3 M.1 a r k x, M.2)
  | .inr (.inl x) => (M.1, up3 M.2.1 a r k x, M.2.2)
  | .inr (.inr x) => (M.1, M.2.1, up3 M.2.2.1 a r k x, M.2.2.2)
def newc (M : Mem) (s : Nat × Nat × Nat × Nat) (cells slots : Nat) : Mem := (cl3 M.1 M.cnt 0, cl3 M.2.1 M.cnt 0, cl3 M.2.2.1 M.cnt none, up1 M.2.2.2.1 M.cnt s, M.cnt + cells, M.slt + slots)
def tgt (pc : Nat) (o : Int) : Nat := ((pc : Int) + o).toNat
def aload1 (M : Mem) (q : Nat × Nat) (t : Nat) (j : Nat) : AV := match t with
  | 3 => vL (M.2.1 q.1 q.2 j)
  | 4 => vR (M.2.2.1 q.1 q.2 j)
  | 5 => vR (M.2.2.1 q.1 q.2 j)
  | 6 => vR (some (q.1, j + 1))
  | 7 => vR (some (q.1, j + 1))
  | _ => vi (M.1 q.1 q.2 j)
def nar (t : Nat) (v : AV) : AV := match t, v with
  | 1, .inl x => vi (vp_nar .byte x)
  | 2, .inl x => vi (vp_nar .boolean x)
  | _, v => v
/-- an array of that type may hold it -/
def holds1 (M : Mem) (t c : Nat) (v : AV) : Bool := match t, v with
  | 0, .inl _ => true
  | 1, .inl _ => true
  | 2, .inl _ => true
  | 3, .inr (.inl _) => true
  | 4, .inr (.inr none) => true
  | 4, .inr (.inr (some q)) => isObj M q.1 q.2 c
  | 5, .inr (.inr none) => true
  | 5, .inr (.inr (some q)) => isObj M q.1 q.2 c
  | _, _ => false
/-- the longest array that is made, far below the machine's own bound -/
def fitsN (n : Int32) : Bool := decide (0 ≤ n.toInt ∧ n.toInt ≤ 100000)
/-- a place of an array of that type is there -/
def arrOk (M : Mem) (a r t : Nat) (i : Int32) : Bool := match arrLen M a r t with
  | some n => inb i n
  | none => false
def isArr (M : Mem) (a r : Nat) : Bool := match shp M a r with
  | (2, _, _) => true
  | _ => false
def alen (M : Mem) (a r : Nat) : Nat := (shp M a r).2.2
def cpOk (M : Mem) (q u : Nat × Nat) (t : Nat) (sp dp n : Int32) : Bool := match arrLen M q.1 q.2 t, arrLen M u.1 u.2 t with
  | some k, some j => decide (0 ≤ sp.toInt ∧ 0 ≤ dp.toInt ∧ 0 ≤ n.toInt ∧ sp.toInt + n.toInt ≤ k ∧ dp.toInt + n.toInt ≤ j) && Nat.ble 100 u.1 && Nat.ble 100 q.1
  | _, _ => false
def cpMem (M : Mem) (q u : Nat × Nat) (t sp dp n : Nat) : Mem := match t with
  | 3 => (M.1, cp3 M.2.1 q.1 q.2 u.1 u.2 sp dp n, M.2.2)
  | _ => (cp3 M.1 q.1 q.2 u.1 u.2 sp dp n, M.2)
/-- a text: a group of 2 to 18 -/
def isTxt (q : Nat × Nat) : Bool := Nat.ble 2 q.1 && (Nat.blt q.1 19 && Nat.beq q.2 0)
/-- Arrays.copyOf of an array of k ints -/
def cpyOf (M : Mem) (q : Nat × Nat) (k n : Nat) : Mem := (fun a' r' j' => if a' = M.cnt then (if j' < k then M.1 q.1 q.2 j' else 0) else M.1 a' r' j', (newc M (2, 0, n, 0) 1 n).2)
section Stp
variable {ρ : Type} (K : Nat → LVs → List AV → Mem → ρ) (C : Nat → List AV → List AV → LVs → Mem → ρ) (D : Out → Mem → ρ) (Z : ρ)
/-- one instruction: on (K), a call (C: which, with what, what is left on the stack), the end (D), or stuck (Z) -/
def stp (txt : Nat → List Nat) (en : Ent) (pc : Nat) (lv : LVs) (st : List AV) (M : Mem) : ρ := match en with
  | (ins, len, c, (x1, x2, x3, x4), kn, kt) => match ins with
    | .getfield _ => match popR st with
      | some (q, st) => bif isObj M q.1 q.2 x1 then K (pc + 3) (ltrim kn lv) (fld M q.1 q.2 x2 x3 :: st) M else Z
      | none => Z
    | .putfield _ => match st with
      | v :: st => match popR st with
        | some (q, st) => bif isObj M q.1 q.2 x1 && (Nat.ble 100 q.1 && Nat.beq (akind v) x3) then K (pc + 3) (ltrim kn lv) st (setf M q.1 q.2 x2 v) else Z
        | none => Z
      | [] => Z
    | .getstatic _ => K (pc + 3) (ltrim kn lv) (vR (some (x1, 0)) :: st) M
    | .iaload => match popA st with
      | some (q, i, st) => bif arrOk M q.1 q.2 0 i then K (pc + 1) (ltrim kn lv) (aload1 M q 0 i.toNatClampNeg :: st) M else Z
      | none => Z
    | .laload => match popA st with
      | some (q, i, st) => bif arrOk M q.1 q.2 3 i then K (pc + 1) (ltrim kn lv) (aload1 M q 3 i.toNatClampNeg :: st) M else Z
      | none => Z
    | .baload => match popA st with
      | some (q, i, st) => bif arrOk M q.1 q.2 x1 i then K (pc + 1) (ltrim kn lv) (aload1 M q x1 i.toNatClampNeg :: st) M else Z
      | none => Z
    | .aaload => match popA st with
      | some (q, i, st) => bif arrOk M q.1 q.2 x1 i then K (pc + 1) (ltrim kn lv) (aload1 M q x1 i.toNatClampNeg :: st) M else Z
      | none => Z
    | .iastore => match st with
      | v :: st => match popA st with
        | some (q, i, st) => bif arrOk M q.1 q.2 0 i && (Nat.ble 100 q.1 && holds1 M 0 x2 v) then K (pc + 1) (ltrim kn lv) st (setf M q.1 q.2 i.toNatClampNeg (nar 0 v)) else Z
        | none => Z
      | [] => Z
    | .lastore => match st with
      | v :: st => match popA st with
        | some (q, i, st) => bif arrOk M q.1 q.2 3 i && (Nat.ble 100 q.1 && holds1 M 3 x2 v) then K (pc + 1) (ltrim kn lv) st (setf M q.1 q.2 i.toNatClampNeg (nar 3 v)) else Z
        | none => Z
      | [] => Z
    | .bastore => match st with
      | v :: st => match popA st with
        | some (q, i, st) => bif arrOk M q.1 q.2 x1 i && (Nat.ble 100 q.1 && holds1 M x1 x2 v) then K (pc + 1) (ltrim kn lv) st (setf M q.1 q.2 i.toNatClampNeg (nar x1 v)) else Z
        | none => Z
      | [] => Z
    | .aastore => match st with
      | v :: st => match popA st with
        | some (q, i, st) => bif arrOk M q.1 q.2 x1 i && (Nat.ble 100 q.1 && holds1 M x1 x2 v) then K (pc + 1) (ltrim kn lv) st (setf M q.1 q.2 i.toNatClampNeg (nar x1 v)) else Z
        | none => Z
      | [] => Z
    | .arraylength => match popR st with
      | some (q, st) => bif isArr M q.1 q.2 then K (pc + 1) (ltrim kn lv) (vi (Int32.ofNat (alen M q.1 q.2)) :: st) M else Z
      | none => Z
    | .newarray _ => match popI st with
      | some (n, st) => bif fitsN n then K (pc + 2) (ltrim kn lv) (vR (some (M.cnt, 0)) :: st) (newc M (2, x1, n.toNatClampNeg, 0) 1 n.toNatClampNeg) else Z
      | none => Z
    | .anewarray _ => match popI st with
      | some (n, st) => bif fitsN n then K (pc + 3) (ltrim kn lv) (vR (some (M.cnt, 0)) :: st) (newc M (2, x1, n.toNatClampNeg, 0) 1 n.toNatClampNeg) else Z
      | none => Z
    | .multianewarray _ _ => match popI st with
      | some (k, st) => match popI st with
        | some (n, st) => bif fitsN n && fitsN k then K (pc + 4) (ltrim kn lv) (vR (some (M.cnt, 0)) :: st) (newc M (3, x1, n.toNatClampNeg, k.toNatClampNeg) (1 + n.toNatClampNeg) (n.toNatClampNeg + n.toNatClampNeg * k.toNatClampNeg)) else Z
        | none => Z
      | none => Z
    | .new _ => bif Nat.beq x3 0 then K (pc + 3) (ltrim kn lv) (vR (some (M.cnt, 0)) :: st) (newc M (1, x1, 0, 0) 1 x2) else bif Nat.ble (asum st) 8 then D (.inr (x4, M.cnt)) (newc M (5, x4, 0, 0) x1 x2) else Z
    | .invokespecial _ => match popR (st.drop (x2 - 1)) with
      | some (q, rest) => bif Nat.beq x4 9 then (bif Nat.ble (asum rest) 8 then K (pc + 3) (ltrim kn lv) rest M else Z)
          else bif isObj M q.1 q.2 x3 && (Nat.ble (asum rest) 8 && Nat.ble (asum (st.take x2)) c.toNat) then C x1 (st.take x2).reverse rest (ltrim kn lv) M else Z
      | none => Z
    | .invokevirtual _ => match popR (st.drop (x2 - 1)) with
      | some (q, rest) => match x4 with
        | 1 => bif isTxt q && Nat.ble (asum rest) 8 then K (pc + 3) (ltrim kn lv) (vi (Int32.ofNat (txt q.1).length) :: rest) M else Z
        | 2 => match popI st with
          | some (i, _) => bif (isTxt q && Nat.ble (asum rest) 8) && inb i (txt q.1).length then K (pc + 3) (ltrim kn lv) (vi (Int32.ofNat ((txt q.1).getD i.toNatClampNeg 0)) :: rest) M else Z
          | none => Z
        | _ => bif isObj M q.1 q.2 x3 && (Nat.ble (asum rest) 8 && Nat.ble (asum (st.take x2)) c.toNat) then C x1 (st.take x2).reverse rest (ltrim kn lv) M else Z
      | none => Z
    | .invokestatic _ => match x4 with
      | 3 => match st with
        | .inl n :: .inl dp :: .inr (.inr (some u)) :: .inl sp :: .inr (.inr (some q)) :: st => bif cpOk M q u x3 sp dp n && Nat.ble (asum st) 8 then K (pc + 3) (ltrim kn lv) st (cpMem M q u x3 sp.toNatClampNeg dp.toNatClampNeg n.toNatClampNeg) else Z
        | _ => Z
      | 4 => match st with
        | .inl n :: .inr (.inr (some q)) :: st => match arrLen M q.1 q.2 0 with
          | some k => bif fitsN n && (Nat.ble (asum st) 8 && Nat.ble 100 q.1) then K (pc + 3) (ltrim kn lv) (vR (some (M.cnt, 0)) :: st) (cpyOf M q k n.toNatClampNeg) else Z
          | none => Z
        | _ => Z
      | _ => bif Nat.ble x2 st.length && (Nat.ble (asum (st.drop x2)) 8 && Nat.ble (asum (st.take x2)) c.toNat) then C x1 (st.take x2).reverse (st.drop x2) (ltrim kn lv) M else Z
    | .ireturn => match st with
      | [.inl v] => bif !(Nat.beq x1 2) || decide (v &&& 1 = v) then D (.inl (some (vi v))) M else Z
      | _ => Z
    | .lreturn => match st with
      | [.inr (.inl v)] => D (.inl (some (vL v))) M
      | _ => Z
    | .areturn => match st with
      | [.inr (.inr v)] => D (.inl (some (vR v))) M
      | _ => Z
    | .return_ => match st with
      | [] => D (.inl none) M
      | _ => Z
    | .tableswitch d lo hi offs => match popI st with
      | some (x, st) => bif decide (x.toInt < lo ∨ hi < x.toInt) then K (tgt pc d) (ltrim kt lv) st M else match offs[(x.toInt - lo).toNat]? with
        | some o => K (tgt pc o) (ltrim kt lv) st M
        | none => Z
      | none => Z
    | .iinc i n => match lget lv i with
      | some (.inl x) => K (pc + 3) (ltrim kn (lset lv i (vi (x + Int32.ofInt n)))) st M
      | _ => Z
    | .idiv => match st with
      | .inl y :: .inl x :: st => bif decide (y = 0) then Z else K (pc + 1) (ltrim kn lv) (vi (x / y) :: st) M
      | _ => Z
    | .irem => match st with
      | .inl y :: .inl x :: st => bif decide (y = 0) then Z else K (pc + 1) (ltrim kn lv) (vi (x - x / y * y) :: st) M
      | _ => Z
    | ins => bif Nat.beq x4 7 then K (pc + len) (ltrim kn lv) (vR (some (x1, 0)) :: st) M else match alu ins c st with
      | some st => K (pc + len) (ltrim kn lv) st M
      | none => match brn ins st with
        | some (b, o, st) => bif b then K (tgt pc o) (ltrim kt lv) st M else K (pc + 3) (ltrim kn lv) st M
        | none => match loc ins with
          | some (true, i, t) => match lget lv i with
            | some v => bif Nat.beq (akind v) t then K (pc + len) (ltrim kn lv) (v :: st) M else Z
            | none => Z
          | some (false, i, t) => match st with
            | v :: st => bif Nat.beq (akind v) t then K (pc + len) (ltrim kn (lset lv i v)) st M else Z
            | [] => Z
          | none => Z
end Stp
/-- the program: (method, pc) to its entry; what is thrown: (method, pc, which) to the handler's pc behind its store, or it goes on to the caller; texts -/
abbrev Prg : Type := (Nat → Nat → Option Ent) × (Nat → Nat → Nat → Option (Option Nat)) × (Nat → List Nat)
def rn (P : Prg) : Nat → Nat → Nat → Nat → LVs → List AV → Mem → Option (Out × Mem)
  | _, 0, _, _, _, _, _ => none
  | d, n + 1, m, pc, lv, st, M => match P.1 m pc with
    | none => none
    | some en => stp (fun pc lv st M => rn P d n m pc lv st M)
        (fun y as rest lv M => match d with
          | 0 => none
          | d + 1 => match rn P d n y 0 (aargs 0 as) [] M with
            | some (.inl v, M) => rn P (d + 1) n m (pc + 3) lv (v.toList ++ rest) M
            | some (.inr x, M) => match P.2.1 m pc x.1 with
              | some (some h) => rn P (d + 1) n m h lv [] M
              | some none => some (.inr x, M)
              | none => none
            | none => none)
        (fun o M => some (o, M)) none P.2.2 en pc lv st M
