/-! AN EVALUATOR: the claim's methods as a function over a small world of numbered cells. Later parts show once for all that the machine does what it says. -/
/-- an instruction, two numbers, a literal, the place of its word among the tables' words -/
abbrev XI : Type := Instr × Nat × Nat × Int × Nat
/-- the world: how many cells, how many slots, what each cell is (its kind, its length), its ints, longs, references -/
abbrev Wd : Type := Nat × Nat × (Nat → Option (Nat × Nat)) × (Nat → Nat → Int32) × (Nat → Nat → Int64) × (Nat → Nat → Option Nat)
abbrev Ls : Type := List (Option Value)
/-- the script: its length, its ints -/
abbrev Sc : Type := Nat × (Nat → Int32)
def wn (w : Wd) : Nat := w.1
def wz (w : Wd) : Nat := w.2.1
def wsh (w : Wd) : Nat → Option (Nat × Nat) := w.2.2.1
def wI (w : Wd) : Nat → Nat → Int32 := w.2.2.2.1
def wL (w : Wd) : Nat → Nat → Int64 := w.2.2.2.2.1
def wR (w : Wd) : Nat → Nat → Option Nat := w.2.2.2.2.2
def u2 {α : Type} (f : Nat → Nat → α) (k j : Nat) (v : α) : Nat → Nat → α := fun a b => if a = k ∧ b = j then v else f a b
def stI (w : Wd) (k j : Nat) (v : Int32) : Wd := (wn w, wz w, wsh w, u2 (wI w) k j v, wL w, wR w)
def stL (w : Wd) (k j : Nat) (v : Int64) : Wd := (wn w, wz w, wsh w, wI w, u2 (wL w) k j v, wR w)
def stR (w : Wd) (k j : Nat) (v : Option Nat) : Wd := (wn w, wz w, wsh w, wI w, wL w, u2 (wR w) k j v)
/-- fields -/
def getI (w : Wd) (ci k j : Nat) : Option Int32 := match wsh w k with
  | some (kd, _) => if kd = ci then some (wI w k j) else none
  | none => none
def getL (w : Wd) (ci k j : Nat) : Option Int64 := match wsh w k with
  | some (kd, _) => if kd = ci then some (wL w k j) else none
  | none => none
def getR (w : Wd) (ci k j : Nat) : Option Nat := match wsh w k with
  | some (kd, _) => if kd = ci then wR w k j else none
  | none => none
def putI (w : Wd) (ci k j : Nat) (v : Int32) : Option Wd := match wsh w k with
  | some (kd, _) => if kd = ci then some (stI w k j v) else none
  | none => none
def putZ (w : Wd) (ci k j : Nat) (v : Int32) : Option Wd := match wsh w k with
  | some (kd, _) => if kd = ci ∧ (v = 0 ∨ v = 1) then some (stI w k j v) else none
  | none => none
def putL (w : Wd) (ci k j : Nat) (v : Int64) : Option Wd := match wsh w k with
  | some (kd, _) => if kd = ci then some (stL w k j v) else none
  | none => none
def putR (w : Wd) (ci k j : Nat) (v : Nat) : Option Wd := match wsh w k with
  | some (kd, _) => if kd = ci then some (stR w k j (some v)) else none
  | none => none
/-- arrays: kinds 20 int, 21 byte, 22 boolean, 23 long, 24 and 25 objects, 26 rows -/
def aldI (w : Wd) (k : Nat) (i : Int32) : Option Int32 := match wsh w k with
  | some (kd, n) => if kd = 20 ∧ ¬ (i < 0 ∨ n ≤ i.toNatClampNeg) then some (wI w k i.toNatClampNeg) else none
  | none => none
def aldB (w : Wd) (k : Nat) (i : Int32) : Option Int32 := match wsh w k with
  | some (kd, n) => if (kd = 21 ∨ kd = 22) ∧ ¬ (i < 0 ∨ n ≤ i.toNatClampNeg) then some (wI w k i.toNatClampNeg) else none
  | none => none
def aldL (w : Wd) (k : Nat) (i : Int32) : Option Int64 := match wsh w k with
  | some (kd, n) => if kd = 23 ∧ ¬ (i < 0 ∨ n ≤ i.toNatClampNeg) then some (wL w k i.toNatClampNeg) else none
  | none => none
def aldR (w : Wd) (k : Nat) (i : Int32) : Option Nat := match wsh w k with
  | some (kd, n) => if (kd = 24 ∨ kd = 25 ∨ kd = 26) ∧ ¬ (i < 0 ∨ n ≤ i.toNatClampNeg) then wR w k i.toNatClampNeg else none
  | none => none
def astI (w : Wd) (k : Nat) (i v : Int32) : Option Wd := match wsh w k with
  | some (kd, n) => if kd = 20 ∧ ¬ (i < 0 ∨ n ≤ i.toNatClampNeg) then some (stI w k i.toNatClampNeg v) else none
  | none => none
def astB (w : Wd) (k : Nat) (i v : Int32) : Option Wd := match wsh w k with
  | some (kd, n) => if (kd = 21 ∨ kd = 22) ∧ ¬ (i < 0 ∨ n ≤ i.toNatClampNeg) then some (stI w k i.toNatClampNeg (if kd = 21 then v.toInt8.toInt32 else v &&& 1)) else none
  | none => none
def astL (w : Wd) (k : Nat) (i : Int32) (v : Int64) : Option Wd := match wsh w k with
  | some (kd, n) => if kd = 23 ∧ ¬ (i < 0 ∨ n ≤ i.toNatClampNeg) then some (stL w k i.toNatClampNeg v) else none
  | none => none
/-- what an array of objects holds: the class of its kind -/
def elC (kd : Nat) : Nat := if kd = 24 then 5 else 3
def astR (w : Wd) (k : Nat) (i : Int32) (v : Nat) : Option Wd := match wsh w k, wsh w v with
  | some (kd, n), some (kv, _) => if (kd = 24 ∨ kd = 25) ∧ kv = elC kd ∧ ¬ (i < 0 ∨ n ≤ i.toNatClampNeg) then some (stR w k i.toNatClampNeg (some v)) else none
  | _, _ => none
def alen (w : Wd) (k : Nat) : Option Int32 := match wsh w k with
  | some (kd, n) => if 20 ≤ kd then some (Int32.ofNat n) else none
  | none => none
/-- how many fields a class has -/
def NF (ci : Nat) : Nat := [8, 7, 7, 6, 10, 5, 13, 3, 7, 6, 14, 63].getD ci 0
/-- a new cell of kind kd, n long -/
def newC (w : Wd) (kd n : Nat) : Wd := (wn w + 1, wz w + n, (fun a => if a = wn w then some (kd, n) else wsh w a), (fun a b => if a = wn w then 0 else wI w a b), (fun a b => if a = wn w then 0 else wL w a b), (fun a b => if a = wn w then none else wR w a b))
/-- new int[N][K] -/
def newM (w : Wd) (N K : Nat) : Wd := (wn w + 1 + N, wz w + N + N * K, (fun a => if a = wn w then some (26, N) else if wn w < a ∧ a < wn w + 1 + N then some (20, K) else wsh w a), (fun a b => if wn w ≤ a then 0 else wI w a b), (fun a b => if wn w ≤ a then 0 else wL w a b), (fun a b => if a = wn w then (if b < N then some (wn w + 1 + b) else none) else if wn w < a then none else wR w a b))
/-- System.arraycopy of ints from one array to another -/
def cpyI (w : Wd) (a : Nat) (sp : Int32) (b : Nat) (dp n : Int32) : Option Wd := match wsh w a, wsh w b with
  | some (ka, la), some (kb, lb) => if ka = 20 ∧ kb = 20 ∧ ¬ sp < 0 ∧ ¬ dp < 0 ∧ ¬ n < 0 ∧ sp.toNatClampNeg + n.toNatClampNeg ≤ la ∧ dp.toNatClampNeg + n.toNatClampNeg ≤ lb then
      some (wn w, wz w, wsh w, (fun x y => if x = b then va_cpy (wI w a) (wI w b) sp.toNatClampNeg dp.toNatClampNeg n.toNatClampNeg y else wI w x y), wL w, wR w) else none
  | _, _ => none
/-- what stands still: three tables, the script, the texts of the String constants -/
def tabL (l : List Int32) : Nat → Int32 := fun j => l.getD j 0
def isStr (u : UInt32) : Prop := 16 ≤ u.toNat ∧ u.toNat < 32
def tabN (S : Sc) (u : UInt32) : Option (Nat × (Nat → Int32)) :=
  if u.toNat = 0 then some (3, tabL [0, -1, 1])
  else if u.toNat = 1 then some (8, tabL [-1, -1, 0, 1, 1, 1, 0, -1])
  else if u.toNat = 2 then some (8, tabL [0, 1, 1, 1, 0, -1, -1, -1])
  else if u.toNat = 3 then some S
  else none
def tabS (tx : List (List Int32)) (u : UInt32) : Option (Nat × (Nat → Int32)) :=
  if 64 ≤ u.toNat ∧ u.toNat < 80 then some ((tx.getD (u.toNat - 64) []).length, tabL (tx.getD (u.toNat - 64) [])) else none
def tldI (S : Sc) (u : UInt32) (i : Int32) : Option Int32 := match tabN S u with
  | some (n, f) => if ¬ (i < 0 ∨ n ≤ i.toNatClampNeg) then some (f i.toNatClampNeg) else none
  | none => none
def tlen (tx : List (List Int32)) (S : Sc) (u : UInt32) : Option Int32 := match tabN S u with
  | some (n, _) => some (Int32.ofNat n)
  | none => match tabS tx u with
    | some (n, _) => some (Int32.ofNat n)
    | none => none
def tldB (tx : List (List Int32)) (u : UInt32) (i : Int32) : Option Int32 := match tabS tx u with
  | some (n, f) => if ¬ (i < 0 ∨ n ≤ i.toNatClampNeg) then some (f i.toNatClampNeg) else none
  | none => none
/-- the texts of the String constants -/
def stx : List (List Int32) := [[115, 104, 105, 112], [114, 111, 99, 107, 115], [100, 114, 105, 102, 116], [108, 97, 103], [115, 111, 114, 116], [108, 105, 107, 101, 115], [102, 101, 97, 114, 115], [109, 111, 115, 116], [109, 105, 100, 100, 108, 101], [109, 101, 97, 110], [116, 117, 114, 110, 115], [110, 101, 101, 100], [98, 97, 114], [117, 110, 108, 101, 115, 115], [108, 101, 102, 116], [114, 105, 103, 104, 116]]
def statV (g : Nat) : Option Value := if g < 3 then some (.float (UInt32.ofNat g)) else if g = 3 then some (.int 1) else if g = 4 then some (.float 4) else none
/-- a local -/
def ldl (ls : Ls) (i : Nat) : Option Value := match ls[i]? with
  | some (some v) => some v
  | _ => none
def stl1 (ls : Ls) (i : Nat) (v : Value) : Ls := match i with
  | 0 => ls.set 0 (some v)
  | j + 1 => match ls[j]? with
    | some (some (.long _)) => (ls.set j none).set (j + 1) (some v)
    | some (some (.double _)) => (ls.set j none).set (j + 1) (some v)
    | _ => ls.set (j + 1) (some v)
def stl2 (ls : Ls) (i : Nat) (v : Value) : Ls := (stl1 ls i v).set (i + 1) none
def ilen : Instr → Nat
  | .iconst _ | .iload_n _ | .aload_n _ | .lload_n _ | .istore_n _ | .astore_n _ | .lstore_n _ | .lconst _ => 1
  | .iadd | .isub | .imul | .idiv | .irem | .ineg | .iand | .ior | .ixor | .ishl | .ishr | .iushr => 1
  | .ladd | .lsub | .lmul | .lrem | .land | .lor | .lshl | .lshr | .lushr | .i2l | .l2i | .i2b | .i2c | .lcmp => 1
  | .iaload | .iastore | .baload | .bastore | .laload | .lastore | .aaload | .aastore | .arraylength => 1
  | .dup | .dup2 | .dup_x1 | .pop | .ireturn | .lreturn | .return_ | .athrow => 1
  | .bipush _ | .iload _ | .aload _ | .lload _ | .istore _ | .astore _ | .lstore _ | .ldc _ | .newarray _ => 2
  | .multianewarray _ _ => 4
  | _ => 3
/-- the kind of an array that newarray makes -/
def kdA : ArrayType → Option Nat
  | .int => some 20
  | .byte => some 21
  | .boolean => some 22
  | .long => some 23
  | _ => none
/-- one instruction, but calls and ends; in the class's constructor: mi -/
def sx (S : Sc) (x : XI) (pc : Nat) (ls : Ls) (st : List Value) (w : Wd) : Option (Nat × Ls × List Value × Wd) :=
  match x.1 with
  | .iconst n => some (pc + 1, ls, .int (Int32.ofInt n) :: st, w)
  | .bipush n => some (pc + 2, ls, .int (Int8.ofInt n).toInt32 :: st, w)
  | .sipush n => some (pc + 3, ls, .int (Int16.ofInt n).toInt32 :: st, w)
  | .lconst n => some (pc + 1, ls, .long (Int64.ofNat (n : Nat)) :: st, w)
  | .ldc _ => if x.2.1 = 1 then some (pc + 2, ls, .float (UInt32.ofNat (16 + x.2.2.1)) :: st, w) else some (pc + 2, ls, .int (Int32.ofInt x.2.2.2.1) :: st, w)
  | .ldc_w _ => some (pc + 3, ls, .int (Int32.ofInt x.2.2.2.1) :: st, w)
  | .ldc2_w _ => some (pc + 3, ls, .long (Int64.ofInt x.2.2.2.1) :: st, w)
  | .iload_n k => match ldl ls k with
    | some (.int v) => some (pc + 1, ls, .int v :: st, w)
    | _ => none
  | .iload k => match ldl ls k with
    | some (.int v) => some (pc + 2, ls, .int v :: st, w)
    | _ => none
  | .lload_n k => match ldl ls k with
    | some (.long v) => some (pc + 1, ls, .long v :: st, w)
    | _ => none
  | .lload k => match ldl ls k with
    | some (.long v) => some (pc + 2, ls, .long v :: st, w)
    | _ => none
  | .aload_n k => match ldl ls k with
    | some (.ref v) => some (pc + 1, ls, .ref v :: st, w)
    | some (.float v) => some (pc + 1, ls, .float v :: st, w)
    | _ => none
  | .aload k => match ldl ls k with
    | some (.ref v) => some (pc + 2, ls, .ref v :: st, w)
    | some (.float v) => some (pc + 2, ls, .float v :: st, w)
    | _ => none
  | .istore_n k => match st with
    | .int v :: r => some (pc + 1, stl1 ls k (.int v), r, w)
    | _ => none
  | .istore k => match st with
    | .int v :: r => some (pc + 2, stl1 ls k (.int v), r, w)
    | _ => none
  | .lstore_n k => match st with
    | .long v :: r => some (pc + 1, stl2 ls k (.long v), r, w)
    | _ => none
  | .lstore k => match st with
    | .long v :: r => some (pc + 2, stl2 ls k (.long v), r, w)
    | _ => none
  | .astore_n k => match st with
    | .ref v :: r => some (pc + 1, stl1 ls k (.ref v), r, w)
    | .float v :: r => some (pc + 1, stl1 ls k (.float v), r, w)
    | _ => none
  | .astore k => match st with
    | .ref v :: r => some (pc + 2, stl1 ls k (.ref v), r, w)
    | .float v :: r => some (pc + 2, stl1 ls k (.float v), r, w)
    | _ => none
  | .iinc k n => match ldl ls k with
    | some (.int v) => some (pc + 3, stl1 ls k (.int (v + Int32.ofInt n)), st, w)
    | _ => none
  | .iadd => match st with
    | .int y :: .int x :: r => some (pc + 1, ls, .int (x + y) :: r, w)
    | _ => none
  | .isub => match st with
    | .int y :: .int x :: r => some (pc + 1, ls, .int (x - y) :: r, w)
    | _ => none
  | .imul => match st with
    | .int y :: .int x :: r => some (pc + 1, ls, .int (x * y) :: r, w)
    | _ => none
  | .idiv => match st with
    | .int y :: .int x :: r => if ¬ y = 0 then some (pc + 1, ls, .int (x / y) :: r, w) else none
    | _ => none
  | .irem => match st with
    | .int y :: .int x :: r => if ¬ y = 0 then some (pc + 1, ls, .int (x - x / y * y) :: r, w) else none
    | _ => none
  | .ineg => match st with
    | .int x :: r => some (pc + 1, ls, .int (-x) :: r, w)
    | _ => none
  | .iand => match st with
    | .int y :: .int x :: r => some (pc + 1, ls, .int (x &&& y) :: r, w)
    | _ => none
  | .ior => match st with
    | .int y :: .int x :: r => some (pc + 1, ls, .int (x ||| y) :: r, w)
    | _ => none
  | .ixor => match st with
    | .int y :: .int x :: r => some (pc + 1, ls, .int (x ^^^ y) :: r, w)
    | _ => none
  | .ishl => match st with
    | .int y :: .int x :: r => some (pc + 1, ls, .int (x <<< (y &&& 31)) :: r, w)
    | _ => none
  | .ishr => match st with
    | .int y :: .int x :: r => some (pc + 1, ls, .int (x >>> (y &&& 31)) :: r, w)
    | _ => none
  | .iushr => match st with
    | .int y :: .int x :: r => some (pc + 1, ls, .int (x.toUInt32 >>> (y.toUInt32 &&& Int32.toUInt32 31)).toInt32 :: r, w)
    | _ => none
  | .ladd => match st with
    | .long y :: .long x :: r => some (pc + 1, ls, .long (x + y) :: r, w)
    | _ => none
  | .lsub => match st with
    | .long y :: .long x :: r => some (pc + 1, ls, .long (x - y) :: r, w)
    | _ => none
  | .lmul => match st with
    | .long y :: .long x :: r => some (pc + 1, ls, .long (x * y) :: r, w)
    | _ => none
  | .lrem => match st with
    | .long y :: .long x :: r => if ¬ y = 0 then some (pc + 1, ls, .long (x - x / y * y) :: r, w) else none
    | _ => none
  | .land => match st with
    | .long y :: .long x :: r => some (pc + 1, ls, .long (x &&& y) :: r, w)
    | _ => none
  | .lor => match st with
    | .long y :: .long x :: r => some (pc + 1, ls, .long (x ||| y) :: r, w)
    | _ => none
  | .lshl => match st with
    | .int y :: .long x :: r => some (pc + 1, ls, .long (x <<< (y.toInt64 &&& 63)) :: r, w)
    | _ => none
  | .lshr => match st with
    | .int y :: .long x :: r => some (pc + 1, ls, .long (x >>> (y.toInt64 &&& 63)) :: r, w)
    | _ => none
  | .lushr => match st with
    | .int y :: .long x :: r => some (pc + 1, ls, .long (x.toUInt64 >>> (y.toInt64.toUInt64 &&& Int64.toUInt64 63)).toInt64 :: r, w)
    | _ => none
  | .i2l => match st with
    | .int x :: r => some (pc + 1, ls, .long x.toInt64 :: r, w)
    | _ => none
  | .l2i => match st with
    | .long x :: r => some (pc + 1, ls, .int x.toInt32 :: r, w)
    | _ => none
  | .i2b => match st with
    | .int x :: r => some (pc + 1, ls, .int x.toInt8.toInt32 :: r, w)
    | _ => none
  | .i2c => match st with
    | .int x :: r => some (pc + 1, ls, .int (x.toUInt32 % 65536).toInt32 :: r, w)
    | _ => none
  | .lcmp => match st with
    | .long y :: .long x :: r => some (pc + 1, ls, .int (lg_cmp x y) :: r, w)
    | _ => none
  | .dup => match st with
    | v :: r => if v.category = 1 then some (pc + 1, ls, v :: v :: r, w) else none
    | _ => none
  | .dup2 => match st with
    | v :: u :: r => if v.category = 1 ∧ u.category = 1 then some (pc + 1, ls, v :: u :: v :: u :: r, w) else none
    | _ => none
  | .dup_x1 => match st with
    | v :: u :: r => if v.category = 1 ∧ u.category = 1 then some (pc + 1, ls, v :: u :: v :: r, w) else none
    | _ => none
  | .pop => match st with
    | v :: r => if v.category = 1 then some (pc + 1, ls, r, w) else none
    | _ => none
  | .ifCond c _ => match st with
    | .int v :: r => match c with
      | .eq => if v = 0 then some (x.2.1, ls, r, w) else some (pc + 3, ls, r, w)
      | .ne => if ¬ v = 0 then some (x.2.1, ls, r, w) else some (pc + 3, ls, r, w)
      | .lt => if v < 0 then some (x.2.1, ls, r, w) else some (pc + 3, ls, r, w)
      | .ge => if 0 ≤ v then some (x.2.1, ls, r, w) else some (pc + 3, ls, r, w)
      | .gt => if 0 < v then some (x.2.1, ls, r, w) else some (pc + 3, ls, r, w)
      | .le => if v ≤ 0 then some (x.2.1, ls, r, w) else some (pc + 3, ls, r, w)
    | _ => none
  | .if_icmp c _ => match st with
    | .int u :: .int v :: r => match c with
      | .eq => if v = u then some (x.2.1, ls, r, w) else some (pc + 3, ls, r, w)
      | .ne => if ¬ v = u then some (x.2.1, ls, r, w) else some (pc + 3, ls, r, w)
      | .lt => if v < u then some (x.2.1, ls, r, w) else some (pc + 3, ls, r, w)
      | .ge => if u ≤ v then some (x.2.1, ls, r, w) else some (pc + 3, ls, r, w)
      | .gt => if u < v then some (x.2.1, ls, r, w) else some (pc + 3, ls, r, w)
      | .le => if v ≤ u then some (x.2.1, ls, r, w) else some (pc + 3, ls, r, w)
    | _ => none
  | .goto _ => some (x.2.1, ls, st, w)
  | .tableswitch d lo hi offs => match st with
    | .int v :: r => if v.toInt < lo ∨ hi < v.toInt then (if ((x.2.1 : Nat) : Int) = (pc : Int) + d then some (x.2.1, ls, r, w) else none)
        else match offs[(v.toInt - lo).toNat]? with
          | some o => if (((pc : Int) + o).toNat : Int) = (pc : Int) + o then some (((pc : Int) + o).toNat, ls, r, w) else none
          | none => none
    | _ => none
  | .getstatic _ => match statV x.2.1 with
    | some v => some (pc + 3, ls, v :: st, w)
    | none => none
  | .getfield _ => match st with
    | .ref k :: r => if x.2.2.2.1 = 2 then (match getL w x.2.1 k x.2.2.1 with
        | some v => some (pc + 3, ls, .long v :: r, w)
        | none => none) else if x.2.2.2.1 = 3 then (match getR w x.2.1 k x.2.2.1 with
        | some v => some (pc + 3, ls, .ref v :: r, w)
        | none => none) else (match getI w x.2.1 k x.2.2.1 with
        | some v => some (pc + 3, ls, .int v :: r, w)
        | none => none)
    | .float u :: r => if x.2.1 = 50 ∧ 16 ≤ u.toNat ∧ u.toNat < 32 then (if x.2.2.1 = 0 then some (pc + 3, ls, .float (u + 48) :: r, w) else some (pc + 3, ls, .int 0 :: r, w)) else none
    | _ => none
  | .putfield _ => match st with
    | .int v :: .ref k :: r => if x.2.2.2.1 = 0 then (match putI w x.2.1 k x.2.2.1 v with
        | some w' => some (pc + 3, ls, r, w')
        | none => none) else if x.2.2.2.1 = 1 then (match putZ w x.2.1 k x.2.2.1 v with
        | some w' => some (pc + 3, ls, r, w')
        | none => none) else none
    | .long v :: .ref k :: r => if x.2.2.2.1 = 2 then (match putL w x.2.1 k x.2.2.1 v with
        | some w' => some (pc + 3, ls, r, w')
        | none => none) else none
    | .ref v :: .ref k :: r => if x.2.2.2.1 = 3 then (match putR w x.2.1 k x.2.2.1 v with
        | some w' => some (pc + 3, ls, r, w')
        | none => none) else none
    | _ => none
  | .iaload => match st with
    | .int i :: .ref k :: r => match aldI w k i with
      | some v => some (pc + 1, ls, .int v :: r, w)
      | none => none
    | .int i :: .float u :: r => match tldI S u i with
      | some v => some (pc + 1, ls, .int v :: r, w)
      | none => none
    | _ => none
  | .baload => match st with
    | .int i :: .ref k :: r => match aldB w k i with
      | some v => some (pc + 1, ls, .int v :: r, w)
      | none => none
    | .int i :: .float u :: r => match tldB stx u i with
      | some v => some (pc + 1, ls, .int v :: r, w)
      | none => none
    | _ => none
  | .laload => match st with
    | .int i :: .ref k :: r => match aldL w k i with
      | some v => some (pc + 1, ls, .long v :: r, w)
      | none => none
    | _ => none
  | .aaload => match st with
    | .int i :: .ref k :: r => match aldR w k i with
      | some v => some (pc + 1, ls, .ref v :: r, w)
      | none => none
    | _ => none
  | .iastore => match st with
    | .int v :: .int i :: .ref k :: r => match astI w k i v with
      | some w' => some (pc + 1, ls, r, w')
      | none => none
    | _ => none
  | .bastore => match st with
    | .int v :: .int i :: .ref k :: r => match astB w k i v with
      | some w' => some (pc + 1, ls, r, w')
      | none => none
    | _ => none
  | .lastore => match st with
    | .long v :: .int i :: .ref k :: r => match astL w k i v with
      | some w' => some (pc + 1, ls, r, w')
      | none => none
    | _ => none
  | .aastore => match st with
    | .ref v :: .int i :: .ref k :: r => match astR w k i v with
      | some w' => some (pc + 1, ls, r, w')
      | none => none
    | _ => none
  | .arraylength => match st with
    | .ref k :: r => match alen w k with
      | some v => some (pc + 1, ls, .int v :: r, w)
      | none => none
    | .float u :: r => match tlen stx S u with
      | some v => some (pc + 1, ls, .int v :: r, w)
      | none => none
    | _ => none
  | .new _ => some (pc + 3, ls, .ref (wn w) :: st, newC w x.2.1 (NF x.2.1))
  | .newarray t => match st, kdA t with
    | .int n :: r, some kd => if ¬ n < 0 ∧ n.toNatClampNeg ≤ 100000 then some (pc + 2, ls, .ref (wn w) :: r, newC w kd n.toNatClampNeg) else none
    | _, _ => none
  | .anewarray _ => match st with
    | .int n :: r => if ¬ n < 0 ∧ n.toNatClampNeg ≤ 100000 ∧ (x.2.1 = 24 ∨ x.2.1 = 25) then some (pc + 3, ls, .ref (wn w) :: r, newC w x.2.1 n.toNatClampNeg) else none
    | _ => none
  | .multianewarray _ d => match st with
    | .int k :: .int n :: r => if d = 2 ∧ ¬ n < 0 ∧ n.toNatClampNeg ≤ 1000 ∧ ¬ k < 0 ∧ k.toNatClampNeg ≤ 1000 then some (pc + 4, ls, .ref (wn w) :: r, newM w n.toNatClampNeg k.toNatClampNeg) else none
    | _ => none
  | .invokespecial _ => if x.2.1 = 9998 then (match st with
    | .ref _ :: r => if (r.map fun v => v.category).sum ≤ 8 then some (pc + 3, ls, r, w) else none
    | _ => none) else none
  | .invokestatic _ => if x.2.1 = 9999 then (match st with
    | .int n :: .int dp :: .ref b :: .int sp :: .ref a :: r => if (r.map fun v => v.category).sum ≤ 8 then (match cpyI w a sp b dp n with
      | some w' => some (pc + 3, ls, r, w')
      | none => none) else none
    | _ => none) else if x.2.1 = 9991 then (match st with
    | .int v :: .int u :: r => if (r.map fun v => v.category).sum ≤ 8 then some (pc + 3, ls, .int (if u < v then v else u) :: r, w) else none
    | _ => none) else if x.2.1 = 9992 then (match st with
    | .int u :: r => if (r.map fun v => v.category).sum ≤ 8 then some (pc + 3, ls, .int (if 0 ≤ u then u else 0 - u) :: r, w) else none
    | _ => none) else none
  | _ => none
