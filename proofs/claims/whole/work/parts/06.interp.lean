/-! THE SMALL INTERPRETER of the classes' bytecode over a typed memory: an object is its number in the order of making, its kind stands in mjLay -/
def mjSi (M : mjMem) (a k : Nat) (v : Int32) : mjMem := (fun i j => if i = a then (if j = k then v else M.1 i j) else M.1 i j, M.2.1, M.2.2)
def mjSl (M : mjMem) (a k : Nat) (v : Int64) : mjMem := (M.1, fun i j => if i = a then (if j = k then v else M.2.1 i j) else M.2.1 i j, M.2.2)
def mjSr (M : mjMem) (a k : Nat) (v : Option Nat) : mjMem := (M.1, M.2.1, fun i j => if i = a then (if j = k then v else M.2.2 i j) else M.2.2 i j)
/-- a fresh row of zeros -/
def mjZr (M : mjMem) (a : Nat) : mjMem := (fun i j => if i = a then 0 else M.1 i j, fun i j => if i = a then 0 else M.2.1 i j, fun i j => if i = a then none else M.2.2 i j)
/-- jumps -/
def mjJ (pc : Nat) (off : Int) : Option Nat := if 0 ≤ (pc : Int) + off then some ((pc : Int) + off).toNat else none
def mjK1 : Option Value → Option Value
  | some (.long _) => none
  | some (.double _) => none
  | x => x
def mjSet1 : mjLs → Nat → Value → mjLs
  | [], _, _ => []
  | _ :: r, 0, v => some v :: r
  | x :: r, 1, v => mjK1 x :: mjSet1 r 0 v
  | x :: r, j + 2, v => x :: mjSet1 r (j + 1) v
def mjSet2 : mjLs → Nat → Value → mjLs
  | [], _, _ => []
  | _ :: [], 0, v => [some v]
  | _ :: _ :: r, 0, v => some v :: none :: r
  | x :: r, 1, v => mjK1 x :: mjSet2 r 0 v
  | x :: r, j + 2, v => x :: mjSet2 r (j + 1) v
def mjLd (L : mjLs) (j : Nat) : Option Value := L.getD j none
abbrev mjO : Type := Option (Nat × mjLs × List Value × mjMem)
def mjLoadI (L : mjLs) (j pc : Nat) (st : List Value) (M : mjMem) : mjO := match mjLd L j with
  | some (.int x) => some (pc, L, .int x :: st, M)
  | _ => none
def mjLoadL (L : mjLs) (j pc : Nat) (st : List Value) (M : mjMem) : mjO := match mjLd L j with
  | some (.long x) => some (pc, L, .long x :: st, M)
  | _ => none
def mjLoadA (L : mjLs) (j pc : Nat) (st : List Value) (M : mjMem) : mjO := match mjLd L j with
  | some (.ref x) => some (pc, L, .ref x :: st, M)
  | _ => none
def mjStoI (L : mjLs) (j pc : Nat) (st : List Value) (M : mjMem) : mjO := match st with
  | .int x :: r => if j < L.length then some (pc, mjSet1 L j (.int x), r, M) else none
  | _ => none
def mjStoL (L : mjLs) (j pc : Nat) (st : List Value) (M : mjMem) : mjO := match st with
  | .long x :: r => if j + 1 < L.length then some (pc, mjSet2 L j (.long x), r, M) else none
  | _ => none
def mjStoA (L : mjLs) (j pc : Nat) (st : List Value) (M : mjMem) : mjO := match st with
  | .ref x :: r => if j < L.length then some (pc, mjSet1 L j (.ref x), r, M) else none
  | _ => none
def mjII (f : Int32 → Int32 → Value) (pc : Nat) (L : mjLs) (st : List Value) (M : mjMem) : mjO := match st with
  | .int y :: .int x :: r => some (pc, L, f x y :: r, M)
  | _ => none
def mjLL (f : Int64 → Int64 → Value) (pc : Nat) (L : mjLs) (st : List Value) (M : mjMem) : mjO := match st with
  | .long y :: .long x :: r => some (pc, L, f x y :: r, M)
  | _ => none
def mjLI (f : Int64 → Int32 → Value) (pc : Nat) (L : mjLs) (st : List Value) (M : mjMem) : mjO := match st with
  | .int y :: .long x :: r => some (pc, L, f x y :: r, M)
  | _ => none
def mjI1 (f : Int32 → Value) (pc : Nat) (L : mjLs) (st : List Value) (M : mjMem) : mjO := match st with
  | .int x :: r => some (pc, L, f x :: r, M)
  | _ => none
/-- a branch: where it goes, if so -/
def mjBr (b : Bool) (pc : Nat) (off : Int) (L : mjLs) (r : List Value) (M : mjMem) : mjO := match mjJ pc off with
  | some t => some (if b = true then t else pc + 3, L, r, M)
  | none => none
def mjCmp (c : ClassFile.Cond) (x y : Int32) : Bool := match c with
  | .eq => decide (x = y)
  | .ne => decide (x ≠ y)
  | .lt => decide (x < y)
  | .ge => decide (y ≤ x)
  | .gt => decide (y < x)
  | .le => decide (x ≤ y)
def mjIf (c : ClassFile.Cond) (off : Int) (pc : Nat) (L : mjLs) (st : List Value) (M : mjMem) : mjO := match st with
  | .int x :: r => mjBr (mjCmp c x 0) pc off L r M
  | _ => none
def mjIcmp (c : ClassFile.Cond) (off : Int) (pc : Nat) (L : mjLs) (st : List Value) (M : mjMem) : mjO := match st with
  | .int y :: .int x :: r => mjBr (mjCmp c x y) pc off L r M
  | _ => none
/-- an object of class c, an array of kind t -/
def mjIs (a n c : Nat) : Bool := decide (a < n) && (mjLay a).1 == c
/-- the texts of the string constants: the text i is the object 1000000 + i, its bytes are the array 1100000 + i -/
def mjTx0 (i : Nat) : List Int32 := mjTxL.getD i []
def mjSid (a : Nat) : Bool := decide (1000000 ≤ a ∧ a < 1000010)
def mjSbd (a : Nat) : Bool := decide (1100000 ≤ a ∧ a < 1100010)
def mjGetX (own ix pc : Nat) (L : mjLs) (st : List Value) (M : mjMem) : mjO := if own = 18 then (match st with
  | .ref a :: r => if mjSid a = true then (if ix = 9 then some (pc + 3, L, .ref (a + 100000) :: r, M) else if ix = 15 then some (pc + 3, L, .int 0 :: r, M) else none) else none
  | _ => none) else none
def mjGst (own ix pc : Nat) (L : mjLs) (st : List Value) (M : mjMem) : mjO := if own = 18 then (if ix = 38 then some (pc + 3, L, .int 1 :: st, M) else if ix = 1053 then (if M.1 2000001 1 = 0 then some (pc + 3, L, .null :: st, M) else some (pc + 3, L, .ref 1200000 :: st, M)) else none) else none
def mjGet (own ix pc n : Nat) (L : mjLs) (st : List Value) (M : mjMem) : mjO := match mjFld own ix with
  | none => mjGetX own ix pc L st M
  | some (ci, k) => match st with
    | .ref a :: r => if mjIs a n ci = true then some (pc + 3, L, (match mjFk ci k with | 1 => Value.long (M.2.1 a k) | 2 => va_rf (M.2.2 a k) | _ => Value.int (M.1 a k)) :: r, M) else none
    | _ => none
def mjPutI (kd : Nat) (x : Int32) : Bool := if kd = 3 then decide (x = 0 ∨ x = 1) else kd == 0
def mjPut (k own ix pc n : Nat) (L : mjLs) (st : List Value) (M : mjMem) : mjO := match mjFld own ix with
  | none => none
  | some (ci, f) => if (mjTx ci f).2.2.2 = true ∧ ¬ (mjKd k = 2 ∧ ci = own) then none else match st with
    | .int x :: .ref a :: r => if mjIs a n ci = true ∧ mjPutI (mjFk ci f) x = true then some (pc + 3, L, r, mjSi M a f x) else none
    | .long x :: .ref a :: r => if mjIs a n ci = true ∧ mjFk ci f = 1 then some (pc + 3, L, r, mjSl M a f x) else none
    | .ref b :: .ref a :: r => if mjIs a n ci = true ∧ mjFk ci f = 2 then some (pc + 3, L, r, mjSr M a f (some b)) else none
    | _ => none
def mjIn (i : Int32) (len : Nat) : Bool := decide (0 ≤ i.toInt ∧ i.toInt < (len : Int))
def mjIx (i : Int32) : Nat := i.toInt.toNat
def mjIal (pc n : Nat) (L : mjLs) (st : List Value) (M : mjMem) : mjO := match st with
  | .int i :: .ref a :: r => if a = 2000000 then (if 0 ≤ i.toInt ∧ i.toInt < (M.1 2000001 0).toInt then some (pc + 1, L, .int (M.1 2000000 (mjIx i)) :: r, M) else none)
    else if mjIs a n 13 = true ∧ mjIn i (mjLay a).2 = true then some (pc + 1, L, .int (M.1 a (mjIx i)) :: r, M) else none
  | _ => none
def mjLal (pc n : Nat) (L : mjLs) (st : List Value) (M : mjMem) : mjO := match st with
  | .int i :: .ref a :: r => if mjIs a n 14 = true ∧ mjIn i (mjLay a).2 = true then some (pc + 1, L, .long (M.2.1 a (mjIx i)) :: r, M) else none
  | _ => none
def mjBal (pc n : Nat) (L : mjLs) (st : List Value) (M : mjMem) : mjO := match st with
  | .int i :: .ref a :: r => if mjSbd a = true then (if mjIn i (mjTx0 (a - 1100000)).length = true then some (pc + 1, L, .int ((mjTx0 (a - 1100000)).getD (mjIx i) 0) :: r, M) else none) else if mjIs a n 15 = true ∧ mjIn i (mjLay a).2 = true then some (pc + 1, L, .int (M.1 a (mjIx i)) :: r, M) else none
  | _ => none
def mjAal (pc n : Nat) (L : mjLs) (st : List Value) (M : mjMem) : mjO := match st with
  | .int i :: .ref a :: r => if (mjIs a n 16 = true ∨ mjIs a n 17 = true) ∧ mjIn i (mjLay a).2 = true then some (pc + 1, L, va_rf (M.2.2 a (mjIx i)) :: r, M) else none
  | _ => none
def mjIas (pc n : Nat) (L : mjLs) (st : List Value) (M : mjMem) : mjO := match st with
  | .int x :: .int i :: .ref a :: r => if mjIs a n 13 = true ∧ mjIn i (mjLay a).2 = true then some (pc + 1, L, r, mjSi M a (mjIx i) x) else none
  | _ => none
def mjLas (pc n : Nat) (L : mjLs) (st : List Value) (M : mjMem) : mjO := match st with
  | .long x :: .int i :: .ref a :: r => if mjIs a n 14 = true ∧ mjIn i (mjLay a).2 = true then some (pc + 1, L, r, mjSl M a (mjIx i) x) else none
  | _ => none
def mjBas (pc n : Nat) (L : mjLs) (st : List Value) (M : mjMem) : mjO := match st with
  | .int x :: .int i :: .ref a :: r => if mjIs a n 15 = true ∧ mjIn i (mjLay a).2 = true ∧ (x = 0 ∨ x = 1) then some (pc + 1, L, r, mjSi M a (mjIx i) x) else none
  | _ => none
def mjAas (pc n : Nat) (L : mjLs) (st : List Value) (M : mjMem) : mjO := match st with
  | .ref b :: .int i :: .ref a :: r => if ((mjIs a n 16 = true ∧ mjIs b n 7 = true) ∨ (mjIs a n 17 = true ∧ mjIs b n 0 = true)) ∧ mjIn i (mjLay a).2 = true then some (pc + 1, L, r, mjSr M a (mjIx i) (some b)) else none
  | _ => none
def mjLen (pc n : Nat) (L : mjLs) (st : List Value) (M : mjMem) : mjO := match st with
  | .ref a :: r => if a = 2000000 then some (pc + 1, L, .int (M.1 2000001 0) :: r, M) else if mjSbd a = true then some (pc + 1, L, .int (Int32.ofNat (mjTx0 (a - 1100000)).length) :: r, M) else if a < n ∧ 13 ≤ (mjLay a).1 ∧ (mjLay a).1 < 18 then some (pc + 1, L, .int (Int32.ofNat (mjLay a).2) :: r, M) else none
  | _ => none
def mjCs (own ix : Nat) : Option Value := match (mjCsL.getD own []).find? (fun q => q.1 == ix) with
  | some q => some q.2.1
  | none => none
def mjOne : Value → Bool
  | .int _ => true
  | .ref _ => true
  | .null => true
  | _ => false
def mjDup (pc : Nat) (L : mjLs) (st : List Value) (M : mjMem) : mjO := match st with
  | v :: r => if mjOne v = true then some (pc + 1, L, v :: v :: r, M) else none
  | _ => none
def mjDup2 (pc : Nat) (L : mjLs) (st : List Value) (M : mjMem) : mjO := match st with
  | .long x :: r => some (pc + 1, L, .long x :: .long x :: r, M)
  | v :: w :: r => if mjOne v = true ∧ mjOne w = true then some (pc + 1, L, v :: w :: v :: w :: r, M) else none
  | _ => none
def mjPop (pc : Nat) (L : mjLs) (st : List Value) (M : mjMem) : mjO := match st with
  | v :: r => if mjOne v = true then some (pc + 1, L, r, M) else none
  | _ => none
def mjTsw (d lo hi : Int) (offs : Array Int) (pc : Nat) (L : mjLs) (st : List Value) (M : mjMem) : mjO := match st with
  | .int x :: r => if x.toInt < lo ∨ hi < x.toInt then (match mjJ pc d with | some t => some (t, L, r, M) | none => none)
    else match offs[(x.toInt - lo).toNat]? with
      | some o => (match mjJ pc o with | some t => some (t, L, r, M) | none => none)
      | none => none
  | _ => none
def mjLsw (d : Int) (ps : Array (Int × Int)) (pc : Nat) (L : mjLs) (st : List Value) (M : mjMem) : mjO := match st with
  | .int x :: r => if (ps.toList.zip (ps.toList.drop 1)).all (fun (a, next) => a.1 < next.1) = true then (match mjJ pc (Op.lookupswitch.offset ps.toList d x.toInt) with | some t => some (t, L, r, M) | none => none) else none
  | _ => none
def mjIinc (j : Nat) (c : Int) (pc : Nat) (L : mjLs) (st : List Value) (M : mjMem) : mjO := match mjLd L j with
  | some (.int x) => some (pc + 3, mjSet1 L j (.int (x + Int32.ofInt c)), st, M)
  | _ => none
def mjLdc (own ix pc : Nat) (L : mjLs) (st : List Value) (M : mjMem) : mjO := match mjCs own ix with
  | some (.int x) => some (pc + 2, L, .int x :: st, M)
  | some (.ref x) => some (pc + 2, L, .ref x :: st, M)
  | _ => none
def mjLdcw (own ix pc : Nat) (L : mjLs) (st : List Value) (M : mjMem) : mjO := match mjCs own ix with
  | some (.int x) => some (pc + 3, L, .int x :: st, M)
  | _ => none
def mjLdc2 (own ix pc : Nat) (L : mjLs) (st : List Value) (M : mjMem) : mjO := match mjCs own ix with
  | some (.long x) => some (pc + 3, L, .long x :: st, M)
  | _ => none
/-- lengths of instructions -/
def mjLn : Instr → Nat → Bool
  | .tableswitch _ _ _ _, _ => true
  | .lookupswitch _ _, _ => true
  | .aload _, n => n == 2
  | .iload _, n => n == 2
  | .lload _, n => n == 2
  | .astore _, n => n == 2
  | .istore _, n => n == 2
  | .lstore _, n => n == 2
  | .bipush _, n => n == 2
  | .ldc _, n => n == 2
  | .newarray _, n => n == 2
  | .sipush _, n => n == 3
  | .ldc_w _, n => n == 3
  | .ldc2_w _, n => n == 3
  | .getfield _, n => n == 3
  | .putfield _, n => n == 3
  | .getstatic _, n => n == 3
  | .ifCond _ _, n => n == 3
  | .if_icmp _ _, n => n == 3
  | .goto _, n => n == 3
  | .iinc _ _, n => n == 3
  | .new _, n => n == 3
  | .anewarray _, n => n == 3
  | .invokevirtual _, n => n == 3
  | .invokestatic _, n => n == 3
  | .invokespecial _, n => n == 3
  | _, n => n == 1
/-- one instruction that neither makes a cell nor calls nor returns -/
def mjStp (k : Nat) (i : Instr) (pc n : Nat) (L : mjLs) (st : List Value) (M : mjMem) : mjO := match i with
  | .aload j => mjLoadA L j (pc + 2) st M
  | .aload_n j => mjLoadA L j (pc + 1) st M
  | .iload j => mjLoadI L j (pc + 2) st M
  | .iload_n j => mjLoadI L j (pc + 1) st M
  | .lload j => mjLoadL L j (pc + 2) st M
  | .lload_n j => mjLoadL L j (pc + 1) st M
  | .astore j => mjStoA L j (pc + 2) st M
  | .astore_n j => mjStoA L j (pc + 1) st M
  | .istore j => mjStoI L j (pc + 2) st M
  | .istore_n j => mjStoI L j (pc + 1) st M
  | .lstore j => mjStoL L j (pc + 2) st M
  | .lstore_n j => mjStoL L j (pc + 1) st M
  | .iconst v => some (pc + 1, L, .int (Int32.ofInt v) :: st, M)
  | .bipush v => some (pc + 2, L, .int (Int8.ofInt v).toInt32 :: st, M)
  | .sipush v => some (pc + 3, L, .int (Int16.ofInt v).toInt32 :: st, M)
  | .lconst v => some (pc + 1, L, .long (Int64.ofNat (v : Nat)) :: st, M)
  | .ldc ix => mjLdc (mjCls k) ix pc L st M
  | .ldc_w ix => mjLdcw (mjCls k) ix pc L st M
  | .ldc2_w ix => mjLdc2 (mjCls k) ix pc L st M
  | .iadd => mjII (fun x y => .int (x + y)) (pc + 1) L st M
  | .isub => mjII (fun x y => .int (x - y)) (pc + 1) L st M
  | .imul => mjII (fun x y => .int (x * y)) (pc + 1) L st M
  | .iand => mjII (fun x y => .int (x &&& y)) (pc + 1) L st M
  | .ior => mjII (fun x y => .int (x ||| y)) (pc + 1) L st M
  | .ixor => mjII (fun x y => .int (x ^^^ y)) (pc + 1) L st M
  | .ishl => mjII (fun x y => .int (x <<< (y &&& 31))) (pc + 1) L st M
  | .ishr => mjII (fun x y => .int (x >>> (y &&& 31))) (pc + 1) L st M
  | .iushr => mjII (fun x y => .int (x.toUInt32 >>> (y.toUInt32 &&& Int32.toUInt32 31)).toInt32) (pc + 1) L st M
  | .idiv => (match st with
    | .int y :: .int x :: r => if y = 0 then none else some (pc + 1, L, .int (x / y) :: r, M)
    | _ => none)
  | .ineg => mjI1 (fun x => .int (-x)) (pc + 1) L st M
  | .i2l => mjI1 (fun x => .long x.toInt64) (pc + 1) L st M
  | .i2b => mjI1 (fun x => .int x.toInt8.toInt32) (pc + 1) L st M
  | .getstatic ix => mjGst (mjCls k) ix pc L st M
  | .i2c => mjI1 (fun x => .int (x.toUInt32 % 65536).toInt32) (pc + 1) L st M
  | .l2i => (match st with
    | .long x :: r => some (pc + 1, L, .int x.toInt32 :: r, M)
    | _ => none)
  | .ladd => mjLL (fun x y => .long (x + y)) (pc + 1) L st M
  | .lsub => mjLL (fun x y => .long (x - y)) (pc + 1) L st M
  | .lmul => mjLL (fun x y => .long (x * y)) (pc + 1) L st M
  | .land => mjLL (fun x y => .long (x &&& y)) (pc + 1) L st M
  | .lor => mjLL (fun x y => .long (x ||| y)) (pc + 1) L st M
  | .lxor => mjLL (fun x y => .long (x ^^^ y)) (pc + 1) L st M
  | .lcmp => mjLL (fun x y => .int (lg_cmp x y)) (pc + 1) L st M
  | .lshl => mjLI (fun x y => .long (x <<< (y.toInt64 &&& 63))) (pc + 1) L st M
  | .lshr => mjLI (fun x y => .long (x >>> (y.toInt64 &&& 63))) (pc + 1) L st M
  | .lushr => mjLI (fun x y => .long (x.toUInt64 >>> (y.toInt64.toUInt64 &&& Int64.toUInt64 63)).toInt64) (pc + 1) L st M
  | .ifCond c off => mjIf c off pc L st M
  | .if_icmp c off => mjIcmp c off pc L st M
  | .goto off => (match mjJ pc off with | some t => some (t, L, st, M) | none => none)
  | .tableswitch d lo hi offs => mjTsw d lo hi offs pc L st M
  | .lookupswitch d ps => mjLsw d ps pc L st M
  | .iinc j c => mjIinc j c pc L st M
  | .dup => mjDup pc L st M
  | .dup2 => mjDup2 pc L st M
  | .pop => mjPop pc L st M
  | .getfield ix => mjGet (mjCls k) ix pc n L st M
  | .putfield ix => mjPut k (mjCls k) ix pc n L st M
  | .iaload => mjIal pc n L st M
  | .laload => mjLal pc n L st M
  | .baload => mjBal pc n L st M
  | .aaload => mjAal pc n L st M
  | .iastore => mjIas pc n L st M
  | .lastore => mjLas pc n L st M
  | .bastore => mjBas pc n L st M
  | .aastore => mjAas pc n L st M
  | .arraylength => mjLen pc n L st M
  | _ => none
/-- one that makes a cell -/
def mjNwF (own ix : Nat) : Option Nat := match (mjNwL.getD own []).find? (fun q => q.1 == ix) with
  | some q => some q.2.1
  | none => none
def mjNwA (pc n : Nat) (t w : Nat) (L : mjLs) (st : List Value) (M : mjMem) : mjO := match st with
  | .int x :: r => if 0 ≤ x.toInt ∧ mjLay n = (t, x.toInt.toNat) ∧ x.toInt ≤ 100000 then some (pc + w, L, .ref n :: r, mjZr M n) else none
  | _ => none
def mjNew (k : Nat) (i : Instr) (pc n : Nat) (L : mjLs) (st : List Value) (M : mjMem) : mjO := match i with
  | .new ix => (match mjNwF (mjCls k) ix with
    | some ci => if mjLay n = (ci, 0) then some (pc + 3, L, .ref n :: st, mjZr M n) else none
    | none => none)
  | .newarray .int => mjNwA pc n 13 2 L st M
  | .newarray .long => mjNwA pc n 14 2 L st M
  | .newarray .boolean => mjNwA pc n 15 2 L st M
  | .anewarray ix => (match mjNwF (mjCls k) ix with
    | some 7 => mjNwA pc n 16 3 L st M
    | some 0 => mjNwA pc n 17 3 L st M
    | _ => none)
  | _ => none
/-- returns -/
def mjRet (k : Nat) (i : Instr) (st : List Value) : Option (Option Value) := match i with
  | .return_ => (match st, mjRt k with
    | [], none => some none
    | _, _ => none)
  | .ireturn => (match st, mjRt k with
    | [.int x], some .int => some (some (.int x))
    | [.int x], some .boolean => if x = 0 ∨ x = 1 then some (some (.int x)) else none
    | [.int x], some .byte => if x.toInt8.toInt32 = x then some (some (.int x)) else none
    | [.int x], some .char => if x.toUInt32.toUInt16.toUInt32.toInt32 = x then some (some (.int x)) else none
    | _, _ => none)
  | .lreturn => (match st, mjRt k with
    | [.long x], some .long => some (some (.long x))
    | _, _ => none)
  | .areturn => (match st, mjRt k with
    | [.ref x], some (.object _) => some (some (.ref x))
    | _, _ => none)
  | _ => none
/-- calls: which method -/
def mjMlF (own ix : Nat) : Option (Nat × Nat) := match (mjMLk.getD own []).find? (fun q => q.1 == ix) with
  | some q => some (q.2.1, q.2.2.1)
  | none => none
/-- the locals at a method's start -/
def mjEnt : List Value → Nat → mjLs
  | [], n => List.replicate n none
  | .long x :: r, n => some (.long x) :: none :: mjEnt r (n - 2)
  | v :: r, n => some v :: mjEnt r (n - 1)
def mjW2 : List Value → Nat
  | [] => 0
  | .long _ :: r => 2 + mjW2 r
  | _ :: r => 1 + mjW2 r
/-- what the library's own members answer -/
def mjPrim (q : Nat) (As : List Value) : Option (Option Value) := match q, As with
  | 1003, [.int x, .int y] => some (some (.int (if x < y then y else x)))
  | 1004, [.int x, .int y] => some (some (.int (if y < x then y else x)))
  | _, _ => none
def mjPa (_ : Nat) : Nat := 2
def mjLook : List (Nat × Instr × Nat) → Nat → Option (Instr × Nat)
  | [], _ => none
  | (q, i, n) :: r, pc => if q = pc then some (i, n) else mjLook r pc
def mjVok : Value → Bool
  | .int _ => true
  | .long _ => true
  | .ref _ => true
  | .null => true
  | _ => false
/-- the calling conventions: 0 virtual, 1 static, 2 special -/
def mjCv : Instr → Option (Nat × Nat)
  | .invokevirtual ix => some (0, ix)
  | .invokestatic ix => some (1, ix)
  | .invokespecial ix => some (2, ix)
  | _ => none
def mjCallOk (k k2 kd nest : Nat) (As rest : List Value) : Bool :=
  decide (k2 < 339) && decide (mjKd k2 = kd) && decide (mjRk k2 < mjRk k) && decide (As.length = (if kd = 1 then mjNa k2 else mjNa k2 + 1)) && As.all mjVok && decide ((rest.map Value.category).sum ≤ 8) && decide (mjW2 As ≤ mjML k2) && decide (nest = 0 ∨ (nest = 1 ∧ ¬ kd = 0))
def mjRcv (n k2 kd : Nat) (As : List Value) : Bool := match kd, As with
  | 1, _ => true
  | 0, .ref a :: _ => (mjIs a n (mjCls k2) && decide (mjCls k2 < 13)) || (mjCls k2 == 18 && mjSid a)
  | 2, .ref a :: _ => true
  | _, _ => false
/-- how many a call pops -/
def mjNp (k2 kd : Nat) : Nat := if k2 = 999 then 1 else if 1000 ≤ k2 then mjPa k2 else if kd = 1 then mjNa k2 else mjNa k2 + 1
def mjCallQ (k k2 kd nest n : Nat) (As rest : List Value) : Bool :=
  if k2 = 999 then kd == 2 && mjKd k == 2 && decide (1 ≤ mjRk k) && decide ((rest.map Value.category).sum ≤ 8) && (match As with | [.ref _] => true | _ => false) && decide (¬ nest = 1)
  else if 1000 ≤ k2 then kd == 1 && decide ((rest.map Value.category).sum ≤ 8) && decide (1 ≤ mjRk k) && decide (¬ nest = 1)
  else mjCallOk k k2 kd nest As rest && mjRcv n k2 kd As
def mjCall (k : Nat) (i : Instr) (n : Nat) (st : List Value) : Option (Nat × List Value × List Value) := match mjCv i with
  | none => none
  | some (kd, ix) => match mjMlF (mjCls k) ix with
    | none => none
    | some (k2, nest) => if mjCallQ k k2 kd nest n (st.take (mjNp k2 kd)).reverse (st.drop (mjNp k2 kd)) = true then some (k2, (st.take (mjNp k2 kd)).reverse, st.drop (mjNp k2 kd)) else none
def mjRun : Nat → Nat → Nat → mjLs → List Value → Nat → mjMem → Option (Option Value × Nat × mjMem)
  | 0, _, _, _, _, _, _ => none
  | fuel + 1, k, pc, L, st, n, M => match mjLook (mjCode k) pc with
    | none => none
    | some (i, len) => if mjLn i len = true then (match mjRet k i st with
      | some r => some (r, n, M)
      | none => match mjStp k i pc n L st M with
        | some (pc1, L1, st1, M1) => mjRun fuel k pc1 L1 st1 n M1
        | none => match mjNew k i pc n L st M with
          | some (pc1, L1, st1, M1) => mjRun fuel k pc1 L1 st1 (n + 1) M1
          | none => match mjCall k i n st with
            | none => none
            | some (k2, As, rest) => if k2 = 999 then mjRun fuel k (pc + 3) L rest n M
              else if 1000 ≤ k2 then (match mjPrim k2 As with
                | some (some v) => mjRun fuel k (pc + 3) L (v :: rest) n M
                | _ => none)
              else match mjRun fuel k2 0 (mjEnt As (mjML k2)) [] n M with
                | some (r, n1, M1) => mjRun fuel k (pc + 3) L (r.toList ++ rest) n1 M1
                | none => none) else none
