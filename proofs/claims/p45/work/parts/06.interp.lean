/-! THE SMALL INTERPRETER of the methods' bytecode over a typed memory: ints, longs, references, and of each object its kind and length; the object made as the n-th has the number sg n. Kinds: below 100 a class (its place in mjCl), 113 int[], 114 long[], 115 boolean[], 116 Team[], 117 Act[], 118 byte[], 119 Object[], 120 String[]. -/
def mjSi (M : mjMem) (a k : Nat) (v : Int32) : mjMem := (fun i j => if i = a then (if j = k then v else M.1 i j) else M.1 i j, M.2)
def mjSl (M : mjMem) (a k : Nat) (v : Int64) : mjMem := (M.1, fun i j => if i = a then (if j = k then v else M.2.1 i j) else M.2.1 i j, M.2.2)
def mjSr (M : mjMem) (a k : Nat) (v : Option Nat) : mjMem := (M.1, M.2.1, fun i j => if i = a then (if j = k then v else M.2.2.1 i j) else M.2.2.1 i j, M.2.2.2)
/-- a fresh object of zeros -/
def mjZr (M : mjMem) (a : Nat) (q : Nat × Nat) : mjMem := (fun i j => if i = a then 0 else M.1 i j, fun i j => if i = a then 0 else M.2.1 i j, fun i j => if i = a then none else M.2.2.1 i j, fun i => if i = a then q else M.2.2.2 i)
/-- a run of bytes copied -/
def mjCp (M : mjMem) (f : Nat → Int32) (a sp dp n : Nat) : mjMem := (fun i j => if i = a then va_cpy f (M.1 a) sp dp n j else M.1 i j, M.2)
/-- jumps -/
def mjJ (pc : Nat) (off : Int) : Option Nat := if 0 ≤ (pc : Int) + off then some ((pc : Int) + off).toNat else none
def mjK1 : Option Value → Option Value
  | some (.long _) => none
  | some (.double _) => none
  | x => x
def mjSet1 : mjLs → Nat → Value → mjLs
  | [], _, _ => []
  | _ :: r, 0, v => some v :: r
  | x :: r, 1, v => mjK1 x :: mjSet1 r 0 v
  | x :: r, j + 2, v => x :: mjSet1 r (j + 1) v
def mjSet2 : mjLs → Nat → Value → mjLs
  | [], _, _ => []
  | _ :: [], 0, v => [some v]
  | _ :: _ :: r, 0, v => some v :: none :: r
  | x :: r, 1, v => mjK1 x :: mjSet2 r 0 v
  | x :: r, j + 2, v => x :: mjSet2 r (j + 1) v
def mjLd (L : mjLs) (j : Nat) : Option Value := L.getD j none
abbrev mjO : Type := Option (Nat × mjLs × List Value × mjMem)
def mjLoadI (L : mjLs) (j pc : Nat) (st : List Value) (M : mjMem) : mjO := match mjLd L j with
  | some (.int x) => some (pc, L, .int x :: st, M)
  | _ => none
def mjLoadL (L : mjLs) (j pc : Nat) (st : List Value) (M : mjMem) : mjO := match mjLd L j with
  | some (.long x) => some (pc, L, .long x :: st, M)
  | _ => none
def mjLoadA (L : mjLs) (j pc : Nat) (st : List Value) (M : mjMem) : mjO := match mjLd L j with
  | some (.ref x) => some (pc, L, .ref x :: st, M)
  | some .null => some (pc, L, .null :: st, M)
  | _ => none
def mjStoI (L : mjLs) (j pc : Nat) (st : List Value) (M : mjMem) : mjO := match st with
  | .int x :: r => if j < L.length then some (pc, mjSet1 L j (.int x), r, M) else none
  | _ => none
def mjStoL (L : mjLs) (j pc : Nat) (st : List Value) (M : mjMem) : mjO := match st with
  | .long x :: r => if j + 1 < L.length then some (pc, mjSet2 L j (.long x), r, M) else none
  | _ => none
def mjStoA (L : mjLs) (j pc : Nat) (st : List Value) (M : mjMem) : mjO := match st with
  | .ref x :: r => if j < L.length then some (pc, mjSet1 L j (.ref x), r, M) else none
  | _ => none
def mjII (f : Int32 → Int32 → Value) (pc : Nat) (L : mjLs) (st : List Value) (M : mjMem) : mjO := match st with
  | .int y :: .int x :: r => some (pc, L, f x y :: r, M)
  | _ => none
def mjLL (f : Int64 → Int64 → Value) (pc : Nat) (L : mjLs) (st : List Value) (M : mjMem) : mjO := match st with
  | .long y :: .long x :: r => some (pc, L, f x y :: r, M)
  | _ => none
def mjLI (f : Int64 → Int32 → Value) (pc : Nat) (L : mjLs) (st : List Value) (M : mjMem) : mjO := match st with
  | .int y :: .long x :: r => some (pc, L, f x y :: r, M)
  | _ => none
def mjI1 (f : Int32 → Value) (pc : Nat) (L : mjLs) (st : List Value) (M : mjMem) : mjO := match st with
  | .int x :: r => some (pc, L, f x :: r, M)
  | _ => none
/-- a branch: where it goes, if so -/
def mjBr (b : Bool) (pc : Nat) (off : Int) (L : mjLs) (r : List Value) (M : mjMem) : mjO := match mjJ pc off with
  | some t => some (if b = true then t else pc + 3, L, r, M)
  | none => none
def mjCmp (c : ClassFile.Cond) (x y : Int32) : Bool := match c with
  | .eq => decide (x = y)
  | .ne => decide (x ≠ y)
  | .lt => decide (x < y)
  | .ge => decide (y ≤ x)
  | .gt => decide (y < x)
  | .le => decide (x ≤ y)
def mjIf (c : ClassFile.Cond) (off : Int) (pc : Nat) (L : mjLs) (st : List Value) (M : mjMem) : mjO := match st with
  | .int x :: r => mjBr (mjCmp c x 0) pc off L r M
  | _ => none
def mjIcmp (c : ClassFile.Cond) (off : Int) (pc : Nat) (L : mjLs) (st : List Value) (M : mjMem) : mjO := match st with
  | .int y :: .int x :: r => mjBr (mjCmp c x y) pc off L r M
  | _ => none
/-- an object of class c, an array of kind t -/
def mjKs (M : mjMem) (a c : Nat) : Bool := (M.2.2.2 a).1 == c
def mjAl (M : mjMem) (a : Nat) : Nat := (M.2.2.2 a).2
/-- a method of the class writes the class's objects alone -/
def mjWr (k a : Nat) : Bool := decide (mjKC ≤ k ∨ a < 211)
/-- what was there before: the text i of the string constants is the object 1000000 + i, its bytes are the array 1100000 + i; 1300000 the names of the facts, 1300001 and 1300002 the digits, 1300003 the empty row, 1300004 the cache of Integers, 1400000 + i its elements; 2000000 the script -/
def mjTx0 (i : Nat) : List Int32 := if i = 200001 then mjOnL else if i = 200002 then mjTeL else mjTxL.getD i []
def mjSid (a : Nat) : Bool := decide (1000000 ≤ a ∧ a < 1000059)
def mjSbd (a : Nat) : Bool := decide ((1100000 ≤ a ∧ a < 1100059) ∨ a = 1300001 ∨ a = 1300002)
def mjIcd (a : Nat) : Bool := decide (1400000 ≤ a ∧ a < 1400256)
def mjSrd (a : Nat) : Option Nat := if a = 1300000 then some 11 else if a = 1300003 then some 0 else if a = 1300004 then some 256 else none
def mjSre (a i : Nat) : Nat := if a = 1300000 then mjFxL.getD i 0 else 1400000 + i
def mjSt (own ix : Nat) : Option Nat := match mjStL.find? (fun q => q.1 == own && q.2.1 == ix) with
  | some q => some q.2.2.1
  | none => none
def mjGst (own ix pc : Nat) (L : mjLs) (st : List Value) (M : mjMem) : mjO := match mjSt own ix with
  | some 0 => some (pc + 3, L, .int 1 :: st, M)
  | some 1 => if M.1 2000001 1 = 0 then some (pc + 3, L, .null :: st, M) else some (pc + 3, L, .ref 1200000 :: st, M)
  | some 2 => some (pc + 3, L, .ref 1300003 :: st, M)
  | some 3 => some (pc + 3, L, .ref 1300001 :: st, M)
  | some 4 => some (pc + 3, L, .ref 1300002 :: st, M)
  | some 5 => some (pc + 3, L, .int 127 :: st, M)
  | some 6 => some (pc + 3, L, .ref 1300004 :: st, M)
  | some 7 => some (pc + 3, L, .ref 1300000 :: st, M)
  | _ => none
def mjGet (own ix pc : Nat) (L : mjLs) (st : List Value) (M : mjMem) : mjO := match mjFld own ix with
  | none => none
  | some (ci, k) => match st with
    | .ref a :: r => if mjKs M a ci = true then some (pc + 3, L, (match mjFk ci k with | 1 => Value.long (M.2.1 a k) | 2 => va_rf (M.2.2.1 a k) | _ => Value.int (M.1 a k)) :: r, M)
      else if ci = 18 ∧ mjSid a = true then (if k = 0 then some (pc + 3, L, .ref (a + 100000) :: r, M) else if k = 1 then some (pc + 3, L, .int 0 :: r, M) else none)
      else if ci = 17 ∧ mjIcd a = true ∧ k = 0 then some (pc + 3, L, .int (vb_c (a - 1400000)) :: r, M) else none
    | _ => none
def mjPutI (kd : Nat) (x : Int32) : Bool := if kd = 3 ∨ kd = 4 then decide (x = 0 ∨ x = 1) else kd == 0
def mjPut (k own ix pc : Nat) (L : mjLs) (st : List Value) (M : mjMem) : mjO := match mjFld own ix with
  | none => none
  | some (ci, f) => if (mjTx ci f).2.2.2 = true ∧ ¬ (mjKd k = 2 ∧ ci = own) then none else match st with
    | .int x :: .ref a :: r => if mjKs M a ci = true ∧ mjPutI (mjFk ci f) x = true ∧ mjWr k a = true then some (pc + 3, L, r, mjSi M a f x) else none
    | .long x :: .ref a :: r => if mjKs M a ci = true ∧ mjFk ci f = 1 ∧ mjWr k a = true then some (pc + 3, L, r, mjSl M a f x) else none
    | .ref b :: .ref a :: r => if mjKs M a ci = true ∧ mjFk ci f = 2 ∧ mjWr k a = true then some (pc + 3, L, r, mjSr M a f (some b)) else none
    | .null :: .ref a :: r => if mjKs M a ci = true ∧ mjFk ci f = 2 ∧ mjWr k a = true then some (pc + 3, L, r, mjSr M a f none) else none
    | _ => none
def mjIn (i : Int32) (len : Nat) : Bool := decide (0 ≤ i.toInt ∧ i.toInt < (len : Int))
def mjIx (i : Int32) : Nat := i.toInt.toNat
def mjIal (pc : Nat) (L : mjLs) (st : List Value) (M : mjMem) : mjO := match st with
  | .int i :: .ref a :: r => if a = 2000000 then (if 0 ≤ i.toInt ∧ i.toInt < (M.1 2000001 0).toInt then some (pc + 1, L, .int (M.1 2000000 (mjIx i)) :: r, M) else none)
    else if mjKs M a 113 = true ∧ mjIn i (mjAl M a) = true then some (pc + 1, L, .int (M.1 a (mjIx i)) :: r, M) else none
  | _ => none
def mjLal (pc : Nat) (L : mjLs) (st : List Value) (M : mjMem) : mjO := match st with
  | .int i :: .ref a :: r => if mjKs M a 114 = true ∧ mjIn i (mjAl M a) = true then some (pc + 1, L, .long (M.2.1 a (mjIx i)) :: r, M) else none
  | _ => none
def mjBal (pc : Nat) (L : mjLs) (st : List Value) (M : mjMem) : mjO := match st with
  | .int i :: .ref a :: r => if mjSbd a = true then (if mjIn i (mjTx0 (a - 1100000)).length = true then some (pc + 1, L, .int ((mjTx0 (a - 1100000)).getD (mjIx i) 0) :: r, M) else none)
    else if (mjKs M a 115 = true ∨ mjKs M a 118 = true) ∧ mjIn i (mjAl M a) = true then some (pc + 1, L, .int (M.1 a (mjIx i)) :: r, M) else none
  | _ => none
def mjAal (pc : Nat) (L : mjLs) (st : List Value) (M : mjMem) : mjO := match st with
  | .int i :: .ref a :: r => (match mjSrd a with
    | some w => if mjIn i w = true then some (pc + 1, L, .ref (mjSre a (mjIx i)) :: r, M) else none
    | none => if (mjKs M a 116 = true ∨ mjKs M a 117 = true ∨ mjKs M a 119 = true ∨ mjKs M a 120 = true) ∧ mjIn i (mjAl M a) = true then some (pc + 1, L, va_rf (M.2.2.1 a (mjIx i)) :: r, M) else none)
  | _ => none
def mjIas (k pc : Nat) (L : mjLs) (st : List Value) (M : mjMem) : mjO := match st with
  | .int x :: .int i :: .ref a :: r => if mjKs M a 113 = true ∧ mjIn i (mjAl M a) = true ∧ mjWr k a = true then some (pc + 1, L, r, mjSi M a (mjIx i) x) else none
  | _ => none
def mjLas (k pc : Nat) (L : mjLs) (st : List Value) (M : mjMem) : mjO := match st with
  | .long x :: .int i :: .ref a :: r => if mjKs M a 114 = true ∧ mjIn i (mjAl M a) = true ∧ mjWr k a = true then some (pc + 1, L, r, mjSl M a (mjIx i) x) else none
  | _ => none
def mjBas (k pc : Nat) (L : mjLs) (st : List Value) (M : mjMem) : mjO := match st with
  | .int x :: .int i :: .ref a :: r => if mjKs M a 115 = true ∧ mjIn i (mjAl M a) = true ∧ (x = 0 ∨ x = 1) ∧ mjWr k a = true then some (pc + 1, L, r, mjSi M a (mjIx i) x)
    else if mjKs M a 118 = true ∧ mjIn i (mjAl M a) = true ∧ mjWr k a = true then some (pc + 1, L, r, mjSi M a (mjIx i) (vp_nar .byte x)) else none
  | _ => none
/-- what may lie in a row of references -/
def mjAok (M : mjMem) (a b : Nat) : Bool := (mjKs M a 116 && mjKs M b 7) || (mjKs M a 117 && mjKs M b 0) || (mjKs M a 119 && (mjKs M b 12 || mjKs M b 15 || mjKs M b 20 || mjKs M b 113 || mjIcd b)) || (mjKs M a 120 && mjSid b)
def mjAas (k pc : Nat) (L : mjLs) (st : List Value) (M : mjMem) : mjO := match st with
  | .ref b :: .int i :: .ref a :: r => if mjAok M a b = true ∧ mjIn i (mjAl M a) = true ∧ mjWr k a = true then some (pc + 1, L, r, mjSr M a (mjIx i) (some b)) else none
  | _ => none
def mjLen (pc : Nat) (L : mjLs) (st : List Value) (M : mjMem) : mjO := match st with
  | .ref a :: r => if a = 2000000 then some (pc + 1, L, .int (M.1 2000001 0) :: r, M) else if mjSbd a = true then some (pc + 1, L, .int (Int32.ofNat (mjTx0 (a - 1100000)).length) :: r, M)
    else (match mjSrd a with
      | some w => some (pc + 1, L, .int (Int32.ofNat w) :: r, M)
      | none => if 113 ≤ (M.2.2.2 a).1 ∧ (M.2.2.2 a).1 < 121 then some (pc + 1, L, .int (Int32.ofNat (mjAl M a)) :: r, M) else none)
  | _ => none
def mjCs (own ix : Nat) : Option Value := match (mjCsL.getD own []).find? (fun q => q.1 == ix) with
  | some q => some q.2.1
  | none => none
def mjOne : Value → Bool
  | .int _ => true
  | .ref _ => true
  | .null => true
  | _ => false
def mjDup (pc : Nat) (L : mjLs) (st : List Value) (M : mjMem) : mjO := match st with
  | v :: r => if mjOne v = true then some (pc + 1, L, v :: v :: r, M) else none
  | _ => none
def mjDup2 (pc : Nat) (L : mjLs) (st : List Value) (M : mjMem) : mjO := match st with
  | .long x :: r => some (pc + 1, L, .long x :: .long x :: r, M)
  | v :: w :: r => if mjOne v = true ∧ mjOne w = true then some (pc + 1, L, v :: w :: v :: w :: r, M) else none
  | _ => none
def mjPop (pc : Nat) (L : mjLs) (st : List Value) (M : mjMem) : mjO := match st with
  | v :: r => if mjOne v = true then some (pc + 1, L, r, M) else none
  | _ => none
def mjTsw (d lo hi : Int) (offs : Array Int) (pc : Nat) (L : mjLs) (st : List Value) (M : mjMem) : mjO := match st with
  | .int x :: r => if x.toInt < lo ∨ hi < x.toInt then (match mjJ pc d with | some t => some (t, L, r, M) | none => none)
    else match offs[(x.toInt - lo).toNat]? with
      | some o => (match mjJ pc o with | some t => some (t, L, r, M) | none => none)
      | none => none
  | _ => none
def mjLsw (d : Int) (ps : Array (Int × Int)) (pc : Nat) (L : mjLs) (st : List Value) (M : mjMem) : mjO := match st with
  | .int x :: r => if (ps.toList.zip (ps.toList.drop 1)).all (fun (a, next) => a.1 < next.1) = true then (match mjJ pc (Op.lookupswitch.offset ps.toList d x.toInt) with | some t => some (t, L, r, M) | none => none) else none
  | _ => none
def mjIinc (j : Nat) (c : Int) (pc : Nat) (L : mjLs) (st : List Value) (M : mjMem) : mjO := match mjLd L j with
  | some (.int x) => some (pc + 3, mjSet1 L j (.int (x + Int32.ofInt c)), st, M)
  | _ => none
def mjLdc (own ix pc : Nat) (L : mjLs) (st : List Value) (M : mjMem) : mjO := match mjCs own ix with
  | some (.int x) => some (pc + 2, L, .int x :: st, M)
  | some (.ref x) => some (pc + 2, L, .ref x :: st, M)
  | _ => none
def mjLdcw (own ix pc : Nat) (L : mjLs) (st : List Value) (M : mjMem) : mjO := match mjCs own ix with
  | some (.int x) => some (pc + 3, L, .int x :: st, M)
  | _ => none
def mjLdc2 (own ix pc : Nat) (L : mjLs) (st : List Value) (M : mjMem) : mjO := match mjCs own ix with
  | some (.long x) => some (pc + 3, L, .long x :: st, M)
  | _ => none
def mjDupx (pc : Nat) (L : mjLs) (st : List Value) (M : mjMem) : mjO := match st with
  | v :: w :: r => if mjOne v = true ∧ mjOne w = true then some (pc + 1, L, v :: w :: v :: r, M) else none
  | _ => none
def mjNn (off : Int) (pc : Nat) (L : mjLs) (st : List Value) (M : mjMem) : mjO := match st with
  | .ref _ :: r => (match mjJ pc off with | some t => some (t, L, r, M) | none => none)
  | _ => none
/-- references are compared where they are one object -/
def mjAcm (c : ACond) (off : Int) (pc : Nat) (L : mjLs) (st : List Value) (M : mjMem) : mjO := match c, st with
  | .eq, .ref y :: .ref x :: r => if x = y then (match mjJ pc off with | some t => some (t, L, r, M) | none => none) else none
  | _, _ => none
def mjCkF (own ix : Nat) : Option Nat := match mjCkL.find? (fun q => q.1 == own && q.2.1 == ix) with
  | some q => some q.2.2.1
  | none => none
def mjCast (own ix pc : Nat) (L : mjLs) (st : List Value) (M : mjMem) : mjO := match st with
  | .ref a :: r => if (mjCkF own ix = some 0 ∧ mjIcd a = true) ∨ (mjCkF own ix = some 2 ∧ mjKs M a 19 = true) ∨ (mjCkF own ix = some 3 ∧ mjKs M a 20 = true) ∨ (mjCkF own ix = some 4 ∧ mjKs M a 118 = true) then some (pc + 3, L, .ref a :: r, M) else none
  | _ => none
def mjInst (own ix pc : Nat) (L : mjLs) (st : List Value) (M : mjMem) : mjO := match st with
  | .ref a :: r => if (mjCkF own ix = some 0 ∧ mjIcd a = true) ∨ (mjCkF own ix = some 2 ∧ mjKs M a 19 = true) then some (pc + 3, L, .int 1 :: r, M)
    else if mjCkF own ix = some 1 ∧ mjKs M a 19 = true then some (pc + 3, L, .int 0 :: r, M) else none
  | _ => none
/-- lengths of instructions -/
def mjLn : Instr → Nat → Bool
  | .tableswitch _ _ _ _, _ => true
  | .lookupswitch _ _, _ => true
  | .aload _, n => n == 2
  | .iload _, n => n == 2
  | .lload _, n => n == 2
  | .astore _, n => n == 2
  | .istore _, n => n == 2
  | .lstore _, n => n == 2
  | .bipush _, n => n == 2
  | .ldc _, n => n == 2
  | .newarray _, n => n == 2
  | .sipush _, n => n == 3
  | .ldc_w _, n => n == 3
  | .ldc2_w _, n => n == 3
  | .getfield _, n => n == 3
  | .putfield _, n => n == 3
  | .getstatic _, n => n == 3
  | .ifCond _ _, n => n == 3
  | .if_icmp _ _, n => n == 3
  | .goto _, n => n == 3
  | .iinc _ _, n => n == 3
  | .new _, n => n == 3
  | .anewarray _, n => n == 3
  | .invokevirtual _, n => n == 3
  | .invokestatic _, n => n == 3
  | .invokespecial _, n => n == 3
  | .ifnonnull _, n => n == 3
  | .if_acmp _ _, n => n == 3
  | .checkcast _, n => n == 3
  | .instanceof _, n => n == 3
  | .invokeinterface _ _, n => n == 5
  | _, n => n == 1
/-- one instruction that neither makes a cell nor calls nor returns -/
def mjStp (k : Nat) (i : Instr) (pc : Nat) (L : mjLs) (st : List Value) (M : mjMem) : mjO := match i with
  | .aload j => mjLoadA L j (pc + 2) st M
  | .aload_n j => mjLoadA L j (pc + 1) st M
  | .iload j => mjLoadI L j (pc + 2) st M
  | .iload_n j => mjLoadI L j (pc + 1) st M
  | .lload j => mjLoadL L j (pc + 2) st M
  | .lload_n j => mjLoadL L j (pc + 1) st M
  | .astore j => mjStoA L j (pc + 2) st M
  | .astore_n j => mjStoA L j (pc + 1) st M
  | .istore j => mjStoI L j (pc + 2) st M
  | .istore_n j => mjStoI L j (pc + 1) st M
  | .lstore j => mjStoL L j (pc + 2) st M
  | .lstore_n j => mjStoL L j (pc + 1) st M
  | .iconst v => some (pc + 1, L, .int (Int32.ofInt v) :: st, M)
  | .bipush v => some (pc + 2, L, .int (Int8.ofInt v).toInt32 :: st, M)
  | .sipush v => some (pc + 3, L, .int (Int16.ofInt v).toInt32 :: st, M)
  | .lconst v => some (pc + 1, L, .long (Int64.ofNat (v : Nat)) :: st, M)
  | .ldc ix => mjLdc (mjCls k) ix pc L st M
  | .ldc_w ix => mjLdcw (mjCls k) ix pc L st M
  | .ldc2_w ix => mjLdc2 (mjCls k) ix pc L st M
  | .iadd => mjII (fun x y => .int (x + y)) (pc + 1) L st M
  | .isub => mjII (fun x y => .int (x - y)) (pc + 1) L st M
  | .imul => mjII (fun x y => .int (x * y)) (pc + 1) L st M
  | .iand => mjII (fun x y => .int (x &&& y)) (pc + 1) L st M
  | .ior => mjII (fun x y => .int (x ||| y)) (pc + 1) L st M
  | .ixor => mjII (fun x y => .int (x ^^^ y)) (pc + 1) L st M
  | .ishl => mjII (fun x y => .int (x <<< (y &&& 31))) (pc + 1) L st M
  | .ishr => mjII (fun x y => .int (x >>> (y &&& 31))) (pc + 1) L st M
  | .iushr => mjII (fun x y => .int (x.toUInt32 >>> (y.toUInt32 &&& Int32.toUInt32 31)).toInt32) (pc + 1) L st M
  | .idiv => (match st with
    | .int y :: .int x :: r => if y = 0 then none else some (pc + 1, L, .int (x / y) :: r, M)
    | _ => none)
  | .ineg => mjI1 (fun x => .int (-x)) (pc + 1) L st M
  | .i2l => mjI1 (fun x => .long x.toInt64) (pc + 1) L st M
  | .i2b => mjI1 (fun x => .int x.toInt8.toInt32) (pc + 1) L st M
  | .getstatic ix => mjGst (mjCls k) ix pc L st M
  | .i2c => mjI1 (fun x => .int (x.toUInt32 % 65536).toInt32) (pc + 1) L st M
  | .l2i => (match st with
    | .long x :: r => some (pc + 1, L, .int x.toInt32 :: r, M)
    | _ => none)
  | .ladd => mjLL (fun x y => .long (x + y)) (pc + 1) L st M
  | .lsub => mjLL (fun x y => .long (x - y)) (pc + 1) L st M
  | .lmul => mjLL (fun x y => .long (x * y)) (pc + 1) L st M
  | .land => mjLL (fun x y => .long (x &&& y)) (pc + 1) L st M
  | .lor => mjLL (fun x y => .long (x ||| y)) (pc + 1) L st M
  | .lxor => mjLL (fun x y => .long (x ^^^ y)) (pc + 1) L st M
  | .lcmp => mjLL (fun x y => .int (lg_cmp x y)) (pc + 1) L st M
  | .lshl => mjLI (fun x y => .long (x <<< (y.toInt64 &&& 63))) (pc + 1) L st M
  | .lshr => mjLI (fun x y => .long (x >>> (y.toInt64 &&& 63))) (pc + 1) L st M
  | .lushr => mjLI (fun x y => .long (x.toUInt64 >>> (y.toInt64.toUInt64 &&& Int64.toUInt64 63)).toInt64) (pc + 1) L st M
  | .ifCond c off => mjIf c off pc L st M
  | .if_icmp c off => mjIcmp c off pc L st M
  | .goto off => (match mjJ pc off with | some t => some (t, L, st, M) | none => none)
  | .tableswitch d lo hi offs => mjTsw d lo hi offs pc L st M
  | .lookupswitch d ps => mjLsw d ps pc L st M
  | .iinc j c => mjIinc j c pc L st M
  | .dup => mjDup pc L st M
  | .dup2 => mjDup2 pc L st M
  | .pop => mjPop pc L st M
  | .getfield ix => mjGet (mjCls k) ix pc L st M
  | .putfield ix => mjPut k (mjCls k) ix pc L st M
  | .iaload => mjIal pc L st M
  | .laload => mjLal pc L st M
  | .baload => mjBal pc L st M
  | .aaload => mjAal pc L st M
  | .iastore => mjIas k pc L st M
  | .lastore => mjLas k pc L st M
  | .bastore => mjBas k pc L st M
  | .aastore => mjAas k pc L st M
  | .arraylength => mjLen pc L st M
  | .irem => (match st with
    | .int y :: .int x :: r => if y = 0 then none else some (pc + 1, L, .int (x - x / y * y) :: r, M)
    | _ => none)
  | .aconst_null => some (pc + 1, L, .null :: st, M)
  | .dup_x1 => mjDupx pc L st M
  | .ifnonnull off => mjNn off pc L st M
  | .if_acmp c off => mjAcm c off pc L st M
  | .checkcast ix => mjCast (mjCls k) ix pc L st M
  | .instanceof ix => mjInst (mjCls k) ix pc L st M
  | _ => none
/-- one that makes a cell: where it goes on, the stack, the cell's kind -/
def mjNwF (own ix : Nat) : Option Nat := match (mjNwL.getD own []).find? (fun q => q.1 == ix) with
  | some q => some q.2.1
  | none => none
def mjNaF (own ix : Nat) : Option Nat := match mjNaL.find? (fun q => q.1 == own && q.2.1 == ix) with
  | some q => some q.2.2.1
  | none => none
abbrev mjNo : Type := Option (Nat × List Value × (Nat × Nat))
def mjNwA (pc t w : Nat) (st : List Value) (a : Nat) : mjNo := match st with
  | .int x :: r => if 0 ≤ x.toInt ∧ x.toInt ≤ 100000 then some (pc + w, .ref a :: r, (t, x.toInt.toNat)) else none
  | _ => none
def mjNew (k : Nat) (i : Instr) (pc : Nat) (st : List Value) (a : Nat) : mjNo := match i with
  | .new ix => (match mjNwF (mjCls k) ix with
    | some ci => some (pc + 3, .ref a :: st, (ci, 0))
    | none => none)
  | .newarray .int => mjNwA pc 113 2 st a
  | .newarray .long => mjNwA pc 114 2 st a
  | .newarray .boolean => mjNwA pc 115 2 st a
  | .newarray .byte => mjNwA pc 118 2 st a
  | .anewarray ix => (match mjNaF (mjCls k) ix with
    | some t => mjNwA pc t 3 st a
    | none => none)
  | _ => none
/-- how many slots -/
def mjSzK (q : Nat × Nat) : Nat := if q.1 < 100 then mjNf q.1 else q.2
/-- returns -/
def mjRet (k : Nat) (i : Instr) (st : List Value) : Option (Option Value) := match i with
  | .return_ => (match st, mjRt k with
    | [], none => some none
    | _, _ => none)
  | .ireturn => (match st, mjRt k with
    | [.int x], some .int => some (some (.int x))
    | [.int x], some .boolean => if x = 0 ∨ x = 1 then some (some (.int x)) else none
    | [.int x], some .byte => if x.toInt8.toInt32 = x then some (some (.int x)) else none
    | [.int x], some .char => if x.toUInt32.toUInt16.toUInt32.toInt32 = x then some (some (.int x)) else none
    | _, _ => none)
  | .lreturn => (match st, mjRt k with
    | [.long x], some .long => some (some (.long x))
    | _, _ => none)
  | .areturn => (match st, mjRt k with
    | [.ref x], some (.object _) => some (some (.ref x))
    | [.ref x], some (.array _) => some (some (.ref x))
    | _, _ => none)
  | _ => none
/-- calls: which method, how, the receiver's class -/
def mjLkF (own ix : Nat) : Option (Nat × Nat × Nat) := match (mjLkL.getD own []).find? (fun q => q.1 == ix) with
  | some q => some (q.2.1, q.2.2.1, q.2.2.2.1)
  | none => none
/-- the locals at a method's start -/
def mjEnt : List Value → Nat → mjLs
  | [], n => List.replicate n none
  | .long x :: r, n => some (.long x) :: none :: mjEnt r (n - 2)
  | v :: r, n => some v :: mjEnt r (n - 1)
def mjW2 : List Value → Nat
  | [] => 0
  | .long _ :: r => 2 + mjW2 r
  | _ :: r => 1 + mjW2 r
/-- what the library's own members answer -/
def mjPrim (q : Nat) (As : List Value) : Option (Option Value) := match q, As with
  | 1003, [.int x, .int y] => some (some (.int (if x < y then y else x)))
  | 1004, [.int x, .int y] => some (some (.int (if y < x then y else x)))
  | _, _ => none
def mjLook : List (Nat × Instr × Nat) → Nat → Option (Instr × Nat)
  | [], _ => none
  | (q, i, n) :: r, pc => if q = pc then some (i, n) else mjLook r pc
def mjVok : Value → Bool
  | .int _ => true
  | .long _ => true
  | .ref _ => true
  | .null => true
  | _ => false
/-- System.arraycopy, of bytes -/
def mjFit (f : Nat → Int32) (sp n : Nat) : Bool := (List.range n).all fun i => fits .byte (.int (f (sp + i)))
def mjByt (M : mjMem) (a : Nat) : Option (Nat × (Nat → Int32)) := if mjSbd a = true then some ((mjTx0 (a - 1100000)).length, fun j => (mjTx0 (a - 1100000)).getD j 0) else if mjKs M a 118 = true then some (mjAl M a, M.1 a) else none
def mjCopy (k : Nat) (As : List Value) (M : mjMem) : Option mjMem := match As with
  | [.ref s, .int sp, .ref d, .int dp, .int w] => (match mjByt M s with
    | some (len, f) => if mjKs M d 118 = true ∧ mjWr k d = true ∧ (0 ≤ sp.toInt ∧ 0 ≤ dp.toInt ∧ 0 ≤ w.toInt) ∧ sp.toInt.toNat + w.toInt.toNat ≤ len ∧ dp.toInt.toNat + w.toInt.toNat ≤ mjAl M d ∧ mjFit f sp.toInt.toNat w.toInt.toNat = true then some (mjCp M f d sp.toInt.toNat dp.toInt.toNat w.toInt.toNat) else none
    | none => none)
  | _ => none
/-- clone() of a row of bytes -/
def mjCl9 (M : mjMem) (a b : Nat) : mjMem := (fun i j => if i = b then M.1 a j else M.1 i j, (mjZr M b (118, mjAl M a)).2)
def mjCln (k : Nat) (As : List Value) (M : mjMem) (b : Nat) : Option (mjMem × Nat) := match As with
  | [.ref a] => if mjKs M a 118 = true ∧ mjWr k b = true ∧ mjFit (M.1 a) 0 (mjAl M a) = true then some (mjCl9 M a b, mjAl M a) else none
  | _ => none
/-- the calling conventions: 0 virtual, 1 static, 2 special, 4 interface; how long -/
def mjCv : Instr → Option (Nat × Nat × Nat)
  | .invokevirtual ix => some (0, ix, 3)
  | .invokestatic ix => some (1, ix, 3)
  | .invokespecial ix => some (2, ix, 3)
  | .invokeinterface ix _ => some (4, ix, 5)
  | _ => none
def mjOpMd (op md : Nat) : Bool := (op == 0 && (md == 0 || md == 3 || md == 8)) || (op == 1 && (md == 1 || md == 6)) || (op == 2 && (md == 2 || md == 5 || md == 7)) || (op == 4 && md == 4)
/-- the method's own sort that a mode wants -/
def mjMk (md : Nat) : Nat := if md = 1 ∨ md = 6 then 1 else if md = 2 ∨ md = 7 then 2 else 0
def mjCallOk (k k2 md : Nat) (As rest : List Value) : Bool :=
  decide (k2 < 256) && decide (mjKd k2 = mjMk md) && decide (k < mjKC → k2 < mjKC) && decide (As.length = (if mjMk md = 1 then mjNa k2 else mjNa k2 + 1)) && As.all mjVok && decide ((rest.map Value.category).sum ≤ 8) && decide (mjW2 As ≤ mjML k2)
def mjRo (M : mjMem) (a C : Nat) : Bool := mjKs M a C || (C == 18 && mjSid a) || (C == 17 && mjIcd a)
def mjRcv (M : mjMem) (md C : Nat) (As : List Value) : Bool := match As with
  | .ref a :: _ => mjMk md == 1 || mjMk md == 2 || (mjRo M a C && decide (C < 21))
  | _ => mjMk md == 1
/-- how many a call pops -/
def mjNp (k2 md : Nat) : Nat := if k2 = 999 then 1 else if k2 = 1005 then 5 else if k2 = 1006 then 1 else if 1000 ≤ k2 then 2 else if mjMk md = 1 then mjNa k2 else mjNa k2 + 1
def mjCallQ (k k2 md C d : Nat) (M : mjMem) (As rest : List Value) : Bool :=
  decide (1 ≤ d) && (if k2 = 999 then md == 2 && mjKd k == 2 && decide ((rest.map Value.category).sum ≤ 8) && (match As with | [.ref _] => true | _ => false)
  else if k2 = 1006 then md == 8 && decide ((rest.map Value.category).sum ≤ 8)
  else if 1000 ≤ k2 then md == 1 && decide ((rest.map Value.category).sum ≤ 8)
  else mjCallOk k k2 md As rest && mjRcv M md C As)
def mjCall (k : Nat) (i : Instr) (d : Nat) (st : List Value) (M : mjMem) : Option (Nat × List Value × List Value × Nat) := match mjCv i with
  | none => none
  | some (op, ix, w) => match mjLkF (mjCls k) ix with
    | none => none
    | some (k2, md, C) => if mjOpMd op md = true ∧ mjCallQ k k2 md C d M (st.take (mjNp k2 md)).reverse (st.drop (mjNp k2 md)) = true then some (k2, (st.take (mjNp k2 md)).reverse, st.drop (mjNp k2 md), w) else none
def mjRun (sg : Nat → Nat) : Nat → Nat → Nat → Nat → mjLs → List Value → Nat × Nat → mjMem → Option (Option Value × (Nat × Nat) × mjMem)
  | 0, _, _, _, _, _, _, _ => none
  | fuel + 1, d, k, pc, L, st, n, M => match mjLook (mjCode k) pc with
    | none => none
    | some (i, len) => if mjLn i len = true then (match mjRet k i st with
      | some r => some (r, n, M)
      | none => match mjStp k i pc L st M with
        | some (pc1, L1, st1, M1) => mjRun sg fuel d k pc1 L1 st1 n M1
        | none => match mjNew k i pc st (sg n.1) with
          | some (pc1, st1, q) => if mjWr k (sg n.1) = true ∧ n.1 < 100000 then mjRun sg fuel d k pc1 L st1 (n.1 + 1, n.2 + mjSzK q) (mjZr M (sg n.1) q) else none
          | none => match mjCall k i d st M with
            | none => none
            | some (k2, As, rest, w) => if k2 = 999 then mjRun sg fuel d k (pc + 3) L rest n M
              else if k2 = 1005 then (match mjCopy k As M with
                | some M1 => mjRun sg fuel d k (pc + 3) L rest n M1
                | none => none)
              else if k2 = 1006 then (match mjCln k As M (sg n.1) with
                | some (M1, z) => if n.1 < 100000 then mjRun sg fuel d k (pc + 3) L (.ref (sg n.1) :: rest) (n.1 + 1, n.2 + z) M1 else none
                | none => none)
              else if 1000 ≤ k2 then (match mjPrim k2 As with
                | some (some v) => mjRun sg fuel d k (pc + 3) L (v :: rest) n M
                | _ => none)
              else match mjRun sg fuel (d - 1) k2 0 (mjEnt As (mjML k2)) [] n M with
                | some (r, n1, M1) => mjRun sg fuel d k (pc + w) L (r.toList ++ rest) n1 M1
                | none => none) else none
