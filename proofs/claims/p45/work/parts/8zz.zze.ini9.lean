/-! MACHINE: THE CLASS'S CONSTRUCTOR, by a run over a log of what is written-/
/-- an entry: 0 an int, 1 a long, 2 a reference written at (object, slot); 3 an object made-/
abbrev cLg : Type := List (Nat × Nat × Nat × Int)
abbrev cO : Type := Option (Nat × mjLs × List Value × cLg)
def cAp1 (e : Nat × Nat × Nat × Int) (M : mjMem) : mjMem := if e.1 = 0 then mjSi M e.2.1 e.2.2.1 (Int32.ofInt e.2.2.2) else if e.1 = 1 then mjSl M e.2.1 e.2.2.1 (Int64.ofInt e.2.2.2) else if e.1 = 2 then mjSr M e.2.1 e.2.2.1 (some e.2.2.2.toNat) else mjZr M e.2.1 (mjKc (mjLay e.2.1))
def cAp : cLg → mjMem → mjMem
  | [], M => M
  | e :: W, M => cAp1 e (cAp W M)
def cRf : cLg → Nat → Nat → Option Nat
  | [], _, _ => none
  | e :: W, a, k => if e.1 = 2 ∧ e.2.1 = a ∧ e.2.2.1 = k then some e.2.2.2.toNat else if e.2.1 = a ∧ ¬ e.1 = 0 ∧ ¬ e.1 = 1 ∧ ¬ e.1 = 2 then none else cRf W a k
def cUp (o : mjO) (W : cLg) : cO := match o with
  | some q => some (q.1, q.2.1, q.2.2.1, W)
  | none => none
def mjMd9 : mjMem := (fun _ _ => 0, fun _ _ => 0, fun _ _ => none, fun _ => (99, 0))
def kOk (n : Nat) (M : mjMem) : Prop := n ≤ 211 ∧ ∀ a, a < n → M.2.2.2 a = mjKc (mjLay a)
def cPut (k own ix pc n : Nat) (L : mjLs) (st : List Value) (W : cLg) : cO := match mjFld own ix with
  | none => none
  | some (ci, f) => if (mjTx ci f).2.2.2 = true ∧ ¬ (mjKd k = 2 ∧ ci = own) then none else match st with
    | .int x :: .ref a :: r => if mjIs a n ci = true ∧ ci < 12 ∧ mjPutI (mjFk ci f) x = true then some (pc + 3, L, r, (0, a, f, x.toInt) :: W) else none
    | .ref b :: .ref a :: r => if mjIs a n ci = true ∧ ci < 12 ∧ mjFk ci f = 2 then some (pc + 3, L, r, (2, a, f, (b : Int)) :: W) else none
    | _ => none
def cGet (own ix pc n : Nat) (L : mjLs) (st : List Value) (W : cLg) : cO := match mjFld own ix with
  | none => none
  | some (ci, f) => match st with
    | .ref a :: r => if mjIs a n ci = true ∧ ci < 12 ∧ mjFk ci f = 2 then (match cRf W a f with
      | some b => some (pc + 3, L, .ref b :: r, W)
      | none => none) else none
    | _ => none
def cLas (pc n : Nat) (L : mjLs) (st : List Value) (W : cLg) : cO := match st with
  | .long x :: .int i :: .ref a :: r => if mjIs a n 14 = true ∧ mjIn i (mjLay a).2 = true then some (pc + 1, L, r, (1, a, mjIx i, x.toInt) :: W) else none
  | _ => none
def cAas (pc n : Nat) (L : mjLs) (st : List Value) (W : cLg) : cO := match st with
  | .ref b :: .int i :: .ref a :: r => if ((mjIs a n 16 = true ∧ mjIs b n 7 = true) ∨ (mjIs a n 17 = true ∧ mjIs b n 0 = true)) ∧ mjIn i (mjLay a).2 = true then some (pc + 1, L, r, (2, a, mjIx i, (b : Int)) :: W) else none
  | _ => none
def cStp (k : Nat) (i : Instr) (pc n : Nat) (L : mjLs) (st : List Value) (W : cLg) : cO := match i with
  | .aload_n j => cUp (mjLoadA L j (pc + 1) st mjMd9) W
  | .iload_n j => cUp (mjLoadI L j (pc + 1) st mjMd9) W
  | .istore_n j => cUp (mjStoI L j (pc + 1) st mjMd9) W
  | .astore_n j => cUp (mjStoA L j (pc + 1) st mjMd9) W
  | .iconst v => some (pc + 1, L, .int (Int32.ofInt v) :: st, W)
  | .bipush v => some (pc + 2, L, .int (Int8.ofInt v).toInt32 :: st, W)
  | .sipush v => some (pc + 3, L, .int (Int16.ofInt v).toInt32 :: st, W)
  | .ldc2_w ix => cUp (mjLdc2 (mjCls k) ix pc L st mjMd9) W
  | .if_icmp c off => cUp (mjIcmp c off pc L st mjMd9) W
  | .goto off => (match mjJ pc off with | some t => some (t, L, st, W) | none => none)
  | .iinc j c => cUp (mjIinc j c pc L st mjMd9) W
  | .dup => cUp (mjDup pc L st mjMd9) W
  | .getfield ix => cGet (mjCls k) ix pc n L st W
  | .putfield ix => cPut k (mjCls k) ix pc n L st W
  | .lastore => cLas pc n L st W
  | .aastore => cAas pc n L st W
  | _ => none
def cNwA (pc n : Nat) (t t2 w : Nat) (L : mjLs) (st : List Value) (W : cLg) : cO := match st with
  | .int x :: r => if 0 ≤ x.toInt ∧ x.toInt ≤ 100000 ∧ mjLay n = (t, x.toInt.toNat) ∧ mjKc (mjLay n) = (t2, x.toInt.toNat) then some (pc + w, L, .ref n :: r, (3, n, 0, 0) :: W) else none
  | _ => none
def cNew (k : Nat) (i : Instr) (pc n : Nat) (L : mjLs) (st : List Value) (W : cLg) : cO := match i with
  | .new ix => (match mjNwF (mjCls k) ix with
    | some ci => if mjKc (mjLay n) = (ci, 0) then some (pc + 3, L, .ref n :: st, (3, n, 0, 0) :: W) else none
    | none => none)
  | .newarray .int => cNwA pc n 13 113 2 L st W
  | .newarray .long => cNwA pc n 14 114 2 L st W
  | .newarray .boolean => cNwA pc n 15 115 2 L st W
  | .anewarray ix => (match mjNaF (mjCls k) ix with
    | some t => cNwA pc n (t - 100) t 3 L st W
    | none => none)
  | _ => none
def cCl (k : Nat) (i : Instr) (d : Nat) (st : List Value) : Option (Nat × List Value × List Value × Nat) := match mjCv i with
  | none => none
  | some (op, ix, w) => match mjLkF (mjCls k) ix with
    | none => none
    | some (k2, md, C) => if mjMk md = 2 ∧ mjOpMd op md = true ∧ mjCallQ k k2 md C d mjMd9 (st.take (mjNp k2 md)).reverse (st.drop (mjNp k2 md)) = true then some (k2, (st.take (mjNp k2 md)).reverse, st.drop (mjNp k2 md), w) else none
def cRun : Nat → Nat → Nat → Nat → mjLs → List Value → Nat → cLg → Option (Option Value × Nat × cLg)
  | 0, _, _, _, _, _, _, _ => none
  | fuel + 1, d, k, pc, L, st, n, W => match mjLook (mjCode k) pc with
    | none => none
    | some (i, len) => if mjLn i len = true then (match mjRet k i st with
      | some r => some (r, n, W)
      | none => match cStp k i pc n L st W with
        | some (pc1, L1, st1, W1) => cRun fuel d k pc1 L1 st1 n W1
        | none => match cNew k i pc n L st W with
          | some (pc1, L1, st1, W1) => if n + 1 ≤ 211 then cRun fuel d k pc1 L1 st1 (n + 1) W1 else none
          | none => match i with
            | .invokespecial ix => (match cCl k (.invokespecial ix) d st with
              | none => none
              | some (k2, As, rest, w) => if k2 = 999 then cRun fuel d k (pc + 3) L rest n W
                else if 1000 ≤ k2 then none
                else match cRun fuel (d - 1) k2 0 (mjEnt As (mjML k2)) [] n W with
                  | some (r, n1, W1) => cRun fuel d k (pc + w) L (r.toList ++ rest) n1 W1
                  | none => none)
            | _ => none) else none
def cRes : Option (Option Value × Nat × cLg) := cRun 3000 20 134 0 (mjEnt [.ref 0] (mjML 134)) [] 1 [(3, 0, 0, 0)]
def cW9 : cLg := match cRes with
  | some (_, _, W) => W
  | none => []
set_option maxRecDepth 100000 in
theorem cRes_b : (match cRes with | some (none, n, _) => n == 211 | _ => false) = true := by decide +kernel
theorem cRes_ok : cRes = some (none, 211, cW9) := by
  have h := cRes_b
  unfold cW9
  cases e : cRes with
  | none => rw [e] at h; cases h
  | some q =>
    obtain ⟨r, n, W⟩ := q
    rw [e] at h
    cases r with
    | some v => cases h
    | none =>
      have hn : n = 211 := by simpa using h
      rw [hn]
