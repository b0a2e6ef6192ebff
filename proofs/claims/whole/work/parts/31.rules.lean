/-! the state of the pure layer: ints, longs, which book is told, which text the reader has; rules, one an instruction that touches it -/
/-- the references that never change, by object -/
def mjR0L : List (Nat × List (Nat × Nat)) := [(0, [(0, 1), (4, 182), (5, 188), (6, 190), (7, 199), (8, 204), (9, 209)]), (2, [(12, 3), (13, 10), (14, 11), (15, 12), (16, 13), (17, 14), (18, 19)]), (3, [(0, 4), (1, 5), (2, 6), (3, 7), (4, 8), (5, 9)]), (14, [(0, 15), (1, 16), (2, 17), (3, 18)]), (20, [(0, 21), (1, 22), (2, 23), (3, 24)]), (25, [(0, 26), (1, 27), (2, 28), (3, 29)]), (30, [(0, 31), (1, 32), (2, 33), (3, 34)]), (35, [(0, 36), (1, 37), (2, 38), (3, 39)]), (40, [(0, 41), (1, 42), (2, 43), (3, 44)]), (45, [(0, 46), (1, 47), (2, 48), (3, 49)]), (92, [(12, 93), (13, 100), (14, 101), (15, 102), (16, 103), (17, 104), (18, 109)]), (93, [(0, 94), (1, 95), (2, 96), (3, 97), (4, 98), (5, 99)]), (104, [(0, 105), (1, 106), (2, 107), (3, 108)]), (110, [(0, 111), (1, 112), (2, 113), (3, 114)]), (115, [(0, 116), (1, 117), (2, 118), (3, 119)]), (120, [(0, 121), (1, 122), (2, 123), (3, 124)]), (125, [(0, 126), (1, 127), (2, 128), (3, 129)]), (130, [(0, 131), (1, 132), (2, 133), (3, 134)]), (135, [(0, 136), (1, 137), (2, 138), (3, 139)]), (182, [(0, 183), (1, 185)]), (185, [(4, 186), (5, 187)]), (188, [(0, 189)]), (190, [(0, 191), (1, 192), (2, 193), (3, 194), (4, 195), (5, 196), (6, 197), (7, 198)]), (199, [(0, 200), (1, 201), (2, 202), (3, 203)]), (204, [(0, 205), (1, 206), (2, 207), (3, 208)]), (209, [(0, 210)]), (211, [(0, 212), (2, 213), (3, 214), (14, 215), (15, 216), (16, 217), (28, 218), (29, 219), (30, 220), (31, 221), (32, 222), (33, 223), (34, 224), (35, 225), (36, 226), (37, 227), (38, 228), (44, 229), (45, 230), (46, 231), (47, 232), (48, 233), (49, 234), (50, 235), (51, 236), (52, 237), (53, 238), (54, 239), (55, 240), (57, 241), (58, 242), (61, 243), (62, 244), (63, 245), (64, 246), (68, 247), (69, 248), (70, 249), (71, 250)])]
abbrev mjZt : Type := (Nat → Nat → Int32) × (Nat → Nat → Int64) × Nat × Nat
def mjR0 (a k : Nat) : Option Nat := match mjR0L.find? (fun q => q.1 == a) with
  | some q => (match q.2.find? (fun w => w.1 == k) with
    | some w => some w.2
    | none => none)
  | none => none
/-- references: fixed, but for the two books of the class and the reader's text -/
def mjRv (told text : Nat) (a k : Nat) : Option Nat := if a = 0 then (if k = 2 then some told else if k = 3 then some (94 - told) else mjR0 a k) else if a = 183 then (if k = 0 then some text else mjR0 a k) else if a = 10 ∨ a = 100 then (if k < 6 then some (a + 10 + 5 * k) else none) else if a = 11 ∨ a = 101 then (if k < 42 then some (a + 39 + k) else none) else mjR0 a k
def mjTo (Z : mjZt) : mjMem := (Z.1, Z.2.1, mjRv Z.2.2.1 Z.2.2.2)
def zSi (Z : mjZt) (a k : Nat) (v : Int32) : mjZt := (fun i j => if i = a then (if j = k then v else Z.1 i j) else Z.1 i j, Z.2)
def zSl (Z : mjZt) (a k : Nat) (v : Int64) : mjZt := (Z.1, fun i j => if i = a then (if j = k then v else Z.2.1 i j) else Z.2.1 i j, Z.2.2)
def mjLet {α β : Type} (x : α) (f : α → β) : β := f x
theorem mjTo_si (Z : mjZt) (a k : Nat) (v : Int32) : mjSi (mjTo Z) a k v = mjTo (zSi Z a k v) := rfl
theorem mjTo_sl (Z : mjZt) (a k : Nat) (v : Int64) : mjSl (mjTo Z) a k v = mjTo (zSl Z a k v) := rfl
section RU
variable {k pc t : Nat} {L : mjLs} {st : List Value} {Z : mjZt} {F : Option Value → mjMem → Prop}
theorem pG_ift {off : Int} {c : ClassFile.Cond} {x : Int32} (hl : mjLook (mjCode k) pc = some (.ifCond c off, 3)) (hj : mjJ pc off = some t) (hc : mjCmp c x 0 = true) (g : pG k t L st (mjTo Z) F) : pG k pc L (.int x :: st) (mjTo Z) F := by
  refine pG_one (pc1 := t) (L1 := L) (st1 := st) (M1 := mjTo Z) ?_ g
  simp only [mjOne1, hl, mjLn, mjRet, mjStp, mjIf, mjBr, hj, hc, if_true, beq_self_eq_true]
theorem pG_iff {off : Int} {c : ClassFile.Cond} {x : Int32} (hl : mjLook (mjCode k) pc = some (.ifCond c off, 3)) (hj : mjJ pc off = some t) (hc : ¬ mjCmp c x 0 = true) (g : pG k (pc + 3) L st (mjTo Z) F) : pG k pc L (.int x :: st) (mjTo Z) F := by
  refine pG_one (pc1 := pc + 3) (L1 := L) (st1 := st) (M1 := mjTo Z) ?_ g
  simp only [mjOne1, hl, mjLn, mjRet, mjStp, mjIf, mjBr, hj, hc, if_false, if_true, beq_self_eq_true, Bool.false_eq_true]
theorem pG_cmt {off : Int} {c : ClassFile.Cond} {x y : Int32} (hl : mjLook (mjCode k) pc = some (.if_icmp c off, 3)) (hj : mjJ pc off = some t) (hc : mjCmp c x y = true) (g : pG k t L st (mjTo Z) F) : pG k pc L (.int y :: .int x :: st) (mjTo Z) F := by
  refine pG_one (pc1 := t) (L1 := L) (st1 := st) (M1 := mjTo Z) ?_ g
  simp only [mjOne1, hl, mjLn, mjRet, mjStp, mjIcmp, mjBr, hj, hc, if_true, beq_self_eq_true]
theorem pG_cmf {off : Int} {c : ClassFile.Cond} {x y : Int32} (hl : mjLook (mjCode k) pc = some (.if_icmp c off, 3)) (hj : mjJ pc off = some t) (hc : ¬ mjCmp c x y = true) (g : pG k (pc + 3) L st (mjTo Z) F) : pG k pc L (.int y :: .int x :: st) (mjTo Z) F := by
  refine pG_one (pc1 := pc + 3) (L1 := L) (st1 := st) (M1 := mjTo Z) ?_ g
  simp only [mjOne1, hl, mjLn, mjRet, mjStp, mjIcmp, mjBr, hj, hc, if_false, if_true, beq_self_eq_true, Bool.false_eq_true]
theorem pG_getI {ix ci f a : Nat} (hl : mjLook (mjCode k) pc = some (.getfield ix, 3)) (hf : mjFld (mjCls k) ix = some (ci, f)) (hk : mjFk ci f = 0 ∨ mjFk ci f = 3) (hi : mjIs a 251 ci = true) (g : pG k (pc + 3) L (.int (Z.1 a f) :: st) (mjTo Z) F) : pG k pc L (.ref a :: st) (mjTo Z) F := by
  refine pG_one (pc1 := pc + 3) (L1 := L) (st1 := .int (Z.1 a f) :: st) (M1 := mjTo Z) ?_ g
  rcases hk with hk | hk <;> simp [mjOne1, hl, mjLn, mjRet, mjStp, mjGet, hf, hi, hk, mjTo]
theorem pG_getL {ix ci f a : Nat} (hl : mjLook (mjCode k) pc = some (.getfield ix, 3)) (hf : mjFld (mjCls k) ix = some (ci, f)) (hk : mjFk ci f = 1) (hi : mjIs a 251 ci = true) (g : pG k (pc + 3) L (.long (Z.2.1 a f) :: st) (mjTo Z) F) : pG k pc L (.ref a :: st) (mjTo Z) F := by
  refine pG_one (pc1 := pc + 3) (L1 := L) (st1 := .long (Z.2.1 a f) :: st) (M1 := mjTo Z) ?_ g
  simp [mjOne1, hl, mjLn, mjRet, mjStp, mjGet, hf, hi, hk, mjTo]
theorem pG_getR {ix ci f a b : Nat} (hl : mjLook (mjCode k) pc = some (.getfield ix, 3)) (hf : mjFld (mjCls k) ix = some (ci, f)) (hk : mjFk ci f = 2) (hi : mjIs a 251 ci = true) (hR : mjRv Z.2.2.1 Z.2.2.2 a f = some b) (g : pG k (pc + 3) L (.ref b :: st) (mjTo Z) F) : pG k pc L (.ref a :: st) (mjTo Z) F := by
  refine pG_one (pc1 := pc + 3) (L1 := L) (st1 := .ref b :: st) (M1 := mjTo Z) ?_ g
  simp [mjOne1, hl, mjLn, mjRet, mjStp, mjGet, hf, hi, hk, mjTo, hR, va_rf]
theorem pG_putI {ix ci f a : Nat} {x : Int32} (hl : mjLook (mjCode k) pc = some (.putfield ix, 3)) (hf : mjFld (mjCls k) ix = some (ci, f)) (hk : mjFk ci f = 0) (hn : (mjTx ci f).2.2.2 = false) (hi : mjIs a 251 ci = true) (g : pG k (pc + 3) L st (mjTo (zSi Z a f x)) F) : pG k pc L (.int x :: .ref a :: st) (mjTo Z) F := by
  refine pG_one (pc1 := pc + 3) (L1 := L) (st1 := st) (M1 := mjTo (zSi Z a f x)) ?_ g
  simp [mjOne1, hl, mjLn, mjRet, mjStp, mjPut, hf, hi, hk, hn, mjPutI, mjTo_si]
theorem pG_putZ {ix ci f a : Nat} {x : Int32} (hl : mjLook (mjCode k) pc = some (.putfield ix, 3)) (hf : mjFld (mjCls k) ix = some (ci, f)) (hk : mjFk ci f = 3) (hn : (mjTx ci f).2.2.2 = false) (hi : mjIs a 251 ci = true) (hx : x = 0 ∨ x = 1) (g : pG k (pc + 3) L st (mjTo (zSi Z a f x)) F) : pG k pc L (.int x :: .ref a :: st) (mjTo Z) F := by
  refine pG_one (pc1 := pc + 3) (L1 := L) (st1 := st) (M1 := mjTo (zSi Z a f x)) ?_ g
  simp [mjOne1, hl, mjLn, mjRet, mjStp, mjPut, hf, hi, hk, hn, mjPutI, hx, mjTo_si]
theorem pG_putL {ix ci f a : Nat} {x : Int64} (hl : mjLook (mjCode k) pc = some (.putfield ix, 3)) (hf : mjFld (mjCls k) ix = some (ci, f)) (hk : mjFk ci f = 1) (hn : (mjTx ci f).2.2.2 = false) (hi : mjIs a 251 ci = true) (g : pG k (pc + 3) L st (mjTo (zSl Z a f x)) F) : pG k pc L (.long x :: .ref a :: st) (mjTo Z) F := by
  refine pG_one (pc1 := pc + 3) (L1 := L) (st1 := st) (M1 := mjTo (zSl Z a f x)) ?_ g
  simp [mjOne1, hl, mjLn, mjRet, mjStp, mjPut, hf, hi, hk, hn, mjTo_sl]
theorem mjIs_ne {a c : Nat} (h : mjIs a 251 c = true) : ¬ a = 2000000 ∧ ¬ mjSbd a = true := by
  have := (mjIs_spec h).1
  refine ⟨by omega, ?_⟩
  simp [mjSbd]; omega
theorem pG_ial {a : Nat} {i : Int32} (hl : mjLook (mjCode k) pc = some (.iaload, 1)) (hi : mjIs a 251 13 = true) (hn : mjIn i (mjLay a).2 = true) (g : pG k (pc + 1) L (.int (Z.1 a (mjIx i)) :: st) (mjTo Z) F) : pG k pc L (.int i :: .ref a :: st) (mjTo Z) F := by
  refine pG_one (pc1 := pc + 1) (L1 := L) (st1 := .int (Z.1 a (mjIx i)) :: st) (M1 := mjTo Z) ?_ g
  simp [mjOne1, hl, mjLn, mjRet, mjStp, mjIal, hi, hn, (mjIs_ne hi).1, mjTo]
theorem pG_lal {a : Nat} {i : Int32} (hl : mjLook (mjCode k) pc = some (.laload, 1)) (hi : mjIs a 251 14 = true) (hn : mjIn i (mjLay a).2 = true) (g : pG k (pc + 1) L (.long (Z.2.1 a (mjIx i)) :: st) (mjTo Z) F) : pG k pc L (.int i :: .ref a :: st) (mjTo Z) F := by
  refine pG_one (pc1 := pc + 1) (L1 := L) (st1 := .long (Z.2.1 a (mjIx i)) :: st) (M1 := mjTo Z) ?_ g
  simp [mjOne1, hl, mjLn, mjRet, mjStp, mjLal, hi, hn, mjTo]
theorem pG_bal {a : Nat} {i : Int32} (hl : mjLook (mjCode k) pc = some (.baload, 1)) (hi : mjIs a 251 15 = true) (hn : mjIn i (mjLay a).2 = true) (g : pG k (pc + 1) L (.int (Z.1 a (mjIx i)) :: st) (mjTo Z) F) : pG k pc L (.int i :: .ref a :: st) (mjTo Z) F := by
  refine pG_one (pc1 := pc + 1) (L1 := L) (st1 := .int (Z.1 a (mjIx i)) :: st) (M1 := mjTo Z) ?_ g
  simp [mjOne1, hl, mjLn, mjRet, mjStp, mjBal, hi, hn, (mjIs_ne hi).2, mjTo]
theorem pG_aal {a b : Nat} {i : Int32} (hl : mjLook (mjCode k) pc = some (.aaload, 1)) (hi : mjIs a 251 16 = true ∨ mjIs a 251 17 = true) (hn : mjIn i (mjLay a).2 = true) (hR : mjRv Z.2.2.1 Z.2.2.2 a (mjIx i) = some b) (g : pG k (pc + 1) L (.ref b :: st) (mjTo Z) F) : pG k pc L (.int i :: .ref a :: st) (mjTo Z) F := by
  refine pG_one (pc1 := pc + 1) (L1 := L) (st1 := .ref b :: st) (M1 := mjTo Z) ?_ g
  simp [mjOne1, hl, mjLn, mjRet, mjStp, mjAal, hi, hn, mjTo, hR, va_rf]
theorem pG_ias {a : Nat} {i x : Int32} (hl : mjLook (mjCode k) pc = some (.iastore, 1)) (hi : mjIs a 251 13 = true) (hn : mjIn i (mjLay a).2 = true) (g : pG k (pc + 1) L st (mjTo (zSi Z a (mjIx i) x)) F) : pG k pc L (.int x :: .int i :: .ref a :: st) (mjTo Z) F := by
  refine pG_one (pc1 := pc + 1) (L1 := L) (st1 := st) (M1 := mjTo (zSi Z a (mjIx i) x)) ?_ g
  simp [mjOne1, hl, mjLn, mjRet, mjStp, mjIas, hi, hn, mjTo_si]
theorem pG_las {a : Nat} {i : Int32} {x : Int64} (hl : mjLook (mjCode k) pc = some (.lastore, 1)) (hi : mjIs a 251 14 = true) (hn : mjIn i (mjLay a).2 = true) (g : pG k (pc + 1) L st (mjTo (zSl Z a (mjIx i) x)) F) : pG k pc L (.long x :: .int i :: .ref a :: st) (mjTo Z) F := by
  refine pG_one (pc1 := pc + 1) (L1 := L) (st1 := st) (M1 := mjTo (zSl Z a (mjIx i) x)) ?_ g
  simp [mjOne1, hl, mjLn, mjRet, mjStp, mjLas, hi, hn, mjTo_sl]
theorem pG_bas {a : Nat} {i x : Int32} (hl : mjLook (mjCode k) pc = some (.bastore, 1)) (hi : mjIs a 251 15 = true) (hn : mjIn i (mjLay a).2 = true) (hx : x = 0 ∨ x = 1) (g : pG k (pc + 1) L st (mjTo (zSi Z a (mjIx i) x)) F) : pG k pc L (.int x :: .int i :: .ref a :: st) (mjTo Z) F := by
  refine pG_one (pc1 := pc + 1) (L1 := L) (st1 := st) (M1 := mjTo (zSi Z a (mjIx i) x)) ?_ g
  simp [mjOne1, hl, mjLn, mjRet, mjStp, mjBas, hi, hn, hx, mjTo_si]
theorem pG_len {a : Nat} (hl : mjLook (mjCode k) pc = some (.arraylength, 1)) (hi : a < 251) (h1 : 13 ≤ (mjLay a).1) (h2 : (mjLay a).1 < 18) (g : pG k (pc + 1) L (.int (Int32.ofNat (mjLay a).2) :: st) (mjTo Z) F) : pG k pc L (.ref a :: st) (mjTo Z) F := by
  refine pG_one (pc1 := pc + 1) (L1 := L) (st1 := .int (Int32.ofNat (mjLay a).2) :: st) (M1 := mjTo Z) ?_ g
  have h3 : ¬ a = 2000000 := by omega
  have h4 : ¬ mjSbd a = true := by simp [mjSbd]; omega
  simp [mjOne1, hl, mjLn, mjRet, mjStp, mjLen, h3, h4, hi, h1, h2]
theorem pG_div {x y : Int32} (hl : mjLook (mjCode k) pc = some (.idiv, 1)) (hy : ¬ y = 0) (g : pG k (pc + 1) L (.int (x / y) :: st) (mjTo Z) F) : pG k pc L (.int y :: .int x :: st) (mjTo Z) F := by
  refine pG_one (pc1 := pc + 1) (L1 := L) (st1 := .int (x / y) :: st) (M1 := mjTo Z) ?_ g
  simp [mjOne1, hl, mjLn, mjRet, mjStp, hy]
theorem pG_scr {i : Int32} (hl : mjLook (mjCode k) pc = some (.iaload, 1)) (hi : 0 ≤ i.toInt ∧ i.toInt < (Z.1 2000001 0).toInt) (g : pG k (pc + 1) L (.int (Z.1 2000000 (mjIx i)) :: st) (mjTo Z) F) : pG k pc L (.int i :: .ref 2000000 :: st) (mjTo Z) F := by
  refine pG_one (pc1 := pc + 1) (L1 := L) (st1 := .int (Z.1 2000000 (mjIx i)) :: st) (M1 := mjTo Z) ?_ g
  simp only [mjOne1, hl, mjLn, mjRet, mjStp, mjIal, if_true, beq_self_eq_true]
  rw [if_pos (show 0 ≤ i.toInt ∧ i.toInt < ((mjTo Z).1 2000001 0).toInt from hi)]
  rfl
theorem pG_slen (hl : mjLook (mjCode k) pc = some (.arraylength, 1)) (g : pG k (pc + 1) L (.int (Z.1 2000001 0) :: st) (mjTo Z) F) : pG k pc L (.ref 2000000 :: st) (mjTo Z) F := by
  refine pG_one (pc1 := pc + 1) (L1 := L) (st1 := .int (Z.1 2000001 0) :: st) (M1 := mjTo Z) ?_ g
  simp only [mjOne1, hl, mjLn, mjRet, mjStp, mjLen, if_true, beq_self_eq_true]
  rfl
theorem pG_lenS {a c : Nat} (hl : mjLook (mjCode k) pc = some (.arraylength, 1)) (h1 : 13 ≤ c) (h2 : c < 18) (hi : mjIs a 251 c = true) (g : pG k (pc + 1) L (.int (Int32.ofNat (mjLay a).2) :: st) (mjTo Z) F) : pG k pc L (.ref a :: st) (mjTo Z) F :=
  pG_len hl (mjIs_spec hi).1 (by rw [(mjIs_spec hi).2]; exact h1) (by rw [(mjIs_spec hi).2]; exact h2) g
def mjBd {α β : Type} (o : Option (α × mjZt)) (f : α → mjZt → Option β) : Option β := match o with
  | some w => f w.1 w.2
  | none => none
theorem mjBd_some {α β : Type} (v : α) (z : mjZt) (f : α → mjZt → Option β) : mjBd (some (v, z)) f = f v z := rfl
theorem mjBd_none {α β : Type} (f : α → mjZt → Option β) : mjBd (none : Option (α × mjZt)) f = none := rfl
def mjBp {α β : Type} (o : Option α) (f : α → Option β) : Option β := match o with
  | some w => f w
  | none => none
theorem mjBp_some {α β : Type} (v : α) (f : α → Option β) : mjBp (some v) f = f v := rfl
theorem mjBp_none {α β : Type} (f : α → Option β) : mjBp (none : Option α) f = none := rfl
def mjF : Nat := 20000
def mjMax (x y : Int32) : Int32 := if x < y then y else x
def mjMin (x y : Int32) : Int32 := if y < x then y else x
theorem mjRcv_is {a k2 : Nat} {As : List Value} (h : mjIs a 251 (mjCls k2) = true) (h2 : mjCls k2 < 13) : mjRcv 251 k2 0 (.ref a :: As) = true := by
  simp [mjRcv, h, h2]
theorem mjRcv_sid {a k2 : Nat} {As : List Value} (h : mjSid a = true) (h2 : mjCls k2 = 18) : mjRcv 251 k2 0 (.ref a :: As) = true := by
  simp [mjRcv, h, h2]
theorem pG_callV {ix k2 nest : Nat} {As rest : List Value} {M : mjMem} {F2 : Option Value → mjMem → Prop} (hl : mjLook (mjCode k) pc = some (.invokevirtual ix, 3)) (hm : mjMlF (mjCls k) ix = some (k2, nest)) (h1 : (st.take (mjNp k2 0)).reverse = As) (h2 : st.drop (mjNp k2 0) = rest) (h3 : mjCallOk k k2 0 nest As rest = true) (h4 : mjRcv 251 k2 0 As = true) (hk : k2 < 999)
    (g : pG k2 0 (mjEnt As (mjML k2)) [] M F2) (c : ∀ r M1, F2 r M1 → pG k (pc + 3) L (r.toList ++ rest) M1 F) : pG k pc L st M F := by
  refine pG_call (k2 := k2) (As := As) (rest := rest) ?_ hk g c
  subst h1; subst h2
  have hq : mjCallQ k k2 0 nest 251 (st.take (mjNp k2 0)).reverse (st.drop (mjNp k2 0)) = true := by
    unfold mjCallQ
    rw [if_neg (by omega), if_neg (by omega), h3, h4]; rfl
  simp only [mjCl1, hl, mjLn, mjCall, mjCv, hm, hq, if_true, beq_self_eq_true]
theorem mjRt1_z {x : Int32} (hl : mjLook (mjCode k) pc = some (.ireturn, 1)) (hr : mjRt k = some .boolean) (hx : x = 0 ∨ x = 1) : mjRt1 k pc [.int x] = some (some (.int x)) := by
  simp only [mjRt1, hl, mjLn, mjRet, hr, if_pos hx, if_true, beq_self_eq_true]
theorem mjRt1_b {x : Int32} (hl : mjLook (mjCode k) pc = some (.ireturn, 1)) (hr : mjRt k = some .byte) (hx : x.toInt8.toInt32 = x) : mjRt1 k pc [.int x] = some (some (.int x)) := by
  simp only [mjRt1, hl, mjLn, mjRet, hr, if_pos hx, if_true, beq_self_eq_true]
theorem mjRt1_c {x : Int32} (hl : mjLook (mjCode k) pc = some (.ireturn, 1)) (hr : mjRt k = some .char) (hx : x.toUInt32.toUInt16.toUInt32.toInt32 = x) : mjRt1 k pc [.int x] = some (some (.int x)) := by
  simp only [mjRt1, hl, mjLn, mjRet, hr, if_pos hx, if_true, beq_self_eq_true]
theorem pG_tso {d lo hi : Int} {offs : Array Int} {len : Nat} {x : Int32} (hl : mjLook (mjCode k) pc = some (.tableswitch d lo hi offs, len)) (h : x.toInt < lo ∨ hi < x.toInt) (hj : mjJ pc d = some t) (g : pG k t L st (mjTo Z) F) : pG k pc L (.int x :: st) (mjTo Z) F := by
  refine pG_one (pc1 := t) (L1 := L) (st1 := st) (M1 := mjTo Z) ?_ g
  simp only [mjOne1, hl, mjLn, mjRet, mjStp, mjTsw, if_pos h, hj, if_true]
theorem pG_tsi {d lo hi o : Int} {offs : Array Int} {len j : Nat} {x : Int32} (hl : mjLook (mjCode k) pc = some (.tableswitch d lo hi offs, len)) (h : ¬ (x.toInt < lo ∨ hi < x.toInt)) (h2 : (x.toInt - lo).toNat = j) (ho : offs[j]? = some o) (hj : mjJ pc o = some t) (g : pG k t L st (mjTo Z) F) : pG k pc L (.int x :: st) (mjTo Z) F := by
  refine pG_one (pc1 := t) (L1 := L) (st1 := st) (M1 := mjTo Z) ?_ g
  simp only [mjOne1, hl, mjLn, mjRet, mjStp, mjTsw, if_neg h, h2, ho, hj, if_true]
theorem mjAll251 {P : Nat → Bool} (h : ((List.range 251).all P) = true) {a : Nat} (ha : a < 251) : P a = true := List.all_eq_true.mp h a (List.mem_range.mpr ha)
theorem mjRa16 {a t0 x0 : Nat} {i : Int32} (h : mjIs a 251 16 = true) (hi : mjIn i (mjLay a).2 = true) : mjRv t0 x0 a (mjIx i) = some (a + 10 + 5 * mjIx i) := by
  have h1 : ((List.range 251).all fun a => (mjLay a).1 != 16 || ((a == 10 || a == 100) && (mjLay a).2 == 6)) = true := by decide +kernel
  have h2 := mjAll251 h1 (mjIs_spec h).1
  simp only [(mjIs_spec h).2, bne_self_eq_false, Bool.false_or, Bool.and_eq_true, Bool.or_eq_true, beq_iff_eq] at h2
  simp only [mjIn, h2.2, decide_eq_true_eq] at hi
  have hx : mjIx i < 6 := by simp only [mjIx]; omega
  rcases h2.1 with rfl | rfl <;> simp [mjRv, hx]
theorem mjRa17 {a t0 x0 : Nat} {i : Int32} (h : mjIs a 251 17 = true) (hi : mjIn i (mjLay a).2 = true) : mjRv t0 x0 a (mjIx i) = some (a + 39 + mjIx i) := by
  have h1 : ((List.range 251).all fun a => (mjLay a).1 != 17 || ((a == 11 || a == 101) && (mjLay a).2 == 42)) = true := by decide +kernel
  have h2 := mjAll251 h1 (mjIs_spec h).1
  simp only [(mjIs_spec h).2, bne_self_eq_false, Bool.false_or, Bool.and_eq_true, Bool.or_eq_true, beq_iff_eq] at h2
  simp only [mjIn, h2.2, decide_eq_true_eq] at hi
  have hx : mjIx i < 42 := by simp only [mjIx]; omega
  rcases h2.1 with rfl | rfl <;> simp [mjRv, hx]
theorem mjRc2_12 {a t0 x0 : Nat} (h : mjIs a 251 2 = true) : mjRv t0 x0 a 12 = some (a + 1) := by
  have h1 : ((List.range 251).all fun a => (mjLay a).1 != 2 || (a != 0 && a != 183 && a != 10 && a != 100 && a != 11 && a != 101 && decide (mjR0 a 12 = some (a + 1)))) = true := by decide +kernel
  have h2 := mjAll251 h1 (mjIs_spec h).1
  simp only [(mjIs_spec h).2, bne_self_eq_false, Bool.false_or, Bool.and_eq_true, bne_iff_ne, ne_eq, decide_eq_true_eq] at h2
  obtain ⟨⟨⟨⟨⟨⟨g1, g2⟩, g3⟩, g4⟩, g5⟩, g6⟩, g7⟩ := h2
  simp [mjRv, g1, g2, g3, g4, g5, g6, g7]
theorem mjRc2_13 {a t0 x0 : Nat} (h : mjIs a 251 2 = true) : mjRv t0 x0 a 13 = some (a + 8) := by
  have h1 : ((List.range 251).all fun a => (mjLay a).1 != 2 || (a != 0 && a != 183 && a != 10 && a != 100 && a != 11 && a != 101 && decide (mjR0 a 13 = some (a + 8)))) = true := by decide +kernel
  have h2 := mjAll251 h1 (mjIs_spec h).1
  simp only [(mjIs_spec h).2, bne_self_eq_false, Bool.false_or, Bool.and_eq_true, bne_iff_ne, ne_eq, decide_eq_true_eq] at h2
  obtain ⟨⟨⟨⟨⟨⟨g1, g2⟩, g3⟩, g4⟩, g5⟩, g6⟩, g7⟩ := h2
  simp [mjRv, g1, g2, g3, g4, g5, g6, g7]
theorem mjRc2_14 {a t0 x0 : Nat} (h : mjIs a 251 2 = true) : mjRv t0 x0 a 14 = some (a + 9) := by
  have h1 : ((List.range 251).all fun a => (mjLay a).1 != 2 || (a != 0 && a != 183 && a != 10 && a != 100 && a != 11 && a != 101 && decide (mjR0 a 14 = some (a + 9)))) = true := by decide +kernel
  have h2 := mjAll251 h1 (mjIs_spec h).1
  simp only [(mjIs_spec h).2, bne_self_eq_false, Bool.false_or, Bool.and_eq_true, bne_iff_ne, ne_eq, decide_eq_true_eq] at h2
  obtain ⟨⟨⟨⟨⟨⟨g1, g2⟩, g3⟩, g4⟩, g5⟩, g6⟩, g7⟩ := h2
  simp [mjRv, g1, g2, g3, g4, g5, g6, g7]
theorem mjRc2_15 {a t0 x0 : Nat} (h : mjIs a 251 2 = true) : mjRv t0 x0 a 15 = some (a + 10) := by
  have h1 : ((List.range 251).all fun a => (mjLay a).1 != 2 || (a != 0 && a != 183 && a != 10 && a != 100 && a != 11 && a != 101 && decide (mjR0 a 15 = some (a + 10)))) = true := by decide +kernel
  have h2 := mjAll251 h1 (mjIs_spec h).1
  simp only [(mjIs_spec h).2, bne_self_eq_false, Bool.false_or, Bool.and_eq_true, bne_iff_ne, ne_eq, decide_eq_true_eq] at h2
  obtain ⟨⟨⟨⟨⟨⟨g1, g2⟩, g3⟩, g4⟩, g5⟩, g6⟩, g7⟩ := h2
  simp [mjRv, g1, g2, g3, g4, g5, g6, g7]
theorem mjRc2_16 {a t0 x0 : Nat} (h : mjIs a 251 2 = true) : mjRv t0 x0 a 16 = some (a + 11) := by
  have h1 : ((List.range 251).all fun a => (mjLay a).1 != 2 || (a != 0 && a != 183 && a != 10 && a != 100 && a != 11 && a != 101 && decide (mjR0 a 16 = some (a + 11)))) = true := by decide +kernel
  have h2 := mjAll251 h1 (mjIs_spec h).1
  simp only [(mjIs_spec h).2, bne_self_eq_false, Bool.false_or, Bool.and_eq_true, bne_iff_ne, ne_eq, decide_eq_true_eq] at h2
  obtain ⟨⟨⟨⟨⟨⟨g1, g2⟩, g3⟩, g4⟩, g5⟩, g6⟩, g7⟩ := h2
  simp [mjRv, g1, g2, g3, g4, g5, g6, g7]
theorem mjRc2_17 {a t0 x0 : Nat} (h : mjIs a 251 2 = true) : mjRv t0 x0 a 17 = some (a + 12) := by
  have h1 : ((List.range 251).all fun a => (mjLay a).1 != 2 || (a != 0 && a != 183 && a != 10 && a != 100 && a != 11 && a != 101 && decide (mjR0 a 17 = some (a + 12)))) = true := by decide +kernel
  have h2 := mjAll251 h1 (mjIs_spec h).1
  simp only [(mjIs_spec h).2, bne_self_eq_false, Bool.false_or, Bool.and_eq_true, bne_iff_ne, ne_eq, decide_eq_true_eq] at h2
  obtain ⟨⟨⟨⟨⟨⟨g1, g2⟩, g3⟩, g4⟩, g5⟩, g6⟩, g7⟩ := h2
  simp [mjRv, g1, g2, g3, g4, g5, g6, g7]
theorem mjRc2_18 {a t0 x0 : Nat} (h : mjIs a 251 2 = true) : mjRv t0 x0 a 18 = some (a + 17) := by
  have h1 : ((List.range 251).all fun a => (mjLay a).1 != 2 || (a != 0 && a != 183 && a != 10 && a != 100 && a != 11 && a != 101 && decide (mjR0 a 18 = some (a + 17)))) = true := by decide +kernel
  have h2 := mjAll251 h1 (mjIs_spec h).1
  simp only [(mjIs_spec h).2, bne_self_eq_false, Bool.false_or, Bool.and_eq_true, bne_iff_ne, ne_eq, decide_eq_true_eq] at h2
  obtain ⟨⟨⟨⟨⟨⟨g1, g2⟩, g3⟩, g4⟩, g5⟩, g6⟩, g7⟩ := h2
  simp [mjRv, g1, g2, g3, g4, g5, g6, g7]
theorem mjRc7_0 {a t0 x0 : Nat} (h : mjIs a 251 7 = true) : mjRv t0 x0 a 0 = some (a + 1) := by
  have h1 : ((List.range 251).all fun a => (mjLay a).1 != 7 || (a != 0 && a != 183 && a != 10 && a != 100 && a != 11 && a != 101 && decide (mjR0 a 0 = some (a + 1)))) = true := by decide +kernel
  have h2 := mjAll251 h1 (mjIs_spec h).1
  simp only [(mjIs_spec h).2, bne_self_eq_false, Bool.false_or, Bool.and_eq_true, bne_iff_ne, ne_eq, decide_eq_true_eq] at h2
  obtain ⟨⟨⟨⟨⟨⟨g1, g2⟩, g3⟩, g4⟩, g5⟩, g6⟩, g7⟩ := h2
  simp [mjRv, g1, g2, g3, g4, g5, g6, g7]
theorem mjRc7_1 {a t0 x0 : Nat} (h : mjIs a 251 7 = true) : mjRv t0 x0 a 1 = some (a + 2) := by
  have h1 : ((List.range 251).all fun a => (mjLay a).1 != 7 || (a != 0 && a != 183 && a != 10 && a != 100 && a != 11 && a != 101 && decide (mjR0 a 1 = some (a + 2)))) = true := by decide +kernel
  have h2 := mjAll251 h1 (mjIs_spec h).1
  simp only [(mjIs_spec h).2, bne_self_eq_false, Bool.false_or, Bool.and_eq_true, bne_iff_ne, ne_eq, decide_eq_true_eq] at h2
  obtain ⟨⟨⟨⟨⟨⟨g1, g2⟩, g3⟩, g4⟩, g5⟩, g6⟩, g7⟩ := h2
  simp [mjRv, g1, g2, g3, g4, g5, g6, g7]
theorem mjRc7_2 {a t0 x0 : Nat} (h : mjIs a 251 7 = true) : mjRv t0 x0 a 2 = some (a + 3) := by
  have h1 : ((List.range 251).all fun a => (mjLay a).1 != 7 || (a != 0 && a != 183 && a != 10 && a != 100 && a != 11 && a != 101 && decide (mjR0 a 2 = some (a + 3)))) = true := by decide +kernel
  have h2 := mjAll251 h1 (mjIs_spec h).1
  simp only [(mjIs_spec h).2, bne_self_eq_false, Bool.false_or, Bool.and_eq_true, bne_iff_ne, ne_eq, decide_eq_true_eq] at h2
  obtain ⟨⟨⟨⟨⟨⟨g1, g2⟩, g3⟩, g4⟩, g5⟩, g6⟩, g7⟩ := h2
  simp [mjRv, g1, g2, g3, g4, g5, g6, g7]
theorem mjRc7_3 {a t0 x0 : Nat} (h : mjIs a 251 7 = true) : mjRv t0 x0 a 3 = some (a + 4) := by
  have h1 : ((List.range 251).all fun a => (mjLay a).1 != 7 || (a != 0 && a != 183 && a != 10 && a != 100 && a != 11 && a != 101 && decide (mjR0 a 3 = some (a + 4)))) = true := by decide +kernel
  have h2 := mjAll251 h1 (mjIs_spec h).1
  simp only [(mjIs_spec h).2, bne_self_eq_false, Bool.false_or, Bool.and_eq_true, bne_iff_ne, ne_eq, decide_eq_true_eq] at h2
  obtain ⟨⟨⟨⟨⟨⟨g1, g2⟩, g3⟩, g4⟩, g5⟩, g6⟩, g7⟩ := h2
  simp [mjRv, g1, g2, g3, g4, g5, g6, g7]
theorem mjRc8_0 {a t0 x0 : Nat} (h : mjIs a 251 8 = true) : mjRv t0 x0 a 0 = some (a + 1) := by
  have h1 : ((List.range 251).all fun a => (mjLay a).1 != 8 || (a != 0 && a != 183 && a != 10 && a != 100 && a != 11 && a != 101 && decide (mjR0 a 0 = some (a + 1)))) = true := by decide +kernel
  have h2 := mjAll251 h1 (mjIs_spec h).1
  simp only [(mjIs_spec h).2, bne_self_eq_false, Bool.false_or, Bool.and_eq_true, bne_iff_ne, ne_eq, decide_eq_true_eq] at h2
  obtain ⟨⟨⟨⟨⟨⟨g1, g2⟩, g3⟩, g4⟩, g5⟩, g6⟩, g7⟩ := h2
  simp [mjRv, g1, g2, g3, g4, g5, g6, g7]
theorem mjRc8_1 {a t0 x0 : Nat} (h : mjIs a 251 8 = true) : mjRv t0 x0 a 1 = some (a + 2) := by
  have h1 : ((List.range 251).all fun a => (mjLay a).1 != 8 || (a != 0 && a != 183 && a != 10 && a != 100 && a != 11 && a != 101 && decide (mjR0 a 1 = some (a + 2)))) = true := by decide +kernel
  have h2 := mjAll251 h1 (mjIs_spec h).1
  simp only [(mjIs_spec h).2, bne_self_eq_false, Bool.false_or, Bool.and_eq_true, bne_iff_ne, ne_eq, decide_eq_true_eq] at h2
  obtain ⟨⟨⟨⟨⟨⟨g1, g2⟩, g3⟩, g4⟩, g5⟩, g6⟩, g7⟩ := h2
  simp [mjRv, g1, g2, g3, g4, g5, g6, g7]
theorem mjRc8_2 {a t0 x0 : Nat} (h : mjIs a 251 8 = true) : mjRv t0 x0 a 2 = some (a + 3) := by
  have h1 : ((List.range 251).all fun a => (mjLay a).1 != 8 || (a != 0 && a != 183 && a != 10 && a != 100 && a != 11 && a != 101 && decide (mjR0 a 2 = some (a + 3)))) = true := by decide +kernel
  have h2 := mjAll251 h1 (mjIs_spec h).1
  simp only [(mjIs_spec h).2, bne_self_eq_false, Bool.false_or, Bool.and_eq_true, bne_iff_ne, ne_eq, decide_eq_true_eq] at h2
  obtain ⟨⟨⟨⟨⟨⟨g1, g2⟩, g3⟩, g4⟩, g5⟩, g6⟩, g7⟩ := h2
  simp [mjRv, g1, g2, g3, g4, g5, g6, g7]
theorem mjRc8_3 {a t0 x0 : Nat} (h : mjIs a 251 8 = true) : mjRv t0 x0 a 3 = some (a + 4) := by
  have h1 : ((List.range 251).all fun a => (mjLay a).1 != 8 || (a != 0 && a != 183 && a != 10 && a != 100 && a != 11 && a != 101 && decide (mjR0 a 3 = some (a + 4)))) = true := by decide +kernel
  have h2 := mjAll251 h1 (mjIs_spec h).1
  simp only [(mjIs_spec h).2, bne_self_eq_false, Bool.false_or, Bool.and_eq_true, bne_iff_ne, ne_eq, decide_eq_true_eq] at h2
  obtain ⟨⟨⟨⟨⟨⟨g1, g2⟩, g3⟩, g4⟩, g5⟩, g6⟩, g7⟩ := h2
  simp [mjRv, g1, g2, g3, g4, g5, g6, g7]
theorem mjRc8_4 {a t0 x0 : Nat} (h : mjIs a 251 8 = true) : mjRv t0 x0 a 4 = some (a + 5) := by
  have h1 : ((List.range 251).all fun a => (mjLay a).1 != 8 || (a != 0 && a != 183 && a != 10 && a != 100 && a != 11 && a != 101 && decide (mjR0 a 4 = some (a + 5)))) = true := by decide +kernel
  have h2 := mjAll251 h1 (mjIs_spec h).1
  simp only [(mjIs_spec h).2, bne_self_eq_false, Bool.false_or, Bool.and_eq_true, bne_iff_ne, ne_eq, decide_eq_true_eq] at h2
  obtain ⟨⟨⟨⟨⟨⟨g1, g2⟩, g3⟩, g4⟩, g5⟩, g6⟩, g7⟩ := h2
  simp [mjRv, g1, g2, g3, g4, g5, g6, g7]
theorem mjRc8_5 {a t0 x0 : Nat} (h : mjIs a 251 8 = true) : mjRv t0 x0 a 5 = some (a + 6) := by
  have h1 : ((List.range 251).all fun a => (mjLay a).1 != 8 || (a != 0 && a != 183 && a != 10 && a != 100 && a != 11 && a != 101 && decide (mjR0 a 5 = some (a + 6)))) = true := by decide +kernel
  have h2 := mjAll251 h1 (mjIs_spec h).1
  simp only [(mjIs_spec h).2, bne_self_eq_false, Bool.false_or, Bool.and_eq_true, bne_iff_ne, ne_eq, decide_eq_true_eq] at h2
  obtain ⟨⟨⟨⟨⟨⟨g1, g2⟩, g3⟩, g4⟩, g5⟩, g6⟩, g7⟩ := h2
  simp [mjRv, g1, g2, g3, g4, g5, g6, g7]
theorem mjRc10_0 {a t0 x0 : Nat} (h : mjIs a 251 10 = true) : mjRv t0 x0 a 0 = some (a + 1) := by
  have h1 : ((List.range 251).all fun a => (mjLay a).1 != 10 || (a != 0 && a != 183 && a != 10 && a != 100 && a != 11 && a != 101 && decide (mjR0 a 0 = some (a + 1)))) = true := by decide +kernel
  have h2 := mjAll251 h1 (mjIs_spec h).1
  simp only [(mjIs_spec h).2, bne_self_eq_false, Bool.false_or, Bool.and_eq_true, bne_iff_ne, ne_eq, decide_eq_true_eq] at h2
  obtain ⟨⟨⟨⟨⟨⟨g1, g2⟩, g3⟩, g4⟩, g5⟩, g6⟩, g7⟩ := h2
  simp [mjRv, g1, g2, g3, g4, g5, g6, g7]
theorem mjRc10_1 {a t0 x0 : Nat} (h : mjIs a 251 10 = true) : mjRv t0 x0 a 1 = some (a + 2) := by
  have h1 : ((List.range 251).all fun a => (mjLay a).1 != 10 || (a != 0 && a != 183 && a != 10 && a != 100 && a != 11 && a != 101 && decide (mjR0 a 1 = some (a + 2)))) = true := by decide +kernel
  have h2 := mjAll251 h1 (mjIs_spec h).1
  simp only [(mjIs_spec h).2, bne_self_eq_false, Bool.false_or, Bool.and_eq_true, bne_iff_ne, ne_eq, decide_eq_true_eq] at h2
  obtain ⟨⟨⟨⟨⟨⟨g1, g2⟩, g3⟩, g4⟩, g5⟩, g6⟩, g7⟩ := h2
  simp [mjRv, g1, g2, g3, g4, g5, g6, g7]
theorem mjRc10_2 {a t0 x0 : Nat} (h : mjIs a 251 10 = true) : mjRv t0 x0 a 2 = some (a + 3) := by
  have h1 : ((List.range 251).all fun a => (mjLay a).1 != 10 || (a != 0 && a != 183 && a != 10 && a != 100 && a != 11 && a != 101 && decide (mjR0 a 2 = some (a + 3)))) = true := by decide +kernel
  have h2 := mjAll251 h1 (mjIs_spec h).1
  simp only [(mjIs_spec h).2, bne_self_eq_false, Bool.false_or, Bool.and_eq_true, bne_iff_ne, ne_eq, decide_eq_true_eq] at h2
  obtain ⟨⟨⟨⟨⟨⟨g1, g2⟩, g3⟩, g4⟩, g5⟩, g6⟩, g7⟩ := h2
  simp [mjRv, g1, g2, g3, g4, g5, g6, g7]
theorem mjRc10_3 {a t0 x0 : Nat} (h : mjIs a 251 10 = true) : mjRv t0 x0 a 3 = some (a + 4) := by
  have h1 : ((List.range 251).all fun a => (mjLay a).1 != 10 || (a != 0 && a != 183 && a != 10 && a != 100 && a != 11 && a != 101 && decide (mjR0 a 3 = some (a + 4)))) = true := by decide +kernel
  have h2 := mjAll251 h1 (mjIs_spec h).1
  simp only [(mjIs_spec h).2, bne_self_eq_false, Bool.false_or, Bool.and_eq_true, bne_iff_ne, ne_eq, decide_eq_true_eq] at h2
  obtain ⟨⟨⟨⟨⟨⟨g1, g2⟩, g3⟩, g4⟩, g5⟩, g6⟩, g7⟩ := h2
  simp [mjRv, g1, g2, g3, g4, g5, g6, g7]
theorem pG_lsi {d o : Int} {ps : Array (Int × Int)} {len : Nat} {x : Int32} (hl : mjLook (mjCode k) pc = some (.lookupswitch d ps, len)) (hz : (ps.toList.zip (ps.toList.drop 1)).all (fun (a, next) => a.1 < next.1) = true) (ho : Op.lookupswitch.offset ps.toList d x.toInt = o) (hj : mjJ pc o = some t) (g : pG k t L st (mjTo Z) F) : pG k pc L (.int x :: st) (mjTo Z) F := by
  refine pG_one (pc1 := t) (L1 := L) (st1 := st) (M1 := mjTo Z) ?_ g
  simp only [mjOne1, hl, mjLn, mjRet, mjStp, mjLsw, hz, ho, hj, if_true]
def zTx (Z : mjZt) (x : Nat) : mjZt := (Z.1, Z.2.1, Z.2.2.1, x)
theorem mjTo_tx (Z : mjZt) (x : Nat) : mjSr (mjTo Z) 183 0 (some x) = mjTo (zTx Z x) := by
  simp only [mjSr, mjTo, zTx]
  congr 2
  funext i j
  by_cases hi : i = 183
  · subst hi
    by_cases hj : j = 0
    · subst hj; rfl
    · simp [mjRv, hj]
  · simp [mjRv, hi]
theorem pG_putT {ix x : Nat} (hl : mjLook (mjCode k) pc = some (.putfield ix, 3)) (hf : mjFld (mjCls k) ix = some (9, 0)) (g : pG k (pc + 3) L st (mjTo (zTx Z x)) F) : pG k pc L (.ref x :: .ref 183 :: st) (mjTo Z) F := by
  refine pG_one (pc1 := pc + 3) (L1 := L) (st1 := st) (M1 := mjTo (zTx Z x)) ?_ g
  have h1 : (mjTx 9 0).2.2.2 = false := rfl
  have h2 : mjIs 183 251 9 = true := rfl
  have h3 : mjFk 9 0 = 2 := rfl
  simp [mjOne1, hl, mjLn, mjRet, mjStp, mjPut, hf, h1, h2, h3, mjTo_tx]
theorem pG_getX9 {a : Nat} (hl : mjLook (mjCode k) pc = some (.getfield 9, 3)) (hc : mjCls k = 18) (hi : mjSid a = true) (g : pG k (pc + 3) L (.ref (a + 100000) :: st) (mjTo Z) F) : pG k pc L (.ref a :: st) (mjTo Z) F := by
  refine pG_one (pc1 := pc + 3) (L1 := L) (st1 := .ref (a + 100000) :: st) (M1 := mjTo Z) ?_ g
  have h1 : mjFld 18 9 = none := rfl
  simp [mjOne1, hl, mjLn, mjRet, mjStp, mjGet, hc, h1, mjGetX, hi]
theorem pG_getX15 {a : Nat} (hl : mjLook (mjCode k) pc = some (.getfield 15, 3)) (hc : mjCls k = 18) (hi : mjSid a = true) (g : pG k (pc + 3) L (.int 0 :: st) (mjTo Z) F) : pG k pc L (.ref a :: st) (mjTo Z) F := by
  refine pG_one (pc1 := pc + 3) (L1 := L) (st1 := .int 0 :: st) (M1 := mjTo Z) ?_ g
  have h1 : mjFld 18 15 = none := rfl
  simp [mjOne1, hl, mjLn, mjRet, mjStp, mjGet, hc, h1, mjGetX, hi]
theorem pG_bbl {a : Nat} {i : Int32} (hl : mjLook (mjCode k) pc = some (.baload, 1)) (ha : mjSbd a = true) (hi : mjIn i (mjTx0 (a - 1100000)).length = true) (g : pG k (pc + 1) L (.int ((mjTx0 (a - 1100000)).getD (mjIx i) 0) :: st) (mjTo Z) F) : pG k pc L (.int i :: .ref a :: st) (mjTo Z) F := by
  refine pG_one (pc1 := pc + 1) (L1 := L) (st1 := .int ((mjTx0 (a - 1100000)).getD (mjIx i) 0) :: st) (M1 := mjTo Z) ?_ g
  simp only [mjOne1, hl, mjLn, mjRet, mjStp, mjBal, ha, hi, if_true, beq_self_eq_true]
theorem pG_blen {a : Nat} (hl : mjLook (mjCode k) pc = some (.arraylength, 1)) (ha : mjSbd a = true) (g : pG k (pc + 1) L (.int (Int32.ofNat (mjTx0 (a - 1100000)).length) :: st) (mjTo Z) F) : pG k pc L (.ref a :: st) (mjTo Z) F := by
  refine pG_one (pc1 := pc + 1) (L1 := L) (st1 := .int (Int32.ofNat (mjTx0 (a - 1100000)).length) :: st) (M1 := mjTo Z) ?_ g
  have h3 : ¬ a = 2000000 := by simp [mjSbd] at ha; omega
  simp only [mjOne1, hl, mjLn, mjRet, mjStp, mjLen, ha, if_neg h3, if_true, beq_self_eq_true]
end RU
