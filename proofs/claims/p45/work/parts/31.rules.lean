/-! rules, one an instruction that touches the state of the class -/
section RU
variable {k pc t : Nat} {L : mjLs} {st : List Value} {Z : mjZt} {F : Option Value → mjZt → Prop}
theorem pG_ift {off : Int} {c : ClassFile.Cond} {x : Int32} (hl : mjLook (mjCode k) pc = some (.ifCond c off, 3)) (hj : mjJ pc off = some t) (hc : mjCmp c x 0 = true) (g : pG k t L st (mjTo Z) F) : pG k pc L (.int x :: st) (mjTo Z) F := by
  refine pG_one (pc1 := t) (L1 := L) (st1 := st) (M1 := mjTo Z) (fun W hW => ?_) g
  show _ = _
  simp only [mjTo_eq]
  simp only [mjOne1, hl, mjLn, mjRet, mjStp, mjIf, mjBr, hj, hc, if_true, beq_self_eq_true]
theorem pG_iff {off : Int} {c : ClassFile.Cond} {x : Int32} (hl : mjLook (mjCode k) pc = some (.ifCond c off, 3)) (hj : mjJ pc off = some t) (hc : ¬ mjCmp c x 0 = true) (g : pG k (pc + 3) L st (mjTo Z) F) : pG k pc L (.int x :: st) (mjTo Z) F := by
  refine pG_one (pc1 := pc + 3) (L1 := L) (st1 := st) (M1 := mjTo Z) (fun W hW => ?_) g
  show _ = _
  simp only [mjTo_eq]
  simp only [mjOne1, hl, mjLn, mjRet, mjStp, mjIf, mjBr, hj, hc, if_false, if_true, beq_self_eq_true, Bool.false_eq_true]
theorem pG_cmt {off : Int} {c : ClassFile.Cond} {x y : Int32} (hl : mjLook (mjCode k) pc = some (.if_icmp c off, 3)) (hj : mjJ pc off = some t) (hc : mjCmp c x y = true) (g : pG k t L st (mjTo Z) F) : pG k pc L (.int y :: .int x :: st) (mjTo Z) F := by
  refine pG_one (pc1 := t) (L1 := L) (st1 := st) (M1 := mjTo Z) (fun W hW => ?_) g
  show _ = _
  simp only [mjTo_eq]
  simp only [mjOne1, hl, mjLn, mjRet, mjStp, mjIcmp, mjBr, hj, hc, if_true, beq_self_eq_true]
theorem pG_cmf {off : Int} {c : ClassFile.Cond} {x y : Int32} (hl : mjLook (mjCode k) pc = some (.if_icmp c off, 3)) (hj : mjJ pc off = some t) (hc : ¬ mjCmp c x y = true) (g : pG k (pc + 3) L st (mjTo Z) F) : pG k pc L (.int y :: .int x :: st) (mjTo Z) F := by
  refine pG_one (pc1 := pc + 3) (L1 := L) (st1 := st) (M1 := mjTo Z) (fun W hW => ?_) g
  show _ = _
  simp only [mjTo_eq]
  simp only [mjOne1, hl, mjLn, mjRet, mjStp, mjIcmp, mjBr, hj, hc, if_false, if_true, beq_self_eq_true, Bool.false_eq_true]
theorem pG_getI {ix ci f a : Nat} (hl : mjLook (mjCode k) pc = some (.getfield ix, 3)) (hf : mjFld (mjCls k) ix = some (ci, f)) (hk : mjFk ci f = 0 ∨ mjFk ci f = 3) (hi : mjIs a 211 ci = true) (hc : ci < 12) (g : pG k (pc + 3) L (.int (Z.1 a f) :: st) (mjTo Z) F) : pG k pc L (.ref a :: st) (mjTo Z) F := by
  refine pG_one (pc1 := pc + 3) (L1 := L) (st1 := .int (Z.1 a f) :: st) (M1 := mjTo Z) (fun W hW => ?_) g
  show _ = _
  simp only [mjTo_eq]
  rw [← (vw_lt (W := W) (Z := Z) (mjIs_spec hi).1).1]
  rcases hk with hk | hk <;> simp [mjOne1, hl, mjLn, mjRet, mjStp, mjGet, hf, vw_ob hi hc, hk]
theorem pG_getL {ix ci f a : Nat} (hl : mjLook (mjCode k) pc = some (.getfield ix, 3)) (hf : mjFld (mjCls k) ix = some (ci, f)) (hk : mjFk ci f = 1) (hi : mjIs a 211 ci = true) (hc : ci < 12) (g : pG k (pc + 3) L (.long (Z.2.1 a f) :: st) (mjTo Z) F) : pG k pc L (.ref a :: st) (mjTo Z) F := by
  refine pG_one (pc1 := pc + 3) (L1 := L) (st1 := .long (Z.2.1 a f) :: st) (M1 := mjTo Z) (fun W hW => ?_) g
  show _ = _
  simp only [mjTo_eq]
  rw [← (vw_lt (W := W) (Z := Z) (mjIs_spec hi).1).2.1]
  simp [mjOne1, hl, mjLn, mjRet, mjStp, mjGet, hf, vw_ob hi hc, hk]
theorem pG_getR {ix ci f a b : Nat} (hl : mjLook (mjCode k) pc = some (.getfield ix, 3)) (hf : mjFld (mjCls k) ix = some (ci, f)) (hk : mjFk ci f = 2) (hi : mjIs a 211 ci = true) (hc : ci < 12) (hR : mjRv Z.2.2.1 Z.2.2.2 a f = some b) (g : pG k (pc + 3) L (.ref b :: st) (mjTo Z) F) : pG k pc L (.ref a :: st) (mjTo Z) F := by
  refine pG_one (pc1 := pc + 3) (L1 := L) (st1 := .ref b :: st) (M1 := mjTo Z) (fun W hW => ?_) g
  show _ = _
  simp only [mjTo_eq]
  have h9 := (vw_lt (W := W) (Z := Z) (mjIs_spec hi).1).2.2.2 f
  rw [hR] at h9
  simp [mjOne1, hl, mjLn, mjRet, mjStp, mjGet, hf, vw_ob hi hc, hk, h9, va_rf]
theorem pG_putI {ix ci f a : Nat} {x : Int32} (hl : mjLook (mjCode k) pc = some (.putfield ix, 3)) (hf : mjFld (mjCls k) ix = some (ci, f)) (hk : mjFk ci f = 0) (hn : (mjTx ci f).2.2.2 = false) (hi : mjIs a 211 ci = true) (hc : ci < 12) (g : pG k (pc + 3) L st (mjTo (zSi Z a f x)) F) : pG k pc L (.int x :: .ref a :: st) (mjTo Z) F := by
  refine pG_one (pc1 := pc + 3) (L1 := L) (st1 := st) (M1 := mjTo (zSi Z a f x)) (fun W hW => ?_) g
  show _ = _
  simp only [mjTo_eq]
  have ha := (mjIs_spec hi).1
  simp [mjOne1, hl, mjLn, mjRet, mjStp, mjPut, hf, vw_ob hi hc, hk, hn, mjPutI, wr_lt ha, vw_si ha]
theorem pG_putZ {ix ci f a : Nat} {x : Int32} (hl : mjLook (mjCode k) pc = some (.putfield ix, 3)) (hf : mjFld (mjCls k) ix = some (ci, f)) (hk : mjFk ci f = 3) (hn : (mjTx ci f).2.2.2 = false) (hi : mjIs a 211 ci = true) (hc : ci < 12) (hx : x = 0 ∨ x = 1) (g : pG k (pc + 3) L st (mjTo (zSi Z a f x)) F) : pG k pc L (.int x :: .ref a :: st) (mjTo Z) F := by
  refine pG_one (pc1 := pc + 3) (L1 := L) (st1 := st) (M1 := mjTo (zSi Z a f x)) (fun W hW => ?_) g
  show _ = _
  simp only [mjTo_eq]
  have ha := (mjIs_spec hi).1
  simp [mjOne1, hl, mjLn, mjRet, mjStp, mjPut, hf, vw_ob hi hc, hk, hn, mjPutI, hx, wr_lt ha, vw_si ha]
theorem pG_putL {ix ci f a : Nat} {x : Int64} (hl : mjLook (mjCode k) pc = some (.putfield ix, 3)) (hf : mjFld (mjCls k) ix = some (ci, f)) (hk : mjFk ci f = 1) (hn : (mjTx ci f).2.2.2 = false) (hi : mjIs a 211 ci = true) (hc : ci < 12) (g : pG k (pc + 3) L st (mjTo (zSl Z a f x)) F) : pG k pc L (.long x :: .ref a :: st) (mjTo Z) F := by
  refine pG_one (pc1 := pc + 3) (L1 := L) (st1 := st) (M1 := mjTo (zSl Z a f x)) (fun W hW => ?_) g
  show _ = _
  simp only [mjTo_eq]
  have ha := (mjIs_spec hi).1
  simp [mjOne1, hl, mjLn, mjRet, mjStp, mjPut, hf, vw_ob hi hc, hk, hn, wr_lt ha, vw_sl ha]
theorem vw_ar {W : mjWt} {a c : Nat} (hi : mjIs a 211 c = true) (hc : 12 ≤ c) : mjKs (mjVw W Z) a (c + 100) = true := by
  have h1 := (vw_is (W := W) (Z := Z) hi).1
  rw [show (mjKc (c, 0)).1 = c + 100 from if_neg (by show ¬ c < 12; omega)] at h1
  exact h1
theorem pG_ial {a : Nat} {i : Int32} (hl : mjLook (mjCode k) pc = some (.iaload, 1)) (hi : mjIs a 211 13 = true) (hn : mjIn i (mjLay a).2 = true) (g : pG k (pc + 1) L (.int (Z.1 a (mjIx i)) :: st) (mjTo Z) F) : pG k pc L (.int i :: .ref a :: st) (mjTo Z) F := by
  refine pG_one (pc1 := pc + 1) (L1 := L) (st1 := .int (Z.1 a (mjIx i)) :: st) (M1 := mjTo Z) (fun W hW => ?_) g
  show _ = _
  simp only [mjTo_eq]
  have ha := (mjIs_spec hi).1
  have h3 : ¬ a = 2000000 := by omega
  rw [← (vw_lt (W := W) (Z := Z) ha).1]
  rw [← (vw_is (W := W) (Z := Z) hi).2.2] at hn
  simp [mjOne1, hl, mjLn, mjRet, mjStp, mjIal, h3, vw_ar hi (by decide), hn]
theorem pG_lal {a : Nat} {i : Int32} (hl : mjLook (mjCode k) pc = some (.laload, 1)) (hi : mjIs a 211 14 = true) (hn : mjIn i (mjLay a).2 = true) (g : pG k (pc + 1) L (.long (Z.2.1 a (mjIx i)) :: st) (mjTo Z) F) : pG k pc L (.int i :: .ref a :: st) (mjTo Z) F := by
  refine pG_one (pc1 := pc + 1) (L1 := L) (st1 := .long (Z.2.1 a (mjIx i)) :: st) (M1 := mjTo Z) (fun W hW => ?_) g
  show _ = _
  simp only [mjTo_eq]
  have ha := (mjIs_spec hi).1
  rw [← (vw_lt (W := W) (Z := Z) ha).2.1]
  rw [← (vw_is (W := W) (Z := Z) hi).2.2] at hn
  simp [mjOne1, hl, mjLn, mjRet, mjStp, mjLal, vw_ar hi (by decide), hn]
theorem pG_bal {a : Nat} {i : Int32} (hl : mjLook (mjCode k) pc = some (.baload, 1)) (hi : mjIs a 211 15 = true) (hn : mjIn i (mjLay a).2 = true) (g : pG k (pc + 1) L (.int (Z.1 a (mjIx i)) :: st) (mjTo Z) F) : pG k pc L (.int i :: .ref a :: st) (mjTo Z) F := by
  refine pG_one (pc1 := pc + 1) (L1 := L) (st1 := .int (Z.1 a (mjIx i)) :: st) (M1 := mjTo Z) (fun W hW => ?_) g
  show _ = _
  simp only [mjTo_eq]
  have ha := (mjIs_spec hi).1
  rw [← (vw_lt (W := W) (Z := Z) ha).1]
  rw [← (vw_is (W := W) (Z := Z) hi).2.2] at hn
  simp [mjOne1, hl, mjLn, mjRet, mjStp, mjBal, mjSbd_lt ha, vw_ar hi (by decide), hn]
theorem pG_aal {a b : Nat} {i : Int32} (hl : mjLook (mjCode k) pc = some (.aaload, 1)) (hi : mjIs a 211 16 = true ∨ mjIs a 211 17 = true) (hn : mjIn i (mjLay a).2 = true) (hR : mjRv Z.2.2.1 Z.2.2.2 a (mjIx i) = some b) (g : pG k (pc + 1) L (.ref b :: st) (mjTo Z) F) : pG k pc L (.int i :: .ref a :: st) (mjTo Z) F := by
  refine pG_one (pc1 := pc + 1) (L1 := L) (st1 := .ref b :: st) (M1 := mjTo Z) (fun W hW => ?_) g
  show _ = _
  simp only [mjTo_eq]
  have ha : a < 211 := by rcases hi with hi | hi <;> exact (mjIs_spec hi).1
  have h9 := (vw_lt (W := W) (Z := Z) ha).2.2.2 (mjIx i)
  rw [hR] at h9
  have hn2 : mjIn i (mjAl (mjVw W Z) a) = true := by rcases hi with hi | hi <;> (rw [(vw_is (W := W) (Z := Z) hi).2.2]; exact hn)
  have hk : mjKs (mjVw W Z) a 116 = true ∨ mjKs (mjVw W Z) a 117 = true ∨ mjKs (mjVw W Z) a 119 = true ∨ mjKs (mjVw W Z) a 120 = true := by
    rcases hi with hi | hi
    · exact Or.inl (vw_ar hi (by decide))
    · exact Or.inr (Or.inl (vw_ar hi (by decide)))
  simp only [mjOne1, hl, mjLn, mjRet, mjStp, mjAal, mjSrd_lt ha, if_pos (And.intro hk hn2), h9, va_rf, beq_self_eq_true, if_true]
theorem pG_ias {a : Nat} {i x : Int32} (hl : mjLook (mjCode k) pc = some (.iastore, 1)) (hi : mjIs a 211 13 = true) (hn : mjIn i (mjLay a).2 = true) (g : pG k (pc + 1) L st (mjTo (zSi Z a (mjIx i) x)) F) : pG k pc L (.int x :: .int i :: .ref a :: st) (mjTo Z) F := by
  refine pG_one (pc1 := pc + 1) (L1 := L) (st1 := st) (M1 := mjTo (zSi Z a (mjIx i) x)) (fun W hW => ?_) g
  show _ = _
  simp only [mjTo_eq]
  have ha := (mjIs_spec hi).1
  rw [← (vw_is (W := W) (Z := Z) hi).2.2] at hn
  simp [mjOne1, hl, mjLn, mjRet, mjStp, mjIas, vw_ar hi (by decide), hn, wr_lt ha, vw_si ha]
theorem pG_las {a : Nat} {i : Int32} {x : Int64} (hl : mjLook (mjCode k) pc = some (.lastore, 1)) (hi : mjIs a 211 14 = true) (hn : mjIn i (mjLay a).2 = true) (g : pG k (pc + 1) L st (mjTo (zSl Z a (mjIx i) x)) F) : pG k pc L (.long x :: .int i :: .ref a :: st) (mjTo Z) F := by
  refine pG_one (pc1 := pc + 1) (L1 := L) (st1 := st) (M1 := mjTo (zSl Z a (mjIx i) x)) (fun W hW => ?_) g
  show _ = _
  simp only [mjTo_eq]
  have ha := (mjIs_spec hi).1
  rw [← (vw_is (W := W) (Z := Z) hi).2.2] at hn
  simp [mjOne1, hl, mjLn, mjRet, mjStp, mjLas, vw_ar hi (by decide), hn, wr_lt ha, vw_sl ha]
theorem pG_bas {a : Nat} {i x : Int32} (hl : mjLook (mjCode k) pc = some (.bastore, 1)) (hi : mjIs a 211 15 = true) (hn : mjIn i (mjLay a).2 = true) (hx : x = 0 ∨ x = 1) (g : pG k (pc + 1) L st (mjTo (zSi Z a (mjIx i) x)) F) : pG k pc L (.int x :: .int i :: .ref a :: st) (mjTo Z) F := by
  refine pG_one (pc1 := pc + 1) (L1 := L) (st1 := st) (M1 := mjTo (zSi Z a (mjIx i) x)) (fun W hW => ?_) g
  show _ = _
  simp only [mjTo_eq]
  have ha := (mjIs_spec hi).1
  rw [← (vw_is (W := W) (Z := Z) hi).2.2] at hn
  simp [mjOne1, hl, mjLn, mjRet, mjStp, mjBas, vw_ar hi (by decide), hn, hx, wr_lt ha, vw_si ha]
theorem pG_len {a : Nat} (hl : mjLook (mjCode k) pc = some (.arraylength, 1)) (hi : a < 211) (h1 : 13 ≤ (mjLay a).1) (h2 : (mjLay a).1 < 18) (g : pG k (pc + 1) L (.int (Int32.ofNat (mjLay a).2) :: st) (mjTo Z) F) : pG k pc L (.ref a :: st) (mjTo Z) F := by
  refine pG_one (pc1 := pc + 1) (L1 := L) (st1 := .int (Int32.ofNat (mjLay a).2) :: st) (M1 := mjTo Z) (fun W hW => ?_) g
  show _ = _
  simp only [mjTo_eq]
  have h3 : ¬ a = 2000000 := by omega
  have h5 := (vw_lt (W := W) (Z := Z) hi).2.2.1
  have h6 : ((mjVw W Z).2.2.2 a).1 = (mjLay a).1 + 100 := by rw [h5]; exact if_neg (by omega)
  have h7 : mjAl (mjVw W Z) a = (mjLay a).2 := by rw [mjAl, h5]; rfl
  have h8 : 113 ≤ ((mjVw W Z).2.2.2 a).1 ∧ ((mjVw W Z).2.2.2 a).1 < 121 := by omega
  simp only [mjOne1, hl, mjLn, mjRet, mjStp, mjLen, if_neg h3, if_neg (mjSbd_lt hi), mjSrd_lt hi, if_pos h8, h7, beq_self_eq_true, if_true]
theorem pG_div {x y : Int32} (hl : mjLook (mjCode k) pc = some (.idiv, 1)) (hy : ¬ y = 0) (g : pG k (pc + 1) L (.int (x / y) :: st) (mjTo Z) F) : pG k pc L (.int y :: .int x :: st) (mjTo Z) F := by
  refine pG_one (pc1 := pc + 1) (L1 := L) (st1 := .int (x / y) :: st) (M1 := mjTo Z) (fun W hW => ?_) g
  show _ = _
  simp only [mjTo_eq]
  simp [mjOne1, hl, mjLn, mjRet, mjStp, hy]
theorem pG_rem {x y : Int32} (hl : mjLook (mjCode k) pc = some (.irem, 1)) (hy : ¬ y = 0) (g : pG k (pc + 1) L (.int (x - x / y * y) :: st) (mjTo Z) F) : pG k pc L (.int y :: .int x :: st) (mjTo Z) F := by
  refine pG_one (pc1 := pc + 1) (L1 := L) (st1 := .int (x - x / y * y) :: st) (M1 := mjTo Z) (fun W hW => ?_) g
  show _ = _
  simp only [mjTo_eq]
  simp [mjOne1, hl, mjLn, mjRet, mjStp, hy]
theorem vw_hi {W : mjWt} {a : Nat} (h : 251 ≤ a) : (mjVw W Z).1 a = Z.1 a := if_neg (by omega)
theorem pG_scr {i : Int32} (hl : mjLook (mjCode k) pc = some (.iaload, 1)) (hi : 0 ≤ i.toInt ∧ i.toInt < (Z.1 2000001 0).toInt) (g : pG k (pc + 1) L (.int (Z.1 2000000 (mjIx i)) :: st) (mjTo Z) F) : pG k pc L (.int i :: .ref 2000000 :: st) (mjTo Z) F := by
  refine pG_one (pc1 := pc + 1) (L1 := L) (st1 := .int (Z.1 2000000 (mjIx i)) :: st) (M1 := mjTo Z) (fun W hW => ?_) g
  show _ = _
  simp only [mjTo_eq]
  rw [← vw_hi (W := W) (Z := Z) (a := 2000000) (by decide)]
  rw [← vw_hi (W := W) (Z := Z) (a := 2000001) (by decide)] at hi
  simp only [mjOne1, hl, mjLn, mjRet, mjStp, mjIal, if_true, beq_self_eq_true]
  rw [if_pos hi]
theorem pG_slen (hl : mjLook (mjCode k) pc = some (.arraylength, 1)) (g : pG k (pc + 1) L (.int (Z.1 2000001 0) :: st) (mjTo Z) F) : pG k pc L (.ref 2000000 :: st) (mjTo Z) F := by
  refine pG_one (pc1 := pc + 1) (L1 := L) (st1 := .int (Z.1 2000001 0) :: st) (M1 := mjTo Z) (fun W hW => ?_) g
  show _ = _
  simp only [mjTo_eq]
  rw [← vw_hi (W := W) (Z := Z) (a := 2000001) (by decide)]
  simp only [mjOne1, hl, mjLn, mjRet, mjStp, mjLen, if_true, beq_self_eq_true]
theorem pG_lenS {a c : Nat} (hl : mjLook (mjCode k) pc = some (.arraylength, 1)) (h1 : 13 ≤ c) (h2 : c < 18) (hi : mjIs a 211 c = true) (g : pG k (pc + 1) L (.int (Int32.ofNat (mjLay a).2) :: st) (mjTo Z) F) : pG k pc L (.ref a :: st) (mjTo Z) F :=
  pG_len hl (mjIs_spec hi).1 (by rw [(mjIs_spec hi).2]; exact h1) (by rw [(mjIs_spec hi).2]; exact h2) g
def mjBd {α β : Type} (o : Option (α × mjZt)) (f : α → mjZt → Option β) : Option β := match o with
  | some w => f w.1 w.2
  | none => none
theorem mjBd_some {α β : Type} (v : α) (z : mjZt) (f : α → mjZt → Option β) : mjBd (some (v, z)) f = f v z := rfl
theorem mjBd_none {α β : Type} (f : α → mjZt → Option β) : mjBd (none : Option (α × mjZt)) f = none := rfl
def mjBp {α β : Type} (o : Option α) (f : α → Option β) : Option β := match o with
  | some w => f w
  | none => none
theorem mjBp_some {α β : Type} (v : α) (f : α → Option β) : mjBp (some v) f = f v := rfl
theorem mjBp_none {α β : Type} (f : α → Option β) : mjBp (none : Option α) f = none := rfl
def mjF : Nat := 20000
def mjMax (x y : Int32) : Int32 := if x < y then y else x
def mjMin (x y : Int32) : Int32 := if y < x then y else x
/-- the receiver of a virtual call -/
def mjRcS (C : Nat) (As : List Value) : Bool := match As with
  | .ref a :: _ => (mjIs a 211 C && decide (C < 12)) || (C == 18 && mjSid a)
  | _ => false
theorem mjRcv_is {a C : Nat} {As : List Value} (h : mjIs a 211 C = true) (h2 : C < 12) : mjRcS C (.ref a :: As) = true := by
  simp [mjRcS, h, h2]
theorem mjRcv_sid {a C : Nat} {As : List Value} (h : mjSid a = true) (h2 : C = 18) : mjRcS C (.ref a :: As) = true := by
  simp [mjRcS, h, h2]
theorem mjRcS_ok {W : mjWt} {C : Nat} {As : List Value} (h : mjRcS C As = true) : mjRcv (mjVw W Z) 0 C As = true := by
  unfold mjRcS at h
  split at h
  · rename_i a r
    simp only [Bool.or_eq_true, Bool.and_eq_true, decide_eq_true_eq, beq_iff_eq] at h
    rcases h with ⟨h1, h2⟩ | ⟨rfl, h2⟩
    · simp [mjRcv, mjRo, vw_ob (W := W) (Z := Z) h1 h2, show C < 21 by omega]
    · simp [mjRcv, mjRo, h2]
  · cases h
theorem pG_callV {ix k2 C : Nat} {As rest : List Value} {M : mjZt} {F2 : Option Value → mjZt → Prop} (hl : mjLook (mjCode k) pc = some (.invokevirtual ix, 3)) (hm : mjLkF (mjCls k) ix = some (k2, 0, C)) (h1 : (st.take (mjNp k2 0)).reverse = As) (h2 : st.drop (mjNp k2 0) = rest) (h3 : mjCallOk k k2 0 As rest = true) (h4 : mjRcS C As = true) (hk : k2 < 999) (hd : mjRk k2 < mjRk k)
    (g : pG k2 0 (mjEnt As (mjML k2)) [] M F2) (c : ∀ r M1, F2 r M1 → pG k (pc + 3) L (r.toList ++ rest) M1 F) : pG k pc L st M F := by
  refine pG_call (k2 := k2) (As := As) (rest := rest) (fun W hW => ?_) hk hd g c
  subst h1; subst h2
  have hq : mjCallQ k k2 0 C (mjRk k) (mjVw W M) (st.take (mjNp k2 0)).reverse (st.drop (mjNp k2 0)) = true := by
    unfold mjCallQ
    rw [if_neg (by omega), if_neg (by omega), if_neg (by omega), h3, mjRcS_ok h4, decide_eq_true (show 1 ≤ mjRk k by omega)]; rfl
  have hom : mjOpMd 0 0 = true := rfl
  simp only [mjCl1, hl, mjLn, mjCall, mjCv, hm, hq, hom, and_self, if_true, beq_self_eq_true]
theorem mjRt1_z {x : Int32} (hl : mjLook (mjCode k) pc = some (.ireturn, 1)) (hr : mjRt k = some .boolean) (hx : x = 0 ∨ x = 1) : mjRt1 k pc [.int x] = some (some (.int x)) := by
  simp only [mjRt1, hl, mjLn, mjRet, hr, if_pos hx, if_true, beq_self_eq_true]
theorem mjRt1_b {x : Int32} (hl : mjLook (mjCode k) pc = some (.ireturn, 1)) (hr : mjRt k = some .byte) (hx : x.toInt8.toInt32 = x) : mjRt1 k pc [.int x] = some (some (.int x)) := by
  simp only [mjRt1, hl, mjLn, mjRet, hr, if_pos hx, if_true, beq_self_eq_true]
theorem mjRt1_c {x : Int32} (hl : mjLook (mjCode k) pc = some (.ireturn, 1)) (hr : mjRt k = some .char) (hx : x.toUInt32.toUInt16.toUInt32.toInt32 = x) : mjRt1 k pc [.int x] = some (some (.int x)) := by
  simp only [mjRt1, hl, mjLn, mjRet, hr, if_pos hx, if_true, beq_self_eq_true]
theorem pG_tso {d lo hi : Int} {offs : Array Int} {len : Nat} {x : Int32} (hl : mjLook (mjCode k) pc = some (.tableswitch d lo hi offs, len)) (h : x.toInt < lo ∨ hi < x.toInt) (hj : mjJ pc d = some t) (g : pG k t L st (mjTo Z) F) : pG k pc L (.int x :: st) (mjTo Z) F := by
  refine pG_one (pc1 := t) (L1 := L) (st1 := st) (M1 := mjTo Z) (fun W hW => ?_) g
  show _ = _
  simp only [mjTo_eq]
  simp only [mjOne1, hl, mjLn, mjRet, mjStp, mjTsw, if_pos h, hj, if_true]
theorem pG_tsi {d lo hi o : Int} {offs : Array Int} {len j : Nat} {x : Int32} (hl : mjLook (mjCode k) pc = some (.tableswitch d lo hi offs, len)) (h : ¬ (x.toInt < lo ∨ hi < x.toInt)) (h2 : (x.toInt - lo).toNat = j) (ho : offs[j]? = some o) (hj : mjJ pc o = some t) (g : pG k t L st (mjTo Z) F) : pG k pc L (.int x :: st) (mjTo Z) F := by
  refine pG_one (pc1 := t) (L1 := L) (st1 := st) (M1 := mjTo Z) (fun W hW => ?_) g
  show _ = _
  simp only [mjTo_eq]
  simp only [mjOne1, hl, mjLn, mjRet, mjStp, mjTsw, if_neg h, h2, ho, hj, if_true]
theorem mjAll211 {P : Nat → Bool} (h : ((List.range 211).all P) = true) {a : Nat} (ha : a < 211) : P a = true := List.all_eq_true.mp h a (List.mem_range.mpr ha)
theorem mjRa16 {a t0 x0 : Nat} {i : Int32} (h : mjIs a 211 16 = true) (hi : mjIn i (mjLay a).2 = true) : mjRv t0 x0 a (mjIx i) = some (a + 10 + 5 * mjIx i) := by
  have h1 : ((List.range 211).all fun a => (mjLay a).1 != 16 || ((a == 10 || a == 100) && (mjLay a).2 == 6)) = true := by decide +kernel
  have h2 := mjAll211 h1 (mjIs_spec h).1
  simp only [(mjIs_spec h).2, bne_self_eq_false, Bool.false_or, Bool.and_eq_true, Bool.or_eq_true, beq_iff_eq] at h2
  simp only [mjIn, h2.2, decide_eq_true_eq] at hi
  have hx : mjIx i < 6 := by simp only [mjIx]; omega
  rcases h2.1 with rfl | rfl <;> simp [mjRv, hx]
theorem mjRa17 {a t0 x0 : Nat} {i : Int32} (h : mjIs a 211 17 = true) (hi : mjIn i (mjLay a).2 = true) : mjRv t0 x0 a (mjIx i) = some (a + 39 + mjIx i) := by
  have h1 : ((List.range 211).all fun a => (mjLay a).1 != 17 || ((a == 11 || a == 101) && (mjLay a).2 == 42)) = true := by decide +kernel
  have h2 := mjAll211 h1 (mjIs_spec h).1
  simp only [(mjIs_spec h).2, bne_self_eq_false, Bool.false_or, Bool.and_eq_true, Bool.or_eq_true, beq_iff_eq] at h2
  simp only [mjIn, h2.2, decide_eq_true_eq] at hi
  have hx : mjIx i < 42 := by simp only [mjIx]; omega
  rcases h2.1 with rfl | rfl <;> simp [mjRv, hx]
theorem mjRc2_12 {a t0 x0 : Nat} (h : mjIs a 211 2 = true) : mjRv t0 x0 a 12 = some (a + 1) := by
  have h1 : ((List.range 211).all fun a => (mjLay a).1 != 2 || (a != 0 && a != 183 && a != 10 && a != 100 && a != 11 && a != 101 && decide (mjR0 a 12 = some (a + 1)))) = true := by decide +kernel
  have h2 := mjAll211 h1 (mjIs_spec h).1
  simp only [(mjIs_spec h).2, bne_self_eq_false, Bool.false_or, Bool.and_eq_true, bne_iff_ne, ne_eq, decide_eq_true_eq] at h2
  obtain ⟨⟨⟨⟨⟨⟨g1, g2⟩, g3⟩, g4⟩, g5⟩, g6⟩, g7⟩ := h2
  simp [mjRv, g1, g2, g3, g4, g5, g6, g7]
theorem mjRc2_13 {a t0 x0 : Nat} (h : mjIs a 211 2 = true) : mjRv t0 x0 a 13 = some (a + 8) := by
  have h1 : ((List.range 211).all fun a => (mjLay a).1 != 2 || (a != 0 && a != 183 && a != 10 && a != 100 && a != 11 && a != 101 && decide (mjR0 a 13 = some (a + 8)))) = true := by decide +kernel
  have h2 := mjAll211 h1 (mjIs_spec h).1
  simp only [(mjIs_spec h).2, bne_self_eq_false, Bool.false_or, Bool.and_eq_true, bne_iff_ne, ne_eq, decide_eq_true_eq] at h2
  obtain ⟨⟨⟨⟨⟨⟨g1, g2⟩, g3⟩, g4⟩, g5⟩, g6⟩, g7⟩ := h2
  simp [mjRv, g1, g2, g3, g4, g5, g6, g7]
theorem mjRc2_14 {a t0 x0 : Nat} (h : mjIs a 211 2 = true) : mjRv t0 x0 a 14 = some (a + 9) := by
  have h1 : ((List.range 211).all fun a => (mjLay a).1 != 2 || (a != 0 && a != 183 && a != 10 && a != 100 && a != 11 && a != 101 && decide (mjR0 a 14 = some (a + 9)))) = true := by decide +kernel
  have h2 := mjAll211 h1 (mjIs_spec h).1
  simp only [(mjIs_spec h).2, bne_self_eq_false, Bool.false_or, Bool.and_eq_true, bne_iff_ne, ne_eq, decide_eq_true_eq] at h2
  obtain ⟨⟨⟨⟨⟨⟨g1, g2⟩, g3⟩, g4⟩, g5⟩, g6⟩, g7⟩ := h2
  simp [mjRv, g1, g2, g3, g4, g5, g6, g7]
theorem mjRc2_15 {a t0 x0 : Nat} (h : mjIs a 211 2 = true) : mjRv t0 x0 a 15 = some (a + 10) := by
  have h1 : ((List.range 211).all fun a => (mjLay a).1 != 2 || (a != 0 && a != 183 && a != 10 && a != 100 && a != 11 && a != 101 && decide (mjR0 a 15 = some (a + 10)))) = true := by decide +kernel
  have h2 := mjAll211 h1 (mjIs_spec h).1
  simp only [(mjIs_spec h).2, bne_self_eq_false, Bool.false_or, Bool.and_eq_true, bne_iff_ne, ne_eq, decide_eq_true_eq] at h2
  obtain ⟨⟨⟨⟨⟨⟨g1, g2⟩, g3⟩, g4⟩, g5⟩, g6⟩, g7⟩ := h2
  simp [mjRv, g1, g2, g3, g4, g5, g6, g7]
theorem mjRc2_16 {a t0 x0 : Nat} (h : mjIs a 211 2 = true) : mjRv t0 x0 a 16 = some (a + 11) := by
  have h1 : ((List.range 211).all fun a => (mjLay a).1 != 2 || (a != 0 && a != 183 && a != 10 && a != 100 && a != 11 && a != 101 && decide (mjR0 a 16 = some (a + 11)))) = true := by decide +kernel
  have h2 := mjAll211 h1 (mjIs_spec h).1
  simp only [(mjIs_spec h).2, bne_self_eq_false, Bool.false_or, Bool.and_eq_true, bne_iff_ne, ne_eq, decide_eq_true_eq] at h2
  obtain ⟨⟨⟨⟨⟨⟨g1, g2⟩, g3⟩, g4⟩, g5⟩, g6⟩, g7⟩ := h2
  simp [mjRv, g1, g2, g3, g4, g5, g6, g7]
theorem mjRc2_17 {a t0 x0 : Nat} (h : mjIs a 211 2 = true) : mjRv t0 x0 a 17 = some (a + 12) := by
  have h1 : ((List.range 211).all fun a => (mjLay a).1 != 2 || (a != 0 && a != 183 && a != 10 && a != 100 && a != 11 && a != 101 && decide (mjR0 a 17 = some (a + 12)))) = true := by decide +kernel
  have h2 := mjAll211 h1 (mjIs_spec h).1
  simp only [(mjIs_spec h).2, bne_self_eq_false, Bool.false_or, Bool.and_eq_true, bne_iff_ne, ne_eq, decide_eq_true_eq] at h2
  obtain ⟨⟨⟨⟨⟨⟨g1, g2⟩, g3⟩, g4⟩, g5⟩, g6⟩, g7⟩ := h2
  simp [mjRv, g1, g2, g3, g4, g5, g6, g7]
theorem mjRc2_18 {a t0 x0 : Nat} (h : mjIs a 211 2 = true) : mjRv t0 x0 a 18 = some (a + 17) := by
  have h1 : ((List.range 211).all fun a => (mjLay a).1 != 2 || (a != 0 && a != 183 && a != 10 && a != 100 && a != 11 && a != 101 && decide (mjR0 a 18 = some (a + 17)))) = true := by decide +kernel
  have h2 := mjAll211 h1 (mjIs_spec h).1
  simp only [(mjIs_spec h).2, bne_self_eq_false, Bool.false_or, Bool.and_eq_true, bne_iff_ne, ne_eq, decide_eq_true_eq] at h2
  obtain ⟨⟨⟨⟨⟨⟨g1, g2⟩, g3⟩, g4⟩, g5⟩, g6⟩, g7⟩ := h2
  simp [mjRv, g1, g2, g3, g4, g5, g6, g7]
theorem mjRc7_0 {a t0 x0 : Nat} (h : mjIs a 211 7 = true) : mjRv t0 x0 a 0 = some (a + 1) := by
  have h1 : ((List.range 211).all fun a => (mjLay a).1 != 7 || (a != 0 && a != 183 && a != 10 && a != 100 && a != 11 && a != 101 && decide (mjR0 a 0 = some (a + 1)))) = true := by decide +kernel
  have h2 := mjAll211 h1 (mjIs_spec h).1
  simp only [(mjIs_spec h).2, bne_self_eq_false, Bool.false_or, Bool.and_eq_true, bne_iff_ne, ne_eq, decide_eq_true_eq] at h2
  obtain ⟨⟨⟨⟨⟨⟨g1, g2⟩, g3⟩, g4⟩, g5⟩, g6⟩, g7⟩ := h2
  simp [mjRv, g1, g2, g3, g4, g5, g6, g7]
theorem mjRc7_1 {a t0 x0 : Nat} (h : mjIs a 211 7 = true) : mjRv t0 x0 a 1 = some (a + 2) := by
  have h1 : ((List.range 211).all fun a => (mjLay a).1 != 7 || (a != 0 && a != 183 && a != 10 && a != 100 && a != 11 && a != 101 && decide (mjR0 a 1 = some (a + 2)))) = true := by decide +kernel
  have h2 := mjAll211 h1 (mjIs_spec h).1
  simp only [(mjIs_spec h).2, bne_self_eq_false, Bool.false_or, Bool.and_eq_true, bne_iff_ne, ne_eq, decide_eq_true_eq] at h2
  obtain ⟨⟨⟨⟨⟨⟨g1, g2⟩, g3⟩, g4⟩, g5⟩, g6⟩, g7⟩ := h2
  simp [mjRv, g1, g2, g3, g4, g5, g6, g7]
theorem mjRc7_2 {a t0 x0 : Nat} (h : mjIs a 211 7 = true) : mjRv t0 x0 a 2 = some (a + 3) := by
  have h1 : ((List.range 211).all fun a => (mjLay a).1 != 7 || (a != 0 && a != 183 && a != 10 && a != 100 && a != 11 && a != 101 && decide (mjR0 a 2 = some (a + 3)))) = true := by decide +kernel
  have h2 := mjAll211 h1 (mjIs_spec h).1
  simp only [(mjIs_spec h).2, bne_self_eq_false, Bool.false_or, Bool.and_eq_true, bne_iff_ne, ne_eq, decide_eq_true_eq] at h2
  obtain ⟨⟨⟨⟨⟨⟨g1, g2⟩, g3⟩, g4⟩, g5⟩, g6⟩, g7⟩ := h2
  simp [mjRv, g1, g2, g3, g4, g5, g6, g7]
theorem mjRc7_3 {a t0 x0 : Nat} (h : mjIs a 211 7 = true) : mjRv t0 x0 a 3 = some (a + 4) := by
  have h1 : ((List.range 211).all fun a => (mjLay a).1 != 7 || (a != 0 && a != 183 && a != 10 && a != 100 && a != 11 && a != 101 && decide (mjR0 a 3 = some (a + 4)))) = true := by decide +kernel
  have h2 := mjAll211 h1 (mjIs_spec h).1
  simp only [(mjIs_spec h).2, bne_self_eq_false, Bool.false_or, Bool.and_eq_true, bne_iff_ne, ne_eq, decide_eq_true_eq] at h2
  obtain ⟨⟨⟨⟨⟨⟨g1, g2⟩, g3⟩, g4⟩, g5⟩, g6⟩, g7⟩ := h2
  simp [mjRv, g1, g2, g3, g4, g5, g6, g7]
theorem mjRc8_0 {a t0 x0 : Nat} (h : mjIs a 211 8 = true) : mjRv t0 x0 a 0 = some (a + 1) := by
  have h1 : ((List.range 211).all fun a => (mjLay a).1 != 8 || (a != 0 && a != 183 && a != 10 && a != 100 && a != 11 && a != 101 && decide (mjR0 a 0 = some (a + 1)))) = true := by decide +kernel
  have h2 := mjAll211 h1 (mjIs_spec h).1
  simp only [(mjIs_spec h).2, bne_self_eq_false, Bool.false_or, Bool.and_eq_true, bne_iff_ne, ne_eq, decide_eq_true_eq] at h2
  obtain ⟨⟨⟨⟨⟨⟨g1, g2⟩, g3⟩, g4⟩, g5⟩, g6⟩, g7⟩ := h2
  simp [mjRv, g1, g2, g3, g4, g5, g6, g7]
theorem mjRc8_1 {a t0 x0 : Nat} (h : mjIs a 211 8 = true) : mjRv t0 x0 a 1 = some (a + 2) := by
  have h1 : ((List.range 211).all fun a => (mjLay a).1 != 8 || (a != 0 && a != 183 && a != 10 && a != 100 && a != 11 && a != 101 && decide (mjR0 a 1 = some (a + 2)))) = true := by decide +kernel
  have h2 := mjAll211 h1 (mjIs_spec h).1
  simp only [(mjIs_spec h).2, bne_self_eq_false, Bool.false_or, Bool.and_eq_true, bne_iff_ne, ne_eq, decide_eq_true_eq] at h2
  obtain ⟨⟨⟨⟨⟨⟨g1, g2⟩, g3⟩, g4⟩, g5⟩, g6⟩, g7⟩ := h2
  simp [mjRv, g1, g2, g3, g4, g5, g6, g7]
theorem mjRc8_2 {a t0 x0 : Nat} (h : mjIs a 211 8 = true) : mjRv t0 x0 a 2 = some (a + 3) := by
  have h1 : ((List.range 211).all fun a => (mjLay a).1 != 8 || (a != 0 && a != 183 && a != 10 && a != 100 && a != 11 && a != 101 && decide (mjR0 a 2 = some (a + 3)))) = true := by decide +kernel
  have h2 := mjAll211 h1 (mjIs_spec h).1
  simp only [(mjIs_spec h).2, bne_self_eq_false, Bool.false_or, Bool.and_eq_true, bne_iff_ne, ne_eq, decide_eq_true_eq] at h2
  obtain ⟨⟨⟨⟨⟨⟨g1, g2⟩, g3⟩, g4⟩, g5⟩, g6⟩, g7⟩ := h2
  simp [mjRv, g1, g2, g3, g4, g5, g6, g7]
theorem mjRc8_3 {a t0 x0 : Nat} (h : mjIs a 211 8 = true) : mjRv t0 x0 a 3 = some (a + 4) := by
  have h1 : ((List.range 211).all fun a => (mjLay a).1 != 8 || (a != 0 && a != 183 && a != 10 && a != 100 && a != 11 && a != 101 && decide (mjR0 a 3 = some (a + 4)))) = true := by decide +kernel
  have h2 := mjAll211 h1 (mjIs_spec h).1
  simp only [(mjIs_spec h).2, bne_self_eq_false, Bool.false_or, Bool.and_eq_true, bne_iff_ne, ne_eq, decide_eq_true_eq] at h2
  obtain ⟨⟨⟨⟨⟨⟨g1, g2⟩, g3⟩, g4⟩, g5⟩, g6⟩, g7⟩ := h2
  simp [mjRv, g1, g2, g3, g4, g5, g6, g7]
theorem mjRc8_4 {a t0 x0 : Nat} (h : mjIs a 211 8 = true) : mjRv t0 x0 a 4 = some (a + 5) := by
  have h1 : ((List.range 211).all fun a => (mjLay a).1 != 8 || (a != 0 && a != 183 && a != 10 && a != 100 && a != 11 && a != 101 && decide (mjR0 a 4 = some (a + 5)))) = true := by decide +kernel
  have h2 := mjAll211 h1 (mjIs_spec h).1
  simp only [(mjIs_spec h).2, bne_self_eq_false, Bool.false_or, Bool.and_eq_true, bne_iff_ne, ne_eq, decide_eq_true_eq] at h2
  obtain ⟨⟨⟨⟨⟨⟨g1, g2⟩, g3⟩, g4⟩, g5⟩, g6⟩, g7⟩ := h2
  simp [mjRv, g1, g2, g3, g4, g5, g6, g7]
theorem mjRc8_5 {a t0 x0 : Nat} (h : mjIs a 211 8 = true) : mjRv t0 x0 a 5 = some (a + 6) := by
  have h1 : ((List.range 211).all fun a => (mjLay a).1 != 8 || (a != 0 && a != 183 && a != 10 && a != 100 && a != 11 && a != 101 && decide (mjR0 a 5 = some (a + 6)))) = true := by decide +kernel
  have h2 := mjAll211 h1 (mjIs_spec h).1
  simp only [(mjIs_spec h).2, bne_self_eq_false, Bool.false_or, Bool.and_eq_true, bne_iff_ne, ne_eq, decide_eq_true_eq] at h2
  obtain ⟨⟨⟨⟨⟨⟨g1, g2⟩, g3⟩, g4⟩, g5⟩, g6⟩, g7⟩ := h2
  simp [mjRv, g1, g2, g3, g4, g5, g6, g7]
theorem mjRc10_0 {a t0 x0 : Nat} (h : mjIs a 211 10 = true) : mjRv t0 x0 a 0 = some (a + 1) := by
  have h1 : ((List.range 211).all fun a => (mjLay a).1 != 10 || (a != 0 && a != 183 && a != 10 && a != 100 && a != 11 && a != 101 && decide (mjR0 a 0 = some (a + 1)))) = true := by decide +kernel
  have h2 := mjAll211 h1 (mjIs_spec h).1
  simp only [(mjIs_spec h).2, bne_self_eq_false, Bool.false_or, Bool.and_eq_true, bne_iff_ne, ne_eq, decide_eq_true_eq] at h2
  obtain ⟨⟨⟨⟨⟨⟨g1, g2⟩, g3⟩, g4⟩, g5⟩, g6⟩, g7⟩ := h2
  simp [mjRv, g1, g2, g3, g4, g5, g6, g7]
theorem mjRc10_1 {a t0 x0 : Nat} (h : mjIs a 211 10 = true) : mjRv t0 x0 a 1 = some (a + 2) := by
  have h1 : ((List.range 211).all fun a => (mjLay a).1 != 10 || (a != 0 && a != 183 && a != 10 && a != 100 && a != 11 && a != 101 && decide (mjR0 a 1 = some (a + 2)))) = true := by decide +kernel
  have h2 := mjAll211 h1 (mjIs_spec h).1
  simp only [(mjIs_spec h).2, bne_self_eq_false, Bool.false_or, Bool.and_eq_true, bne_iff_ne, ne_eq, decide_eq_true_eq] at h2
  obtain ⟨⟨⟨⟨⟨⟨g1, g2⟩, g3⟩, g4⟩, g5⟩, g6⟩, g7⟩ := h2
  simp [mjRv, g1, g2, g3, g4, g5, g6, g7]
theorem mjRc10_2 {a t0 x0 : Nat} (h : mjIs a 211 10 = true) : mjRv t0 x0 a 2 = some (a + 3) := by
  have h1 : ((List.range 211).all fun a => (mjLay a).1 != 10 || (a != 0 && a != 183 && a != 10 && a != 100 && a != 11 && a != 101 && decide (mjR0 a 2 = some (a + 3)))) = true := by decide +kernel
  have h2 := mjAll211 h1 (mjIs_spec h).1
  simp only [(mjIs_spec h).2, bne_self_eq_false, Bool.false_or, Bool.and_eq_true, bne_iff_ne, ne_eq, decide_eq_true_eq] at h2
  obtain ⟨⟨⟨⟨⟨⟨g1, g2⟩, g3⟩, g4⟩, g5⟩, g6⟩, g7⟩ := h2
  simp [mjRv, g1, g2, g3, g4, g5, g6, g7]
theorem mjRc10_3 {a t0 x0 : Nat} (h : mjIs a 211 10 = true) : mjRv t0 x0 a 3 = some (a + 4) := by
  have h1 : ((List.range 211).all fun a => (mjLay a).1 != 10 || (a != 0 && a != 183 && a != 10 && a != 100 && a != 11 && a != 101 && decide (mjR0 a 3 = some (a + 4)))) = true := by decide +kernel
  have h2 := mjAll211 h1 (mjIs_spec h).1
  simp only [(mjIs_spec h).2, bne_self_eq_false, Bool.false_or, Bool.and_eq_true, bne_iff_ne, ne_eq, decide_eq_true_eq] at h2
  obtain ⟨⟨⟨⟨⟨⟨g1, g2⟩, g3⟩, g4⟩, g5⟩, g6⟩, g7⟩ := h2
  simp [mjRv, g1, g2, g3, g4, g5, g6, g7]
theorem pG_lsi {d o : Int} {ps : Array (Int × Int)} {len : Nat} {x : Int32} (hl : mjLook (mjCode k) pc = some (.lookupswitch d ps, len)) (hz : (ps.toList.zip (ps.toList.drop 1)).all (fun (a, next) => a.1 < next.1) = true) (ho : Op.lookupswitch.offset ps.toList d x.toInt = o) (hj : mjJ pc o = some t) (g : pG k t L st (mjTo Z) F) : pG k pc L (.int x :: st) (mjTo Z) F := by
  refine pG_one (pc1 := t) (L1 := L) (st1 := st) (M1 := mjTo Z) (fun W hW => ?_) g
  show _ = _
  simp only [mjTo_eq]
  simp only [mjOne1, hl, mjLn, mjRet, mjStp, mjLsw, hz, ho, hj, if_true]
def zTx (Z : mjZt) (x : Nat) : mjZt := (Z.1, Z.2.1, Z.2.2.1, x)
theorem vw_tx {W : mjWt} (x : Nat) : mjSr (mjVw W Z) 183 0 (some x) = mjVw W (zTx Z x) := by
  refine Prod.ext rfl (Prod.ext rfl (Prod.ext ?_ rfl))
  funext i j
  show (if i = 183 then (if j = 0 then some x else (mjVw W Z).2.2.1 i j) else (mjVw W Z).2.2.1 i j) = (if i < 211 then mjRv Z.2.2.1 x i j else W.1 i j)
  by_cases hi : i = 183
  · subst hi
    rw [if_pos rfl, if_pos (show (183 : Nat) < 211 by decide)]
    by_cases hj : j = 0
    · subst hj; rfl
    · rw [if_neg hj]
      show (if (183 : Nat) < 211 then mjRv Z.2.2.1 Z.2.2.2 183 j else W.1 183 j) = _
      rw [if_pos (by decide)]
      simp [mjRv, hj]
  · rw [if_neg hi]
    show (if i < 211 then mjRv Z.2.2.1 Z.2.2.2 i j else W.1 i j) = _
    by_cases hl : i < 211
    · rw [if_pos hl, if_pos hl]
      simp [mjRv, hi]
    · rw [if_neg hl, if_neg hl]
theorem pG_putT {ix x : Nat} (hl : mjLook (mjCode k) pc = some (.putfield ix, 3)) (hf : mjFld (mjCls k) ix = some (9, 0)) (g : pG k (pc + 3) L st (mjTo (zTx Z x)) F) : pG k pc L (.ref x :: .ref 183 :: st) (mjTo Z) F := by
  refine pG_one (pc1 := pc + 3) (L1 := L) (st1 := st) (M1 := mjTo (zTx Z x)) (fun W hW => ?_) g
  show _ = _
  simp only [mjTo_eq]
  have h1 : (mjTx 9 0).2.2.2 = false := rfl
  have h2 : mjKs (mjVw W Z) 183 9 = true := vw_ob (W := W) (Z := Z) (a := 183) (c := 9) rfl (by decide)
  have h3 : mjFk 9 0 = 2 := rfl
  simp [mjOne1, hl, mjLn, mjRet, mjStp, mjPut, hf, h1, h2, h3, wr_lt (show 183 < 211 by decide), vw_tx]
theorem sid_ks {W : mjWt} {a c : Nat} (hw : mjWok W) (hi : mjSid a = true) (hc : c ≠ 99) : ¬ mjKs (mjVw W Z) a c = true := by
  simp only [mjSid, decide_eq_true_eq] at hi
  have h : (mjVw W Z).2.2.2 a = W.2 a := if_neg (by omega)
  simp only [mjKs, h, hw a hi.1, beq_iff_eq]
  exact fun q => hc q.symm
theorem pG_getX9 {a : Nat} (hl : mjLook (mjCode k) pc = some (.getfield 9, 3)) (hc : mjCls k = 18) (hi : mjSid a = true) (g : pG k (pc + 3) L (.ref (a + 100000) :: st) (mjTo Z) F) : pG k pc L (.ref a :: st) (mjTo Z) F := by
  refine pG_one (pc1 := pc + 3) (L1 := L) (st1 := .ref (a + 100000) :: st) (M1 := mjTo Z) (fun W hW => ?_) g
  show _ = _
  simp only [mjTo_eq]
  have h1 : mjFld 18 9 = some (18, 0) := rfl
  simp [mjOne1, hl, mjLn, mjRet, mjStp, mjGet, hc, h1, hi, sid_ks hW hi (show 18 ≠ 99 by decide)]
theorem pG_getX15 {a : Nat} (hl : mjLook (mjCode k) pc = some (.getfield 15, 3)) (hc : mjCls k = 18) (hi : mjSid a = true) (g : pG k (pc + 3) L (.int 0 :: st) (mjTo Z) F) : pG k pc L (.ref a :: st) (mjTo Z) F := by
  refine pG_one (pc1 := pc + 3) (L1 := L) (st1 := .int 0 :: st) (M1 := mjTo Z) (fun W hW => ?_) g
  show _ = _
  simp only [mjTo_eq]
  have h1 : mjFld 18 15 = some (18, 1) := rfl
  simp [mjOne1, hl, mjLn, mjRet, mjStp, mjGet, hc, h1, hi, sid_ks hW hi (show 18 ≠ 99 by decide)]
theorem pG_bbl {a : Nat} {i : Int32} (hl : mjLook (mjCode k) pc = some (.baload, 1)) (ha : mjSbd a = true) (hi : mjIn i (mjTx0 (a - 1100000)).length = true) (g : pG k (pc + 1) L (.int ((mjTx0 (a - 1100000)).getD (mjIx i) 0) :: st) (mjTo Z) F) : pG k pc L (.int i :: .ref a :: st) (mjTo Z) F := by
  refine pG_one (pc1 := pc + 1) (L1 := L) (st1 := .int ((mjTx0 (a - 1100000)).getD (mjIx i) 0) :: st) (M1 := mjTo Z) (fun W hW => ?_) g
  show _ = _
  simp only [mjTo_eq]
  simp only [mjOne1, hl, mjLn, mjRet, mjStp, mjBal, ha, hi, if_true, beq_self_eq_true]
theorem pG_blen {a : Nat} (hl : mjLook (mjCode k) pc = some (.arraylength, 1)) (ha : mjSbd a = true) (g : pG k (pc + 1) L (.int (Int32.ofNat (mjTx0 (a - 1100000)).length) :: st) (mjTo Z) F) : pG k pc L (.ref a :: st) (mjTo Z) F := by
  refine pG_one (pc1 := pc + 1) (L1 := L) (st1 := .int (Int32.ofNat (mjTx0 (a - 1100000)).length) :: st) (M1 := mjTo Z) (fun W hW => ?_) g
  show _ = _
  simp only [mjTo_eq]
  have h3 : ¬ a = 2000000 := by simp [mjSbd] at ha; omega
  simp only [mjOne1, hl, mjLn, mjRet, mjStp, mjLen, ha, if_neg h3, if_true, beq_self_eq_true]
theorem pG_stc {ix : Nat} (hl : mjLook (mjCode k) pc = some (.getstatic ix, 3)) (h : mjSt (mjCls k) ix = some 0) (g : pG k (pc + 3) L (.int 1 :: st) (mjTo Z) F) : pG k pc L st (mjTo Z) F := by
  refine pG_one (pc1 := pc + 3) (L1 := L) (st1 := .int 1 :: st) (M1 := mjTo Z) (fun W hW => ?_) g
  show _ = _
  simp only [mjTo_eq]
  simp only [mjOne1, hl, mjLn, mjRet, mjStp, mjGst, h, if_true, beq_self_eq_true]
end RU
