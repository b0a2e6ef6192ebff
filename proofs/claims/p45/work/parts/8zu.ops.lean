/-! what touches the memory, as partial functions; a rule for each -/
def qI (M : mjMem) (a ci f : Nat) : Option Int32 := if mjKs M a ci = true then (if mjFk ci f = 1 ∨ mjFk ci f = 2 then none else some (M.1 a f)) else if ci = 18 ∧ mjSid a = true then (if f = 1 then some 0 else none) else if ci = 17 ∧ mjIcd a = true ∧ f = 0 then some (vb_c (a - 1400000)) else none
def qR (M : mjMem) (a ci f : Nat) : Option Nat := if mjKs M a ci = true then (if mjFk ci f = 2 then M.2.2.1 a f else none) else if ci = 18 ∧ mjSid a = true ∧ f = 0 then some (a + 100000) else none
def qSi (Z : mjQ) (a ci f : Nat) (x : Int32) : Option mjQ := if mjKs Z.2 a ci = true ∧ mjPutI (mjFk ci f) x = true then some (Z.1, mjSi Z.2 a f x) else none
def qSr (Z : mjQ) (a ci f : Nat) (b : Option Nat) : Option mjQ := if mjKs Z.2 a ci = true ∧ mjFk ci f = 2 then some (Z.1, mjSr Z.2 a f b) else none
def qIa (M : mjMem) (a : Nat) (i : Int32) : Option Int32 := if a = 2000000 then (if 0 ≤ i.toInt ∧ i.toInt < (M.1 2000001 0).toInt then some (M.1 2000000 (mjIx i)) else none) else if mjKs M a 113 = true ∧ mjIn i (mjAl M a) = true then some (M.1 a (mjIx i)) else none
def qBa (M : mjMem) (a : Nat) (i : Int32) : Option Int32 := if mjSbd a = true then (if mjIn i (mjTx0 (a - 1100000)).length = true then some ((mjTx0 (a - 1100000)).getD (mjIx i) 0) else none) else if (mjKs M a 115 = true ∨ mjKs M a 118 = true) ∧ mjIn i (mjAl M a) = true then some (M.1 a (mjIx i)) else none
def qAa (M : mjMem) (a : Nat) (i : Int32) : Option Nat := match mjSrd a with
  | some w => if mjIn i w = true then some (mjSre a (mjIx i)) else none
  | none => if (mjKs M a 116 = true ∨ mjKs M a 117 = true ∨ mjKs M a 119 = true ∨ mjKs M a 120 = true) ∧ mjIn i (mjAl M a) = true then M.2.2.1 a (mjIx i) else none
def qSia (Z : mjQ) (a : Nat) (i x : Int32) : Option mjQ := if mjKs Z.2 a 113 = true ∧ mjIn i (mjAl Z.2 a) = true then some (Z.1, mjSi Z.2 a (mjIx i) x) else none
def qSba (Z : mjQ) (a : Nat) (i x : Int32) : Option mjQ := if mjKs Z.2 a 118 = true ∧ mjIn i (mjAl Z.2 a) = true then some (Z.1, mjSi Z.2 a (mjIx i) (vp_nar .byte x)) else none
def qSra (Z : mjQ) (a : Nat) (i : Int32) (b : Nat) : Option mjQ := if mjAok Z.2 a b = true ∧ mjIn i (mjAl Z.2 a) = true then some (Z.1, mjSr Z.2 a (mjIx i) (some b)) else none
def qLn (M : mjMem) (a : Nat) : Option Int32 := if a = 2000000 then some (M.1 2000001 0) else if mjSbd a = true then some (Int32.ofNat (mjTx0 (a - 1100000)).length) else match mjSrd a with
  | some w => some (Int32.ofNat w)
  | none => if 113 ≤ (M.2.2.2 a).1 ∧ (M.2.2.2 a).1 < 121 then some (Int32.ofNat (mjAl M a)) else none
def mjBq {α β : Type} (o : Option (α × mjQ)) (f : α → mjQ → Option β) : Option β := match o with
  | some w => f w.1 w.2
  | none => none
theorem mjBq_some {α β : Type} (v : α) (z : mjQ) (f : α → mjQ → Option β) : mjBq (some (v, z)) f = f v z := rfl
section QO
variable {sg : Nat → Nat} {d k pc t : Nat} {L : mjLs} {st : List Value} {Z Z2 : mjQ} {F : Option Value → mjQ → Prop}
theorem pE_gI {ix ci f a : Nat} {v : Int32} (hl : mjLook (mjCode k) pc = some (.getfield ix, 3)) (hf : mjFld (mjCls k) ix = some (ci, f)) (hv : qI Z.2 a ci f = some v) (g : pE sg d k (pc + 3) L (.int v :: st) Z F) : pE sg d k pc L (.ref a :: st) Z F := by
  refine pE_one (pc1 := pc + 3) (L1 := L) (st1 := .int v :: st) (M1 := Z.2) ?_ g
  unfold qI at hv
  simp only [mjOne1, hl, mjLn, mjRet, mjStp, mjGet, hf, if_true, beq_self_eq_true]
  by_cases h1 : mjKs Z.2 a ci = true
  · rw [if_pos h1] at hv ⊢
    by_cases h2 : mjFk ci f = 1 ∨ mjFk ci f = 2
    · rw [if_pos h2] at hv; cases hv
    · rw [if_neg h2] at hv
      cases hv
      split <;> simp_all
  · rw [if_neg h1] at hv ⊢
    by_cases h3 : ci = 18 ∧ mjSid a = true
    · rw [if_pos h3] at hv ⊢
      by_cases h4 : f = 1
      · subst h4; rw [if_pos rfl] at hv; cases hv; rfl
      · rw [if_neg h4] at hv; cases hv
    · rw [if_neg h3] at hv ⊢
      by_cases h5 : ci = 17 ∧ mjIcd a = true ∧ f = 0
      · rw [if_pos h5] at hv ⊢; rw [Option.some.inj hv]
      · rw [if_neg h5] at hv; cases hv
theorem pE_gR {ix ci f a b : Nat} (hl : mjLook (mjCode k) pc = some (.getfield ix, 3)) (hf : mjFld (mjCls k) ix = some (ci, f)) (hv : qR Z.2 a ci f = some b) (g : pE sg d k (pc + 3) L (.ref b :: st) Z F) : pE sg d k pc L (.ref a :: st) Z F := by
  refine pE_one (pc1 := pc + 3) (L1 := L) (st1 := .ref b :: st) (M1 := Z.2) ?_ g
  unfold qR at hv
  simp only [mjOne1, hl, mjLn, mjRet, mjStp, mjGet, hf, if_true, beq_self_eq_true]
  by_cases h1 : mjKs Z.2 a ci = true
  · rw [if_pos h1] at hv ⊢
    by_cases h2 : mjFk ci f = 2
    · rw [if_pos h2] at hv
      simp [h2, hv, va_rf]
    · rw [if_neg h2] at hv; cases hv
  · rw [if_neg h1] at hv ⊢
    by_cases h3 : ci = 18 ∧ mjSid a = true ∧ f = 0
    · rw [if_pos h3] at hv
      cases hv
      rw [if_pos ⟨h3.1, h3.2.1⟩, if_pos h3.2.2]
    · rw [if_neg h3] at hv; cases hv
theorem pE_pI {ix ci f a : Nat} {x : Int32} (hl : mjLook (mjCode k) pc = some (.putfield ix, 3)) (hf : mjFld (mjCls k) ix = some (ci, f)) (hn : ¬ ((mjTx ci f).2.2.2 = true ∧ ¬ (mjKd k = 2 ∧ ci = mjCls k))) (hk : mjKC ≤ k) (hv : qSi Z a ci f x = some Z2) (g : pE sg d k (pc + 3) L st Z2 F) : pE sg d k pc L (.int x :: .ref a :: st) Z F := by
  unfold qSi at hv
  by_cases h1 : mjKs Z.2 a ci = true ∧ mjPutI (mjFk ci f) x = true
  · rw [if_pos h1] at hv
    cases hv
    refine pE_one (pc1 := pc + 3) (L1 := L) (st1 := st) (M1 := mjSi Z.2 a f x) ?_ g
    have hw : mjWr k a = true := decide_eq_true (Or.inl hk)
    simp only [mjOne1, hl, mjLn, mjRet, mjStp, mjPut, hf, if_neg hn, if_true, beq_self_eq_true, h1.1, h1.2, hw, and_self]
  · rw [if_neg h1] at hv; cases hv
theorem pE_pR {ix ci f a : Nat} {o : Option Nat} (hl : mjLook (mjCode k) pc = some (.putfield ix, 3)) (hf : mjFld (mjCls k) ix = some (ci, f)) (hn : ¬ ((mjTx ci f).2.2.2 = true ∧ ¬ (mjKd k = 2 ∧ ci = mjCls k))) (hk : mjKC ≤ k) (hv : qSr Z a ci f o = some Z2) (g : pE sg d k (pc + 3) L st Z2 F) : pE sg d k pc L (va_rf o :: .ref a :: st) Z F := by
  unfold qSr at hv
  by_cases h1 : mjKs Z.2 a ci = true ∧ mjFk ci f = 2
  · rw [if_pos h1] at hv
    cases hv
    refine pE_one (pc1 := pc + 3) (L1 := L) (st1 := st) (M1 := mjSr Z.2 a f o) ?_ g
    have hw : mjWr k a = true := decide_eq_true (Or.inl hk)
    cases o <;> simp only [va_rf, mjOne1, hl, mjLn, mjRet, mjStp, mjPut, hf, if_neg hn, if_true, beq_self_eq_true, h1.1, h1.2, hw, and_self]
  · rw [if_neg h1] at hv; cases hv
theorem pE_ial {a : Nat} {i v : Int32} (hl : mjLook (mjCode k) pc = some (.iaload, 1)) (hv : qIa Z.2 a i = some v) (g : pE sg d k (pc + 1) L (.int v :: st) Z F) : pE sg d k pc L (.int i :: .ref a :: st) Z F := by
  refine pE_one (pc1 := pc + 1) (L1 := L) (st1 := .int v :: st) (M1 := Z.2) ?_ g
  unfold qIa at hv
  simp only [mjOne1, hl, mjLn, mjRet, mjStp, mjIal, if_true, beq_self_eq_true]
  by_cases h1 : a = 2000000
  · rw [if_pos h1] at hv ⊢
    split at hv
    · rename_i h2; rw [if_pos h2]; cases hv; rfl
    · cases hv
  · rw [if_neg h1] at hv ⊢
    split at hv
    · rename_i h2; rw [if_pos h2]; cases hv; rfl
    · cases hv
theorem pE_bal {a : Nat} {i v : Int32} (hl : mjLook (mjCode k) pc = some (.baload, 1)) (hv : qBa Z.2 a i = some v) (g : pE sg d k (pc + 1) L (.int v :: st) Z F) : pE sg d k pc L (.int i :: .ref a :: st) Z F := by
  refine pE_one (pc1 := pc + 1) (L1 := L) (st1 := .int v :: st) (M1 := Z.2) ?_ g
  unfold qBa at hv
  simp only [mjOne1, hl, mjLn, mjRet, mjStp, mjBal, if_true, beq_self_eq_true]
  by_cases h1 : mjSbd a = true
  · rw [if_pos h1] at hv ⊢
    split at hv
    · rename_i h2; rw [if_pos h2]; rw [Option.some.inj hv]
    · cases hv
  · rw [if_neg h1] at hv ⊢
    split at hv
    · rename_i h2; rw [if_pos h2]; cases hv; rfl
    · cases hv
theorem pE_aal {a b : Nat} {i : Int32} (hl : mjLook (mjCode k) pc = some (.aaload, 1)) (hv : qAa Z.2 a i = some b) (g : pE sg d k (pc + 1) L (.ref b :: st) Z F) : pE sg d k pc L (.int i :: .ref a :: st) Z F := by
  refine pE_one (pc1 := pc + 1) (L1 := L) (st1 := .ref b :: st) (M1 := Z.2) ?_ g
  unfold qAa at hv
  simp only [mjOne1, hl, mjLn, mjRet, mjStp, mjAal, if_true, beq_self_eq_true]
  split at hv
  · rename_i w hw
    rw [hw]
    split at hv
    · rename_i h2
      show (if mjIn i w = true then _ else _) = _
      rw [if_pos h2]; cases hv; rfl
    · cases hv
  · rename_i hw
    rw [hw]
    split at hv
    · rename_i h2
      show (if (mjKs Z.2 a 116 = true ∨ mjKs Z.2 a 117 = true ∨ mjKs Z.2 a 119 = true ∨ mjKs Z.2 a 120 = true) ∧ mjIn i (mjAl Z.2 a) = true then _ else _) = _
      rw [if_pos h2, hv]; rfl
    · cases hv
theorem pE_ias {a : Nat} {i x : Int32} (hl : mjLook (mjCode k) pc = some (.iastore, 1)) (hk : mjKC ≤ k) (hv : qSia Z a i x = some Z2) (g : pE sg d k (pc + 1) L st Z2 F) : pE sg d k pc L (.int x :: .int i :: .ref a :: st) Z F := by
  unfold qSia at hv
  split at hv
  · rename_i h1
    cases hv
    refine pE_one (pc1 := pc + 1) (L1 := L) (st1 := st) (M1 := mjSi Z.2 a (mjIx i) x) ?_ g
    have hw : mjWr k a = true := decide_eq_true (Or.inl hk)
    simp only [mjOne1, hl, mjLn, mjRet, mjStp, mjIas, if_true, beq_self_eq_true, h1.1, h1.2, hw, and_self]
  · cases hv
theorem pE_bas {a : Nat} {i x : Int32} (hl : mjLook (mjCode k) pc = some (.bastore, 1)) (hk : mjKC ≤ k) (hv : qSba Z a i x = some Z2) (g : pE sg d k (pc + 1) L st Z2 F) : pE sg d k pc L (.int x :: .int i :: .ref a :: st) Z F := by
  unfold qSba at hv
  split at hv
  · rename_i h1
    cases hv
    refine pE_one (pc1 := pc + 1) (L1 := L) (st1 := st) (M1 := mjSi Z.2 a (mjIx i) (vp_nar .byte x)) ?_ g
    have hw : mjWr k a = true := decide_eq_true (Or.inl hk)
    have h5 : ¬ (mjKs Z.2 a 115 = true ∧ mjIn i (mjAl Z.2 a) = true ∧ (x = 0 ∨ x = 1) ∧ mjWr k a = true) := by
      rintro ⟨h6, -⟩
      have h7 := h1.1
      simp only [mjKs, beq_iff_eq] at h6 h7
      omega
    simp only [mjOne1, hl, mjLn, mjRet, mjStp, mjBas, if_true, beq_self_eq_true]
    rw [if_neg h5, if_pos ⟨h1.1, h1.2, hw⟩]
  · cases hv
theorem pE_aas {a b : Nat} {i : Int32} (hl : mjLook (mjCode k) pc = some (.aastore, 1)) (hk : mjKC ≤ k) (hv : qSra Z a i b = some Z2) (g : pE sg d k (pc + 1) L st Z2 F) : pE sg d k pc L (.ref b :: .int i :: .ref a :: st) Z F := by
  unfold qSra at hv
  split at hv
  · rename_i h1
    cases hv
    refine pE_one (pc1 := pc + 1) (L1 := L) (st1 := st) (M1 := mjSr Z.2 a (mjIx i) (some b)) ?_ g
    have hw : mjWr k a = true := decide_eq_true (Or.inl hk)
    simp only [mjOne1, hl, mjLn, mjRet, mjStp, mjAas, if_true, beq_self_eq_true, h1.1, h1.2, hw, and_self]
  · cases hv
theorem pE_len {a : Nat} {v : Int32} (hl : mjLook (mjCode k) pc = some (.arraylength, 1)) (hv : qLn Z.2 a = some v) (g : pE sg d k (pc + 1) L (.int v :: st) Z F) : pE sg d k pc L (.ref a :: st) Z F := by
  refine pE_one (pc1 := pc + 1) (L1 := L) (st1 := .int v :: st) (M1 := Z.2) ?_ g
  unfold qLn at hv
  simp only [mjOne1, hl, mjLn, mjRet, mjStp, mjLen, if_true, beq_self_eq_true]
  by_cases h1 : a = 2000000
  · rw [if_pos h1] at hv ⊢; cases hv; rfl
  · rw [if_neg h1] at hv ⊢
    by_cases h2 : mjSbd a = true
    · rw [if_pos h2] at hv ⊢; rw [Option.some.inj hv]
    · rw [if_neg h2] at hv ⊢
      split at hv
      · rename_i w hw; rw [hw]; cases hv; rfl
      · rename_i hw
        rw [hw]
        split at hv
        · rename_i h3
          show (if 113 ≤ (Z.2.2.2.2 a).1 ∧ (Z.2.2.2.2 a).1 < 121 then _ else _) = _
          rw [if_pos h3]; cases hv; rfl
        · cases hv
theorem pE_ift {off : Int} {c : ClassFile.Cond} {x : Int32} (hl : mjLook (mjCode k) pc = some (.ifCond c off, 3)) (hj : mjJ pc off = some t) (hc : mjCmp c x 0 = true) (g : pE sg d k t L st Z F) : pE sg d k pc L (.int x :: st) Z F := by
  refine pE_one (pc1 := t) (L1 := L) (st1 := st) (M1 := Z.2) ?_ g
  simp only [mjOne1, hl, mjLn, mjRet, mjStp, mjIf, mjBr, hj, hc, if_true, beq_self_eq_true]
theorem pE_iff {off : Int} {c : ClassFile.Cond} {x : Int32} (hl : mjLook (mjCode k) pc = some (.ifCond c off, 3)) (hj : mjJ pc off = some t) (hc : ¬ mjCmp c x 0 = true) (g : pE sg d k (pc + 3) L st Z F) : pE sg d k pc L (.int x :: st) Z F := by
  refine pE_one (pc1 := pc + 3) (L1 := L) (st1 := st) (M1 := Z.2) ?_ g
  simp only [mjOne1, hl, mjLn, mjRet, mjStp, mjIf, mjBr, hj, hc, if_false, if_true, beq_self_eq_true, Bool.false_eq_true]
theorem pE_cmt {off : Int} {c : ClassFile.Cond} {x y : Int32} (hl : mjLook (mjCode k) pc = some (.if_icmp c off, 3)) (hj : mjJ pc off = some t) (hc : mjCmp c x y = true) (g : pE sg d k t L st Z F) : pE sg d k pc L (.int y :: .int x :: st) Z F := by
  refine pE_one (pc1 := t) (L1 := L) (st1 := st) (M1 := Z.2) ?_ g
  simp only [mjOne1, hl, mjLn, mjRet, mjStp, mjIcmp, mjBr, hj, hc, if_true, beq_self_eq_true]
theorem pE_cmf {off : Int} {c : ClassFile.Cond} {x y : Int32} (hl : mjLook (mjCode k) pc = some (.if_icmp c off, 3)) (hj : mjJ pc off = some t) (hc : ¬ mjCmp c x y = true) (g : pE sg d k (pc + 3) L st Z F) : pE sg d k pc L (.int y :: .int x :: st) Z F := by
  refine pE_one (pc1 := pc + 3) (L1 := L) (st1 := st) (M1 := Z.2) ?_ g
  simp only [mjOne1, hl, mjLn, mjRet, mjStp, mjIcmp, mjBr, hj, hc, if_false, if_true, beq_self_eq_true, Bool.false_eq_true]
theorem pE_div {x y : Int32} (hl : mjLook (mjCode k) pc = some (.idiv, 1)) (hy : ¬ y = 0) (g : pE sg d k (pc + 1) L (.int (x / y) :: st) Z F) : pE sg d k pc L (.int y :: .int x :: st) Z F := by
  refine pE_one (pc1 := pc + 1) (L1 := L) (st1 := .int (x / y) :: st) (M1 := Z.2) ?_ g
  simp only [mjOne1, hl, mjLn, mjRet, mjStp, if_neg hy, if_true, beq_self_eq_true]
theorem pE_rem {x y : Int32} (hl : mjLook (mjCode k) pc = some (.irem, 1)) (hy : ¬ y = 0) (g : pE sg d k (pc + 1) L (.int (x - x / y * y) :: st) Z F) : pE sg d k pc L (.int y :: .int x :: st) Z F := by
  refine pE_one (pc1 := pc + 1) (L1 := L) (st1 := .int (x - x / y * y) :: st) (M1 := Z.2) ?_ g
  simp only [mjOne1, hl, mjLn, mjRet, mjStp, if_neg hy, if_true, beq_self_eq_true]
theorem pE_cast {ix a : Nat} (hl : mjLook (mjCode k) pc = some (.checkcast ix, 3)) (hv : (mjCkF (mjCls k) ix = some 0 ∧ mjIcd a = true) ∨ (mjCkF (mjCls k) ix = some 2 ∧ mjKs Z.2 a 19 = true) ∨ (mjCkF (mjCls k) ix = some 3 ∧ mjKs Z.2 a 20 = true) ∨ (mjCkF (mjCls k) ix = some 4 ∧ mjKs Z.2 a 118 = true)) (g : pE sg d k (pc + 3) L (.ref a :: st) Z F) : pE sg d k pc L (.ref a :: st) Z F := by
  refine pE_one (pc1 := pc + 3) (L1 := L) (st1 := .ref a :: st) (M1 := Z.2) ?_ g
  simp only [mjOne1, hl, mjLn, mjRet, mjStp, mjCast, if_pos hv, if_true, beq_self_eq_true]
theorem pE_ins1 {ix a : Nat} (hl : mjLook (mjCode k) pc = some (.instanceof ix, 3)) (hv : (mjCkF (mjCls k) ix = some 0 ∧ mjIcd a = true) ∨ (mjCkF (mjCls k) ix = some 2 ∧ mjKs Z.2 a 19 = true)) (g : pE sg d k (pc + 3) L (.int 1 :: st) Z F) : pE sg d k pc L (.ref a :: st) Z F := by
  refine pE_one (pc1 := pc + 3) (L1 := L) (st1 := .int 1 :: st) (M1 := Z.2) ?_ g
  simp only [mjOne1, hl, mjLn, mjRet, mjStp, mjInst, if_pos hv, if_true, beq_self_eq_true]
theorem pE_ins0 {ix a : Nat} (hl : mjLook (mjCode k) pc = some (.instanceof ix, 3)) (h1 : mjCkF (mjCls k) ix = some 1) (h2 : mjKs Z.2 a 19 = true) (g : pE sg d k (pc + 3) L (.int 0 :: st) Z F) : pE sg d k pc L (.ref a :: st) Z F := by
  refine pE_one (pc1 := pc + 3) (L1 := L) (st1 := .int 0 :: st) (M1 := Z.2) ?_ g
  simp [mjOne1, hl, mjLn, mjRet, mjStp, mjInst, h1, h2]
theorem pE_acm {off : Int} {a : Nat} (hl : mjLook (mjCode k) pc = some (.if_acmp .eq off, 3)) (hj : mjJ pc off = some t) (g : pE sg d k t L st Z F) : pE sg d k pc L (.ref a :: .ref a :: st) Z F := by
  refine pE_one (pc1 := t) (L1 := L) (st1 := st) (M1 := Z.2) ?_ g
  simp only [mjOne1, hl, mjLn, mjRet, mjStp, mjAcm, hj, if_true, beq_self_eq_true]
theorem pE_tso {dd lo hi : Int} {offs : Array Int} {len : Nat} {x : Int32} (hl : mjLook (mjCode k) pc = some (.tableswitch dd lo hi offs, len)) (h : x.toInt < lo ∨ hi < x.toInt) (hj : mjJ pc dd = some t) (g : pE sg d k t L st Z F) : pE sg d k pc L (.int x :: st) Z F := by
  refine pE_one (pc1 := t) (L1 := L) (st1 := st) (M1 := Z.2) ?_ g
  simp only [mjOne1, hl, mjLn, mjRet, mjStp, mjTsw, if_pos h, hj, if_true]
theorem pE_tsi {dd lo hi o : Int} {offs : Array Int} {len j : Nat} {x : Int32} (hl : mjLook (mjCode k) pc = some (.tableswitch dd lo hi offs, len)) (h : ¬ (x.toInt < lo ∨ hi < x.toInt)) (h2 : (x.toInt - lo).toNat = j) (ho : offs[j]? = some o) (hj : mjJ pc o = some t) (g : pE sg d k t L st Z F) : pE sg d k pc L (.int x :: st) Z F := by
  refine pE_one (pc1 := t) (L1 := L) (st1 := st) (M1 := Z.2) ?_ g
  simp only [mjOne1, hl, mjLn, mjRet, mjStp, mjTsw, if_neg h, h2, ho, hj, if_true]
theorem pE_acm2 {off : Int} {a b : Nat} (hl : mjLook (mjCode k) pc = some (.if_acmp .eq off, 3)) (hj : mjJ pc off = some t) (hab : a = b) (g : pE sg d k t L st Z F) : pE sg d k pc L (.ref b :: .ref a :: st) Z F := by
  subst hab
  exact pE_acm hl hj g
theorem pE_aln {j : Fin 4} {o : Option Nat} (hl : mjLook (mjCode k) pc = some (.aload_n j, 1)) (hv : mjLd L j = some (va_rf o)) (g : pE sg d k (pc + 1) L (va_rf o :: st) Z F) : pE sg d k pc L st Z F := by
  refine pE_one (pc1 := pc + 1) (L1 := L) (st1 := va_rf o :: st) (M1 := Z.2) ?_ g
  cases o <;> simp only [mjOne1, hl, mjLn, mjRet, mjStp, mjLoadA, hv, va_rf, if_true, beq_self_eq_true]
theorem pE_al2 {j : Nat} {o : Option Nat} (hl : mjLook (mjCode k) pc = some (.aload j, 2)) (hv : mjLd L j = some (va_rf o)) (g : pE sg d k (pc + 2) L (va_rf o :: st) Z F) : pE sg d k pc L st Z F := by
  refine pE_one (pc1 := pc + 2) (L1 := L) (st1 := va_rf o :: st) (M1 := Z.2) ?_ g
  cases o <;> simp only [mjOne1, hl, mjLn, mjRet, mjStp, mjLoadA, hv, va_rf, if_true, beq_self_eq_true]
end QO
