/-! the law's own methods, which make objects: what a run from a place comes to; the state: how many cells and slots, and the memory -/
abbrev mjQ : Type := (Nat × Nat) × mjMem
def pE (sg : Nat → Nat) (d k pc : Nat) (L : mjLs) (st : List Value) (Z : mjQ) (F : Option Value → mjQ → Prop) : Prop := ∃ (fuel : Nat) (r : Option Value) (Z1 : mjQ), mjRun sg fuel d k pc L st Z.1 Z.2 = some (r, Z1.1, Z1.2) ∧ F r Z1
section PE
variable {sg : Nat → Nat} {d d2 k pc pc1 k2 w t : Nat} {L L1 : mjLs} {st st1 As rest : List Value} {Z Z2 : mjQ} {M1 : mjMem} {F F2 : Option Value → mjQ → Prop} {r r2 : Option Value}
theorem pE.mono (h : pE sg d k pc L st Z F) (g : ∀ r M1, F r M1 → F2 r M1) : pE sg d k pc L st Z F2 := by
  obtain ⟨f, r, Z1, h1, h2⟩ := h
  exact ⟨f, r, Z1, h1, g r Z1 h2⟩
theorem pE.up (h : pE sg d k pc L st Z F) (hd : d ≤ d2) : pE sg d2 k pc L st Z F := by
  obtain ⟨f, r, Z1, h1, h2⟩ := h
  exact ⟨f, r, Z1, mjRun_mono f h1 (Nat.le_refl _) hd, h2⟩
theorem pE_one (h : mjOne1 k pc L st Z.2 = some (pc1, L1, st1, M1)) (g : pE sg d k pc1 L1 st1 (Z.1, M1) F) : pE sg d k pc L st Z F := by
  obtain ⟨f, r, Z1, h1, h2⟩ := g
  exact ⟨f + 1, r, Z1, mjOne1_run h h1, h2⟩
theorem pE_many (m : Nat) (h : mjMany m k pc L st Z.2 = some (pc1, L1, st1, Z.2)) (g : pE sg d k pc1 L1 st1 Z F) : pE sg d k pc L st Z F := by
  obtain ⟨f, r, Z1, h1, h2⟩ := g
  exact ⟨f + m, r, Z1, mjMany_run m h h1, h2⟩
theorem pE_ret (h : mjRt1 k pc st = some r) (g : F r Z) : pE sg d k pc L st Z F := ⟨1, r, Z, mjRt1_run h, g⟩
theorem mjCall_up {i : Instr} {M : mjMem} {x : Nat × List Value × List Value × Nat} (h : mjCall k i 1 st M = some x) (hd : 1 ≤ d) : mjCall k i d st M = some x := by
  unfold mjCall at h ⊢
  split at h
  · cases h
  · rename_i op ix w0 hcv
    split at h
    · cases h
    · rename_i k3 md C hl
      split at h
      · rename_i hq
        have hq2 : mjOpMd op md = true ∧ mjCallQ k k3 md C d M (st.take (mjNp k3 md)).reverse (st.drop (mjNp k3 md)) = true := by
          refine ⟨hq.1, ?_⟩
          have hq1 := hq.2
          unfold mjCallQ at hq1 ⊢
          rw [Bool.and_eq_true] at hq1 ⊢
          exact ⟨decide_eq_true hd, hq1.2⟩
        rw [if_pos hq2]
        exact h
      · cases h
theorem mjCl1_up {M : mjMem} {x : Nat × List Value × List Value × Nat} (h : mjCl1 k pc 1 st M = some x) (hd : 1 ≤ d) : mjCl1 k pc d st M = some x := by
  unfold mjCl1 at h ⊢
  split at h
  · split at h
    · rename_i h9; rw [if_pos h9]; exact mjCall_up h hd
    · cases h
  · split at h
    · rename_i h9; rw [if_pos h9]; exact mjCall_up h hd
    · cases h
  · split at h
    · rename_i h9; rw [if_pos h9]; exact mjCall_up h hd
    · cases h
  · split at h
    · rename_i h9; rw [if_pos h9]; exact mjCall_up h hd
    · cases h
  · cases h
theorem pE_call (h : mjCl1 k pc 1 st Z.2 = some (k2, As, rest, w)) (hk : k2 < 999) (hd : d2 + 1 ≤ d) (g : pE sg d2 k2 0 (mjEnt As (mjML k2)) [] Z (fun r M => r = r2 ∧ M = Z2)) (c : pE sg d k (pc + w) L (r2.toList ++ rest) Z2 F) : pE sg d k pc L st Z F := by
  obtain ⟨f, r, Z1, h1, h2, h3⟩ := g
  subst h2; subst h3
  obtain ⟨f2, r3, Z3, h4, h5⟩ := c
  refine ⟨(f + f2) + 1, r3, Z3, ?_, h5⟩
  rw [mjCl1_run (mjCl1_up h (by omega)), if_neg (by omega), if_neg (by omega), if_neg (by omega), if_neg (by omega), mjRun_mono f h1 (by omega) (show d2 ≤ d - 1 by omega)]
  exact mjRun_mono f2 h4 (by omega) (Nat.le_refl _)
theorem pE_obj (h : mjCl1 k pc 1 st Z.2 = some (999, As, rest, w)) (hd : 1 ≤ d) (c : pE sg d k (pc + 3) L rest Z F) : pE sg d k pc L st Z F := by
  obtain ⟨f2, r3, Z3, h4, h5⟩ := c
  refine ⟨f2 + 1, r3, Z3, ?_, h5⟩
  rw [mjCl1_run (mjCl1_up h hd), if_pos rfl]
  exact h4
/-- System.arraycopy -/
def qCp (k : Nat) (As : List Value) (Z : mjQ) : Option mjQ := match mjCopy k As Z.2 with
  | some M => some (Z.1, M)
  | none => none
theorem pE_acp (h : mjCl1 k pc 1 st Z.2 = some (1005, As, rest, w)) (hd : 1 ≤ d) (hc : qCp k As Z = some Z2) (c : pE sg d k (pc + 3) L rest Z2 F) : pE sg d k pc L st Z F := by
  obtain ⟨f2, r3, Z3, h4, h5⟩ := c
  refine ⟨f2 + 1, r3, Z3, ?_, h5⟩
  rw [mjCl1_run (mjCl1_up h hd), if_neg (by decide), if_pos rfl]
  unfold qCp at hc
  split at hc
  · rename_i M9 h9
    rw [h9]
    cases hc
    exact h4
  · cases hc
/-- clone() of a row of bytes -/
def qCln (sg : Nat → Nat) (k a : Nat) (Z : mjQ) : Option (Nat × mjQ) := if Z.1.1 < 100000 then (match mjCln k [.ref a] Z.2 (sg Z.1.1) with
  | some (M, z) => some (sg Z.1.1, ((Z.1.1 + 1, Z.1.2 + z), M))
  | none => none) else none
theorem pE_cln {a b : Nat} (h : mjCl1 k pc 1 st Z.2 = some (1006, [.ref a], rest, w)) (hd : 1 ≤ d) (hc : qCln sg k a Z = some (b, Z2)) (c : pE sg d k (pc + 3) L (.ref b :: rest) Z2 F) : pE sg d k pc L st Z F := by
  obtain ⟨f2, r3, Z3, h4, h5⟩ := c
  refine ⟨f2 + 1, r3, Z3, ?_, h5⟩
  rw [mjCl1_run (mjCl1_up h hd), if_neg (by decide), if_neg (by decide), if_pos rfl]
  unfold qCln at hc
  split at hc
  · rename_i h8
    split at hc
    · rename_i M9 z9 h9
      rw [h9]
      dsimp only
      rw [if_pos h8]
      cases hc
      exact h4
    · cases hc
  · cases hc
theorem pE_prim {v : Value} (h : mjCl1 k pc 1 st Z.2 = some (k2, As, rest, w)) (hk : 1000 ≤ k2) (hd : 1 ≤ d) (hp : mjPrim k2 As = some (some v)) (c : pE sg d k (pc + 3) L (v :: rest) Z F) : pE sg d k pc L st Z F := by
  obtain ⟨f2, r3, Z3, h4, h5⟩ := c
  refine ⟨f2 + 1, r3, Z3, ?_, h5⟩
  have h9 : k2 ≠ 1005 := fun q => by subst q; cases hp
  have h8 : k2 ≠ 1006 := fun q => by subst q; cases hp
  rw [mjCl1_run (mjCl1_up h hd), if_neg (by omega), if_neg h9, if_neg h8, if_pos hk, hp]
  exact h4
theorem qRcv {M : mjMem} {md C a : Nat} {As : List Value} (hr : mjRo M a C = true) (hC : C < 21) : mjRcv M md C (.ref a :: As) = true := by
  show (mjMk md == 1 || mjMk md == 2 || (mjRo M a C && decide (C < 21))) = true
  rw [hr, decide_eq_true hC]
  simp
theorem pE_callV {ix md C a : Nat} (hl : mjLook (mjCode k) pc = some (.invokevirtual ix, 3)) (hm : mjLkF (mjCls k) ix = some (k2, md, C)) (hmd : mjOpMd 0 md = true) (h1 : (st.take (mjNp k2 md)).reverse = .ref a :: As) (h2 : st.drop (mjNp k2 md) = rest) (h3 : mjCallOk k k2 md (.ref a :: As) rest = true) (hr : mjRo Z.2 a C = true) (hC : C < 21) (hk : k2 < 999) (hd : d2 + 1 ≤ d)
    (g : pE sg d2 k2 0 (mjEnt (.ref a :: As) (mjML k2)) [] Z (fun r M => r = r2 ∧ M = Z2)) (c : pE sg d k (pc + 3) L (r2.toList ++ rest) Z2 F) : pE sg d k pc L st Z F := by
  refine pE_call (k2 := k2) (As := .ref a :: As) (rest := rest) (w := 3) ?_ hk hd g c
  have hq : mjCallQ k k2 md C 1 Z.2 (.ref a :: As) rest = true := by
    unfold mjCallQ
    rw [if_neg (by omega), if_neg (by omega), if_neg (by omega), h3, qRcv hr hC]; rfl
  simp only [mjCl1, hl, mjLn, mjCall, mjCv, hm, hq, hmd, and_self, if_true, beq_self_eq_true, h1, h2]
theorem pE_callS {ix md C a : Nat} (hl : mjLook (mjCode k) pc = some (.invokespecial ix, 3)) (hm : mjLkF (mjCls k) ix = some (k2, md, C)) (hmd : mjOpMd 2 md = true) (h1 : (st.take (mjNp k2 md)).reverse = .ref a :: As) (h2 : st.drop (mjNp k2 md) = rest) (h3 : mjCallOk k k2 md (.ref a :: As) rest = true) (hr : mjRo Z.2 a C = true) (hC : C < 21) (hk : k2 < 999) (hd : d2 + 1 ≤ d)
    (g : pE sg d2 k2 0 (mjEnt (.ref a :: As) (mjML k2)) [] Z (fun r M => r = r2 ∧ M = Z2)) (c : pE sg d k (pc + 3) L (r2.toList ++ rest) Z2 F) : pE sg d k pc L st Z F := by
  refine pE_call (k2 := k2) (As := .ref a :: As) (rest := rest) (w := 3) ?_ hk hd g c
  have hq : mjCallQ k k2 md C 1 Z.2 (.ref a :: As) rest = true := by
    unfold mjCallQ
    rw [if_neg (by omega), if_neg (by omega), if_neg (by omega), h3, qRcv hr hC]; rfl
  simp only [mjCl1, hl, mjLn, mjCall, mjCv, hm, hq, hmd, and_self, if_true, beq_self_eq_true, h1, h2]
theorem pE_callI {ix md C a c0 : Nat} (hl : mjLook (mjCode k) pc = some (.invokeinterface ix c0, 5)) (hm : mjLkF (mjCls k) ix = some (k2, md, C)) (hmd : mjOpMd 4 md = true) (h1 : (st.take (mjNp k2 md)).reverse = .ref a :: As) (h2 : st.drop (mjNp k2 md) = rest) (h3 : mjCallOk k k2 md (.ref a :: As) rest = true) (hr : mjRo Z.2 a C = true) (hC : C < 21) (hk : k2 < 999) (hd : d2 + 1 ≤ d)
    (g : pE sg d2 k2 0 (mjEnt (.ref a :: As) (mjML k2)) [] Z (fun r M => r = r2 ∧ M = Z2)) (c : pE sg d k (pc + 5) L (r2.toList ++ rest) Z2 F) : pE sg d k pc L st Z F := by
  refine pE_call (k2 := k2) (As := .ref a :: As) (rest := rest) (w := 5) ?_ hk hd g c
  have hq : mjCallQ k k2 md C 1 Z.2 (.ref a :: As) rest = true := by
    unfold mjCallQ
    rw [if_neg (by omega), if_neg (by omega), if_neg (by omega), h3, qRcv hr hC]; rfl
  simp only [mjCl1, hl, mjLn, mjCall, mjCv, hm, hq, hmd, and_self, if_true, beq_self_eq_true, h1, h2]
/-! makings -/
def qNew (sg : Nat → Nat) (Z : mjQ) (q : Nat × Nat) : Option (Nat × mjQ) := if Z.1.1 < 100000 then some (sg Z.1.1, ((Z.1.1 + 1, Z.1.2 + mjSzK q), mjZr Z.2 (sg Z.1.1) q)) else none
def qNewA (sg : Nat → Nat) (Z : mjQ) (t : Nat) (x : Int32) : Option (Nat × mjQ) := if 0 ≤ x.toInt ∧ x.toInt ≤ 100000 then qNew sg Z (t, x.toInt.toNat) else none
theorem pE_mk {i : Instr} {len a : Nat} {q : Nat × Nat} (hl : mjLook (mjCode k) pc = some (i, len)) (hln : mjLn i len = true) (hr : mjRet k i st = none) (hs : mjStp k i pc L st Z.2 = none) (hn : mjNew k i pc st (sg Z.1.1) = some (pc1, st1, q)) (hk : mjKC ≤ k) (hz : qNew sg Z q = some (a, Z2)) (g : pE sg d k pc1 L st1 Z2 F) : pE sg d k pc L st Z F := by
  unfold qNew at hz
  by_cases h9 : Z.1.1 < 100000
  · rw [if_pos h9] at hz
    cases hz
    obtain ⟨f2, r3, Z3, h4, h5⟩ := g
    refine ⟨f2 + 1, r3, Z3, ?_, h5⟩
    have hw : mjWr k (sg Z.1.1) = true ∧ Z.1.1 < 100000 := ⟨decide_eq_true (Or.inl hk), h9⟩
    rw [mjRun, hl]
    show (if mjLn i len = true then _ else _) = _
    rw [if_pos hln, hr]
    show (match mjStp k i pc L st Z.2 with | some (pc1, L1, st1, M1) => _ | none => _) = _
    rw [hs]
    show (match mjNew k i pc st (sg Z.1.1) with | some (pc1, st1, q) => _ | none => _) = _
    rw [hn]
    show (if mjWr k (sg Z.1.1) = true ∧ Z.1.1 < 100000 then _ else _) = _
    rw [if_pos hw]
    exact h4
  · rw [if_neg h9] at hz; cases hz
theorem qNew_id {q : Nat × Nat} {a : Nat} (hz : qNew sg Z q = some (a, Z2)) : a = sg Z.1.1 := by
  unfold qNew at hz
  by_cases h9 : Z.1.1 < 100000
  · rw [if_pos h9] at hz; cases hz; rfl
  · rw [if_neg h9] at hz; cases hz
theorem pE_newO {ix ci a : Nat} (hl : mjLook (mjCode k) pc = some (.new ix, 3)) (hf : mjNwF (mjCls k) ix = some ci) (hk : mjKC ≤ k) (hz : qNew sg Z (ci, 0) = some (a, Z2)) (g : pE sg d k (pc + 3) L (.ref a :: st) Z2 F) : pE sg d k pc L st Z F := by
  refine pE_mk (pc1 := pc + 3) (st1 := .ref a :: st) (q := (ci, 0)) hl rfl rfl rfl ?_ hk hz g
  rw [qNew_id hz]
  show (match mjNwF (mjCls k) ix with | some ci => some (pc + 3, Value.ref (sg Z.1.1) :: st, (ci, 0)) | none => none) = _
  rw [hf]
theorem pE_newA {i : Instr} {len a t : Nat} {x : Int32} (hl : mjLook (mjCode k) pc = some (i, len)) (hln : mjLn i len = true) (hr : mjRet k i (.int x :: st) = none) (hs : mjStp k i pc L (.int x :: st) Z.2 = none) (hn : mjNew k i pc (.int x :: st) (sg Z.1.1) = mjNwA pc t len (.int x :: st) (sg Z.1.1)) (hk : mjKC ≤ k) (hz : qNewA sg Z t x = some (a, Z2)) (g : pE sg d k (pc + len) L (.ref a :: st) Z2 F) : pE sg d k pc L (.int x :: st) Z F := by
  unfold qNewA at hz
  by_cases h9 : 0 ≤ x.toInt ∧ x.toInt ≤ 100000
  · rw [if_pos h9] at hz
    refine pE_mk (pc1 := pc + len) (st1 := .ref a :: st) (q := (t, x.toInt.toNat)) hl hln hr hs ?_ hk hz g
    rw [hn, qNew_id hz]
    exact if_pos h9
  · rw [if_neg h9] at hz; cases hz
end PE
