/-! A RUN OVER THE LOG IS A RUN OF THE INTERPRETER-/
def zS9 : Nat → Nat
  | 0 => 0
  | n + 1 => zS9 n + mjSzK (mjKc (mjLay n))
section CN9
variable {k pc pc1 n own ix t t2 w d : Nat} {L L1 : mjLs} {st st1 : List Value} {W W1 : cLg} {M : mjMem} {i : Instr}
theorem kOk_ks {a c : Nat} (h : kOk n M) (hi : mjIs a n c = true) (hc : c < 12) : mjKs M a c = true ∧ a < 211 := by
  obtain ⟨h1, h2⟩ := mjIs_spec hi
  have e := h.2 a h1
  refine ⟨?_, by have := h.1; omega⟩
  show ((M.2.2.2 a).1 == c) = true
  rw [e]
  show ((if (mjLay a).1 < 12 then (mjLay a).1 else (mjLay a).1 + 100) == c) = true
  rw [h2, if_pos hc]
  exact beq_self_eq_true c
theorem kOk_ar {a c : Nat} (h : kOk n M) (hi : mjIs a n c = true) (hc : 12 ≤ c) : mjKs M a (c + 100) = true ∧ a < 211 ∧ mjAl M a = (mjLay a).2 := by
  obtain ⟨h1, h2⟩ := mjIs_spec hi
  have e := h.2 a h1
  refine ⟨?_, by have := h.1; omega, ?_⟩
  · show ((M.2.2.2 a).1 == c + 100) = true
    rw [e]
    show ((if (mjLay a).1 < 12 then (mjLay a).1 else (mjLay a).1 + 100) == c + 100) = true
    rw [h2, if_neg (by omega)]
    exact beq_self_eq_true (c + 100)
  · show (M.2.2.2 a).2 = _
    rw [e]; rfl
theorem cUp_ok {f : mjMem → mjO} (hf : ∀ M, f M = match f mjMd9 with | some q => some (q.1, q.2.1, q.2.2.1, M) | none => none) (h : cUp (f mjMd9) W = some (pc1, L1, st1, W1)) (M : mjMem) : f (cAp W M) = some (pc1, L1, st1, cAp W1 M) ∧ (cAp W1 M).2.2.2 = (cAp W M).2.2.2 := by
  rw [hf]
  unfold cUp at h
  cases h1 : f mjMd9 with
  | none => rw [h1] at h; cases h
  | some q =>
    rw [h1] at h
    simp only [Option.some.injEq, Prod.mk.injEq] at h
    obtain ⟨rfl, rfl, rfl, rfl⟩ := h
    exact ⟨rfl, rfl⟩
theorem cRf_ok : ∀ {W : cLg} {a k b : Nat} (M : mjMem), cRf W a k = some b → (cAp W M).2.2.1 a k = some b
  | [], a, k, b, M, h => by cases h
  | e :: W, a, k, b, M, h => by
    rw [cRf] at h
    rw [cAp]
    unfold cAp1
    by_cases h2 : e.1 = 2
    · have hn0 : ¬ e.1 = 0 := by omega
      have hn1 : ¬ e.1 = 1 := by omega
      rw [if_neg hn0, if_neg hn1, if_pos h2]
      by_cases h3 : e.2.1 = a ∧ e.2.2.1 = k
      · rw [if_pos ⟨h2, h3.1, h3.2⟩] at h
        show (if a = e.2.1 then (if k = e.2.2.1 then some e.2.2.2.toNat else _) else _) = some b
        rw [if_pos h3.1.symm, if_pos h3.2.symm]
        exact h
      · rw [if_neg (fun q => h3 ⟨q.2.1, q.2.2⟩), if_neg (fun q => q.2.2.2 h2)] at h
        show (if a = e.2.1 then (if k = e.2.2.1 then some e.2.2.2.toNat else (cAp W M).2.2.1 a k) else (cAp W M).2.2.1 a k) = some b
        have r := cRf_ok M h
        by_cases h4 : a = e.2.1
        · rw [if_pos h4, if_neg (fun q => h3 ⟨h4.symm, q.symm⟩)]; exact r
        · rw [if_neg h4]; exact r
    · rw [if_neg (fun q => h2 q.1)] at h
      by_cases h0 : e.1 = 0
      · rw [if_neg (fun q => q.2.1 h0)] at h
        rw [if_pos h0]
        exact cRf_ok M h
      · by_cases h1 : e.1 = 1
        · rw [if_neg (fun q => q.2.2.1 h1)] at h
          rw [if_neg h0, if_pos h1]
          exact cRf_ok M h
        · rw [if_neg h0, if_neg h1, if_neg h2]
          by_cases h4 : e.2.1 = a
          · rw [if_pos ⟨h4, h0, h1, h2⟩] at h; cases h
          · rw [if_neg (fun q => h4 q.1)] at h
            show (if a = e.2.1 then none else (cAp W M).2.2.1 a k) = some b
            rw [if_neg (fun q => h4 q.symm)]
            exact cRf_ok M h
theorem cPut_ok (h : cPut k own ix pc n L st W = some (pc1, L1, st1, W1)) (hk : kOk n (cAp W M)) : mjPut k own ix pc L st (cAp W M) = some (pc1, L1, st1, cAp W1 M) ∧ (cAp W1 M).2.2.2 = (cAp W M).2.2.2 := by
  unfold cPut at h
  unfold mjPut
  split at h
  · cases h
  · rename_i ci f hf
    rw [hf]
    dsimp only
    split at h
    · cases h
    · rename_i hx
      rw [if_neg hx]
      split at h
      · split at h
        · rename_i hy
          simp only [Option.some.injEq, Prod.mk.injEq] at h
          obtain ⟨rfl, rfl, rfl, rfl⟩ := h
          obtain ⟨g1, g2⟩ := kOk_ks hk hy.1 hy.2.1
          dsimp only
          rw [if_pos ⟨g1, hy.2.2, wr_lt g2⟩]
          refine ⟨?_, rfl⟩
          simp only [cAp, cAp1, if_true, Int32.ofInt_toInt]
        · cases h
      · split at h
        · rename_i hy
          simp only [Option.some.injEq, Prod.mk.injEq] at h
          obtain ⟨rfl, rfl, rfl, rfl⟩ := h
          obtain ⟨g1, g2⟩ := kOk_ks hk hy.1 hy.2.1
          dsimp only
          rw [if_pos ⟨g1, hy.2.2, wr_lt g2⟩]
          exact ⟨rfl, rfl⟩
        · cases h
      · cases h
theorem cGet_ok (h : cGet own ix pc n L st W = some (pc1, L1, st1, W1)) (hk : kOk n (cAp W M)) : mjGet own ix pc L st (cAp W M) = some (pc1, L1, st1, cAp W1 M) ∧ (cAp W1 M).2.2.2 = (cAp W M).2.2.2 := by
  unfold cGet at h
  unfold mjGet
  split at h
  · cases h
  · rename_i ci f hf
    rw [hf]
    dsimp only
    split at h
    · split at h
      · rename_i hy
        split at h
        · rename_i b hb
          simp only [Option.some.injEq, Prod.mk.injEq] at h
          obtain ⟨rfl, rfl, rfl, rfl⟩ := h
          obtain ⟨g1, g2⟩ := kOk_ks hk hy.1 hy.2.1
          dsimp only
          rw [if_pos g1, hy.2.2, cRf_ok M hb]
          exact ⟨rfl, rfl⟩
        · cases h
      · cases h
    · cases h
theorem cLas_ok (h : cLas pc n L st W = some (pc1, L1, st1, W1)) (hk : kOk n (cAp W M)) : mjLas k pc L st (cAp W M) = some (pc1, L1, st1, cAp W1 M) ∧ (cAp W1 M).2.2.2 = (cAp W M).2.2.2 := by
  unfold cLas at h
  unfold mjLas
  split at h
  · split at h
    · rename_i hy
      simp only [Option.some.injEq, Prod.mk.injEq] at h
      obtain ⟨rfl, rfl, rfl, rfl⟩ := h
      obtain ⟨g1, g2, g3⟩ := kOk_ar hk hy.1 (by decide)
      dsimp only
      rw [g3, if_pos ⟨g1, hy.2, wr_lt g2⟩]
      refine ⟨?_, rfl⟩
      simp only [cAp, cAp1, if_true, Int64.ofInt_toInt, Nat.one_ne_zero, if_false]
    · cases h
  · cases h
theorem cAas_ok (h : cAas pc n L st W = some (pc1, L1, st1, W1)) (hk : kOk n (cAp W M)) : mjAas k pc L st (cAp W M) = some (pc1, L1, st1, cAp W1 M) ∧ (cAp W1 M).2.2.2 = (cAp W M).2.2.2 := by
  unfold cAas at h
  unfold mjAas
  split at h
  · split at h
    · rename_i hy
      simp only [Option.some.injEq, Prod.mk.injEq] at h
      obtain ⟨rfl, rfl, rfl, rfl⟩ := h
      dsimp only
      rcases hy.1 with ⟨y1, y2⟩ | ⟨y1, y2⟩
      · obtain ⟨g1, g2, g3⟩ := kOk_ar hk y1 (by decide)
        obtain ⟨f1, f2⟩ := kOk_ks hk y2 (by decide)
        rw [g3, if_pos ⟨by unfold mjAok; rw [g1, f1]; rfl, hy.2, wr_lt g2⟩]
        exact ⟨rfl, rfl⟩
      · obtain ⟨g1, g2, g3⟩ := kOk_ar hk y1 (by decide)
        obtain ⟨f1, f2⟩ := kOk_ks hk y2 (by decide)
        rw [g3, if_pos ⟨by unfold mjAok; rw [g1, f1]; simp, hy.2, wr_lt g2⟩]
        exact ⟨rfl, rfl⟩
    · cases h
  · cases h
theorem cStp_ok (h : cStp k i pc n L st W = some (pc1, L1, st1, W1)) (hk : kOk n (cAp W M)) : mjStp k i pc L st (cAp W M) = some (pc1, L1, st1, cAp W1 M) ∧ (cAp W1 M).2.2.2 = (cAp W M).2.2.2 := by
  unfold cStp at h
  split at h
  · exact cUp_ok (f := fun M => mjLoadA L _ (pc + 1) st M) (fun M => by unfold mjLoadA; split <;> rfl) h M
  · exact cUp_ok (f := fun M => mjLoadI L _ (pc + 1) st M) (fun M => by unfold mjLoadI; split <;> rfl) h M
  · exact cUp_ok (f := fun M => mjStoI L _ (pc + 1) st M) (fun M => by unfold mjStoI; split <;> first | rfl | (split <;> rfl)) h M
  · exact cUp_ok (f := fun M => mjStoA L _ (pc + 1) st M) (fun M => by unfold mjStoA; split <;> first | rfl | (split <;> rfl)) h M
  · simp only [Option.some.injEq, Prod.mk.injEq] at h; obtain ⟨rfl, rfl, rfl, rfl⟩ := h; exact ⟨rfl, rfl⟩
  · simp only [Option.some.injEq, Prod.mk.injEq] at h; obtain ⟨rfl, rfl, rfl, rfl⟩ := h; exact ⟨rfl, rfl⟩
  · simp only [Option.some.injEq, Prod.mk.injEq] at h; obtain ⟨rfl, rfl, rfl, rfl⟩ := h; exact ⟨rfl, rfl⟩
  · exact cUp_ok (f := fun M => mjLdc2 (mjCls k) _ pc L st M) (fun M => by unfold mjLdc2; split <;> rfl) h M
  · exact cUp_ok (f := fun M => mjIcmp _ _ pc L st M) (fun M => by unfold mjIcmp mjBr; split <;> first | rfl | (split <;> rfl)) h M
  · split at h
    · rename_i hj
      simp only [Option.some.injEq, Prod.mk.injEq] at h; obtain ⟨rfl, rfl, rfl, rfl⟩ := h
      refine ⟨?_, rfl⟩
      simp only [mjStp, hj]
    · cases h
  · exact cUp_ok (f := fun M => mjIinc _ _ pc L st M) (fun M => by unfold mjIinc; split <;> rfl) h M
  · exact cUp_ok (f := fun M => mjDup pc L st M) (fun M => by unfold mjDup; split <;> first | rfl | (split <;> rfl)) h M
  · exact cGet_ok h hk
  · exact cPut_ok h hk
  · exact cLas_ok h hk
  · exact cAas_ok h hk
  · cases h
theorem cNwA_ok (h : cNwA pc n t t2 w L st W = some (pc1, L1, st1, W1)) : L1 = L ∧ W1 = (3, n, 0, 0) :: W ∧ mjNwA pc t2 w st n = some (pc1, st1, mjKc (mjLay n)) := by
  unfold cNwA at h
  unfold mjNwA
  split at h
  · split at h
    · rename_i hy
      simp only [Option.some.injEq, Prod.mk.injEq] at h
      obtain ⟨rfl, rfl, rfl, rfl⟩ := h
      dsimp only
      rw [if_pos ⟨hy.1, hy.2.1⟩, hy.2.2.2]
      exact ⟨rfl, rfl, rfl⟩
    · cases h
  · cases h
theorem cNew_ok (h : cNew k i pc n L st W = some (pc1, L1, st1, W1)) (M : mjMem) : (L1 = L ∧ W1 = (3, n, 0, 0) :: W ∧ mjNew k i pc st n = some (pc1, st1, mjKc (mjLay n))) ∧ mjStp k i pc L st M = none := by
  unfold cNew at h
  split at h
  · refine ⟨?_, rfl⟩
    split at h
    · rename_i hq
      split at h
      · rename_i hy
        simp only [Option.some.injEq, Prod.mk.injEq] at h
        obtain ⟨rfl, rfl, rfl, rfl⟩ := h
        refine ⟨rfl, rfl, ?_⟩
        rw [hy]
        simp only [mjNew, hq]
      · cases h
    · cases h
  · exact ⟨cNwA_ok h, rfl⟩
  · exact ⟨cNwA_ok h, rfl⟩
  · exact ⟨cNwA_ok h, rfl⟩
  · refine ⟨?_, rfl⟩
    split at h
    · rename_i hq
      simp only [mjNew, hq]
      exact cNwA_ok h
    · cases h
  · cases h
theorem cCl_ok {x : Nat × List Value × List Value × Nat} (h : cCl k i d st = some x) (M : mjMem) : mjCall k i d st M = some x := by
  unfold cCl at h
  unfold mjCall
  split at h
  · cases h
  · rename_i op ix w0 hcv
    split at h
    · cases h
    · rename_i k3 md C hl
      split at h
      · rename_i hq
        obtain ⟨q1, q2, q3⟩ := hq
        have e : ∀ (As : List Value), mjRcv M md C As = mjRcv mjMd9 md C As := fun As => by
          unfold mjRcv
          split
          · rw [q1]; rfl
          · rfl
        have q3' : mjCallQ k k3 md C d M (st.take (mjNp k3 md)).reverse (st.drop (mjNp k3 md)) = true := by
          unfold mjCallQ at q3 ⊢
          rw [e]
          exact q3
        rw [hcv]
        dsimp only
        rw [hl]
        dsimp only
        rw [if_pos ⟨q2, q3'⟩]
        exact h
      · cases h
theorem cRun_ok (M : mjMem) (sg : Nat → Nat) (n0 : Nat × Nat) (hsg : ∀ j, j < 211 → sg (n0.1 + j) = j) (hn0 : n0.1 + 211 ≤ 100000) : ∀ (fuel : Nat) {d k pc : Nat} {L : mjLs} {st : List Value} {n : Nat} {W : cLg} {r : Option Value} {n1 : Nat} {W1 : cLg}, cRun fuel d k pc L st n W = some (r, n1, W1) → kOk n (cAp W M) → mjRun sg fuel d k pc L st (n0.1 + n, n0.2 + zS9 n) (cAp W M) = some (r, (n0.1 + n1, n0.2 + zS9 n1), cAp W1 M) ∧ kOk n1 (cAp W1 M)
  | 0, d, k, pc, L, st, n, W, r, n1, W1, h, _ => by simp [cRun] at h
  | f + 1, d, k, pc, L, st, n, W, r, n1, W1, h, hk => by
    rw [cRun] at h
    rw [mjRun]
    cases h1 : mjLook (mjCode k) pc with
    | none => rw [h1] at h; cases h
    | some q =>
      obtain ⟨i, len⟩ := q
      rw [h1] at h
      dsimp only at h ⊢
      by_cases h2 : mjLn i len = true
      · rw [if_pos h2] at h ⊢
        cases h3 : mjRet k i st with
        | some r' =>
          rw [h3] at h
          simp only [Option.some.injEq, Prod.mk.injEq] at h
          obtain ⟨rfl, rfl, rfl⟩ := h
          exact ⟨rfl, hk⟩
        | none =>
          rw [h3] at h
          dsimp only at h ⊢
          cases h4 : cStp k i pc n L st W with
          | some q =>
            obtain ⟨a1, a2, a3, a4⟩ := q
            rw [h4] at h
            obtain ⟨g1, g2⟩ := cStp_ok h4 hk
            rw [g1]
            exact cRun_ok M sg n0 hsg hn0 f h ⟨hk.1, fun a ha => by rw [g2]; exact hk.2 a ha⟩
          | none =>
            rw [h4] at h
            dsimp only at h
            cases h5 : cNew k i pc n L st W with
            | some q =>
              obtain ⟨a1, a2, a3, a4⟩ := q
              rw [h5] at h
              dsimp only at h
              obtain ⟨⟨rfl, rfl, g2⟩, g1⟩ := cNew_ok h5 (cAp W M)
              by_cases hn : n + 1 ≤ 211
              · rw [if_pos hn] at h
                have es : sg (n0.1 + n) = n := hsg n (by omega)
                rw [g1]
                dsimp only
                rw [es, g2]
                dsimp only
                rw [if_pos ⟨wr_lt (by omega), by show n0.1 + n < 100000; omega⟩]
                have kk : kOk (n + 1) (cAp ((3, n, 0, 0) :: W) M) := ⟨hn, fun a ha => by
                  show (if a = n then mjKc (mjLay n) else (cAp W M).2.2.2 a) = _
                  by_cases e : a = n
                  · rw [if_pos e, e]
                  · rw [if_neg e]; exact hk.2 a (by omega)⟩
                have key := cRun_ok M sg n0 hsg hn0 f h kk
                rw [show n0.2 + zS9 (n + 1) = n0.2 + zS9 n + mjSzK (mjKc (mjLay n)) from (Nat.add_assoc _ _ _).symm] at key
                exact key
              · rw [if_neg hn] at h; cases h
            | none =>
              rw [h5] at h
              dsimp only at h
              split at h
              · rename_i ix
                rw [show mjStp k (.invokespecial ix) pc L st (cAp W M) = none from rfl, show mjNew k (.invokespecial ix) pc st (sg (n0.1 + n)) = none from rfl]
                dsimp only
                cases h6 : cCl k (.invokespecial ix) d st with
                | none => rw [h6] at h; cases h
                | some q =>
                  obtain ⟨k2, As, rest, w⟩ := q
                  rw [h6] at h
                  rw [cCl_ok h6]
                  dsimp only at h ⊢
                  by_cases h7 : k2 = 999
                  · rw [if_pos h7] at h ⊢; exact cRun_ok M sg n0 hsg hn0 f h hk
                  · rw [if_neg h7] at h ⊢
                    by_cases h8 : 1000 ≤ k2
                    · rw [if_pos h8] at h; cases h
                    · rw [if_neg h8] at h
                      rw [if_neg (by omega), if_neg (by omega), if_neg h8]
                      cases h9 : cRun f (d - 1) k2 0 (mjEnt As (mjML k2)) [] n W with
                      | none => rw [h9] at h; cases h
                      | some q =>
                        obtain ⟨a1, a2, a3⟩ := q
                        rw [h9] at h
                        obtain ⟨g1, g2⟩ := cRun_ok M sg n0 hsg hn0 f h9 hk
                        rw [g1]
                        exact cRun_ok M sg n0 hsg hn0 f h g2
              · cases h
      · rw [if_neg h2] at h; cases h
end CN9
