/-! MACHINE: book's bytecode comes to f152_book-/
section BO9
variable {k pc : Nat} {L : mjLs} {st : List Value} {Z : mjZt} {F : Option Value → mjZt → Prop}
theorem vw_sw {W : mjWt} (h : Z.2.2.1 ≤ 94) : mjSr (mjSr (mjVw W Z) 0 2 (some (94 - Z.2.2.1))) 0 3 (some Z.2.2.1) = mjVw W (zSw Z) := by
  refine Prod.ext rfl (Prod.ext rfl (Prod.ext ?_ rfl))
  funext i j
  show (if i = 0 then (if j = 3 then some Z.2.2.1 else (if i = 0 then (if j = 2 then some (94 - Z.2.2.1) else (mjVw W Z).2.2.1 i j) else (mjVw W Z).2.2.1 i j)) else (if i = 0 then (if j = 2 then some (94 - Z.2.2.1) else (mjVw W Z).2.2.1 i j) else (mjVw W Z).2.2.1 i j)) = (if i < 211 then mjRv (94 - Z.2.2.1) Z.2.2.2 i j else W.1 i j)
  by_cases q : i = 0
  · subst q
    rw [if_pos rfl, if_pos rfl, if_pos (show (0 : Nat) < 211 by decide)]
    by_cases q3 : j = 3
    · subst q3
      rw [if_pos rfl]
      show some Z.2.2.1 = some (94 - (94 - Z.2.2.1))
      rw [show 94 - (94 - Z.2.2.1) = Z.2.2.1 by omega]
    · rw [if_neg q3]
      by_cases q2 : j = 2
      · subst q2
        rw [if_pos rfl]
        rfl
      · rw [if_neg q2]
        show (if (0 : Nat) < 211 then mjRv Z.2.2.1 Z.2.2.2 0 j else W.1 0 j) = _
        rw [if_pos (by decide)]
        unfold mjRv
        rw [if_pos rfl, if_pos rfl, if_neg q2, if_neg q2, if_neg q3, if_neg q3]
  · rw [if_neg q, if_neg q]
    show (if i < 211 then mjRv Z.2.2.1 Z.2.2.2 i j else W.1 i j) = _
    by_cases hl : i < 211
    · rw [if_pos hl, if_pos hl]
      unfold mjRv
      rw [if_neg q, if_neg q]
    · rw [if_neg hl, if_neg hl]
theorem pG_sw {ix ix2 : Nat} (hl : mjLook (mjCode k) pc = some (.putfield ix, 3)) (hf : mjFld (mjCls k) ix = some (11, 2)) (hm : ∀ M, mjMany 2 k (pc + 3) L st M = some (pc + 5, L, .ref Z.2.2.1 :: .ref 0 :: st, M)) (hl2 : mjLook (mjCode k) (pc + 5) = some (.putfield ix2, 3)) (hf2 : mjFld (mjCls k) ix2 = some (11, 3)) (h94 : Z.2.2.1 ≤ 94) (g : pG k (pc + 8) L st (mjTo (zSw Z)) F) : pG k pc L (.ref (94 - Z.2.2.1) :: .ref 0 :: st) (mjTo Z) F := by
  intro sg n W hW
  obtain ⟨f, r, Z1, h1, h2⟩ := g sg n W hW
  refine ⟨f + 1 + 2 + 1, r, Z1, ?_, h2⟩
  have e2 : mjKs (mjVw W Z) 0 11 = true := vw_ob (W := W) (Z := Z) (a := 0) (c := 11) rfl (by decide)
  have e2' : mjKs (mjSr (mjVw W Z) 0 2 (some (94 - Z.2.2.1))) 0 11 = true := e2
  have t2 : (mjTx 11 2).2.2.2 = false := rfl
  have t3 : (mjTx 11 3).2.2.2 = false := rfl
  have k2 : mjFk 11 2 = 2 := rfl
  have k3 : mjFk 11 3 = 2 := rfl
  have s1 : mjOne1 k pc L (.ref (94 - Z.2.2.1) :: .ref 0 :: st) (mjVw W Z) = some (pc + 3, L, st, mjSr (mjVw W Z) 0 2 (some (94 - Z.2.2.1))) := by
    simp [mjOne1, hl, mjLn, mjRet, mjStp, mjPut, hf, t2, e2, k2, wr_lt (show 0 < 211 by decide)]
  have s2 : mjOne1 k (pc + 5) L (.ref Z.2.2.1 :: .ref 0 :: st) (mjSr (mjVw W Z) 0 2 (some (94 - Z.2.2.1))) = some (pc + 8, L, st, mjVw W (zSw Z)) := by
    rw [← vw_sw h94]
    simp [mjOne1, hl2, mjLn, mjRet, mjStp, mjPut, hf2, t3, e2', k3, wr_lt (show 0 < 211 by decide)]
  exact mjOne1_run s1 (mjMany_run 2 (hm _) (mjOne1_run s2 h1))
end BO9
theorem f152_book_ok {Z : mjZt} {v9 : Int32} {Z9 : mjZt} (h : f152_book Z = some (v9, Z9)) : pG 139 0 (mjEnt [.ref 0] (mjML 139)) [] (mjTo Z) (fun r M1 => r = some (.int v9) ∧ M1 = mjTo Z9) := by
  unfold f152_book at h
  show pG 139 0 [some (.ref 0), none, none] [] (mjTo Z) _
  refine pG_many 1 (pc1 := 1) (L1 := [some (.ref 0), none, none]) (st1 := [.ref 0]) (M1 := mjTo Z) (fun _ _ => rfl) ?_
  refine pG_getR (ci := 11) (f := 4) (b := 182) rfl rfl rfl (by rfl) (by decide) rfl ?_
  refine pG_many 1 (pc1 := 5) (L1 := [some (.ref 0), none, none]) (st1 := [.ref 0, .ref 182]) (M1 := mjTo Z) (fun _ _ => rfl) ?_
  refine pG_getR (ci := 11) (f := 0) (b := 1) rfl rfl rfl (by rfl) (by decide) rfl ?_
  refine pG_many 1 (pc1 := 9) (L1 := [some (.ref 0), none, none]) (st1 := [.ref 0, .ref 1, .ref 182]) (M1 := mjTo Z) (fun _ _ => rfl) ?_
  refine pG_getI (ci := 11) (f := 1) rfl rfl (Or.inl rfl) (by rfl) (by decide) ?_
  refine pG_many 1 (pc1 := 13) (L1 := [some (.ref 0), none, none]) (st1 := [.ref 0, .int (Z.1 0 1), .ref 1, .ref 182]) (M1 := mjTo Z) (fun _ _ => rfl) ?_
  refine pG_getR (ci := 11) (f := 3) (b := 94 - Z.2.2.1) rfl rfl rfl (by rfl) (by decide) rfl ?_
  have hk101 : mjIs (94 - Z.2.2.1) 211 2 = true := by
    by_cases q9 : mjIs (94 - Z.2.2.1) 211 2 = true
    · exact q9
    · rw [if_neg q9] at h; cases h
  rw [if_pos hk101] at h
  cases hq102 : f128_read 1 (Z.1 0 1) (94 - Z.2.2.1) Z with
  | none => rw [hq102] at h; cases h
  | some w =>
    obtain ⟨v1, Z1⟩ := w
    rw [hq102, mjBd_some] at h
    refine pG_callV (k2 := 118) (As := [.ref 182, .ref 1, .int (Z.1 0 1), .ref (94 - Z.2.2.1)]) (rest := []) rfl rfl rfl rfl rfl (by rfl) (by decide) (by decide) (f128_read_ok hq102) ?_
    rintro r9 M9 ⟨rfl, rfl⟩
    show pG 139 19 [some (.ref 0), none, none] [.int v1] (mjTo Z1) _
    refine pG_many 3 (pc1 := 22) (L1 := [some (.ref 0), some (.int v1), none]) (st1 := [.int 0, .ref 0]) (M1 := mjTo Z1) (fun _ _ => rfl) ?_
    refine pG_putI (ci := 11) (f := 1) rfl rfl rfl rfl (by rfl) (by decide) ?_
    rw [mjLet] at h
    generalize zSi Z1 0 1 0 = Z2 at h ⊢
    refine pG_many 2 (pc1 := 27) (L1 := [some (.ref 0), some (.int v1), none]) (st1 := [.int (-1), .int v1]) (M1 := mjTo Z2) (fun _ _ => rfl) ?_
    by_cases hc : mjCmp .ne v1 (-1) = true
    · rw [if_pos hc] at h
      have h94 : Z2.2.2.1 ≤ 94 := by
        by_cases q9 : Z2.2.2.1 ≤ 94
        · exact q9
        · rw [if_neg q9] at h; cases h
      rw [if_pos h94] at h
      refine pG_cmt (t := 32) rfl rfl hc ?_
      refine pG_many 1 (pc1 := 33) (L1 := [some (.ref 0), some (.int v1), none]) (st1 := [.ref 0]) (M1 := mjTo Z2) (fun _ _ => rfl) ?_
      refine pG_getR (ci := 11) (f := 2) (b := Z2.2.2.1) rfl rfl rfl (by rfl) (by decide) rfl ?_
      refine pG_many 3 (pc1 := 39) (L1 := [some (.ref 0), some (.int v1), some (.ref Z2.2.2.1)]) (st1 := [.ref 0, .ref 0]) (M1 := mjTo Z2) (fun _ _ => rfl) ?_
      refine pG_getR (ci := 11) (f := 3) (b := 94 - Z2.2.2.1) rfl rfl rfl (by rfl) (by decide) rfl ?_
      refine pG_sw rfl rfl (fun _ => rfl) rfl rfl h94 ?_
      generalize zSw Z2 = Z3 at h ⊢
      refine pG_many 1 (pc1 := 51) (L1 := [some (.ref 0), some (.int v1), some (.ref Z2.2.2.1)]) (st1 := [.ref 0]) (M1 := mjTo Z3) (fun _ _ => rfl) ?_
      refine pG_getR (ci := 11) (f := 9) (b := 209) rfl rfl rfl (by rfl) (by decide) rfl ?_
      cases hq103 : f3_forget Z3 with
      | none => rw [hq103] at h; cases h
      | some w =>
        obtain ⟨v4, Z4⟩ := w
        rw [hq103, mjBd_some] at h
        refine pG_callV (k2 := 3) (As := [.ref 209]) (rest := []) rfl rfl rfl rfl rfl (by rfl) (by decide) (by decide) (f3_forget_ok hq103) ?_
        rintro r9 M9 ⟨rfl, rfl⟩
        show pG 139 57 [some (.ref 0), some (.int v1), some (.ref Z2.2.2.1)] [] (mjTo Z4) _
        refine pG_many 1 (pc1 := 58) (L1 := [some (.ref 0), some (.int v1), some (.ref Z2.2.2.1)]) (st1 := [.ref 0]) (M1 := mjTo Z4) (fun _ _ => rfl) ?_
        cases hq104 : f151_settleAll Z4 with
        | none => rw [hq104] at h; cases h
        | some w =>
          obtain ⟨v5, Z5⟩ := w
          rw [hq104, mjBd_some] at h
          refine pG_callV (k2 := 138) (As := [.ref 0]) (rest := []) rfl rfl rfl rfl rfl (by rfl) (by decide) (by decide) (f151_settleAll_ok hq104) ?_
          rintro r9 M9 ⟨rfl, rfl⟩
          show pG 139 61 [some (.ref 0), some (.int v1), some (.ref Z2.2.2.1)] [] (mjTo Z5) _
          refine pG_many 1 (pc1 := 62) (L1 := [some (.ref 0), some (.int v1), some (.ref Z2.2.2.1)]) (st1 := [.int v1]) (M1 := mjTo Z5) (fun _ _ => rfl) ?_
          simp only [Option.some.injEq, Prod.mk.injEq] at h
          obtain ⟨rfl, rfl⟩ := h
          exact pG_ret (r := some (.int v1)) rfl ⟨rfl, rfl⟩
    · rw [if_neg hc] at h
      refine pG_cmf (t := 32) rfl rfl hc ?_
      refine pG_many 1 (pc1 := 31) (L1 := [some (.ref 0), some (.int v1), none]) (st1 := [.int (-1)]) (M1 := mjTo Z2) (fun _ _ => rfl) ?_
      simp only [Option.some.injEq, Prod.mk.injEq] at h
      obtain ⟨rfl, rfl⟩ := h
      exact pG_ret (r := some (.int (-1))) rfl ⟨rfl, rfl⟩
