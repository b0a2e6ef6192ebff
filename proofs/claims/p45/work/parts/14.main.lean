/-! the main induction -/
theorem mjML_le (k : Nat) : mjML k ≤ 16 := by
  have h : (mjT.all fun q => decide (q.2.2.2.1 ≤ 16)) = true := by decide +kernel
  by_cases hk : k < mjT.length
  · have h1 : mjG k = mjT[k] := by simp [mjG, List.getD_eq_getElem?_getD, hk]
    have h2 := List.all_eq_true.mp h _ (List.getElem_mem hk)
    rw [← h1] at h2
    simpa using h2
  · have h1 : mjG k = mjD := by simp [mjG, List.getD_eq_getElem?_getD, List.getElem?_eq_none (Nat.not_lt.mp hk)]
    show (mjG k).2.2.2.1 ≤ 16
    rw [h1]
    decide
theorem mjNfw : nativeFrameWords "java/lang/System" "arraycopy" 5 ≤ 20 := by decide +kernel
theorem mjPrim_two {q : Nat} {As : List Value} {v : Value} (h : mjPrim q As = some (some v)) : ∃ x y : Int32, As = [.int x, .int y] ∧ ((q = 1003 ∧ v = .int (if x < y then y else x)) ∨ (q = 1004 ∧ v = .int (if y < x then y else x))) := by
  unfold mjPrim at h
  split at h
  · cases h; exact ⟨_, _, rfl, Or.inl ⟨rfl, rfl⟩⟩
  · cases h; exact ⟨_, _, rfl, Or.inr ⟨rfl, rfl⟩⟩
  · cases h
theorem mjCln_spec {k b z : Nat} {As : List Value} {M M1 : mjMem} (h : mjCln k As M b = some (M1, z)) : ∃ a, As = [.ref a] ∧ mjKs M a 118 = true ∧ mjFit (M.1 a) 0 (mjAl M a) = true ∧ M1 = mjCl9 M a b ∧ z = mjAl M a := by
  unfold mjCln at h
  split at h
  · split at h
    · rename_i hc
      cases h
      exact ⟨_, rfl, hc.1, hc.2.2, rfl, rfl⟩
    · cases h
  · cases h
theorem mjCl9_ne {kA : Nat → ClassId} {lo : Nat → Nat} {M : mjMem} {a b : Nat} : ∀ {j : Nat}, j ≠ b → mjCell kA lo (mjCl9 M a b) j = mjCell kA lo M j := fun {j} hj => mjCell_ne (by funext q; simp [mjCl9, hj]) (by funext q; simp [mjCl9, mjZr, hj]) (by funext q; simp [mjCl9, mjZr, hj]) (by simp [mjCl9, mjZr, hj])
theorem mjCl9_int {M : mjMem} {a b : Nat} : ∀ c, c ≠ b → (mjCl9 M a b).1 c = M.1 c := fun c hc => by funext q; simp [mjCl9, hc]
theorem mjCopy_spec {k : Nat} {As : List Value} {M M1 : mjMem} (h : mjCopy k As M = some M1) : ∃ s sp d dp w len f, As = [.ref s, .int sp, .ref d, .int dp, .int w] ∧ mjByt M s = some (len, f) ∧ mjKs M d 118 = true ∧ (0 ≤ sp.toInt ∧ 0 ≤ dp.toInt ∧ 0 ≤ w.toInt) ∧ sp.toInt.toNat + w.toInt.toNat ≤ len ∧ dp.toInt.toNat + w.toInt.toNat ≤ mjAl M d ∧ mjFit f sp.toInt.toNat w.toInt.toNat = true ∧ M1 = mjCp M f d sp.toInt.toNat dp.toInt.toNat w.toInt.toNat ∧ mjWr k d = true := by
  unfold mjCopy at h
  split at h
  · split at h
    · rename_i len f hby
      split at h
      · rename_i hc
        cases h
        exact ⟨_, _, _, _, _, len, f, rfl, hby, hc.1, hc.2.2.1, hc.2.2.2.1, hc.2.2.2.2.1, hc.2.2.2.2.2, rfl, hc.2.1⟩
      · cases h
    · cases h
  · cases h
section MJ9
variable {l : Launch} {D : va_G} {kA : Nat → ClassId} {lo sg : Nat → Nat} {base : Nat} {sc : Nat × (Nat → Int32)}
set_option maxHeartbeats 2000000 in
theorem mj_sound (hD : mjDec) (fuel : Nat) : mjSound l D kA lo sg base sc fuel := by
  induction fuel with
  | zero =>
    intro p e R s m args below meth c Q d k pc L st n M r n1 M1 hk h
    simp [mjRun] at h
  | succ fuel IH =>
    intro p e R s m args below meth c Q d k pc L st n M r n1 M1 hk h hx hb hml hts hown hinit hE hf1 hf2 H locs ls cells slots hLR hR hS hcells hslots hF
    have hCx : mjCx p s m args meth c D kA lo base sc s.heap k := mjCx.of hx hb hts hown hinit hE
    rw [mjRun] at h
    split at h
    · cases h
    · rename_i i len hlk
      have hdg : decode (mjB k) pc = .ok (i, len) := hD k hk (pc, i, len) (mjLook_mem hlk)
      split at h
      · rename_i hln
        split at h
        · rename_i r0 hret
          simp only [Option.some.injEq, Prod.mk.injEq] at h
          obtain ⟨rfl, rfl, rfl⟩ := h
          have h9 := hF H locs pc ls i len st hR hS hdg hln hret
          rw [Nat.sub_self, Nat.sub_self] at h9
          exact h9
        · split at h
          · rename_i pc1 L1 st1 M2 hst
            exact mj_step hCx hst hln hdg hLR hR hS (fun H1 locs1 ls1 hR1 hS1 hLR1 => IH p e R s m args below meth c Q d k pc1 L1 st1 n M2 r n1 M1 hk h hx hb hml hts hown hinit hE hf1 hf2 H1 locs1 ls1 cells slots hLR1 hR1 hS1 hcells hslots hF)
          · split at h
            · rename_i pc1 st1 q0 hnw
              split at h
              · rename_i hwr
                have hle := mjRun_le _ _ _ _ _ _ _ _ _ _ _ h
                dsimp only at hle
                refine mj_mk hCx hnw hwr.2 hln hdg hLR hR hS (by omega) (by omega) (fun H1 ls1 hR1 hS1 hLR1 => ?_)
                refine IH p e R s m args below meth c Q d k pc1 L st1 (n.1 + 1, n.2 + mjSzK q0) _ r n1 M1 hk h hx hb hml hts hown hinit hE hf1 hf2 H1 locs ls1 (cells + 1) (slots + mjSzK q0) hLR1 hR1 hS1 (by dsimp only; omega) (by dsimp only; omega) ?_
                intro H' locs' pc' ls' i' len' st' g1 g2 g3 g4 g5
                dsimp only
                rw [show cells + 1 + (n1.1 - (n.1 + 1)) = cells + (n1.1 - n.1) by omega, show slots + mjSzK q0 + (n1.2 - (n.2 + mjSzK q0)) = slots + (n1.2 - n.2) by omega]
                exact hF H' locs' pc' ls' i' len' st' g1 g2 g3 g4 g5
              · cases h
            · split at h
              · cases h
              · rename_i k2 As rest w hcall
                obtain ⟨op, ix, md, C, hcv, hlkf, hom, rfl, hq⟩ := mjCall_spec hcall
                have hi := mjCv_spec hcv hln
                obtain ⟨pl, ps, xi, hmem⟩ := mjLkF_spec hlkf
                have hlk0 := mjLk_in hmem
                unfold mjCallQ at hq
                simp only [Bool.and_eq_true, decide_eq_true_eq] at hq
                obtain ⟨hd1, hq⟩ := hq
                split at h
                · rename_i h999
                  subst h999
                  rw [if_pos rfl] at hq
                  simp only [Bool.and_eq_true, decide_eq_true_eq, beq_iff_eq] at hq
                  obtain ⟨⟨⟨rfl, hkk⟩, hsum⟩, hAs⟩ := hq
                  have hl := mjOk_in (show mjOk pl (.methodLink (mjCn (mjCls k)) ix (mjYq 999)) = true from hlk0)
                  have hop : op = 2 := by
                    simp only [mjOpMd, Bool.or_eq_true, Bool.and_eq_true, beq_iff_eq] at hom
                    omega
                  rcases hi with ⟨g, -⟩ | ⟨g, -⟩ | ⟨-, rfl, rfl, rfl⟩ | ⟨g, -⟩
                  · omega
                  · omega
                  · obtain ⟨a, rfl⟩ : ∃ a : Nat, As = [.ref a] := by
                      split at hAs
                      · exact ⟨_, rfl⟩
                      · cases hAs
                    have hsum2 : 2 * (F0 m pc ls ((([Value.ref a] : List Value).reverse ++ rest).map (mjRn lo))).monitorRoom + ((rest.map (mjRn lo)).map fun v => v.category).sum ≤ 8 := lv_room (by rw [mjSum_map]; exact hsum)
                    refine W.objInit (rest := rest.map (mjRn lo)) (a := lo a) hx hb hown (hts _ hl) (hts _ mjObI) (hts _ mjObC) rfl (by rw [hml]; exact hLR.2.1.1) rfl hdg (by omega) (by omega) ?_
                    exact IH p e R s m args below meth c Q d k (pc + 3) L rest n M r n1 M1 hk h hx hb hml hts hown hinit hE hf1 hf2 H locs ls cells slots hLR hR hS hcells hslots hF
                  · omega
                · rename_i h999
                  rw [if_neg h999] at hq
                  split at h
                  · rename_i h1005
                    subst h1005
                    rw [if_neg (by decide), if_pos (by decide)] at hq
                    simp only [Bool.and_eq_true, decide_eq_true_eq, beq_iff_eq] at hq
                    obtain ⟨rfl, hsum⟩ := hq
                    have hl := mjOk_in (show mjOk pl (.methodLink (mjCn (mjCls k)) ix (mjYq 1005)) = true from hlk0)
                    have hop : op = 1 := by
                      simp only [mjOpMd, Bool.or_eq_true, Bool.and_eq_true, beq_iff_eq] at hom
                      omega
                    rcases hi with ⟨g, -⟩ | ⟨-, rfl, rfl, rfl⟩ | ⟨g, -⟩ | ⟨g, -⟩
                    · omega
                    · split at h
                      · rename_i M2 hcp
                        obtain ⟨s0, sp, d0, dp, w0, len0, f, rfl, hby, ha, ⟨z1, z2, z3⟩, z4, z5, z6, rfl, -⟩ := mjCopy_spec hcp
                        have hal := hR.lt ha (by decide)
                        have hsum3 : ((rest.map (mjRn lo)).map fun v => v.category).sum ≤ 8 := by rw [mjSum_map]; exact hsum
                        have hnf := mjNfw
                        have hsrc : ∃ cs : Cell, H[lo s0]? = some cs ∧ s.isArrayOf cs .byte ∧ cs.vm ≠ .unknown ∧ len0 ≤ cs.slots.size ∧ ∀ j : Nat, j < len0 → cs.slots[j]? = some (.int (f j)) := by
                          unfold mjByt at hby
                          split at hby
                          · rename_i hsb
                            simp only [Option.some.injEq, Prod.mk.injEq] at hby
                            obtain ⟨rfl, rfl⟩ := hby
                            obtain ⟨cell, c1, c2, c3, c4, -, c6, -⟩ := (hE.2.2.2.2.1.byt hsb).kept hS.2.1
                            exact ⟨cell, c1, c2, c3, c4, c6⟩
                          · split at hby
                            · rename_i his
                              cases hby
                              have hc1 : H[lo s0]? = some (arrV (kA 118) (mjAl M s0) (fun j => .int (M.1 s0 j))) := hR.1.arr his (by decide)
                              refine ⟨_, hc1, (hE.1.2 5 (kA 118, .byte) rfl).1 _ _, (fun q => by cases q), by rw [arrV_size]; exact Nat.le_refl _, fun j hj => arrV_read _ _ hj⟩
                            · cases hby
                        obtain ⟨cs, s1, s2, s3, s4, s5⟩ := hsrc
                        refine mj_copy0 (M' := mjCp M f d0 sp.toInt.toNat dp.toInt.toNat w0.toInt.toNat) (rest := rest.map (mjRn lo)) hx hb (hml.trans hLR.2.1.1.symm) hown (hts _ hl) (hts _ mjCyN) (hts _ mjCyS) (hts _ mjCyI) hE.1 hR.1 hS s1 s2 s3 s4 s5 ha z1 z2 z3 z4 z5 z6 rfl mjCp_ne (by funext q; simp [mjCp]) (by omega) (by omega) hdg (fun H1 locs1 hR1 hS1 => ?_)
                        exact IH p e R s m args below meth c Q d k (pc + 3) L rest n _ r n1 M1 hk h hx hb hml hts hown hinit hE hf1 hf2 H1 locs1 ls cells slots hLR (hR.keep hal mjCp_int hR1) hS1 hcells hslots hF
                      · cases h
                    · omega
                    · omega
                  · rename_i h1005
                    split at h
                    · rename_i h1006
                      subst h1006
                      rw [if_pos rfl] at hq
                      simp only [Bool.and_eq_true, decide_eq_true_eq, beq_iff_eq] at hq
                      obtain ⟨rfl, hsum⟩ := hq
                      have hl := mjOk_in (show mjOk pl (.methodLink (mjCn (mjCls k)) ix ⟨"[B", "clone", "()Ljava/lang/Object;"⟩) = true from by
                        have h9 := hlk0
                        simp only [mjLkOk, Bool.and_eq_true, decide_eq_true_eq] at h9
                        exact h9.2)
                      have hop : op = 0 := by
                        simp only [mjOpMd, Bool.or_eq_true, Bool.and_eq_true, beq_iff_eq] at hom
                        omega
                      rcases hi with ⟨-, rfl, rfl, rfl⟩ | ⟨g, -⟩ | ⟨g, -⟩ | ⟨g, -⟩
                      · split at h
                        · rename_i M2 z0 hcp
                          obtain ⟨a, rfl, ha, hft, rfl, rfl⟩ := mjCln_spec hcp
                          split at h
                          · rename_i hn9
                            have hle := mjRun_le _ _ _ _ _ _ _ _ _ _ _ h
                            dsimp only at hle
                            have hsum3 : ((rest.map (mjRn lo)).map fun v => v.category).sum ≤ 8 := by rw [mjSum_map]; exact hsum
                            obtain ⟨hsl, hsa⟩ := hR.1.1.2.2 n.1 hn9
                            refine mj_cln (M' := mjCl9 M a (sg n.1)) (rest := rest.map (mjRn lo)) hx hb (hml.trans hLR.2.1.1.symm) hown (hts _ hl) (hts _ mjClS) (hts _ mjClN) (hts _ mjClI) (hts _ mjClE) (hCx.2.2.2.2.2.2.2.2.2.2.1 ("[B", "java/lang/Cloneable") (by decide)) hn9 hE.1 hR.1 hS ha hft (by omega) (by omega) (by omega) (by omega) hdg (fun b hb9 => by simp [mjCl9, mjZr, hb9]) (by simp [mjCl9, mjZr]) (fun j hj => mjCl9_ne hj) (by funext q; simp [mjCl9]) (fun H1 hR1 hS1 => ?_)
                            rw [← hsa]
                            refine IH p e R s m args below meth c Q d k (pc + 3) L (.ref (sg n.1) :: rest) (n.1 + 1, n.2 + mjAl M a) _ r n1 M1 hk h hx hb hml hts hown hinit hE hf1 hf2 H1 locs ls (cells + 1) (slots + mjAl M a) hLR (hR.keep hsl mjCl9_int hR1) hS1 (by dsimp only; omega) (by dsimp only; omega) ?_
                            intro H' locs' pc' ls' i' len' st' g1 g2 g3 g4 g5
                            dsimp only
                            rw [show cells + 1 + (n1.1 - (n.1 + 1)) = cells + (n1.1 - n.1) by omega, show slots + mjAl M a + (n1.2 - (n.2 + mjAl M a)) = slots + (n1.2 - n.2) by omega]
                            exact hF H' locs' pc' ls' i' len' st' g1 g2 g3 g4 g5
                          · cases h
                        · cases h
                      · omega
                      · omega
                      · omega
                    · rename_i h1006
                      split at h
                      · rename_i h1000
                        rw [if_neg h1006, if_pos h1000] at hq
                        simp only [Bool.and_eq_true, decide_eq_true_eq, beq_iff_eq] at hq
                        obtain ⟨rfl, hsum⟩ := hq
                        have hl := mjOk_in (show mjOk pl (.methodLink (mjCn (mjCls k)) ix (mjYq k2)) = true from hlk0)
                        have hop : op = 1 := by
                          simp only [mjOpMd, Bool.or_eq_true, Bool.and_eq_true, beq_iff_eq] at hom
                          omega
                        split at h
                        · rename_i v hpr
                          obtain ⟨x, y, rfl, hxy⟩ := mjPrim_two hpr
                          have hsum3 : ((rest.map (mjRn lo)).map fun v => v.category).sum ≤ 8 := by rw [mjSum_map]; exact hsum
                          have hgo := IH p e R s m args below meth c Q d k (pc + 3) L (v :: rest) n M r n1 M1 hk h hx hb hml hts hown hinit hE hf1 hf2 H locs ls cells slots hLR hR hS hcells hslots hF
                          rcases hi with ⟨g, -⟩ | ⟨-, rfl, rfl, rfl⟩ | ⟨g, -⟩ | ⟨g, -⟩
                          · omega
                          · rcases hxy with ⟨rfl, rfl⟩ | ⟨rfl, rfl⟩
                            · exact va_mmax (rest := rest.map (mjRn lo)) hx hb (hml.trans hLR.2.1.1.symm) hown (hts _ hl) (hts _ mjMaxS) (hts _ mjMathI) (hts _ mjMaxC) (by omega) (by omega) (by omega) (by omega) hdg hgo
                            · exact va_mmin (rest := rest.map (mjRn lo)) hx hb (hml.trans hLR.2.1.1.symm) hown (hts _ hl) (hts _ mjMinS) (hts _ mjMathI) (hts _ mjMinC) (by omega) (by omega) (by omega) (by omega) hdg hgo
                          · omega
                          · omega
                        · cases h
                      · rename_i h1000
                        rw [if_neg h1006, if_neg h1000] at hq
                        simp only [Bool.and_eq_true] at hq
                        obtain ⟨hok, hrc⟩ := hq
                        split at h
                        · rename_i r2 n2 M2 hrun
                          have hok' := hok
                          simp only [mjCallOk, Bool.and_eq_true, decide_eq_true_eq, List.all_eq_true] at hok'
                          obtain ⟨⟨⟨⟨⟨⟨hk2, -⟩, -⟩, -⟩, hvok⟩, -⟩, hw2⟩ := hok'
                          have hM := mj_met IH hk2 hrun hvok hw2
                          have hle1 := mjRun_le _ _ _ _ _ _ _ _ _ _ _ hrun
                          have hle2 := mjRun_le _ _ _ _ _ _ _ _ _ _ _ h
                          have hgo : ∀ (v : Option Value) (u t : State) (L9 : List Loc), u.heap = H → (∀ q ∈ L9, base ≤ q.base) → mjQcS D kA lo sg base sc n2.1 M2 r2 (As.map (mjRn lo)).toArray u (.returned v) t → W p l e R s m args below meth c t.heap (locs ++ L9) (cells + (n2.1 - n.1)) (slots + (n2.2 - n.2)) Q (F0 m (pc + w) ls (v.toList ++ rest.map (mjRn lo))) := by
                            intro v u t L9 hu hL hQ
                            obtain ⟨hv, hR2, hsz, hkp⟩ := hQ
                            obtain rfl : v = r2.map (mjRn lo) := by injection hv
                            have hS2 : va_S (fun q => base ≤ q) s.heap t.heap (locs ++ L9) := ⟨by rw [hu] at hsz; exact Nat.le_trans hS.1 hsz, fun q h1 h2 => by rw [hkp q (by rw [hu]; exact Nat.lt_of_lt_of_le h1 hS.1) h2, hu]; exact hS.2.1 q h1 h2, fun q hq => (List.mem_append.mp hq).elim (hS.2.2 q) (hL q)⟩
                            rw [show (r2.map (mjRn lo)).toList ++ rest.map (mjRn lo) = (r2.toList ++ rest).map (mjRn lo) by cases r2 <;> simp]
                            refine IH p e R s m args below meth c Q d k (pc + w) L (r2.toList ++ rest) n2 M2 r n1 M1 hk h hx hb hml hts hown hinit hE hf1 hf2 t.heap (locs ++ L9) ls (cells + (n2.1 - n.1)) (slots + (n2.2 - n.2)) hLR hR2 hS2 (by omega) (by omega) ?_
                            intro H' locs' pc' ls' i' len' st' g1 g2 g3 g4 g5
                            rw [show cells + (n2.1 - n.1) + (n1.1 - n2.1) = cells + (n1.1 - n.1) by omega, show slots + (n2.2 - n.2) + (n1.2 - n2.2) = slots + (n1.2 - n.2) by omega]
                            exact hF H' locs' pc' ls' i' len' st' g1 g2 g3 g4 g5
                          rcases mj_call (mc := n2.1 - n.1) (ms := n2.2 - n.2) (cells := cells) (slots := slots) (R := R) hx hb hml hts hown hE hd1 hf1 hf2 hM hcv hlkf hom hok hrc hln hdg hLR.2.1.1 hR hS (by omega) (by omega) (mjML_le k2) with ⟨rfl, hr⟩ | ⟨rfl, hr⟩
                          · exact mj_goes hr hgo
                          · exact mj_goes5 hr hgo
                        · cases h
      · cases h
end MJ9
