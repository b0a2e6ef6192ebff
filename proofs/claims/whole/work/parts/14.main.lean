/-! the main induction -/
theorem mjML_le (k : Nat) : mjML k ≤ 16 := by
  have h : (mjT.all fun q => decide (q.2.2.2.1 ≤ 16)) = true := by decide +kernel
  by_cases hk : k < mjT.length
  · have h1 : mjG k = mjT[k] := by simp [mjG, List.getD_eq_getElem?_getD, hk]
    have h2 := List.all_eq_true.mp h _ (List.getElem_mem hk)
    rw [← h1] at h2
    simpa using h2
  · have h1 : mjG k = mjD := by simp [mjG, List.getD_eq_getElem?_getD, List.getElem?_eq_none (Nat.not_lt.mp hk)]
    show (mjG k).2.2.2.1 ≤ 16
    rw [h1]
    decide
theorem mjPrim_two {q : Nat} {As : List Value} {v : Value} (h : mjPrim q As = some (some v)) : ∃ x y : Int32, As = [.int x, .int y] ∧ ((q = 1003 ∧ v = .int (if x < y then y else x)) ∨ (q = 1004 ∧ v = .int (if y < x then y else x))) := by
  unfold mjPrim at h
  split at h
  · cases h; exact ⟨_, _, rfl, Or.inl ⟨rfl, rfl⟩⟩
  · cases h; exact ⟨_, _, rfl, Or.inr ⟨rfl, rfl⟩⟩
  · cases h
section MJ9
variable {l : Launch} {D : va_G} {kA : Nat → ClassId} {lo : Nat → Nat} {base : Nat} {sc : Nat × (Nat → Int32)} {adV : Nat → Nat}
set_option maxHeartbeats 2000000 in
theorem mj_sound (hD : mjDec) (fuel : Nat) : mjSound l D kA lo base sc adV fuel := by
  induction fuel with
  | zero =>
    intro p e R s m args below meth c Q k pc L st n M r n1 M1 hk h
    simp [mjRun] at h
  | succ fuel IH =>
    intro p e R s m args below meth c Q k pc L st n M r n1 M1 hk h hx hb hml hts hown hinit hE hf1 hf2 H locs ls cells slots hLR hR hS hcells hslots hF
    have hCx : mjCx p s m args meth c D kA lo base sc s.heap k := mjCx.of hx hb hts hown hinit hE
    rw [mjRun] at h
    split at h
    · cases h
    · rename_i i len hlk
      have hdg : decode (mjB k) pc = .ok (i, len) := hD k hk (pc, i, len) (mjLook_mem hlk)
      split at h
      · rename_i hln
        split at h
        · rename_i r0 hret
          simp only [Option.some.injEq, Prod.mk.injEq] at h
          obtain ⟨rfl, rfl, rfl⟩ := h
          have h9 := hF H locs pc ls i len st hR hS hdg hln hret
          rw [Nat.sub_self, Nat.sub_self] at h9
          exact h9
        · split at h
          · rename_i pc1 L1 st1 M2 hst
            exact mj_step hCx hst hln hdg hLR hR hS (fun H1 locs1 ls1 hR1 hS1 hLR1 => IH p e R s m args below meth c Q k pc1 L1 st1 n M2 r n1 M1 hk h hx hb hml hts hown hinit hE hf1 hf2 H1 locs1 ls1 cells slots hLR1 hR1 hS1 hcells hslots hF)
          · split at h
            · rename_i pc1 L1 st1 M2 hnw
              have hle := mjRun_le _ _ _ _ _ _ _ _ _ _ h
              have hcum := mjCum_le hle
              have hsz : mjCum (n + 1) = mjCum n + mjSz n := rfl
              refine mj_mk hCx hnw hln hdg hLR hR hS (by omega) (by omega) (fun H1 ls1 hR1 hS1 hLR1 => ?_)
              refine IH p e R s m args below meth c Q k pc1 L1 st1 (n + 1) M2 r n1 M1 hk h hx hb hml hts hown hinit hE hf1 hf2 H1 locs ls1 (cells + 1) (slots + mjSz n) hLR1 hR1 hS1 (by omega) (by omega) ?_
              intro H' locs' pc' ls' i' len' st' g1 g2 g3 g4 g5
              rw [show cells + 1 + (n1 - (n + 1)) = cells + (n1 - n) by omega, show slots + mjSz n + (mjCum n1 - mjCum (n + 1)) = slots + (mjCum n1 - mjCum n) by omega]
              exact hF H' locs' pc' ls' i' len' st' g1 g2 g3 g4 g5
            · split at h
              · cases h
              · rename_i k2 As rest hcall
                obtain ⟨kd, ix, nest, hcv, hmlf, rfl, hq⟩ := mjCall_spec hcall
                obtain ⟨rfl, hi⟩ := mjCv_spec hcv hln
                have hlink := mjMlF_spec (mjCls_lt k) hmlf
                unfold mjCallQ at hq
                split at h
                · rename_i h999
                  subst h999
                  rw [if_pos rfl] at hq
                  simp only [Bool.and_eq_true, decide_eq_true_eq, beq_iff_eq] at hq
                  obtain ⟨⟨⟨⟨⟨rfl, hkk⟩, hrk⟩, hsum⟩, hAs⟩, hn1⟩ := hq
                  rcases hlink with ⟨g, -⟩ | ⟨-, hl⟩
                  · exact absurd g hn1
                  rcases hi with ⟨g, -⟩ | ⟨g, -⟩ | ⟨-, rfl⟩
                  · cases g
                  · cases g
                  obtain ⟨a, rfl⟩ : ∃ a : Nat, As = [.ref a] := by
                    split at hAs
                    · exact ⟨_, rfl⟩
                    · cases hAs
                  have hsum2 : 2 * (F0 m pc ls ((([Value.ref a] : List Value).reverse ++ rest).map (mjRn lo))).monitorRoom + ((rest.map (mjRn lo)).map fun v => v.category).sum ≤ 8 := lv_room (by rw [mjSum_map]; exact hsum)
                  refine W.objInit (rest := rest.map (mjRn lo)) (a := lo a) hx hb hown (hts _ hl) (hts _ mjObI) (hts _ mjObC) rfl (by rw [hml]; exact hLR.2.1.1) rfl hdg (by omega) (by omega) ?_
                  exact IH p e R s m args below meth c Q k (pc + 3) L rest n M r n1 M1 hk h hx hb hml hts hown hinit hE hf1 hf2 H locs ls cells slots hLR hR hS hcells hslots hF
                · rename_i h999
                  rw [if_neg h999] at hq
                  split at h
                  · rename_i h1000
                    rw [if_pos h1000] at hq
                    simp only [Bool.and_eq_true, decide_eq_true_eq, beq_iff_eq] at hq
                    obtain ⟨⟨⟨hkd, hsum⟩, hrk⟩, hn1⟩ := hq
                    rcases hlink with ⟨g, -⟩ | ⟨-, hl⟩
                    · exact absurd g hn1
                    split at h
                    · rename_i v hpr
                      obtain ⟨x, y, rfl, hxy⟩ := mjPrim_two hpr
                      subst hkd
                      have hsum3 : ((rest.map (mjRn lo)).map fun v => v.category).sum ≤ 8 := by rw [mjSum_map]; exact hsum
                      have hgo := IH p e R s m args below meth c Q k (pc + 3) L (v :: rest) n M r n1 M1 hk h hx hb hml hts hown hinit hE hf1 hf2 H locs ls cells slots hLR hR hS hcells hslots hF
                      rcases hi with ⟨g, -⟩ | ⟨-, rfl⟩ | ⟨g, -⟩
                      · cases g
                      · rcases hxy with ⟨rfl, rfl⟩ | ⟨rfl, rfl⟩
                        · exact va_mmax (rest := rest.map (mjRn lo)) hx hb (hml.trans hLR.2.1.1.symm) hown (hts _ hl) (hts _ mjMaxS) (hts _ mjMathI) (hts _ mjMaxC) (by omega) (by omega) (by omega) (by omega) hdg hgo
                        · exact va_mmin (rest := rest.map (mjRn lo)) hx hb (hml.trans hLR.2.1.1.symm) hown (hts _ hl) (hts _ mjMinS) (hts _ mjMathI) (hts _ mjMinC) (by omega) (by omega) (by omega) (by omega) hdg hgo
                      · cases g
                    · cases h
                  · rename_i h1000
                    rw [if_neg h1000] at hq
                    simp only [Bool.and_eq_true] at hq
                    obtain ⟨hok, hrc⟩ := hq
                    split at h
                    · rename_i r2 n2 M2 hrun
                      have hok' := hok
                      simp only [mjCallOk, Bool.and_eq_true, decide_eq_true_eq, List.all_eq_true] at hok'
                      obtain ⟨⟨⟨⟨⟨⟨⟨hk2, -⟩, -⟩, -⟩, hvok⟩, -⟩, hw2⟩, -⟩ := hok'
                      have hM := mj_met IH hk2 hrun hvok hw2
                      have hle1 := mjRun_le _ _ _ _ _ _ _ _ _ _ hrun
                      have hle2 := mjRun_le _ _ _ _ _ _ _ _ _ _ h
                      have hc1 := mjCum_le hle1
                      have hc2 := mjCum_le hle2
                      refine mj_goes (mj_call hk2 hx hb hml hts hown hE hf1 hf2 hM hcv hmlf hok hrc hln hdg hLR.2.1.1 hR hS (by omega) (by omega) (mjML_le k2)) (fun v u t L9 hu hL hQ => ?_)
                      obtain ⟨hv, hR2, hsz, hkp⟩ := hQ
                      obtain rfl : v = r2.map (mjRn lo) := by injection hv
                      have hS2 : va_S (fun q => base ≤ q) s.heap t.heap (locs ++ L9) := ⟨by rw [hu] at hsz; exact Nat.le_trans hS.1 hsz, fun q h1 h2 => by rw [hkp q (by rw [hu]; exact Nat.lt_of_lt_of_le h1 hS.1) h2, hu]; exact hS.2.1 q h1 h2, fun q hq => (List.mem_append.mp hq).elim (hS.2.2 q) (hL q)⟩
                      rw [show (r2.map (mjRn lo)).toList ++ rest.map (mjRn lo) = (r2.toList ++ rest).map (mjRn lo) by cases r2 <;> simp]
                      refine IH p e R s m args below meth c Q k (pc + 3) L (r2.toList ++ rest) n2 M2 r n1 M1 hk h hx hb hml hts hown hinit hE hf1 hf2 t.heap (locs ++ L9) ls (cells + (n2 - n)) (slots + (mjCum n2 - mjCum n)) hLR hR2 hS2 (by omega) (by omega) ?_
                      intro H' locs' pc' ls' i' len' st' g1 g2 g3 g4 g5
                      rw [show cells + (n2 - n) + (n1 - n2) = cells + (n1 - n) by omega, show slots + (mjCum n2 - mjCum n) + (mjCum n1 - mjCum n2) = slots + (mjCum n1 - mjCum n) by omega]
                      exact hF H' locs' pc' ls' i' len' st' g1 g2 g3 g4 g5
                    · cases h
      · cases h
end MJ9
