/-! SETTLING ALL; good states stay good -/
section AL
variable {Z : mjZt} {b : Nat} {S : mjS}
theorem eqS_o {A : Nat} {Z2 : mjZt} (h : eqS b A Z Z2) {a : Nat} (ha : a < b ∨ b + 90 ≤ a) : Z2.1 a = Z.1 a := h.2.1 a (by unfold sBad; omega)
theorem e151 (hb : Z.2.2.1 = b) (h : cBk Z b S) (htr : cTr Z b S) (ho : okS S) (hoc : okC S) : ∃ Z1, f151_settleAll Z = some ((), Z1) ∧ Z1.2.2 = Z.2.2 ∧ (∀ a, (a < b ∨ b + 90 ≤ a) → a ≠ 191 → a ≠ 192 → (a < 199 ∨ 203 < a) → Z1.1 a = Z.1 a ∧ Z1.2.1 a = Z.2.1 a) ∧ cBk Z1 b S ∧ cDr Z1 b S ∧ cTr Z1 b S ∧ vRep Z1 199 S (sW S) := by
  have o1 := ok_sc ho
  have oa := all_le ho
  have hb2 := b_b h
  obtain ⟨Z1, r1, r2, r3, r4⟩ := e35 ho h
  have t1 := cTr_s htr r2
  obtain ⟨Z2, s1, s2, s3⟩ := e136 (o := 199) (by omega) ho hoc (fun j _ => wv_bit r3 (by omega)) r3 r4 t1
  have hb1 : Z1.2.2.1 = b := by rw [r2.1, hb]
  have eB := eqW_B (b := b) (by omega) hb2 s2
  refine ⟨Z2, ?_, by rw [s2.1, r2.1], fun a h1 h2 h3 h4 => ⟨?_, ?_⟩, cBk_of ⟨o1.1, o1.2.1⟩ r3 eB, cDr_of ⟨o1.1, oa⟩ r4 eB, cTr_of t1 eB, s3⟩
  · unfold f151_settleAll
    rw [hb, if_pos (is_b hb2), r1, mjBd_some, hb1, if_pos (is_b hb2), s1, mjBd_some]
  · rw [(s2.2 a h2 h3 (by omega)).1, eqS_o r2 h1]
  · rw [(s2.2 a h2 h3 (by omega)).2, r2.1]
theorem okS_upW (ho : okS S) {a : Nat} (ha : a < sA S) {v : Int} (hv : v = 0 ∨ v = 1) : okS (updS S (72 + 3 * a + 2) v) := by
  have e : ∀ f, f ≠ 3 → updS S (72 + 3 * a + 2) v f = S f := fun f hf => updS_f hf
  have n : ∀ k, k ≠ 72 + 3 * a + 2 → updS S (72 + 3 * a + 2) v 3 k = S 3 k := fun k hk => updS_n hk
  have y : updS S (72 + 3 * a + 2) v 3 (72 + 3 * a + 2) = v := updS_e
  generalize updS S (72 + 3 * a + 2) v = S2 at e n y ⊢
  have g : eqG S S2 := ⟨e, fun k hk => n k (by omega)⟩
  obtain ⟨o1, o2, o3, o4, o5, o6, o7, o8, o9⟩ := ho
  unfold okS
  rw [g_T g, g_A g, g_R g, g_Lg g, e 0 (by omega)]
  refine ⟨o1, o2, ?_, o4, ?_, ?_, ?_, ?_, ?_⟩
  · unfold sTh sWi at o3 ⊢; rw [e 10 (by omega)]; exact o3
  · intro t ht; have := o5 t ht; unfold sLn at this ⊢; rw [g_Td g, e 1 (by omega), e 2 (by omega)]; exact this
  · intro t t2 ht ht2 h; unfold sLn at h; rw [e 1 (by omega)] at h; exact o6 t t2 ht ht2 h
  · intro t l ht hl; rw [g_Td g] at hl; have h5 := (o5 t ht).2.2.1; rw [g_Tn g (by omega) (by omega), g_Mt g (by omega) (by omega)]; exact o7 t l ht hl
  · intro c hc
    obtain ⟨p1, p2, p3, p4, p5, p6, p7, p8, p9, p10, p11⟩ := o8 c hc
    rw [e 4 (by omega), e 5 (by omega), e 6 (by omega), n (72 + 3 * c) (by omega), n (72 + 3 * c + 1) (by omega)]
    refine ⟨p1, p2, p3, p4, p5, p6, p7, p8, p9, p10, ?_⟩
    by_cases q : c = a
    · subst q; rw [y]; exact hv
    · rw [n _ (by omega)]; exact p11
  · rw [e 7 (by omega)]; exact o9
theorem okS_upL (ho : okS S) {t l : Nat} (ht : t < sT S) (hl : l < sTd S t) {x y : Int} (hx : 20 ≤ x ∧ x ≤ 999) (hy : -20 ≤ y ∧ y ≤ 20) (hz : l + 1 = sLg S → y = 0) : okS (updS (updS S (12 * t + 2 * l) x) (12 * t + 2 * l + 1) y) := by
  have e : ∀ f, f ≠ 3 → updS (updS S (12 * t + 2 * l) x) (12 * t + 2 * l + 1) y f = S f := fun f hf => by rw [updS_f hf, updS_f hf]
  have n : ∀ k, k ≠ 12 * t + 2 * l → k ≠ 12 * t + 2 * l + 1 → updS (updS S (12 * t + 2 * l) x) (12 * t + 2 * l + 1) y 3 k = S 3 k := fun k h1 h2 => by rw [updS_n h2, updS_n h1]
  have w1 : updS (updS S (12 * t + 2 * l) x) (12 * t + 2 * l + 1) y 3 (12 * t + 2 * l) = x := by rw [updS_n (by omega), updS_e]
  have w2 : updS (updS S (12 * t + 2 * l) x) (12 * t + 2 * l + 1) y 3 (12 * t + 2 * l + 1) = y := updS_e
  generalize updS (updS S (12 * t + 2 * l) x) (12 * t + 2 * l + 1) y = S2 at e n w1 w2 ⊢
  have eT : sT S2 = sT S := by unfold sT; rw [e 10 (by omega)]
  have eA : sA S2 = sA S := by unfold sA; rw [e 10 (by omega)]
  have eR : sR S2 = sR S := by unfold sR; rw [e 10 (by omega)]
  have eL : sLg S2 = sLg S := by unfold sLg; rw [e 0 (by omega)]
  have eD : ∀ t, sTd S2 t = sTd S t := fun t => by unfold sTd; rw [e 2 (by omega)]
  have tl : t < 6 ∧ l < 6 := by have := ok_tm ho ht; have := ok_sc ho; omega
  obtain ⟨o1, o2, o3, o4, o5, o6, o7, o8, o9⟩ := ho
  unfold okS
  rw [eT, eA, eR, eL, e 0 (by omega)]
  refine ⟨o1, o2, ?_, o4, ?_, ?_, ?_, ?_, ?_⟩
  · unfold sTh sWi at o3 ⊢; rw [e 10 (by omega)]; exact o3
  · intro u hu; have := o5 u hu; unfold sLn at this ⊢; rw [eD, e 1 (by omega), e 2 (by omega)]; exact this
  · intro u u2 hu hu2 h; unfold sLn at h; rw [e 1 (by omega)] at h; exact o6 u u2 hu hu2 h
  · intro u k hu hk
    rw [eD] at hk
    have h5 := (o5 u hu).2.2.1
    have h7 := o7 u k hu hk
    unfold sTn sMt at h7 ⊢
    by_cases q : u = t ∧ k = l
    · obtain ⟨rfl, rfl⟩ := q
      rw [w1, w2]
      exact ⟨hx.1, hx.2, hy.1, hy.2, hz⟩
    · rw [n _ (by omega) (by omega), n _ (by omega) (by omega)]
      exact h7
  · intro c hc
    rw [e 4 (by omega), e 5 (by omega), e 6 (by omega), n _ (by omega) (by omega), n _ (by omega) (by omega), n _ (by omega) (by omega)]
    exact o8 c hc
  · rw [e 7 (by omega)]; exact o9
theorem okN_of {S2 : mjS} (h : okN S) (e : ∀ f, f ≠ 3 → S2 f = S f) : okN S2 := by
  unfold okN sT sR at h ⊢
  rw [e 10 (by omega), e 11 (by omega), e 12 (by omega)]
  exact h
end AL
