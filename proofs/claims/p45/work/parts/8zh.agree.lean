/-! TWO STATES THAT AGREE WHERE IT COUNTS -/
section AE2
variable {Z : mjZt} {b : Nat} {S S2 : mjS} {m : Nat}
def agS (m : Nat) (S S2 : mjS) : Prop := (∀ k, k < 5 → S2 0 k = S 0 k) ∧ (∀ k, k < 6 → S2 1 k = S 1 k ∧ S2 2 k = S 2 k ∧ S2 11 k = S 11 k) ∧ (∀ k, k < 12 → S2 4 k = S 4 k ∧ S2 5 k = S 5 k ∧ S2 6 k = S 6 k) ∧ (∀ k, k < 8 → S2 7 k = S 7 k ∧ S2 12 k = S 12 k) ∧ (∀ k, k < 32 → S2 8 k = S 8 k) ∧ (∀ k, k < 108 → S2 3 k = S 3 k) ∧ (∀ k, k < m → S2 9 k = S 9 k) ∧ S2 10 = S 10
theorem ag_sc (h : agS m S S2) : sT S2 = sT S ∧ sA S2 = sA S ∧ sR S2 = sR S ∧ sLg S2 = sLg S ∧ sTh S2 = sTh S ∧ sWi S2 = sWi S := by
  obtain ⟨h0, _, _, _, _, _, _, h10⟩ := h
  unfold sT sA sR sLg sTh sWi
  rw [h10, h0 0 (by omega)]
  exact ⟨rfl, rfl, rfl, rfl, rfl, rfl⟩
theorem ag_td (h : agS m S S2) {u : Nat} (hu : u < 6) : sTd S2 u = sTd S u ∧ sLn S2 u = sLn S u := by
  unfold sTd sLn
  rw [(h.2.1 u hu).1, (h.2.1 u hu).2.1]
  exact ⟨rfl, rfl⟩
theorem ag_lg (h : agS m S S2) {u l : Nat} (hu : u < 6) (hl : l < 6) : sTn S2 u l = sTn S u l ∧ sMt S2 u l = sMt S u l := by
  unfold sTn sMt
  rw [h.2.2.2.2.2.1 _ (by omega), h.2.2.2.2.2.1 _ (by omega)]
  exact ⟨rfl, rfl⟩
theorem okS_ag (h : agS m S S2) (ho : okS S) : okS S2 := by
  obtain ⟨eT, eA, eR, eL, eTh, eW⟩ := ag_sc h
  have h' := h
  obtain ⟨h0, h1, h4, h7, h8, h3, h9, h10⟩ := h'
  obtain ⟨o1, o2, o3, o4, o5, o6, o7, o8, o9⟩ := ho
  unfold okS
  rw [eT, eA, eR, eL, eTh, eW, h0 0 (by omega), h0 1 (by omega), h0 2 (by omega), h0 3 (by omega), h0 4 (by omega)]
  refine ⟨o1, o2, o3, o4, fun t ht => ?_, fun t t2 g1 g2 g3 => ?_, fun t l g1 g2 => ?_, fun a ha => ?_, fun r hr => ?_⟩
  · rw [(ag_td h (u := t) (by omega)).1, (ag_td h (u := t) (by omega)).2, (h1 t (by omega)).2.1]; exact o5 t ht
  · rw [(ag_td h (u := t) (by omega)).2, (ag_td h (u := t2) (by omega)).2] at g3; exact o6 t t2 g1 g2 g3
  · rw [(ag_td h (u := t) (by omega)).1] at g2
    have := (o5 t g1).2.2.1
    rw [(ag_lg h (u := t) (l := l) (by omega) (by omega)).1, (ag_lg h (u := t) (l := l) (by omega) (by omega)).2]; exact o7 t l g1 g2
  · rw [(h4 a (by omega)).1, (h4 a (by omega)).2.1, (h4 a (by omega)).2.2, h3 _ (by omega), h3 _ (by omega), h3 _ (by omega)]; exact o8 a ha
  · rw [(h7 r (by omega)).1]; exact o9 r hr
theorem okN_ag (h : agS m S S2) (ho : okS S) (hn : okN S) : okN S2 := by
  obtain ⟨eT, eA, eR, eL, eTh, eW⟩ := ag_sc h
  have o1 := ok_sc ho
  refine ⟨fun t ht => ?_, fun r hr => ?_⟩
  · rw [(h.2.1 t (by omega)).2.2]; exact hn.1 t (by omega)
  · rw [(h.2.2.2.1 r (by omega)).2]; exact hn.2 r (by omega)
theorem okC_ag (h : agS m S S2) (ho : okS S) (hc : okC S) (hto : ∀ r q, r < sR S → q < 2 → sTo S r q ≤ m) : okC S2 := by
  obtain ⟨eT, eA, eR, eL, eTh, eW⟩ := ag_sc h
  have o1 := ok_sc ho
  intro r q hr hq
  exact (okCb_agr (m := m) (hc r q (by omega) hq) (hto r q (by omega) hq) h.2.2.2.2.2.2.1 (h.2.2.2.2.1 _ (by omega)) (h.2.2.2.2.1 _ (by omega))).1
theorem cTr_ag (h : agS m S S2) (ho : okS S) (hc : okC S) (hto : ∀ r q, r < sR S → q < 2 → sTo S r q ≤ m) (ht : cTr Z b S) : cTr Z b S2 := by
  obtain ⟨eT, eA, eR, eL, eTh, eW⟩ := ag_sc h
  have o1 := ok_sc ho
  intro r q hr hq
  obtain ⟨_, f1, f2⟩ := okCb_agr (m := m) (hc r q (by omega) hq) (hto r q (by omega) hq) h.2.2.2.2.2.2.1 (h.2.2.2.2.1 (4 * r + 2 * q) (by omega)) (h.2.2.2.2.1 (4 * r + 2 * q + 1) (by omega))
  exact cTrb_agr (m := m) (ht r q (by omega) hq) (hto r q (by omega) hq) h.2.2.2.2.2.2.1 f1 f2 (fun _ _ _ _ => rfl) (fun _ _ => rfl)
theorem cBk_ag (h : agS m S S2) (ho : okS S) (hc : cBk Z b S) : cBk Z b S2 := by
  have o1 := ok_sc ho
  obtain ⟨eT, eA, eR, eL, eTh, eW⟩ := ag_sc h
  have hh := h
  obtain ⟨g0, g1, g4, g7, g8, g3, g9, g10⟩ := hh
  have tdb := fun v (hv : v < sT S) => (ok_tm ho hv).2.2.1
  have eK : ∀ a, a < sA S → sKd S2 a = sKd S a ∧ sTmA S2 a = sTmA S a ∧ sOt S2 a = sOt S a ∧ sTe S2 a = sTe S a ∧ sSz S2 a = sSz S a := fun a ha => by
    unfold sKd sTmA sOt sTe sSz
    rw [eA, if_pos ha, if_pos ha, if_pos ha, if_pos ha, if_pos ha, if_pos ha, if_pos ha, if_pos ha, if_pos ha, if_pos ha, (g4 a (by omega)).1, (g4 a (by omega)).2.1, (g4 a (by omega)).2.2, g3 _ (by omega), g3 _ (by omega)]
    exact ⟨rfl, rfl, rfl, rfl, rfl⟩
  obtain ⟨h1, h2, h3, h4, h5, h6, h7, h8, h9, h10, h11, h12, h13, h14⟩ := hc
  refine ⟨h1, fun k hk => ?_, by rw [eT]; exact h3, by rw [eA]; exact h4, by rw [eR]; exact h5, by rw [g10]; exact h6, by rw [g10]; exact h7, fun u hu => ?_, fun a ha => ?_, fun i hi => ?_, fun r hr => ?_, h12, h13, h14⟩
  · rw [g0 k hk]; exact h2 k hk
  · rw [eT] at hu
    have g := h8 u hu
    have t2 := tdb u hu
    unfold tTold at g ⊢
    rw [(ag_td h (u := u) (by omega)).1, (g1 u (by omega)).1, (g1 u (by omega)).2.2]
    obtain ⟨k1, k2, k3, k4, k5, k6⟩ := g
    refine ⟨k1, k2, k3, fun l hl => ?_, k5, k6⟩
    rw [(ag_lg h (u := u) (l := l) (by omega) (by omega)).1, (ag_lg h (u := u) (l := l) (by omega) (by omega)).2]
    exact k4 l hl
  · rw [eA] at ha
    have g := h9 a ha
    obtain ⟨k1, k2, k3, k4, k5⟩ := eK a ha
    unfold aRep at g ⊢
    rw [k1, k2, k3, k4, k5]
    exact g
  · rw [h10 i hi, eA]
    by_cases q : i < sA S
    · rw [g3 _ (by omega)]
    · rw [decide_eq_false (by omega), decide_eq_false (by omega)]
  · rw [eR] at hr
    rw [(g7 r (by omega)).1, (g7 r (by omega)).2]; exact h11 r hr
end AE2
