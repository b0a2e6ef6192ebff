/-! LINES: a rule more -/
section RU
variable {X : Nat → Nat} {n b : Nat} {Z Z2 : mjZt} {S S2 : mjS} {m m1 m2 W kd : Nat}
def ruS (S S2 : mjS) (m m1 m2 W kd : Nat) : Prop :=
  (∀ f, f ≠ 7 → f ≠ 8 → f ≠ 9 → f ≠ 10 → f ≠ 12 → S2 f = S f) ∧ (∀ k, k ≠ sR S → S2 7 k = S 7 k ∧ S2 12 k = S 12 k) ∧ (∀ k, k < 4 * sR S → S2 8 k = S 8 k) ∧ (∀ k, k < m → S2 9 k = S 9 k) ∧ (∀ k, k ≠ 2 → S2 10 k = S 10 k) ∧ S2 10 2 = ((sR S + 1 : Nat) : Int) ∧ S2 7 (sR S) = kd ∧ S2 12 (sR S) = W ∧ S2 8 (4 * sR S) = m ∧ S2 8 (4 * sR S + 1) = m1 ∧ S2 8 (4 * sR S + 2) = m1 ∧ S2 8 (4 * sR S + 3) = m2
def ruZ (b r m : Nat) (Z Z2 : mjZt) : Prop :=
  (∀ a, b + 7 < a → a < b + 90 → a ≠ b + 11 → Z2.1 a = Z.1 a) ∧ (∀ f, f ≠ 8 → Z2.1 b f = Z.1 b f) ∧ (∀ a, b ≤ a → a < b + 90 → a ≠ b + 10 → Z2.2.1 a = Z.2.1 a) ∧ (∀ k, k ≠ r → Z2.2.1 (b + 10) k = Z.2.1 (b + 10) k ∧ Z2.1 (b + 11) k = Z.1 (b + 11) k) ∧ (∀ j k, j < 3 → k < m → Z2.1 (b + 1 + (j + 1)) k = Z.1 (b + 1 + (j + 1)) k) ∧ ∀ j k, j < 3 → k ≠ 2 * r → k ≠ 2 * r + 1 → Z2.1 (b + 1 + (j + 4)) k = Z.1 (b + 1 + (j + 4)) k
theorem ru_sc (h : ruS S S2 m m1 m2 W kd) : sT S2 = sT S ∧ sA S2 = sA S ∧ sR S2 = sR S + 1 ∧ sLg S2 = sLg S ∧ sTh S2 = sTh S ∧ sWi S2 = sWi S := by
  obtain ⟨e, e7, e8, e9, e10, f10, _⟩ := h
  refine ⟨by unfold sT; rw [e10 0 (by omega)], by unfold sA; rw [e10 1 (by omega)], ?_, by unfold sLg; rw [e 0 (by omega) (by omega) (by omega) (by omega) (by omega)], by unfold sTh; rw [e10 3 (by omega)], by unfold sWi; rw [e10 4 (by omega)]⟩
  have : sR S2 = (S2 10 2).toNat := rfl
  rw [this, f10, Int.toNat_natCast]
theorem okS_rule (h : ruS S S2 m m1 m2 W kd) (ho : okS S) (hR : sR S < 8) (hk : kd ≤ 4) : okS S2 := by
  obtain ⟨eT, eA, eR, eL, eTh, eW⟩ := ru_sc h
  obtain ⟨e, e7, e8, e9, e10, f10, f7, _⟩ := h
  obtain ⟨o1, o2, o3, o4, o5, o6, o7, o8, o9⟩ := ho
  have eD : ∀ u, sTd S2 u = sTd S u := fun u => by unfold sTd; rw [e 2 (by omega) (by omega) (by omega) (by omega) (by omega)]
  have eN : ∀ u, sLn S2 u = sLn S u := fun u => by unfold sLn; rw [e 1 (by omega) (by omega) (by omega) (by omega) (by omega)]
  have eM : ∀ u l, sTn S2 u l = sTn S u l ∧ sMt S2 u l = sMt S u l := fun u l => by unfold sTn sMt; rw [e 3 (by omega) (by omega) (by omega) (by omega) (by omega)]; exact ⟨rfl, rfl⟩
  unfold okS
  rw [eT, eA, eR, eL, eTh, eW, e 0 (by omega) (by omega) (by omega) (by omega) (by omega), e 2 (by omega) (by omega) (by omega) (by omega) (by omega), e 3 (by omega) (by omega) (by omega) (by omega) (by omega), e 4 (by omega) (by omega) (by omega) (by omega) (by omega), e 5 (by omega) (by omega) (by omega) (by omega) (by omega), e 6 (by omega) (by omega) (by omega) (by omega) (by omega)]
  simp only [eD, eN, (eM _ _).1, (eM _ _).2]
  refine ⟨⟨o1.1, o1.2.1, by omega, o1.2.2.2⟩, o2, o3, o4, o5, o6, o7, o8, fun r hr => ?_⟩
  by_cases q : r = sR S
  · subst q; rw [f7]; omega
  · rw [(e7 r q).1]; exact o9 r (by omega)
theorem ru_ca (h : ruS S S2 m m1 m2 W kd) : sFr S2 (sR S) 0 = m ∧ sTo S2 (sR S) 0 = m1 ∧ sFr S2 (sR S) 1 = m1 ∧ sTo S2 (sR S) 1 = m2 := by
  obtain ⟨_, _, _, _, _, _, _, _, f0, f1, f2, f3⟩ := h
  unfold sFr sTo sCa
  rw [show 4 * sR S + 2 * 0 = 4 * sR S by omega, show 4 * sR S + 2 * 1 = 4 * sR S + 2 by omega, show 4 * sR S + 2 + 1 = 4 * sR S + 3 by omega, f0, f1, f2, f3]
  exact ⟨Int.toNat_natCast _, Int.toNat_natCast _, Int.toNat_natCast _, Int.toNat_natCast _⟩
theorem okC_rule (h : ruS S S2 m m1 m2 W kd) (ho : okC S) (hto : ∀ r q, r < sR S → q < 2 → sTo S r q ≤ m) (w1 : WF S2 m m1) (hm : m1 ≤ m2) (w2 : m1 < m2 → WF S2 m1 m2) (h7 : m2 ≤ 700) : okC S2 ∧ ∀ r q, r < sR S2 → q < 2 → sTo S2 r q ≤ m2 := by
  obtain ⟨_, _, eR, _⟩ := ru_sc h
  obtain ⟨c1, c2, c3, c4⟩ := ru_ca h
  obtain ⟨e, e7, e8, e9, e10, f10, f7, f12, f0, f1, f2, f3⟩ := h
  have wl := w1.1
  have key : ∀ r q, r < sR S2 → q < 2 → okCb S2 r q ∧ sTo S2 r q ≤ m2 := by
    intro r q hr hq
    by_cases g : r < sR S
    · have t := hto r q g hq
      obtain ⟨a1, a2, a3⟩ := okCb_agr (m := m) (ho r q g hq) t e9 (e8 _ (by omega)) (e8 _ (by omega))
      exact ⟨a1, by omega⟩
    · have hr2 : r = sR S := by omega
      subst hr2
      unfold okCb
      rcases (by omega : q = 0 ∨ q = 1) with rfl | rfl
      · rw [c1, c2, show 4 * sR S + 2 * 0 = 4 * sR S by omega, f0, f1]
        exact ⟨⟨by omega, by omega, by omega, by omega, fun _ => wl, fun _ => ⟨w1, cnt_180 w1 (by omega)⟩⟩, by omega⟩
      · rw [c3, c4, show 4 * sR S + 2 * 1 = 4 * sR S + 2 by omega, show 4 * sR S + 2 + 1 = 4 * sR S + 3 by omega, f2, f3]
        exact ⟨⟨by omega, by omega, by omega, by omega, fun g => by omega, fun g => ⟨w2 g, cnt_180 (w2 g) h7⟩⟩, by omega⟩
  exact ⟨fun r q hr hq => (key r q hr hq).1, fun r q hr hq => (key r q hr hq).2⟩
theorem cTr_rule (h : ruS S S2 m m1 m2 W kd) (z : ruZ b (sR S) m Z Z2) (hc : cTr Z b S) (hto : ∀ r q, r < sR S → q < 2 → sTo S r q ≤ m) (hm : m < m1) (h1 : cOne Z2 b S2 m m1) (h2 : cOne Z2 b S2 m1 m2) (y1 : Z2.1 (b + 1 + 4) (2 * sR S) = i3 m ∧ Z2.1 (b + 1 + 5) (2 * sR S) = i3 m1 ∧ Z2.1 (b + 1 + 6) (2 * sR S) = i3 (ciS S2 m m1)) (y2 : if m1 < m2 then Z2.1 (b + 1 + 4) (2 * sR S + 1) = i3 m1 ∧ Z2.1 (b + 1 + 5) (2 * sR S + 1) = i3 m2 ∧ Z2.1 (b + 1 + 6) (2 * sR S + 1) = i3 (ciS S2 m1 m2) else Z2.1 (b + 1 + 4) (2 * sR S + 1) = i3 0 ∧ Z2.1 (b + 1 + 5) (2 * sR S + 1) = i3 0) : cTr Z2 b S2 := by
  obtain ⟨_, _, eR, _⟩ := ru_sc h
  obtain ⟨c1, c2, c3, c4⟩ := ru_ca h
  obtain ⟨e, e7, e8, e9, e10, f10, f7, f12, f0, f1, f2, f3⟩ := h
  obtain ⟨z1, z2, z3, z4, z5, z6⟩ := z
  intro r q hr hq
  by_cases g : r < sR S
  · have t := hto r q g hq
    have f1' : sFr S2 r q = sFr S r q := by unfold sFr sCa; rw [e8 _ (by omega)]
    have f2' : sTo S2 r q = sTo S r q := by unfold sTo sCa; rw [e8 _ (by omega)]
    exact cTrb_agr (m := m) (hc r q g hq) t e9 f1' f2' (fun j hj k hk => z5 j k hj hk) (fun j hj => z6 j _ hj (by omega) (by omega))
  · have hr2 : r = sR S := by omega
    subst hr2
    rcases (by omega : q = 0 ∨ q = 1) with rfl | rfl
    · rw [c1, c2, if_pos hm]
      exact ⟨h1, y1⟩
    · rw [c3, c4]
      exact ⟨h2, y2⟩
theorem cBk_rule (h : ruS S S2 m m1 m2 W kd) (z : ruZ b (sR S) m Z Z2) (hc : cBk Z b S) (ho : okS S) (hR : sR S < 8) (hW : nmF 8 W) (z8 : Z2.1 b 8 = i3 ((sR S + 1 : Nat) : Int)) (z10 : Z2.2.1 (b + 10) (sR S) = i6 (cvN 8 W)) (z11 : Z2.1 (b + 11) (sR S) = i3 kd) : cBk Z2 b S2 := by
  have o1 := ok_sc ho
  obtain ⟨eT, eA, eR, eL, eTh, eW⟩ := ru_sc h
  obtain ⟨e, e7, e8, e9, e10, f10, f7, f12, f0, f1, f2, f3⟩ := h
  obtain ⟨z1, z2, z3, z4, z5, z6⟩ := z
  obtain ⟨h1, h2, h3, h4, h5, h6, h7, h8, h9, h10, h11, h12, h13, h14⟩ := hc
  have e' : ∀ f, f < 7 ∨ f = 11 → S2 f = S f := fun f g => e f (by omega) (by omega) (by omega) (by omega) (by omega)
  have eD : ∀ u, sTd S2 u = sTd S u := fun u => by unfold sTd; rw [e' 2 (by omega)]
  have eK : ∀ a, a < sA S → sKd S2 a = sKd S a ∧ sTmA S2 a = sTmA S a ∧ sOt S2 a = sOt S a ∧ sTe S2 a = sTe S a ∧ sSz S2 a = sSz S a := fun a ha => by
    unfold sKd sTmA sOt sTe sSz
    rw [eA, if_pos ha, if_pos ha, if_pos ha, if_pos ha, if_pos ha, if_pos ha, if_pos ha, if_pos ha, if_pos ha, if_pos ha, e' 4 (by omega), e' 5 (by omega), e' 6 (by omega), e' 3 (by omega)]
    exact ⟨rfl, rfl, rfl, rfl, rfl⟩
  refine ⟨h1, fun k hk => ?_, ?_, ?_, by rw [z8, eR], ?_, ?_, fun u hu => ?_, fun a ha => ?_, fun i hi => ?_, fun r hr => ?_, fun u hu => ?_, fun j k hj => ?_, ?_⟩
  · rw [z2 k (by omega), e' 0 (by omega)]; exact h2 k hk
  · rw [z2 5 (by omega), eT]; exact h3
  · rw [z2 6 (by omega), eA]; exact h4
  · rw [z2 9 (by omega), e10 3 (by omega)]; exact h6
  · rw [z2 10 (by omega), e10 4 (by omega)]; exact h7
  · have hT : tmB b u = b + 18 + 5 * u := rfl
    rw [eT] at hu
    have g := h8 u hu
    unfold tTold sTn sMt at g ⊢
    rw [z1 _ (by omega) (by omega) (by omega), z1 (tmB b u + 1) (by omega) (by omega) (by omega), z1 (tmB b u + 2) (by omega) (by omega) (by omega), z1 (tmB b u + 3) (by omega) (by omega) (by omega), z1 (tmB b u + 4) (by omega) (by omega) (by omega), z3 _ (by omega) (by omega) (by omega), eD, e' 1 (by omega), e' 11 (by omega), e' 3 (by omega)]
    exact g
  · have hT : acB b a = b + 48 + a := rfl
    rw [eA] at ha
    have g := h9 a ha
    obtain ⟨k1, k2, k3, k4, k5⟩ := eK a ha
    unfold aRep at g ⊢
    rw [z1 _ (by omega) (by omega) (by omega), k1, k2, k3, k4, k5]
    exact g
  · rw [z3 _ (by omega) (by omega) (by omega), eA, e' 3 (by omega)]; exact h10 i hi
  · by_cases q : r = sR S
    · subst q
      rw [f7, f12, z10, z11]
      exact ⟨rfl, by rw [show sCv (W : Int) = (cvN 8 W : Int) from sCv_c 8 W hW]⟩
    · rw [(z4 r q).1, (z4 r q).2, (e7 r q).1, (e7 r q).2]
      exact h11 r (by omega)
  · have hT : tmB b u = b + 18 + 5 * u := rfl
    rw [z1 _ (by omega) (by omega) (by omega), z1 _ (by omega) (by omega) (by omega)]; exact h12 u hu
  · rw [z1 _ (by omega) (by omega) (by omega)]; exact h13 j k hj
  · rw [z3 _ (by omega) (by omega) (by omega)]; exact h14
theorem okN_rule (h : ruS S S2 m m1 m2 W kd) (hn : okN S) (hW : nmF 8 W) : okN S2 := by
  obtain ⟨eT, eA, eR, eL, eTh, eW⟩ := ru_sc h
  obtain ⟨e, e7, e8, e9, e10, f10, f7, f12, f0, f1, f2, f3⟩ := h
  refine ⟨fun u hu => ?_, fun r hr => ?_⟩
  · rw [e 11 (by omega) (by omega) (by omega) (by omega) (by omega)]; exact hn.1 u (by omega)
  · by_cases q : r = sR S
    · subst q; exact ⟨W, f12, hW⟩
    · rw [(e7 r q).2]; exact hn.2 r (by omega)
/-- the class adds a rule -/
theorem e29 (hb : b = 2 ∨ b = 92) {r : Nat} (hr : r < 8) (h8 : Z.1 b 8 = i3 r) (nm : Int64) (k : Int32) : f29_addRule b nm k Z = some ((), zSi (zSi (zSl Z (b + 10) r nm) (b + 11) r k) b 8 (i3 ((r + 1 : Nat) : Int))) := by
  unfold f29_addRule
  rw [if_pos (is_b hb), h8, show (0 : Int32) = i3 0 from rfl, if_neg (by rw [c_lt (by omega)]; omega), show (8 : Int32) = i3 8 from rfl, if_neg (by rw [c_ge (by omega)]; omega), if_pos (is_b10 hb).1, (is_b10 hb).2, if_pos (in_p (by omega)), ix_nat (by omega), let_eq, sl_int, h8, if_pos (is_b11 hb).1, (is_b11 hb).2, if_pos (in_p (by omega)), ix_nat (by omega), let_eq, si_obj _ _ _ _ (by omega), sl_int, h8, i3_s, let_eq]
end RU
