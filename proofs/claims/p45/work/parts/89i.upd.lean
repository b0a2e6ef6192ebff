/-! ONE CELL of the class's book written anew -/
section UP
variable {Z Z2 : mjZt} {b : Nat} {S S2 : mjS}
/-- what is told, when only cells that change by appeals differ -/
theorem cBk_new (ho : okS S) (h : cBk Z b S) (e : ∀ f, f ≠ 3 → S2 f = S f) (f0 : Z2.1 b = Z.1 b) (f1 : ∀ o, b + 10 ≤ o → o ≤ b + 16 → Z2.1 o = Z.1 o ∧ Z2.2.1 o = Z.2.1 o) (f2 : ∀ t, t < 6 → Z2.1 (tmB b t) = Z.1 (tmB b t) ∧ Z2.2.1 (tmB b t) = Z.2.1 (tmB b t) ∧ Z2.1 (tmB b t + 3) 0 = Z.1 (tmB b t + 3) 0 ∧ Z2.1 (tmB b t + 4) 0 = Z.1 (tmB b t + 4) 0)
    (f3 : ∀ t l, t < sT S → l < sTd S t → Z2.1 (tmB b t + 1) (l + 1) = i3 (sTn S2 t l) ∧ Z2.1 (tmB b t + 2) (l + 1) = i3 (sMt S2 t l)) (f4 : ∀ a, a < sA S → Z2.1 (acB b a) 0 = Z.1 (acB b a) 0 ∧ Z2.1 (acB b a) 1 = Z.1 (acB b a) 1 ∧ Z2.1 (acB b a) 2 = Z.1 (acB b a) 2 ∧ Z2.1 (acB b a) 3 = i3 (S2 3 (72 + 3 * a)) ∧ Z2.1 (acB b a) 4 = i3 (S2 3 (72 + 3 * a + 1)))
    (f5 : ∀ i, i < 64 → b6 (Z2.2.1 b 11) i = decide (i < sA S ∧ S2 3 (72 + 3 * i + 2) = 1)) : cBk Z2 b S2 := by
  have o1 := ok_sc ho
  have eT : sT S2 = sT S := by unfold sT; rw [e 10 (by omega)]
  have eA : sA S2 = sA S := by unfold sA; rw [e 10 (by omega)]
  have eR : sR S2 = sR S := by unfold sR; rw [e 10 (by omega)]
  have eD : ∀ t, sTd S2 t = sTd S t := fun t => by unfold sTd; rw [e 2 (by omega)]
  obtain ⟨h1, h2, h3, h4, h5, h6, h7, h8, h9, h10, h11, h12, h13, h14⟩ := h
  unfold cBk
  rw [eT, eA, eR, e 0 (by omega), e 10 (by omega), f0, (f1 (b + 11) (by omega) (by omega)).1, (f1 (b + 10) (by omega) (by omega)).2, (f1 (b + 12) (by omega) (by omega)).2, e 7 (by omega), e 12 (by omega)]
  refine ⟨h1, h2, h3, h4, h5, h6, h7, fun t ht => ?_, fun a ha => ?_, f5, h11, fun t ht => ?_, fun j k hj => ?_, h14⟩
  · obtain ⟨g1, g2, g3, g4, g5, g6⟩ := h8 t ht
    obtain ⟨k1, k2, k3, k4⟩ := f2 t (by omega)
    unfold tTold
    rw [eD, e 1 (by omega), e 11 (by omega), k1, k2, k3, k4]
    exact ⟨g1, g2, g3, fun l hl => f3 t l ht hl, g5, g6⟩
  · obtain ⟨g1, g2, g3, g4, g5⟩ := h9 a ha
    obtain ⟨k1, k2, k3, k4, k5⟩ := f4 a ha
    unfold aRep sKd sTmA sOt sTe sSz at *
    rw [eA, if_pos ha, if_pos ha, if_pos ha, if_pos ha, if_pos ha, e 4 (by omega), e 5 (by omega), e 6 (by omega), k1, k2, k3, k4, k5]
    rw [if_pos ha] at g1 g2 g3
    exact ⟨g1, g2, g3, rfl, rfl⟩
  · obtain ⟨_, _, k3, k4⟩ := f2 t ht
    rw [k3, k4]
    exact h12 t ht
  · rw [(f1 (b + 12 + j) (by omega) (by omega)).1]
    exact h13 j k hj
theorem cBk_upA (ho : okS S) (h : cBk Z b S) {a m : Nat} (ha : a < sA S) (hm : m < 2) {v : Int} : cBk (zSi Z (acB b a) (3 + m) (i3 v)) b (updS S (72 + 3 * a + m) v) := by
  have o1 := ok_sc ho
  have hA : acB b a = b + 48 + a := rfl
  refine cBk_new ho h (fun f hf => updS_f hf) (si_obj _ _ _ _ (by omega)) (fun o h1 h2 => ⟨si_obj _ _ _ _ (by omega), rfl⟩) (fun t ht => ?_) (fun t l ht hl => ?_) (fun c hc => ?_) (fun i hi => ?_)
  · have hT : tmB b t = b + 18 + 5 * t := rfl
    exact ⟨si_obj _ _ _ _ (by omega), rfl, by rw [si_obj _ _ _ _ (by omega)], by rw [si_obj _ _ _ _ (by omega)]⟩
  · have hT : tmB b t = b + 18 + 5 * t := rfl
    have o2 := ok_tm ho ht
    have t1 := b_tn h ht hl
    have t2 := b_mt h ht hl
    rw [si_obj _ _ _ _ (by omega), si_obj _ _ _ _ (by omega), t1, t2]
    unfold sTn sMt
    rw [updS_n (by omega), updS_n (by omega)]
    exact ⟨rfl, rfl⟩
  · have hC : acB b c = b + 48 + c := rfl
    obtain ⟨g1, g2, g3, g4, g5⟩ := b_ac h hc
    unfold sTe at g4
    unfold sSz at g5
    rw [if_pos hc] at g4 g5
    refine ⟨si_fld _ _ _ _ (by omega), si_fld _ _ _ _ (by omega), si_fld _ _ _ _ (by omega), ?_, ?_⟩
    · by_cases q : c = a ∧ m = 0
      · obtain ⟨rfl, rfl⟩ := q
        rw [Nat.add_zero, si_same, Nat.add_zero, updS_e]
      · rw [si_fld _ _ _ _ (by omega), updS_n (by omega)]; exact g4
    · by_cases q : c = a ∧ m = 1
      · obtain ⟨rfl, rfl⟩ := q
        rw [si_same, updS_e]
      · rw [si_fld _ _ _ _ (by omega), updS_n (by omega)]; exact g5
  · rw [si_lng, b_wv h hi, updS_n (by omega)]
theorem cBk_upW (ho : okS S) (h : cBk Z b S) {a : Nat} (ha : a < sA S) : cBk (zSl Z b 11 (Z.2.1 b 11 ^^^ (i6 1 <<< ((i3 a).toInt64 &&& 63)))) b (updS S (72 + 3 * a + 2) (1 - S 3 (72 + 3 * a + 2))) := by
  have o1 := ok_sc ho
  have oa := (ok_act ho ha).2.2.2.2.2.2.2.2.2.2
  refine cBk_new ho h (fun f hf => updS_f hf) rfl (fun o h1 h2 => ⟨rfl, sl_obj _ _ _ _ (by omega)⟩) (fun t ht => ?_) (fun t l ht hl => ?_) (fun c hc => ?_) (fun i hi => ?_)
  · have hT : tmB b t = b + 18 + 5 * t := rfl
    exact ⟨rfl, sl_obj _ _ _ _ (by omega), rfl, rfl⟩
  · have o2 := ok_tm ho ht
    have t1 := b_tn h ht hl
    have t2 := b_mt h ht hl
    rw [sl_int, t1, t2]
    unfold sTn sMt
    rw [updS_n (by omega), updS_n (by omega)]
    exact ⟨rfl, rfl⟩
  · obtain ⟨g1, g2, g3, g4, g5⟩ := b_ac h hc
    unfold sTe at g4
    unfold sSz at g5
    rw [if_pos hc] at g4 g5
    rw [sl_int, updS_n (by omega), updS_n (by omega)]
    exact ⟨rfl, rfl, rfl, g4, g5⟩
  · rw [sl_same, b6_xor, b_wv h hi, b6_single (by omega) hi]
    by_cases q : i = a
    · subst q
      rw [updS_e]
      rcases oa with g | g <;> rw [g] <;> simp [ha]
    · rw [updS_n (by omega), decide_eq_false q, Bool.xor_false]
theorem cBk_upL (ho : okS S) (h : cBk Z b S) {t l : Nat} (ht : t < sT S) (hl : l < sTd S t) {x y : Int} : cBk (zSi (zSi Z (tmB b t + 1) (l + 1) (i3 x)) (tmB b t + 2) (l + 1) (i3 y)) b (updS (updS S (12 * t + 2 * l) x) (12 * t + 2 * l + 1) y) := by
  have o1 := ok_sc ho
  have o2 := ok_tm ho ht
  have hT : tmB b t = b + 18 + 5 * t := rfl
  refine cBk_new ho h (fun f hf => by rw [updS_f hf, updS_f hf]) (by rw [si_obj _ _ _ _ (by omega), si_obj _ _ _ _ (by omega)]) (fun o h1 h2 => ⟨by rw [si_obj _ _ _ _ (by omega), si_obj _ _ _ _ (by omega)], rfl⟩) (fun u hu => ?_) (fun u k hu hk => ?_) (fun c hc => ?_) (fun i hi => ?_)
  · have hU : tmB b u = b + 18 + 5 * u := rfl
    exact ⟨by rw [si_obj _ _ _ _ (by omega), si_obj _ _ _ _ (by omega)], rfl, by rw [si_fld _ _ _ _ (by omega), si_fld _ _ _ _ (by omega)], by rw [si_fld _ _ _ _ (by omega), si_fld _ _ _ _ (by omega)]⟩
  · have hU : tmB b u = b + 18 + 5 * u := rfl
    have o3 := ok_tm ho hu
    have t1 := b_tn h hu hk
    have t2 := b_mt h hu hk
    unfold sTn at t1 ⊢
    unfold sMt at t2 ⊢
    by_cases q : u = t ∧ k = l
    · obtain ⟨rfl, rfl⟩ := q
      rw [si_obj _ _ _ _ (by omega), si_same, si_same, updS_e, updS_n (by omega), updS_e]
      exact ⟨rfl, rfl⟩
    · refine ⟨?_, ?_⟩
      · rw [si_fld _ _ _ _ (by omega), si_fld _ _ _ _ (by omega), updS_n (by omega), updS_n (by omega)]; exact t1
      · rw [si_fld _ _ _ _ (by omega), si_fld _ _ _ _ (by omega), updS_n (by omega), updS_n (by omega)]; exact t2
  · have hC : acB b c = b + 48 + c := rfl
    obtain ⟨g1, g2, g3, g4, g5⟩ := b_ac h hc
    unfold sTe at g4
    unfold sSz at g5
    rw [if_pos hc] at g4 g5
    rw [si_obj _ _ _ _ (by omega), si_obj _ _ _ _ (by omega), updS_n (by omega), updS_n (by omega), updS_n (by omega), updS_n (by omega)]
    exact ⟨rfl, rfl, rfl, g4, g5⟩
  · rw [si_lng, si_lng, b_wv h hi, updS_n (by omega), updS_n (by omega)]
end UP
