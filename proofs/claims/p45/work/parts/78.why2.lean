/-! WHY: from the whole down; the query -/
def updB (ch : Nat → Bool) (a : Nat) (v : Bool) : Nat → Bool := fun x => if x = a then v else ch x
theorem updB_ne {ch : Nat → Bool} {a x : Nat} {v : Bool} (h : x ≠ a) : updB ch a v x = ch x := if_neg h
theorem updB_eq {ch : Nat → Bool} {a : Nat} {v : Bool} : updB ch a v a = v := if_pos rfl
def Jn (S : mjS) (fk : Nat → Int) (fr to f : Nat) (ch : Nat → Bool) : Prop :=
  (∀ k, fr + f ≤ k → k < to → isCm (S 9 k) = true → ch k = (ywS S fk (to - 1)).1 k) ∧
  (∀ k, fr ≤ k → k < fr + f → isCm (S 9 k) = true → ((ywS S fk (to - 1)).1 k = true ↔ ∃ j, fr ≤ j ∧ j < fr + f ∧ ch j = true ∧ (ywS S fk j).1 k = true)) ∧
  (∀ j, fr ≤ j → j < fr + f → ch j = true → ∀ x, spS S j ≤ x → x < j → ch x = false) ∧
  (∀ j, fr ≤ j → j < fr + f → ch j = true → isTt (S 9 j) = true)
section WZ
variable {S : mjS} {fk : Nat → Int} {fr to : Nat} {b : Nat}
theorem Jn_0 (hw : WF S fr to) : Jn S fk fr to (to - fr) (fun j => decide (j = to - 1)) := by
  have hlt := hw.1
  refine ⟨fun k h1 h2 => by omega, fun k h1 h2 h3 => ⟨fun h => ⟨to - 1, by omega, by omega, by simp, h⟩, ?_⟩, fun j h1 h2 h3 x h4 h5 => ?_, fun j h1 h2 h3 => ?_⟩
  · rintro ⟨j, _, _, h4, h5⟩
    simp only [decide_eq_true_eq] at h4
    rw [← h4]; exact h5
  · simp only [decide_eq_true_eq] at h3
    exact decide_eq_false (by omega)
  · simp only [decide_eq_true_eq] at h3
    rw [h3]; exact hw.2.1
/-- nothing is handed on -/
theorem Jn_skip (hw : WF S fr to) {f : Nat} {ch : Nat → Bool} (hi : fr + f < to) (h : Jn S fk fr to (f + 1) ch) (hc : ch (fr + f) = false ∨ isCm (S 9 (fr + f)) = true) : Jn S fk fr to f ch := by
  obtain ⟨a1, a2, a3, a4⟩ := h
  have own : isCm (S 9 (fr + f)) = true → ch (fr + f) = true → ywS S fk (fr + f) = (fun k => decide (k = fr + f), 1) := by
    intro q _
    obtain ⟨g1, g2, g3⟩ := hw.2.2.2 (fr + f) (by omega) hi
    have q' := q
    simp only [isCm, decide_eq_true_eq] at q'
    have qa : isLf (S 9 (fr + f)) = false := by simp only [isLf, decide_eq_false_iff_not]; omega
    obtain ⟨g4, _⟩ := g3 qa (by omega)
    rw [show ywS S fk (fr + f) = ywB S fk (fr + f) (ywS S fk (lfS S (fr + f))) (ywS S fk (fr + f - 1)) from tS_bin qa (by omega) (by omega)]
    unfold ywB
    rw [if_neg (by omega), if_pos q]
  refine ⟨fun k h1 h2 h3 => ?_, fun k h1 h2 h3 => ?_, fun j h1 h2 h3 => a3 j h1 (by omega) h3, fun j h1 h2 h3 => a4 j h1 (by omega) h3⟩
  · by_cases q : k = fr + f
    · subst q
      have := a2 (fr + f) (by omega) (by omega) h3
      cases q2 : ch (fr + f) with
      | true =>
        have := this.mpr ⟨fr + f, by omega, by omega, q2, by rw [own h3 q2]; simp⟩
        rw [this]
      | false =>
        cases q3 : (ywS S fk (to - 1)).1 (fr + f) with
        | false => rfl
        | true =>
          obtain ⟨j, j1, j2, j3, j4⟩ := this.mp q3
          have sup := yw_sup hw (j + 1) j (by omega) j1 (by omega) j4
          have : j = fr + f := by omega
          rw [this, q2] at j3; cases j3
    · exact a1 k (by omega) h2 h3
  · refine Iff.trans (a2 k h1 (by omega) h3) ?_
    constructor
    · rintro ⟨j, j1, j2, j3, j4⟩
      refine ⟨j, j1, ?_, j3, j4⟩
      by_cases q : j = fr + f
      · subst q
        rcases hc with hc | hc
        · rw [hc] at j3; cases j3
        · rw [own hc j3] at j4
          simp only [decide_eq_true_eq] at j4
          omega
      · omega
    · rintro ⟨j, j1, j2, j3⟩
      exact ⟨j, j1, by omega, j3⟩
theorem Jn_not (hw : WF S fr to) {f : Nat} {ch : Nat → Bool} (hi : fr + f < to) (h : Jn S fk fr to (f + 1) ch) (hc : ch (fr + f) = true) (q : S 9 (fr + f) = 40) : Jn S fk fr to f (updB ch (fr + f - 1) true) := by
  obtain ⟨a1, a2, a3, a4⟩ := h
  obtain ⟨g1, g2, g3⟩ := hw.2.2.2 (fr + f) (by omega) hi
  obtain ⟨g4, g5, g6⟩ := g2 q
  have ey : ywS S fk (fr + f) = ywS S fk (fr + f - 1) := tS_not q (by omega)
  have es : spS S (fr + f) = spS S (fr + f - 1) := sp_not q (by omega)
  have nc : isCm (S 9 (fr + f)) = false := by rw [q]; rfl
  have own := a3 (fr + f) (by omega) (by omega) hc
  refine ⟨fun k h1 h2 h3 => ?_, fun k h1 h2 h3 => ?_, fun j h1 h2 h3 x h4 h5 => ?_, fun j h1 h2 h3 => ?_⟩
  · have : k ≠ fr + f := fun e => by rw [e, nc] at h3; cases h3
    rw [updB_ne (by omega)]
    exact a1 k (by omega) h2 h3
  · refine Iff.trans (a2 k h1 (by omega) h3) ?_
    constructor
    · rintro ⟨j, j1, j2, j3, j4⟩
      by_cases qj : j = fr + f
      · subst qj
        rw [ey] at j4
        exact ⟨fr + f - 1, by omega, by omega, updB_eq, j4⟩
      · by_cases qj2 : j = fr + f - 1
        · rw [qj2] at j4
          exact ⟨fr + f - 1, by omega, by omega, updB_eq, j4⟩
        · exact ⟨j, j1, by omega, by rw [updB_ne qj2]; exact j3, j4⟩
    · rintro ⟨j, j1, j2, j3, j4⟩
      by_cases qj : j = fr + f - 1
      · rw [qj, ← ey] at j4
        exact ⟨fr + f, by omega, by omega, hc, j4⟩
      · rw [updB_ne qj] at j3
        exact ⟨j, j1, by omega, j3, j4⟩
  · by_cases qj : j = fr + f - 1
    · rw [updB_ne (by omega)]
      exact own x (by rw [es, ← qj]; exact h4) (by omega)
    · rw [updB_ne qj] at h3
      rw [updB_ne (by omega)]
      exact a3 j h1 (by omega) h3 x h4 h5
  · by_cases qj : j = fr + f - 1
    · rw [qj]; exact g5
    · rw [updB_ne qj] at h3
      exact a4 j h1 (by omega) h3
theorem Jn_join (hw : WF S fr to) {f : Nat} {ch : Nat → Bool} (hi : fr + f < to) (h : Jn S fk fr to (f + 1) ch) (hc : ch (fr + f) = true) (q : S 9 (fr + f) = 41 ∨ S 9 (fr + f) = 42) : Jn S fk fr to f (updB (updB ch (lfS S (fr + f)) (bothS S fk (fr + f) || leftS S fk (fr + f))) (fr + f - 1) (bothS S fk (fr + f) || !(leftS S fk (fr + f)))) := by
  obtain ⟨a1, a2, a3, a4⟩ := h
  obtain ⟨g1, g2, g3⟩ := hw.2.2.2 (fr + f) (by omega) hi
  have qa : isLf (S 9 (fr + f)) = false := by simp only [isLf, decide_eq_false_iff_not]; omega
  obtain ⟨g4, g5, g6, g7, g8, g9⟩ := g3 qa (by omega)
  obtain ⟨n1, n2⟩ := g9 (by omega)
  have s1 := sp_le S (fr + f - 1)
  have s2 := sp_le S (lfS S (fr + f))
  have el : lfS S (fr + f) = spS S (fr + f - 1) - 1 := rfl
  have es : spS S (fr + f) = spS S (lfS S (fr + f)) := sp_bin qa (by omega) (by omega)
  have ey := yw_join (fk := fk) hw (show fr ≤ fr + f by omega) hi q
  have nc : isCm (S 9 (fr + f)) = false := by simp only [isCm, decide_eq_false_iff_not]; omega
  have own := a3 (fr + f) (by omega) (by omega) hc
  have cl := own (lfS S (fr + f)) (by omega) (by omega)
  have cr := own (fr + f - 1) (by omega) (by omega)
  generalize hL : (bothS S fk (fr + f) || leftS S fk (fr + f)) = L
  generalize hR : (bothS S fk (fr + f) || !(leftS S fk (fr + f))) = R
  -- what the whole has is what those chosen have
  have ey2 : ∀ k, (ywS S fk (fr + f)).1 k = true ↔ (L = true ∧ (ywS S fk (lfS S (fr + f))).1 k = true) ∨ (R = true ∧ (ywS S fk (fr + f - 1)).1 k = true) := by
    intro k
    rw [ey, ← hL, ← hR]
    cases bothS S fk (fr + f) with
    | true => simp
    | false => cases leftS S fk (fr + f) <;> simp
  have lne : lfS S (fr + f) ≠ fr + f - 1 := by omega
  have vl : updB (updB ch (lfS S (fr + f)) L) (fr + f - 1) R (lfS S (fr + f)) = L := by rw [updB_ne lne, updB_eq]
  have vr : updB (updB ch (lfS S (fr + f)) L) (fr + f - 1) R (fr + f - 1) = R := updB_eq
  have vo : ∀ x, x ≠ lfS S (fr + f) → x ≠ fr + f - 1 → updB (updB ch (lfS S (fr + f)) L) (fr + f - 1) R x = ch x := fun x h1 h2 => by rw [updB_ne h2, updB_ne h1]
  generalize updB (updB ch (lfS S (fr + f)) L) (fr + f - 1) R = ch2 at vl vr vo ⊢
  have out : ∀ j, fr ≤ j → j < fr + f → ch j = true → j < spS S (fr + f) := by
    intro j h1 h2 h3
    rcases Nat.lt_or_ge j (spS S (fr + f)) with h4 | h4
    · exact h4
    · rw [own j h4 h2] at h3; cases h3
  refine ⟨fun k h1 h2 h3 => ?_, fun k h1 h2 h3 => ?_, fun j h1 h2 h3 x h4 h5 => ?_, fun j h1 h2 h3 => ?_⟩
  · have : k ≠ fr + f := fun e => by rw [e, nc] at h3; cases h3
    rw [vo k (by omega) (by omega)]
    exact a1 k (by omega) h2 h3
  · refine Iff.trans (a2 k h1 (by omega) h3) ?_
    constructor
    · rintro ⟨j, j1, j2, j3, j4⟩
      by_cases qj : j = fr + f
      · subst qj
        rcases (ey2 k).mp j4 with ⟨r1, r2⟩ | ⟨r1, r2⟩
        · exact ⟨lfS S (fr + f), by omega, by omega, by rw [vl, r1], r2⟩
        · exact ⟨fr + f - 1, by omega, by omega, by rw [vr, r1], r2⟩
      · have := out j j1 (by omega) j3
        exact ⟨j, j1, by omega, by rw [vo j (by omega) (by omega)]; exact j3, j4⟩
    · rintro ⟨j, j1, j2, j3, j4⟩
      by_cases qj : j = lfS S (fr + f)
      · subst qj
        rw [vl] at j3
        exact ⟨fr + f, by omega, by omega, hc, (ey2 k).mpr (Or.inl ⟨j3, j4⟩)⟩
      · by_cases qj2 : j = fr + f - 1
        · rw [qj2] at j3 j4
          rw [vr] at j3
          exact ⟨fr + f, by omega, by omega, hc, (ey2 k).mpr (Or.inr ⟨j3, j4⟩)⟩
        · rw [vo j qj qj2] at j3
          exact ⟨j, j1, by omega, j3, j4⟩
  · by_cases qj : j = lfS S (fr + f)
    · rw [qj] at h4 h5
      rw [vo x (by omega) (by omega)]
      exact own x (by omega) (by omega)
    · by_cases qj2 : j = fr + f - 1
      · rw [qj2] at h4 h5
        rw [vo x (by omega) (by omega)]
        exact own x (by omega) (by omega)
      · rw [vo j qj qj2] at h3
        have := out j h1 (by omega) h3
        rw [vo x (by omega) (by omega)]
        exact a3 j h1 (by omega) h3 x h4 h5
  · by_cases qj : j = lfS S (fr + f)
    · rw [qj]; exact n2
    · by_cases qj2 : j = fr + f - 1
      · rw [qj2]; exact n1
      · rw [vo j qj qj2] at h3
        exact a4 j h1 (by omega) h3
def chR (Z : mjZt) (fr to : Nat) (ch : Nat → Bool) : Prop := ∀ j, fr ≤ j → j < to → Z.1 194 j = i3 (if ch j = true then 1 else 0)
theorem chR_upd {Z : mjZt} {ch : Nat → Bool} (h : chR Z fr to ch) (a : Nat) (v : Bool) : chR (zSi Z 194 a (i3 (if v = true then 1 else 0))) fr to (updB ch a v) := by
  intro j h1 h2
  by_cases q : j = a
  · subst q; rw [si_same, updB_eq]
  · rw [si_fld _ _ _ _ (by omega), updB_ne q]; exact h j h1 h2
theorem e89 {Z : mjZt} {x : Nat} (hx : x < 700) (v : Bool) : f89_pick (i3 x) (i3 (if v = true then 1 else 0)) Z = some ((), zSi Z 194 x (i3 (if v = true then 1 else 0))) := by
  unfold f89_pick
  rw [show (0 : Int32) = i3 0 from rfl, show (700 : Int32) = i3 700 from rfl, if_neg (by rw [c_lt (by omega)]; omega), if_neg (by rw [c_ge (by omega)]; omega), if_pos (in_p (by omega)), ix_nat (by omega), if_pos (by cases v <;> simp <;> decide)]
  rfl
theorem e90d (hb : b = 2 ∨ b = 92) (hf : ∀ k, k ≤ 10 → -2147483648 ≤ fk k ∧ fk k ≤ 2147483647) (hw : WF S fr to) (hto : to ≤ 700) : ∀ f n (Z : mjZt) (ch : Nat → Bool), fr + f ≤ to → f < n → wIn Z b S fk fr to → (∀ j, fr ≤ j → j < to → Z.1 193 j = i3 ((ywS S fk j).2)) → chR Z fr to ch → Jn S fk fr to f ch → ∃ Z1 ch1, f90_choose_h69 n (b + 1) (i3 fr) (i3 ((fr : Int) + f - 1)) Z = some ((), Z1) ∧ eqQ Z Z1 ∧ wIn Z1 b S fk fr to ∧ chR Z1 fr to ch1 ∧ Jn S fk fr to 0 ch1
  | f, 0, Z, ch, _, hn, _, _, _, _ => by omega
  | 0, n + 1, Z, ch, hf0, _, hi, hWt, hc, hj => by
    have hlt := hw.1
    refine ⟨Z, ch, ?_, eqQ_rf, hi, hc, hj⟩
    rw [f90_choose_h69, if_pos (by rw [c_lt (by omega)]; omega)]
  | f + 1, n + 1, Z, ch, hf0, hn, hi, hWt, hc, hj => by
    have hib : fr + f < to := by omega
    obtain ⟨g1, g2, g3⟩ := hw.2.2.2 (fr + f) (by omega) hib
    obtain ⟨c1, c2, c3⟩ := hi.1 (fr + f) (by omega) hib
    have next : ∀ (Z2 : mjZt) ch2, eqQ Z Z2 → wIn Z2 b S fk fr to → (∀ j, fr ≤ j → j < to → Z2.1 193 j = i3 ((ywS S fk j).2)) → chR Z2 fr to ch2 → Jn S fk fr to f ch2 → ∃ Z1 ch1, f90_choose_h69 n (b + 1) (i3 fr) (i3 ((fr : Int) + f - 1)) Z2 = some ((), Z1) ∧ eqQ Z Z1 ∧ wIn Z1 b S fk fr to ∧ chR Z1 fr to ch1 ∧ Jn S fk fr to 0 ch1 := by
      intro Z2 ch2 k1 k2 k3 k4 k5
      obtain ⟨Z1, ch1, r1, r2, r3⟩ := e90d hb hf hw hto f n Z2 ch2 (by omega) (by omega) k2 k3 k4 k5
      exact ⟨Z1, ch1, r1, eqQ_tr k1 r2, r3⟩
    have e0 : (fr : Int) + ((f + 1 : Nat) : Int) - 1 = ((fr + f : Nat) : Int) := by omega
    have em : i3 ((fr + f : Nat) : Int) + (-1) = i3 ((fr : Int) + f - 1) := by
      rw [show ((-1) : Int32) = i3 (-1) from rfl, i3_add]; congr 1
    rw [e0, f90_choose_h69, if_neg (by rw [c_lt (by omega)]; omega), show (0 : Int32) = i3 0 from rfl, if_neg (by rw [c_lt (by omega)]; omega), show (700 : Int32) = i3 700 from rfl, if_neg (by rw [c_ge (by omega)]; omega), if_pos (is_b1 hb), e79 hb (by omega), mjBp_some, if_pos (in_p (by omega)), ix_nat (by omega), hc (fr + f) (by omega) hib, c1]
    unfold f90_choose_j190 f90_choose_j120 f90_choose_j145 f90_choose_j150
    rw [em]
    cases q0 : ch (fr + f) with
    | false =>
      obtain ⟨Z1, ch1, r1, r2⟩ := next Z ch eqQ_rf hi hWt hc (Jn_skip hw hib hj (Or.inl q0))
      refine ⟨Z1, ch1, ?_, r2⟩
      rw [if_pos (by decide), if_pos (in_p (by omega)), ix_nat (by omega), hc (fr + f) (by omega) hib, q0, if_pos (by decide)]
      exact r1
    | true =>
      have tt := hj.2.2.2 (fr + f) (by omega) (by omega) q0
      simp only [isTt, decide_eq_true_eq] at tt
      unfold cdv at g1
      rw [if_neg (by decide), show (5 : Int32) = i3 5 from rfl, show (4 : Int32) = i3 4 from rfl, show (6 : Int32) = i3 6 from rfl]
      rcases (by omega : (S 9 (fr + f) = 30 ∨ S 9 (fr + f) = 31 ∨ S 9 (fr + f) = 32) ∨ S 9 (fr + f) = 40 ∨ (S 9 (fr + f) = 41 ∨ S 9 (fr + f) = 42)) with c | c | c
      · obtain ⟨Z1, ch1, r1, r2⟩ := next Z ch eqQ_rf hi hWt hc (Jn_skip hw hib hj (Or.inr (by simp only [isCm, decide_eq_true_eq]; omega)))
        refine ⟨Z1, ch1, ?_, r2⟩
        have o : opC (S 9 (fr + f)) = 7 ∨ opC (S 9 (fr + f)) = 8 ∨ opC (S 9 (fr + f)) = 9 := by rcases c with c | c | c <;> rw [c] <;> decide
        rw [if_neg (by rw [c_eq (by omega)]; omega), if_pos (by rw [c_ne (by omega)]; omega), if_pos (in_p (by omega)), ix_nat (by omega), hc (fr + f) (by omega) hib, q0, if_neg (by decide), if_pos (by rw [c_ne (by omega)]; omega)]
        exact r1
      · obtain ⟨g4, g5, g6⟩ := g2 c
        have hc2 := chR_upd hc (fr + f - 1) true
        obtain ⟨Z1, ch1, r1, r2⟩ := next (zSi Z 194 (fr + f - 1) (i3 1)) (updB ch (fr + f - 1) true) (eqQ_si (by omega)) (wIn_si hb hi (by omega)) (fun j h1 h2 => by rw [si_obj _ _ _ _ (by omega)]; exact hWt j h1 h2) hc2 (Jn_not hw hib hj q0 c)
        refine ⟨Z1, ch1, ?_, r2⟩
        have e9 := e89 (Z := Z) (x := fr + f - 1) (by omega) true
        rw [if_pos rfl, show i3 ((fr + f - 1 : Nat) : Int) = i3 ((fr + f : Nat) : Int) - 1 by rw [i3_p]; congr 1; omega, show i3 1 = 1 from rfl] at e9
        rw [c, if_neg (by decide), if_pos (by decide), if_pos (in_p (by omega)), ix_nat (by omega), hc (fr + f) (by omega) hib, q0, if_neg (by decide), if_neg (by decide), e9, mjBd_some]
        exact r1
      · have qa : isLf (S 9 (fr + f)) = false := by simp only [isLf, decide_eq_false_iff_not]; omega
        obtain ⟨g4, g5, g6, g7, g8, g9⟩ := g3 qa (by omega)
        have s1 := sp_le S (fr + f - 1)
        have el : lfS S (fr + f) = spS S (fr + f - 1) - 1 := rfl
        have e6 := e86 (Z := Z) (b := b) hf hw hto hi (show fr ≤ fr + f by omega) hib c
        have hc2 := chR_upd (chR_upd hc (lfS S (fr + f)) (bothS S fk (fr + f) || leftS S fk (fr + f))) (fr + f - 1) (bothS S fk (fr + f) || !(leftS S fk (fr + f)))
        have w2 : wIn (zSi (zSi Z 194 (lfS S (fr + f)) (i3 (if (bothS S fk (fr + f) || leftS S fk (fr + f)) = true then 1 else 0))) 194 (fr + f - 1) (i3 (if (bothS S fk (fr + f) || !(leftS S fk (fr + f))) = true then 1 else 0))) b S fk fr to := wIn_si hb (wIn_si hb hi (by omega)) (by omega)
        obtain ⟨Z1, ch1, r1, r2⟩ := next _ _ (eqQ_tr (eqQ_si (by omega)) (eqQ_si (by omega))) w2 (fun j h1 h2 => by rw [si_obj _ _ _ _ (by omega), si_obj _ _ _ _ (by omega)]; exact hWt j h1 h2) hc2 (Jn_join hw hib hj q0 c)
        refine ⟨Z1, ch1, ?_, r2⟩
        have goal : ∀ X : Option (Unit × mjZt), X = some ((), Z1) → (if mjCmp .eq (i3 (opC (S 9 (fr + f)))) (i3 5) = true then X else if mjCmp .ne (i3 (opC (S 9 (fr + f)))) (i3 4) = true then none else X) = some ((), Z1) := by
          intro X hX
          rcases c with c | c <;> rw [c, hX] <;> rfl
        have pl : ∀ v : Bool, ∀ Z', f89_pick (i3 (lfS S (fr + f))) (i3 (if v = true then 1 else 0)) Z' = some ((), zSi Z' 194 (lfS S (fr + f)) (i3 (if v = true then 1 else 0))) := fun v Z' => e89 (by omega) v
        have pr : ∀ v : Bool, ∀ Z', f89_pick (i3 ((fr + f : Nat) : Int) - 1) (i3 (if v = true then 1 else 0)) Z' = some ((), zSi Z' 194 (fr + f - 1) (i3 (if v = true then 1 else 0))) := fun v Z' => by
          have e9 := e89 (Z := Z') (x := fr + f - 1) (by omega) v
          rw [show i3 ((fr + f - 1 : Nat) : Int) = i3 ((fr + f : Nat) : Int) - 1 by rw [i3_p]; congr 1; omega] at e9
          exact e9
        have pl1 := pl true
        have pl0 := pl false
        have pr1 := pr true
        have pr0 := pr false
        simp only [if_true, Bool.false_eq_true, if_false] at pl1 pl0 pr1 pr0
        rw [show i3 1 = 1 from rfl] at pl1 pr1
        rw [show i3 0 = 0 from rfl] at pl0 pr0
        -- the joined one's own run
        have run : (mjBp (f86_isOfBoth (i3 (opC (S 9 (fr + f)))) (i3 ((fr + f : Nat) : Int)) Z) fun v119 =>
  if mjCmp .ne v119 (i3 0) = true then
    (if mjIs (b + 1) 211 8 = true then
  mjBp (f81_leftOf (b + 1) (i3 ((fr + f : Nat) : Int)) Z) fun v124 =>
  mjBd (f89_pick v124 1 Z) fun _ Z128 =>
  if mjCmp .ne v119 (i3 0) = true then
    mjBd (f89_pick (i3 ((fr + f : Nat) : Int) - 1) 1 Z128) fun _ Z132 =>
    f90_choose_h69 n (b + 1) (i3 fr) (i3 ((fr : Int) + f - 1)) Z132
  else
    if mjCmp .ne 1 (i3 0) = true then
      mjBd (f89_pick (i3 ((fr + f : Nat) : Int) - 1) (i3 0) Z128) fun _ Z136 =>
      f90_choose_h69 n (b + 1) (i3 fr) (i3 ((fr : Int) + f - 1)) Z136
    else
      mjBd (f89_pick (i3 ((fr + f : Nat) : Int) - 1) 1 Z128) fun _ Z139 =>
      f90_choose_h69 n (b + 1) (i3 fr) (i3 ((fr : Int) + f - 1)) Z139
  else none)
  else
    mjBp (f87_isLeftEnough (b + 1) (i3 ((fr + f : Nat) : Int)) Z) fun v141 =>
    if mjCmp .eq v141 (i3 0) = true then
      (if mjIs (b + 1) 211 8 = true then
  mjBp (f81_leftOf (b + 1) (i3 ((fr + f : Nat) : Int)) Z) fun v124 =>
  mjBd (f89_pick v124 (i3 0) Z) fun _ Z128 =>
  if mjCmp .ne v119 (i3 0) = true then
    mjBd (f89_pick (i3 ((fr + f : Nat) : Int) - 1) 1 Z128) fun _ Z132 =>
    f90_choose_h69 n (b + 1) (i3 fr) (i3 ((fr : Int) + f - 1)) Z132
  else
    if mjCmp .ne (i3 0) (i3 0) = true then
      mjBd (f89_pick (i3 ((fr + f : Nat) : Int) - 1) (i3 0) Z128) fun _ Z136 =>
      f90_choose_h69 n (b + 1) (i3 fr) (i3 ((fr : Int) + f - 1)) Z136
    else
      mjBd (f89_pick (i3 ((fr + f : Nat) : Int) - 1) 1 Z128) fun _ Z139 =>
      f90_choose_h69 n (b + 1) (i3 fr) (i3 ((fr : Int) + f - 1)) Z139
  else none)
    else
      (if mjIs (b + 1) 211 8 = true then
  mjBp (f81_leftOf (b + 1) (i3 ((fr + f : Nat) : Int)) Z) fun v124 =>
  mjBd (f89_pick v124 1 Z) fun _ Z128 =>
  if mjCmp .ne v119 (i3 0) = true then
    mjBd (f89_pick (i3 ((fr + f : Nat) : Int) - 1) 1 Z128) fun _ Z132 =>
    f90_choose_h69 n (b + 1) (i3 fr) (i3 ((fr : Int) + f - 1)) Z132
  else
    if mjCmp .ne 1 (i3 0) = true then
      mjBd (f89_pick (i3 ((fr + f : Nat) : Int) - 1) (i3 0) Z128) fun _ Z136 =>
      f90_choose_h69 n (b + 1) (i3 fr) (i3 ((fr : Int) + f - 1)) Z136
    else
      mjBd (f89_pick (i3 ((fr + f : Nat) : Int) - 1) 1 Z128) fun _ Z139 =>
      f90_choose_h69 n (b + 1) (i3 fr) (i3 ((fr : Int) + f - 1)) Z139
  else none)) = some ((), Z1) := by
          rw [e6, mjBp_some]
          cases q1 : bothS S fk (fr + f) with
          | true =>
            rw [q1] at r1
            simp only [Bool.true_or, if_true] at r1
            rw [if_pos (by decide), if_pos (is_b1 hb), e81 hb (by omega), mjBp_some, c3 qa (by omega), pl1, mjBd_some, if_pos (by decide), pr1, mjBd_some]
            exact r1
          | false =>
            rw [q1] at r1
            rw [if_neg (by decide), e87 hb hf hw hto hi (show fr ≤ fr + f by omega) hib c (fun j h1 h2 => hWt j h1 (by omega)) q1, mjBp_some]
            cases q2 : leftS S fk (fr + f) with
            | true =>
              rw [q2] at r1
              simp only [Bool.false_or, if_true, Bool.not_true, Bool.false_eq_true, if_false] at r1
              rw [if_neg (by decide), if_pos (is_b1 hb), e81 hb (by omega), mjBp_some, c3 qa (by omega), pl1, mjBd_some, if_neg (by decide), if_pos (by decide), show i3 0 = (0 : Int32) from rfl, pr0, mjBd_some]
              exact r1
            | false =>
              rw [q2] at r1
              simp only [Bool.false_or, if_true, Bool.not_false, Bool.false_eq_true, if_false] at r1
              rw [if_pos (by decide), if_pos (is_b1 hb), e81 hb (by omega), mjBp_some, c3 qa (by omega), show i3 0 = (0 : Int32) from rfl, pl0, mjBd_some, if_neg (by decide), if_neg (by decide), pr1, mjBd_some]
              exact r1
        rcases c with c | c
        · rw [c] at run ⊢
          rw [if_pos (by decide)]
          exact run
        · rw [c] at run ⊢
          rw [if_neg (by decide), if_neg (by decide)]
          exact run
end WZ
