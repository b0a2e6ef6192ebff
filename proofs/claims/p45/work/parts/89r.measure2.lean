/-! CALLS: measure, its guards -/
section MG
variable {Z Zm : mjZt} {b : Nat} {S : mjS}
theorem e30 (h : cBk Z b S) (ho : okS S) {l : Nat} (hl : l ≤ 6) : f30_mostMetres b (i3 ((l + 1 : Nat) : Int)) Z = some (i3 (if l + 1 = sLg S then 0 else 20)) := by
  have o1 := ok_sc ho
  unfold f30_mostMetres
  rw [if_pos (is_b (b_b h)), b_tr0 h, ok_lg ho]
  by_cases q : l + 1 = sLg S
  · rw [if_neg (by rw [c_ne (by omega)]; omega), if_pos q]; rfl
  · rw [if_pos (by rw [c_ne (by omega)]; omega), if_neg q]; rfl
theorem q_measure {N U : Nat} {E P : Nat → Nat → Int} (hi : iR Z Zm b S N U E P) (x y z u : Int32) : ∃ v Z1 Zm1 S2 N2 U2 E2 P2, f192_measure x y z u Z = some (v, Z1) ∧ f322_measure x y z u Zm = some (v, Zm1) ∧ iR Z1 Zm1 b S2 N2 U2 E2 P2 ∧ eqY b Z Z1 ∧ eqZ Zm Zm1 := by
  have hi0 := hi
  obtain ⟨hb, h, hd, htr, hv, ho, hoc, hn, hm, hl, hp, hh⟩ := hi0
  have hb2 := b_b h
  have o1 := ok_sc ho
  have stay : ∀ w : Int32, f192_measure x y z u Z = some (w, Z) → f322_measure x y z u Zm = some (w, Zm) → ∃ v Z1 Zm1 S2 N2 U2 E2 P2, f192_measure x y z u Z = some (v, Z1) ∧ f322_measure x y z u Zm = some (v, Zm1) ∧ iR Z1 Zm1 b S2 N2 U2 E2 P2 ∧ eqY b Z Z1 ∧ eqZ Zm Zm1 := fun w g1 g2 =>
    ⟨w, Z, Zm, S, N, U, E, P, g1, g2, hi, ⟨rfl, fun _ _ _ _ _ _ _ => ⟨rfl, rfl⟩⟩, ⟨rfl, fun _ _ _ _ => rfl, fun _ _ => rfl⟩⟩
  rcases tm_cases S x with ⟨t, rfl, ht⟩ | ⟨t, rfl, ht⟩
  · have o2 := ok_tm ho ht
    obtain ⟨g, rfl, hg1, hg2⟩ := i3_ex y
    obtain ⟨v, rfl, hv1, hv2⟩ := i3_ex z
    obtain ⟨w, rfl, hw1, hw2⟩ := i3_ex u
    by_cases q : 1 ≤ g ∧ g ≤ sTd S t
    · obtain ⟨l, rfl⟩ : ∃ l : Nat, g = ((l + 1 : Nat) : Int) := ⟨(g - 1).toNat, by omega⟩
      have hl2 : l < sTd S t := by omega
      have og := ok_leg ho ht hl2
      by_cases q2 : 20 ≤ v ∧ v ≤ 999
      · generalize hM : (if l + 1 = sLg S then (0 : Int) else 20) = M
        have hM2 : (l + 1 = sLg S ∧ M = 0) ∨ (l + 1 ≠ sLg S ∧ M = 20) := by
          rw [← hM]; split <;> omega
        have e30' := e30 h ho (l := l) (by omega)
        rw [hM] at e30'
        have x108 : f108_tenthsOf (tmB b t) (i3 ((l + 1 : Nat) : Int)) Z = some (i3 (sTn S t l)) := e108 h ho ht hl2
        have x32 : f32_metresOf (tmB b t) (i3 ((l + 1 : Nat) : Int)) Z = some (i3 (sMt S t l)) := e32 h ho ht hl2
        have cl : f192_measure (i3 t) (i3 ((l + 1 : Nat) : Int)) (i3 v) (i3 w) Z = f192_measure_j73 (i3 t) (i3 ((l + 1 : Nat) : Int)) (i3 v) (i3 w) (i3 M) (tmB b t) (i3 (if v = sTn S t l ∧ w = sMt S t l then 1 else 0)) Z := by
          unfold f192_measure
          rw [hb, if_pos (is_b hb2), e19t h ho ht q, mjBp_some, if_neg (by decide), show (20 : Int32) = i3 20 from rfl, if_neg (by rw [c_lt (by omega)]; omega), show (999 : Int32) = i3 999 from rfl, if_pos (by rw [c_le (by omega)]; omega), e30', mjBp_some, e8 h ho ht, mjBp_some, if_pos (is_tm hb2 t (by omega)), x108, mjBp_some]
          by_cases q3 : v = sTn S t l
          · rw [if_neg (by rw [c_ne (by omega)]; omega), x32, mjBp_some]
            by_cases q4 : w = sMt S t l
            · rw [if_neg (by rw [c_ne (by omega)]; omega), if_pos ⟨q3, q4⟩]; rfl
            · rw [if_pos (by rw [c_ne (by omega)]; omega), if_neg (fun g => q4 g.2)]; rfl
          · rw [if_pos (by rw [c_ne (by omega)]; omega), if_neg (fun g => q3 g.1)]; rfl
        have md : f322_measure (i3 t) (i3 ((l + 1 : Nat) : Int)) (i3 v) (i3 w) Zm = f322_measure_j56 (i3 t) (i3 ((l + 1 : Nat) : Int)) (i3 v) (i3 w) (i3 M) Zm := by
          unfold f322_measure
          rw [m240t hm ho ht, mjBp_some, if_neg (by decide), if_pos (in_p (by omega)), ix_nat (by omega), m_td hm ho ht, i36 (by omega), i36 (by omega), i36 (by omega), show (1 : Int64) = i6 1 from rfl, m195t (by omega), mjBp_some, if_neg (by decide), show (20 : Int64) = i6 20 from rfl, show (999 : Int64) = i6 999 from rfl, m195t (by omega), mjBp_some, if_pos (by decide), m_tr hm, ok_lg ho]
          rcases hM2 with ⟨h1, h2⟩ | ⟨h1, h2⟩
          · rw [if_neg (by rw [c_ne (by omega)]; omega), h2]; rfl
          · rw [if_pos (by rw [c_ne (by omega)]; omega), h2]; rfl
        by_cases q3 : -M ≤ w ∧ w ≤ M
        · by_cases q4 : v = sTn S t l ∧ w = sMt S t l
          · refine stay (i3 (-1)) ?_ ?_
            · rw [cl, if_pos q4]
              unfold f192_measure_j73
              rw [i3_neg, if_neg (by rw [c_lt (by omega)]; omega), if_neg (by rw [c_gt (by omega)]; omega), if_neg (by decide)]; rfl
            · rw [md]
              unfold f322_measure_j56
              rw [i3_neg, i36 (by omega), i36 (by omega), i36 (by omega), m195t (by omega), mjBp_some, if_neg (by decide), i3_p, show ((l + 1 : Nat) : Int) - 1 = (l : Int) by omega, m242 hm (by omega) (by omega), mjBp_some, if_neg (by rw [c_ne (by omega)]; omega), m243 hm (by omega) (by omega), mjBp_some, if_neg (by rw [c_ne (by omega)]; omega)]; rfl
          · obtain ⟨r, Z1, Zm1, S2, N2, U2, E2, P2, r1, r2, r3⟩ := me_go hi ht hl2 q2 (y := w) (by omega) (by omega)
            refine ⟨r, Z1, Zm1, S2, N2, U2, E2, P2, ?_, ?_, r3⟩
            · rw [cl, if_neg q4]
              unfold f192_measure_j73
              rw [i3_neg, if_neg (by rw [c_lt (by omega)]; omega), if_neg (by rw [c_gt (by omega)]; omega), if_pos (by decide), if_pos (is_tm hb2 t (by omega))]
              exact r1
            · rw [md]
              unfold f322_measure_j56
              rw [i3_neg, i36 (by omega), i36 (by omega), i36 (by omega), m195t (by omega), mjBp_some, if_neg (by decide), i3_p, show ((l + 1 : Nat) : Int) - 1 = (l : Int) by omega, m242 hm (by omega) (by omega), mjBp_some]
              by_cases q5 : v = sTn S t l
              · rw [if_neg (by rw [c_ne (by omega)]; omega), m243 hm (by omega) (by omega), mjBp_some, if_pos (by rw [c_ne (by omega)]; intro g; exact q4 ⟨q5, g.symm⟩)]; exact r2
              · rw [if_pos (by rw [c_ne (by omega)]; omega)]; exact r2
        · refine stay (i3 (-1)) ?_ ?_
          · rw [cl]
            unfold f192_measure_j73
            rw [i3_neg]
            by_cases q4 : w < -M
            · rw [if_pos (by rw [c_lt (by omega)]; omega)]; rfl
            · rw [if_neg (by rw [c_lt (by omega)]; omega), if_pos (by rw [c_gt (by omega)]; omega)]; rfl
          · rw [md]
            unfold f322_measure_j56
            rw [i3_neg, i36 (by omega), i36 (by omega), i36 (by omega), m195f (by omega), mjBp_some, if_pos (by decide)]; rfl
      · refine stay (i3 (-1)) ?_ ?_
        · unfold f192_measure
          rw [hb, if_pos (is_b hb2), e19t h ho ht q, mjBp_some, if_neg (by decide), show (20 : Int32) = i3 20 from rfl]
          by_cases q3 : v < 20
          · rw [if_pos (by rw [c_lt (by omega)]; omega)]; rfl
          · rw [if_neg (by rw [c_lt (by omega)]; omega), show (999 : Int32) = i3 999 from rfl, if_neg (by rw [c_le (by omega)]; omega)]; rfl
        · unfold f322_measure
          rw [m240t hm ho ht, mjBp_some, if_neg (by decide), if_pos (in_p (by omega)), ix_nat (by omega), m_td hm ho ht, i36 (by omega), i36 (by omega), i36 (by omega), show (1 : Int64) = i6 1 from rfl, m195t (by omega), mjBp_some, if_neg (by decide), show (20 : Int64) = i6 20 from rfl, show (999 : Int64) = i6 999 from rfl, m195f (by omega), mjBp_some, if_neg (by decide)]; rfl
    · refine stay (i3 (-1)) ?_ ?_
      · unfold f192_measure
        rw [hb, if_pos (is_b hb2), e19f h ho ht (by omega), mjBp_some, if_pos (by decide)]; rfl
      · unfold f322_measure
        rw [m240t hm ho ht, mjBp_some, if_neg (by decide), if_pos (in_p (by omega)), ix_nat (by omega), m_td hm ho ht, i36 (by omega), i36 (by omega), show (1 : Int64) = i6 1 from rfl, m195f (by omega), mjBp_some, if_pos (by decide)]; rfl
  · refine stay (i3 (-1)) ?_ ?_
    · unfold f192_measure
      rw [hb, if_pos (is_b hb2), e19n h ho ht, mjBp_some, if_pos (by decide)]; rfl
    · unfold f322_measure
      rw [m240f hm ho ht, mjBp_some, if_pos (by decide)]; rfl
end MG
