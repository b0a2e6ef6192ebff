/-! LINES: runs, whole -/
section RV
variable {X : Nat → Nat} {n b : Nat} {Z Zc Zm : mjZt} {S : mjS} {m p : Nat} {t w : Bool}
theorem rn_fin {Zc4 Zm4 : mjZt} {p4 u v1 : Nat} (sg : Bool) (h : jR X n b Zc4 Zm4 S m p4 t w) (hn : n ≤ 700) (hX : ∀ k, X k ≤ 255) (hu : u < sT S) (hl : sTd S u < sLg S) (hv : 20 ≤ v1 ∧ v1 ≤ 999) : lnR X n b (f123_readRuns_j122 b (i3 u) (i3 v1) (bI sg) Zc4) (f228_runsLine_j72 (i3 u) (i3 v1) (bI sg) Zm4) Zc4 Zm4 p4 := by
  obtain ⟨hg, h2, h3, h4, hf⟩ := h
  have hb := rC_b h2
  have ho := h4.1
  have o1 := ok_sc ho
  have tB : tmB b u = b + 18 + 5 * u := rfl
  have td := b_td h2.1 hu
  have mtd : Zm4.1 220 u = i3 (sTd S u) := by
    have := (ok_tm ho hu).2.2.2
    rw [h3.2.2.1 u]; unfold sTd; rw [Int.toNat_of_nonneg this]
  have m0 : Zm4.1 218 0 = i3 (sLg S) := by rw [h3.1 0, ok_lg ho]
  obtain ⟨M, hM⟩ : ∃ M : Int, M = if sTd S u + 1 = sLg S then 0 else 20 := ⟨_, rfl⟩
  have hM2 : (sTd S u + 1 = sLg S ∧ M = 0) ∨ (sTd S u + 1 ≠ sLg S ∧ M = 20) := by
    rw [hM]; split <;> omega
  have e30' := e30 h2.1 ho (l := sTd S u) (by omega)
  rw [← hM] at e30'
  have cl : f123_readRuns_j122 b (i3 u) (i3 v1) (bI sg) Zc4 = mjBd (f116_takeNumber (i3 0) (i3 M) Zc4) fun v128 Z129 => if mjCmp .ne v128 0 = true then (if mjCmp .eq (bI sg) 0 = true then mjBd (f122_addLeg (tmB b u) (i3 v1) (Z129.1 182 4) Z129) fun _ Z134 => some (1, Z134) else mjBd (f122_addLeg (tmB b u) (i3 v1) (-(Z129.1 182 4)) Z129) fun _ Z137 => some (1, Z137)) else some (0, Z129) := by
    unfold f123_readRuns_j122
    rw [if_pos (is_b hb), e8 h2.1 ho hu, mjBp_some, if_pos (is_tm hb u (by omega)), td, i3_s, e30', mjBp_some]; rfl
  have md : f228_runsLine_j72 (i3 u) (i3 v1) (bI sg) Zm4 = f228_runsLine_j105 (i3 u) (i3 v1) (bI sg) (i3 0) (i3 M) Zm4 := by
    unfold f228_runsLine_j72
    rw [if_pos (gdL hg.2.2.2.1), if_pos (in_p (by omega)), ix_nat (by omega), mtd, i3_s, m0]
    rcases hM2 with ⟨g1, g2⟩ | ⟨g1, g2⟩
    · rw [if_neg (by rw [c_ne (by omega)]; omega), g2]; rfl
    · rw [if_pos (by rw [c_ne (by omega)]; omega), g2]; rfl
  rw [cl, md]
  unfold f228_runsLine_j105
  rcases p_num hg hn hX (lo := 0) (hi := M) (by omega) with ⟨Zc5, Zm5, v, b1, b2, b3, b4, b5, b6, b7, b8, b9, _⟩ | ⟨Zc5, Zm5, v, b1, b2, b3, b4, b5⟩
  · left
    have c5 := rC_of ho h2 (eqT3_B hb (eqT2_3 b8))
    have m5 := rM_go h3 b9
    have ok5 : okR S m (jE X n p4) := okR_p h4 (by omega)
    have f5 : fgR Zc5 Zm5 t w := ⟨by rw [b8.2.2 2 (by omega), b8.2.2 6 (by omega)]; exact hf.1, by rw [b8.2.2 3 (by omega)]; exact hf.2.1, by rw [b9.2.2 24 (by omega)]; exact hf.2.2⟩
    obtain ⟨y, hy⟩ : ∃ y : Int, y = if sg = true then -(v : Int) else v := ⟨_, rfl⟩
    have hy2 : -20 ≤ y ∧ y ≤ 20 ∧ (sTd S u + 1 = sLg S → y = 0) := by
      rw [hy]; split <;> omega
    obtain ⟨S2, hS2⟩ := rn_end (u := u) (x := v1) (y := y) b6 c5 m5 ok5 f5 hu hl (by omega) ⟨hy2.1, hy2.2.1⟩ hy2.2.2
    have t5 : Zc5.1 (tmB b u) 6 = i3 (sTd S u) := b_td c5.1 hu
    have mt5 : Zm5.1 220 u = i3 (sTd S u) := by rw [(b9.2.1 220 (by omega)).1]; exact mtd
    have tdb := (ok_tm ho hu).2.2.1
    refine ⟨_, _, S2, m, _, t, w, ?_, ?_, hS2, b7, eqRc_tr (eqT2_R b8) (eqRc_tr (eqRc_si (by unfold rdw; omega)) (eqRc_tr (eqRc_si (by unfold rdw; omega)) (eqRc_si (by unfold rdw; omega)))), eqRd_tr (eqGo_R b9) (eqRd_tr (eqRd_si (by omega)) (eqRd_tr (eqRd_si (by omega)) (eqRd_si (by omega))))⟩
    · rw [b1, mjBd_some, if_pos (by decide), b5]
      cases sg with
      | true =>
        rw [if_neg (by decide), i3_neg, e122 hb (by omega) (by omega) t5, mjBd_some, hy, if_pos rfl]
      | false =>
        rw [if_pos (by decide), e122 hb (by omega) (by omega) t5, mjBd_some, hy, if_neg (by decide)]
    · have x1 : ∀ z : Int32, (zSi Zm5 221 (12 * u + 2 * sTd S u) z).1 220 u = i3 (sTd S u) := fun z => by rw [si_obj _ _ _ _ (by omega), mt5]
      have j168 : ∀ z : Int, f228_runsLine_j168 (i3 u) (i3 ((12 * u + 2 * sTd S u + 1 : Nat) : Int)) (i3 z) (zSi Zm5 221 (12 * u + 2 * sTd S u) (i3 v1)) = some ((), zSi (zSi (zSi Zm5 221 (12 * u + 2 * sTd S u) (i3 v1)) 221 (12 * u + 2 * sTd S u + 1) (i3 z)) 220 u (i3 ((sTd S u + 1 : Nat) : Int))) := fun z => by
        unfold f228_runsLine_j168
        rw [if_pos (in_p (by omega)), ix_nat (by omega), let_eq, if_pos (in_p (by omega)), ix_nat (by omega), si_obj _ _ _ _ (by omega), x1, i3_s, let_eq]
      rw [b2, mjBd_some, if_pos (gdL b6.2.2.2.1), if_pos (in_p (by omega)), ix_nat (by omega), mt5, show (12 : Int32) = i3 12 from rfl, show (2 : Int32) = i3 2 from rfl, i3_mul, i3_mul, i3_add, show (12 : Int) * (u : Int) + 2 * (sTd S u : Int) = ((12 * u + 2 * sTd S u : Nat) : Int) by omega, if_pos (in_p (by omega)), ix_nat (by omega), let_eq, x1, i3_mul, i3_add, show (12 : Int) * (u : Int) + 2 * (sTd S u : Int) = ((12 * u + 2 * sTd S u : Nat) : Int) by omega, i3_s]
      cases sg with
      | true => rw [if_neg (by decide), i3_neg, hy, if_pos rfl]; exact j168 _
      | false => rw [if_pos (by decide), hy, if_neg (by decide)]; exact j168 _
  · right
    obtain ⟨k, q2, k1, k2, k3, k4⟩ := b3
    refine ⟨Zc5, Zm5, ?_, ?_, ⟨k, q2, k1, k2, k3, k4⟩, eqT3_R b4, eqGw_R b5⟩
    · rw [b1, mjBd_some, if_neg (by decide)]
    · rw [b2, mjBd_some, if_neg (bdL k4 ⟨k1, k2⟩)]
theorem lnR_go {rc : Option (Int32 × mjZt)} {rm : Option (Unit × mjZt)} {Zc2 Zm2 : mjZt} {p2 : Nat} (h : lnR X n b rc rm Zc2 Zm2 p2) (hp : p ≤ p2) (e1 : eqRc b Zc Zc2) (e2 : eqRd Zm Zm2) : lnR X n b rc rm Zc Zm p := by
  rcases h with ⟨Z1, M1, S1, m1, p1, t1, w1, a1, a2, a3, a4, a5, a6⟩ | ⟨Z1, M1, a1, a2, a3, a4, a5⟩
  · exact Or.inl ⟨Z1, M1, S1, m1, p1, t1, w1, a1, a2, a3, by omega, eqRc_tr e1 a5, eqRd_tr e2 a6⟩
  · exact Or.inr ⟨Z1, M1, a1, a2, a3, eqRc_tr e1 a4, eqRd_tr e2 a5⟩
theorem p_runs (h : jR X n b Zc Zm S m p t w) (hn : n ≤ 700) (hX : ∀ k, X k ≤ 255) : lnR X n b (f123_readRuns b Zc) (f228_runsLine Zm) Zc Zm p := by
  have h0 := h
  obtain ⟨hg, h2, h3, h4, hf⟩ := h0
  have hb := rC_b h2
  have ho := h4.1
  have hon := h4.2.2.1
  have o1 := ok_sc ho
  have hpp := (jE_bd (X := X) hg.2.2.2.2)
  obtain ⟨Zc1, Zm1, a1, a2, a3, a4, a5⟩ := nxt hg hn hX
  have jr1 := jR_go h a3 (eqTk_2 a4) a5 (by omega)
  have c1 := jr1.2.1
  have m1 := jr1.2.2.1
  have hp1 := jE_bd (X := X) a3.2.2.2.2
  have e121' := e121 a3.1 hX c1.1 ho hon (i3 (-1))
  have bT := fI_bd (fun k => decide ((S 11 k).toNat = jN X n (jE X n p))) (sT S) 0
  have cl : f123_readRuns b Zc = mjBp (some (bI (isNm X n (jE X n p)))) fun v105 => if mjCmp .eq v105 0 = true then f123_readRuns_j32 b (-1) Zc1 else if mjIs b 211 2 = true then mjBp (f25_teamOfName b (Zc1.2.1 183 6) Zc1) fun v153 => f123_readRuns_j32 b v153 Zc1 else none := by
    unfold f123_readRuns
    rw [a1, mjBd_some, e119 a3.1 hX]
  have md : f228_runsLine Zm = mjBd (f226_teamHere Zm1) fun v105 Z106 => mjBp (f207_isGood Z106) fun v108 => if mjCmp .eq v108 0 = true then f228_runsLine_j36 v105 Z106 else if mjIn v105 6 = true then (if mjCmp .ne (Z106.1 220 (mjIx v105)) (Z106.1 218 0) = true then f228_runsLine_j36 v105 Z106 else mjBd (f206_wrong 5 Z106) fun _ Z147 => f228_runsLine_j36 v105 Z147) else none := by
    unfold f228_runsLine
    rw [a2, mjBd_some]
  have j36 : ∀ {Z2 : mjZt} {k : Int} {q : Nat} (v : Int32), fltM Z2 k q → 1 ≤ k ∧ k ≤ 7 → f228_runsLine_j36 v Z2 = some ((), Z2) := fun v g1 g2 => by
    unfold f228_runsLine_j36
    rw [bdM g1 g2, mjBp_some, if_pos (by decide), m228f g1 g2]
  rw [mjBp_some] at cl
  rcases tm_here a3 hX m1 ho hon with ⟨u, u1, u2, u3, u4⟩ | ⟨j, hj, Zc2, Zm2, v, d1, d2, ⟨k, q, k1, k2, k3, k4⟩, d4, d5⟩
  rotate_left
  · right
    refine ⟨Zc2, Zm2, ?_, ?_, ⟨k, q, k1, k2, k3, k4⟩, eqRc_tr (eqTk_R a4) (eqT3_R d4), eqRd_tr (eqGo_R a5) (eqGw_R d5)⟩
    · rw [cl]
      rcases hj with ⟨rfl, g⟩ | ⟨rfl, g, g2⟩
      · rw [g, if_pos (by decide)]
        unfold f123_readRuns_j32 f123_readRuns_j59
        rw [if_pos (by decide), show (-1 : Int32) = i3 (-1) from rfl, e121', g, if_neg (by decide), d1, mjBd_some, mjBd_some, if_pos (by decide)]
      · obtain ⟨g3, g4⟩ := c_name a3.1 g
        rw [g, if_neg (by decide), if_pos (is_b hb), g4, e25 c1.1 ho hon (jN_nm (n := n) hX).1, mjBp_some, g2]
        unfold f123_readRuns_j32 f123_readRuns_j59
        rw [if_pos (by decide), show (-1 : Int32) = i3 (-1) from rfl, e121', g, if_pos rfl, if_pos g2, d1, mjBd_some, mjBd_some, if_pos (by decide)]
    · rw [md, d2, mjBd_some, bdM k4 ⟨k1, k2⟩, mjBp_some, if_pos (by decide), j36 v k4 ⟨k1, k2⟩]
  obtain ⟨g3, g4⟩ := c_name a3.1 u2
  rw [u2, if_neg (by decide), if_pos (is_b hb), g4, e25 c1.1 ho hon (jN_nm (n := n) hX).1, mjBp_some, u3] at cl
  have td := b_td c1.1 u1
  have mtd : Zm1.1 220 u = i3 (sTd S u) := by
    have := (ok_tm ho u1).2.2.2
    rw [m1.2.2.1 u]; unfold sTd; rw [Int.toNat_of_nonneg this]
  have m0 : Zm1.1 218 0 = i3 (sLg S) := by rw [m1.1 0, ok_lg ho]
  have tdb := (ok_tm ho u1).2.2.1
  rw [u4, mjBd_some, gdM a3.2.2.2.1, mjBp_some, if_neg (by decide), if_pos (in_p (by omega)), ix_nat (by omega), mtd, m0] at md
  unfold f123_readRuns_j32 at cl
  rw [show (-1 : Int32) = i3 (-1) from rfl, if_neg (by rw [c_eq (by omega)]; omega), if_pos (is_b hb), e8 c1.1 ho u1, mjBp_some, if_pos (is_tm hb u (by omega)), td, b_tr0 c1.1, ok_lg ho] at cl
  by_cases full : sTd S u < sLg S
  rotate_left
  · right
    obtain ⟨Zc2, Zm2, d1, d2, d3, d4, d5, k, q, k1, k2, k3⟩ := flt a3 (k := 5) (by omega)
    refine ⟨Zc2, Zm2, ?_, ?_, d3, eqRc_tr (eqTk_R a4) (eqT3_R d4), eqRd_tr (eqGo_R a5) (eqGw_R d5)⟩
    · rw [cl, if_neg (by rw [c_lt (by omega)]; omega), show (5 : Int32) = i3 5 from rfl, d1, mjBd_some, if_pos (Or.inl rfl)]
    · rw [md, if_neg (by rw [c_ne (by omega)]; omega), show (5 : Int32) = i3 5 from rfl, d2, mjBd_some, j36 _ k3 ⟨k1, k2⟩]
  obtain ⟨Zc2, Zm2, b1, b2, b3, b4, b5⟩ := nxt a3 hn hX
  have jr2 := jR_go jr1 b3 (eqTk_2 b4) b5 (by omega)
  rw [if_pos (by rw [c_lt (by omega)]; omega)] at cl
  unfold f123_readRuns_j59 at cl
  rw [show (-1 : Int32) = i3 (-1) from rfl, e121', u2, if_pos rfl, u3, if_neg (by omega), if_pos (by rw [c_ne (by omega)]; omega), b1, mjBd_some, mjBd_some, if_neg (by rw [c_eq (by omega)]; omega), show (20 : Int32) = i3 20 from rfl, show (999 : Int32) = i3 999 from rfl] at cl
  rw [if_pos (by rw [c_ne (by omega)]; omega)] at md
  unfold f228_runsLine_j36 at md
  rw [gdM a3.2.2.2.1, mjBp_some, if_neg (by decide), b2, mjBd_some] at md
  unfold f228_runsLine_j47 at md
  rw [show (20 : Int32) = i3 20 from rfl, show (999 : Int32) = i3 999 from rfl] at md
  have FRc := eqRc_tr (b := b) (eqTk_R a4) (eqTk_R b4)
  have FRd := eqRd_tr (eqGo_R a5) (eqGo_R b5)
  have hp2 := jE_bd (X := X) b3.2.2.2.2
  rcases p_num b3 hn hX (lo := 20) (hi := 999) (by omega) with ⟨Zc3, Zm3, v, d1, d2, d3, d4, d5, d6, d7, d8, d9, _⟩ | ⟨Zc3, Zm3, v, d1, d2, ⟨k, q, k1, k2, k3, k4⟩, d4, d5⟩
  rotate_left
  · right
    refine ⟨Zc3, Zm3, ?_, ?_, ⟨k, q, k1, k2, k3, k4⟩, eqRc_tr FRc (eqT3_R d4), eqRd_tr FRd (eqGw_R d5)⟩
    · rw [cl, d1, mjBd_some, if_neg (by decide)]
    · rw [md, d2, mjBd_some, m209f k4 ⟨k1, k2⟩, mjBp_some, if_pos (by decide)]
      unfold f228_runsLine_j72
      rw [if_neg (bdL k4 ⟨k1, k2⟩)]
  have jr3 := jR_go jr2 d6 d8 d9 (by omega)
  have FRc3 := eqRc_tr FRc (eqT2_R d8)
  have FRd3 := eqRd_tr FRd (eqGo_R d9)
  have k45 := kdS (X := X) (n := n) (p := jE X n (jE X n (jE X n p))) (c := 45) (by omega)
  have kb := kd_255 (n := n) (p := jE X n (jE X n (jE X n p))) hX
  have h183 : Zc3.1 183 3 = i3 (kd X n (jE X n (jE X n (jE X n p)))) := d6.1.2.2.1
  have m9 := m209 d6.2.1 hX d6.2.2.2.1 (c := 45) (by omega)
  rw [d1, mjBd_some, if_pos (by decide), d5, h183] at cl
  rw [d2, mjBd_some, show (45 : Int32) = i3 ((45 : Nat) : Int) from rfl, m9, mjBp_some] at md
  have hp3 := jE_bd (X := X) d6.2.2.2.2
  cases q : sgn X n (jE X n (jE X n (jE X n p))) 45 with
  | false =>
    have kn : ¬ kd X n (jE X n (jE X n (jE X n p))) = 45 := fun g => by rw [k45.mp g] at q; cases q
    rw [q, if_pos (by decide)] at md
    rw [show (45 : Int32) = i3 45 from rfl, if_pos (by rw [c_ne (by omega)]; omega)] at cl
    unfold f123_readRuns_j108 at cl
    rw [if_pos (by decide)] at cl
    rw [cl, md]
    exact lnR_go (rn_fin false jr3 hn hX u1 full (by omega)) (by omega) FRc3 FRd3
  | true =>
    have kn : kd X n (jE X n (jE X n (jE X n p))) = 45 := k45.mpr q
    obtain ⟨Zc4, Zm4, f1, f2, f3, f4, f5⟩ := nxt d6 hn hX
    have jr4 := jR_go jr3 f3 (eqTk_2 f4) f5 (by omega)
    rw [q, if_neg (by decide), f2, mjBd_some] at md
    rw [show (45 : Int32) = i3 45 from rfl, if_neg (by rw [c_ne (by omega)]; omega)] at cl
    unfold f123_readRuns_j108 at cl
    rw [if_neg (by decide), f1, mjBd_some] at cl
    rw [cl, md]
    exact lnR_go (rn_fin true jr4 hn hX u1 full (by omega)) (by omega) (eqRc_tr FRc3 (eqTk_R f4)) (eqRd_tr FRd3 (eqGo_R f5))
end RV
