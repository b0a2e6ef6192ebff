/-! LINES: rule -/
section RU4
variable {X : Nat → Nat} {n b : Nat} {Zc Zm : mjZt} {S : mjS} {m p : Nat} {t w : Bool}
theorem m25Rf {Z : mjZt} {k : Int} {q : Nat} (h : fltM Z k q) (hk : 1 ≤ k ∧ k ≤ 7) : f231_ruleLine_j25 Z = some ((), Z) := by
  unfold f231_ruleLine_j25
  exact if_neg (bdL h hk)
theorem p_rule (h : jR X n b Zc Zm S m p t w) (hn : n ≤ 700) (hX : ∀ k, X k ≤ 255) : lnR X n b (f125_readRule b Zc) (f231_ruleLine Zm) Zc Zm p := by
  have h0 := h
  obtain ⟨hg, h2, h3, h4, hf⟩ := h0
  have hb := rC_b h2
  have ho := h4.1
  have hon := h4.2.2.1
  have o1 := ok_sc ho
  have hpp := (jE_bd (X := X) hg.2.2.2.2)
  have sR23 : Zm.1 211 23 = i3 (sR S) := h3.2.2.2.2.2.2.2.2.2.2.1.2.2.1
  by_cases full : sR S = 8
  · right
    obtain ⟨Zc1, Zm1, a1, a2, a3, a4, a5, k, q2, k1, k2, k3⟩ := flt hg (k := 5) (by omega)
    refine ⟨Zc1, Zm1, ?_, ?_, a3, eqT3_R a4, eqGw_R a5⟩
    · unfold f125_readRule
      rw [if_pos (is_b hb), b_R h2.1, show (8 : Int32) = i3 8 from rfl, if_neg (by rw [c_lt (by omega)]; omega), show (5 : Int32) = i3 5 from rfl, a1, mjBd_some, if_pos (Or.inl rfl)]
    · unfold f231_ruleLine
      rw [sR23, show (8 : Int32) = i3 8 from rfl, if_neg (by rw [c_ne (by omega)]; omega), show (5 : Int32) = i3 5 from rfl, a2, mjBd_some]
      unfold f231_ruleLine_j14
      rw [bdM k3 ⟨k1, k2⟩, mjBp_some, if_pos (by decide), m25Rf k3 ⟨k1, k2⟩]
  obtain ⟨Zc1, Zm1, a1, a2, a3, a4, a5⟩ := nxt hg hn hX
  have jr1 := jR_go h a3 (eqTk_2 a4) a5 (by omega)
  have c1 := jr1.2.1
  have m1 := jr1.2.2.1
  have hp1 := jE_bd (X := X) a3.2.2.2.2
  have sR1 : Zm1.1 211 23 = i3 (sR S) := m1.2.2.2.2.2.2.2.2.2.2.1.2.2.1
  have cl : f125_readRule b Zc = (mjBp (f119_isName Zc1) fun v107 => if mjCmp .ne v107 0 = true then mjBp (f26_isNameTaken b (Zc1.2.1 183 6) Zc1) fun v111 => if mjCmp .eq v111 0 = true then mjBd (f68_advance Zc1) fun _ Z116 => mjBp (f51_indexIn 1000003 Z116) fun v118 => if mjCmp .ne v118 (-1) = true then mjBd (f68_advance Z116) fun _ Z123 => mjBd (f115_takeWord 1000004 0 Z123) fun v125 Z126 => if mjCmp .ne v125 0 = true then ruC b (Zc1.2.1 183 6) v118 Z126 else some (0, Z126) else mjBd (f114_fail 2 Z116) fun v158 Z159 => if v158 = 0 ∨ v158 = 1 then some (v158, Z159) else none else mjBd (f114_fail 3 Zc1) fun v162 Z163 => if v162 = 0 ∨ v162 = 1 then some (v162, Z163) else none else mjBd (f114_fail 2 Zc1) fun v166 Z167 => if v166 = 0 ∨ v166 = 1 then some (v166, Z167) else none) := by
    unfold f125_readRule
    rw [if_pos (is_b hb), b_R h2.1, if_pos (by rw [show (8 : Int32) = i3 8 from rfl, c_lt (by omega)]; omega), a1, mjBd_some]
    rfl
  have md : f231_ruleLine Zm = (mjBd (f225_freshName 228 (i3 (sR S)) Zm1) fun _ Z109 => mjBd (f229_kindHere 5 Z109) fun v111 Z112 => mjBp (f207_isGood Z112) fun v114 => if mjCmp .eq v114 0 = true then f231_ruleLine_j73 v111 Z112 else mjBp (f208_isWord 2003330414 Z112) fun v151 => if mjCmp .ne v151 0 = true then f231_ruleLine_j73 v111 Z112 else mjBd (f206_wrong 2 Z112) fun _ Z156 => f231_ruleLine_j73 v111 Z156) := by
    unfold f231_ruleLine
    rw [sR23, if_pos (by rw [show (8 : Int32) = i3 8 from rfl, c_ne (by omega)]; omega)]
    unfold f231_ruleLine_j14 f231_ruleLine_j25
    rw [gdM hg.2.2.2.1, mjBp_some, if_neg (by decide), a2, mjBd_some, if_pos (gdL a3.2.2.2.1), sR1]
  rw [e119 a3.1 hX, mjBp_some] at cl
  rcases p_name a3 hn hX m1 ho hon (o := 228) (k := sR S) (by omega) with ⟨i1, i2, i3', Zc2, Zm2, b1, b2, b3, b4, b5, b6⟩ | ⟨j, Zc2, Zm2, hj, b1, b2, b3, b4, b5⟩
  rotate_left
  · right
    obtain ⟨k, q2, k1, k2, k3, k4⟩ := b3
    obtain ⟨y, hy⟩ := m229f k4 ⟨k1, k2⟩ (N := 5) (by omega)
    refine ⟨Zc2, Zm2, ?_, ?_, ⟨k, q2, k1, k2, k3, k4⟩, eqRc_tr (eqTk_R a4) (eqT3_R b4), eqRd_tr (eqGo_R a5) (eqGw_R b5)⟩
    · rw [cl]
      rcases hj with ⟨rfl, g⟩ | ⟨rfl, g, g2⟩
      · rw [g, if_neg (by decide), show (2 : Int32) = i3 2 from rfl, b1, mjBd_some, if_pos (Or.inl rfl)]
      · obtain ⟨g3, g4⟩ := c_name a3.1 g
        rw [g, if_pos (by decide), g4, e26 c1.1 ho hon (jN_nm (n := n) hX).1, mjBp_some, decide_eq_true g2, if_neg (by decide), show (3 : Int32) = i3 3 from rfl, b1, mjBd_some, if_pos (Or.inl rfl)]
    · have hy' : f229_kindHere 5 Zm2 = some (y, Zm2) := hy
      rw [md, b2, mjBd_some, hy', mjBd_some, bdM k4 ⟨k1, k2⟩, mjBp_some, if_pos (by decide), m73f k4 ⟨k1, k2⟩]
  obtain ⟨g3, g4⟩ := c_name a3.1 i1
  have hW := (jN_nm (n := n) hX (p := jE X n p)).1
  rw [i1, if_pos (by decide), g4, e26 c1.1 ho hon hW, mjBp_some, decide_eq_false (by omega), if_pos (by decide), b1, mjBd_some] at cl
  rw [b2, mjBd_some] at md
  generalize jN X n (jE X n p) = W at *
  have hp2 := jE_bd (X := X) b3.2.2.2.2
  have c2 := rC_of ho c1 (eqT3_B hb (eqT2_3 (eqTk_2 b5)))
  have m2 : rM Zm2 (zuS S 12 (sR S) W) m := by
    obtain ⟨r1, ⟨s1, s2, s3, s4, s5, s6⟩, r3⟩ := rM_r m1
    refine rM_go (r_rM (rwR_12 r1) ⟨?_, ?_, ?_, ?_, ?_, ?_⟩ ?_) b6
    · unfold sT; rw [zuS_f (by omega)]; exact s1
    · unfold sA; rw [zuS_f (by omega)]; exact s2
    · unfold sR; rw [zuS_f (by omega)]; exact s3
    · rw [zuS_f (by omega)]; exact s4
    · rw [zuS_f (by omega)]; exact s5
    · exact s6
    · refine ⟨fun j hj => ?_, fun j hj => ?_⟩
      · rw [sl_obj _ _ _ _ (by omega)]; exact r3.1 j hj
      · rw [sl_obj _ _ _ _ (by omega)]; exact r3.2 j hj
  have FRc := eqRc_tr (b := b) (eqTk_R a4) (eqTk_R b5)
  have FRd := eqRd_tr (eqGo_R a5) (eqRd_tr (eqRd_sl (by omega)) (eqGo_R b6))
  have ix5 := ixK b3.1 hX (id := 1000003) (Or.inl rfl)
  rw [ix5, mjBp_some, show (-1 : Int32) = i3 (-1) from rfl] at cl
  rcases kind_here b3 hn hX m2 (N := 5) (by omega) (by omega) with ⟨kd, kd5, hk, Zc3, Zm3, d1, d2, d3, d4, d5, d6⟩ | ⟨hk, Zc3, Zm3, v, d1, d2, ⟨k, q, k1, k2, k3, k4⟩, d4, d5⟩
  rotate_left
  · right
    have d2' : f229_kindHere 5 Zm2 = some (v, Zm3) := d2
    refine ⟨Zc3, Zm3, ?_, ?_, ⟨k, q, k1, k2, k3, k4⟩, eqRc_tr FRc (eqT3_R d4), eqRd_tr FRd (eqGw_R d5)⟩
    · rw [cl, hk, if_neg (by decide), show (2 : Int32) = i3 2 from rfl, d1, mjBd_some, if_pos (Or.inl rfl)]
    · rw [md, d2', mjBd_some, bdM k4 ⟨k1, k2⟩, mjBp_some, if_pos (by decide), m73f k4 ⟨k1, k2⟩]
  have d2' : f229_kindHere 5 Zm2 = some (i3 kd, Zm3) := d2
  rw [hk, if_pos (by rw [c_ne (by omega)]; omega), d1, mjBd_some] at cl
  rw [d2', mjBd_some, gdM d3.2.2.2.1, mjBp_some, if_neg (by decide)] at md
  have hp3 := jE_bd (X := X) d3.2.2.2.2
  have c3 := rC_of ho c2 (eqT3_B hb (eqT2_3 (eqTk_2 d5)))
  have m3 := rM_go m2 d6
  have FRc3 := eqRc_tr FRc (eqTk_R d5)
  have FRd3 := eqRd_tr FRd (eqGo_R d6)
  rcases p_word d3 hn hX (id := 1000004) (N := 5) (j := 0) (w := 2003330414) (L := LJ) (ixJ d3.1 hX (Or.inr (Or.inl rfl))) (by omega) (by omega) (by decide) iJ.2.2.2.1 with ⟨Zc4, Zm4, f1, f2, f3, f4, f5, f6, f7⟩ | ⟨Zc4, Zm4, f1, f2, f3, ⟨k, q, k1, k2, k3, k4⟩, f5, f6⟩
  rotate_left
  · right
    have f1' : f115_takeWord 1000004 0 Zc3 = some (0, Zc4) := f1
    have f2' : f208_isWord 2003330414 Zm3 = some 0 := f2
    refine ⟨Zc4, Zm4, ?_, ?_, ⟨k, q, k1, k2, k3, k4⟩, eqRc_tr FRc3 (eqT3_R f5), eqRd_tr FRd3 (eqGw_R f6)⟩
    · rw [cl, f1', mjBd_some, if_neg (by decide)]
    · rw [md, f2', mjBp_some, if_neg (by decide), f3, mjBd_some, m73f k4 ⟨k1, k2⟩]
  have f1' : f115_takeWord 1000004 0 Zc3 = some (1, Zc4) := f1
  have f2' : f208_isWord 2003330414 Zm3 = some 1 := f2
  rw [f1', mjBd_some, if_pos (by decide)] at cl
  rw [f2', mjBp_some, if_pos (by decide)] at md
  unfold f231_ruleLine_j73 at md
  rw [gdM d3.2.2.2.1, mjBp_some, if_neg (by decide), f3, mjBd_some] at md
  rw [cl, md]
  have tkf : ∀ f, Zc4.1 182 f = Zc.1 182 f := fun f => by rw [(f6.2 182 (by omega)).1, (d5.2 182 (by omega)).1, (b5.2 182 (by omega)).1, (a4.2 182 (by omega)).1]
  have t24 : Zm4.1 211 24 = Zm.1 211 24 := by rw [f7.2.2 24 (by omega), d6.2.2 24 (by omega), b6.2.2 24 (by omega), sl_int, a5.2.2 24 (by omega)]
  exact lnR_go (ru_tail (p0 := p) hn hX f4 (rC_of ho c3 (eqT3_B hb (eqT2_3 (eqTk_2 f6)))) (okR_p h4 (by omega)) (by omega) (by omega) hW (rM_go m3 f7) ⟨by rw [tkf 2, tkf 6]; exact hf.1, by rw [tkf 3]; exact hf.2.1, by rw [t24]; exact hf.2.2⟩ (by omega)) (Nat.le_refl _) (eqRc_tr FRc3 (eqTk_R f6)) (eqRd_tr FRd3 (eqGo_R f7))
end RU4
