/-! LINES: act, whole -/
section AC3
variable {X : Nat → Nat} {n b : Nat} {Z Zc Zm : mjZt} {S : mjS} {m p : Nat} {t w : Bool}
/-- the model behind a fault in acts -/
theorem m94f {k : Int} {q : Nat} (h : fltM Z k q) (hk : 1 ≤ k ∧ k ≤ 7) (x y o : Int32) : f230_actLine_j94 x y o Z = some ((), Z) := by
  unfold f230_actLine_j94
  rw [m213f h hk, mjBd_some, m213f h hk, mjBd_some, if_neg (bdL h hk)]
theorem m47f {k : Int} {q : Nat} (h : fltM Z k q) (hk : 1 ≤ k ∧ k ≤ 7) (x y : Int32) : f230_actLine_j47 x y Z = some ((), Z) := by
  unfold f230_actLine_j47
  rw [bdM h hk, mjBp_some, if_pos (by decide), m94f h hk]
theorem m83f {k : Int} {q : Nat} (h : fltM Z k q) (hk : 1 ≤ k ∧ k ≤ 7) (x y o : Int32) : f230_actLine_j83 x y o Z = some ((), Z) := by
  unfold f230_actLine_j83
  rw [bdM h hk, mjBp_some, if_pos (by decide), m94f h hk]
theorem m226f {k : Int} {q : Nat} (h : fltM Z k q) (hk : 1 ≤ k ∧ k ≤ 7) (hm : rM Z S m) (ho : okS S) : ∃ v, f226_teamHere Z = some (v, Z) := by
  obtain ⟨v, hv⟩ := amT hm ho (Z.2.1 211 13)
  refine ⟨v, ?_⟩
  unfold f226_teamHere f226_teamHere_j27
  rw [bdM h hk, mjBp_some, if_pos (by decide), hv, mjBp_some, mjBp_some, if_pos (by decide)]
theorem m229f {k : Int} {q : Nat} (g1 : fltM Z k q) (g2 : 1 ≤ k ∧ k ≤ 7) {N : Nat} (hN : N ≤ 5) : ∃ y, f229_kindHere (i3 N) Z = some (y, Z) := by
  unfold f229_kindHere f229_kindHere_j24
  split
  · exact ⟨_, by rw [bdM g1 g2, mjBp_some, if_pos (by decide), if_pos (by decide)]⟩
  · obtain ⟨y, hy⟩ := amK (Z := Z) (N := N) hN (Z.2.1 211 13)
    exact ⟨y, by rw [hy, mjBp_some, bdM g1 g2, mjBp_some, if_pos (by decide), if_pos (by decide)]⟩
theorem m25f {k : Int} {q : Nat} (g1 : fltM Z k q) (g2 : 1 ≤ k ∧ k ≤ 7) (g3 : rM Z S m) (ho : okS S) : f230_actLine_j25 Z = some ((), Z) := by
  obtain ⟨v, hv⟩ := m226f g1 g2 g3 ho
  obtain ⟨y, hy⟩ := m229f g1 g2 (N := 4) (by omega)
  unfold f230_actLine_j25
  rw [show (4 : Int32) = i3 ((4 : Nat) : Int) from rfl, hy, mjBd_some, hv, mjBd_some, bdM g1 g2, mjBp_some, if_pos (by decide), m47f g1 g2]
/-- numbers behind the names -/
theorem ac_fin {Zc4 Zm4 : mjZt} {p4 kd tm : Nat} {ot : Int} (h : jR X n b Zc4 Zm4 S m p4 t w) (hn : n ≤ 700) (hX : ∀ k, X k ≤ 255) (hA : sA S < 12) (k4 : kd < 4) (k5 : tm < sT S) (k6 : (kd = 3 ∧ 0 ≤ ot ∧ ot.toNat < sT S ∧ ot ≠ tm) ∨ (kd ≠ 3 ∧ ot = -1)) : lnR X n b (f124_readAct_j84 b (i3 kd) (i3 tm) (i3 ot) Zc4) (f230_actLine_j94 (i3 kd) (i3 tm) (i3 ot) Zm4) Zc4 Zm4 p4 := by
  have h0 := h
  obtain ⟨hg, h2, h3, h4, hf⟩ := h0
  have hb := rC_b h2
  have ho := h4.1
  have o1 := ok_sc ho
  unfold f124_readAct_j84 f230_actLine_j94
  rw [hg.2.2.1, show (9999 : Int32) = i3 9999 from rfl, show (99 : Int32) = i3 99 from rfl]
  have hp4 := jE_bd (X := X) hg.2.2.2.2
  rcases p_num hg hn hX (lo := 0) (hi := 9999) (by omega) with ⟨Zc5, Zm5, v, b1, b2, b3, b4, b5, b6, b7, b8, b9, _⟩ | ⟨Zc5, Zm5, v, b1, b2, ⟨k, q, k1, k2, k3, k4'⟩, b4, b5⟩
  rotate_left
  · right
    refine ⟨Zc5, Zm5, ?_, ?_, ⟨k, q, k1, k2, k3, k4'⟩, eqT3_R b4, eqGw_R b5⟩
    · rw [if_neg (by decide), show (0 : Int32) = i3 0 from rfl, b1, mjBd_some, if_neg (by decide)] <;> rfl
    · rw [show (0 : Int32) = i3 0 from rfl, b2, mjBd_some, m213f k4' ⟨k1, k2⟩, mjBd_some]
      have := bdL k4' ⟨k1, k2⟩
      rw [show (0 : Int32) = i3 0 from rfl] at this
      rw [if_neg this]
  have j5 := jR_go h b6 b8 b9 (by omega)
  have hp5 := jE_bd (X := X) b6.2.2.2.2
  rcases p_num b6 hn hX (lo := 0) (hi := 99) (by omega) with ⟨Zc6, Zm6, v2, d1, d2, d3, d4, d5, d6, d7, d8, d9, _⟩ | ⟨Zc6, Zm6, v2, d1, d2, ⟨k, q, k1, k2, k3, k4'⟩, d4, d5⟩
  rotate_left
  · right
    refine ⟨Zc6, Zm6, ?_, ?_, ⟨k, q, k1, k2, k3, k4'⟩, eqRc_tr (eqT2_R b8) (eqT3_R d4), eqRd_tr (eqGo_R b9) (eqGw_R d5)⟩
    · rw [if_neg (by decide), show (0 : Int32) = i3 0 from rfl, b1, mjBd_some, if_pos (by decide), d1, mjBd_some, if_neg (by decide)] <;> rfl
    · rw [show (0 : Int32) = i3 0 from rfl, b2, mjBd_some, d2, mjBd_some]
      have := bdL k4' ⟨k1, k2⟩
      rw [show (0 : Int32) = i3 0 from rfl] at this
      rw [if_neg this]
  left
  have j6 := jR_go j5 d6 d8 d9 (by omega)
  obtain ⟨S2, hS2⟩ := ac_end (kd := kd) (tm := tm) (ot := ot) (te := v) (sz := v2) d6 j6.2.1 j6.2.2.1 j6.2.2.2.1 j6.2.2.2.2 hA k4 k5 k6 (by omega) (by omega)
  have aB : acB b (sA S) = b + 48 + sA S := rfl
  have c6 : Zc6.1 b 6 = i3 (sA S) := b_A j6.2.1.1
  have m6 : Zm6.1 211 22 = i3 (sA S) := j6.2.2.1.2.2.2.2.2.2.2.2.2.2.1.2.1
  refine ⟨_, _, S2, m, _, t, w, ?_, ?_, hS2, by omega, eqRc_tr (eqT2_R b8) (eqRc_tr (eqT2_R d8) (eqRc_tr (eqRc_si (by unfold rdw; omega)) (eqRc_tr (eqRc_si (by unfold rdw; omega)) (eqRc_tr (eqRc_si (by unfold rdw; omega)) (eqRc_tr (eqRc_si (by unfold rdw; omega)) (eqRc_tr (eqRc_si (by unfold rdw; omega)) (eqRc_si (by unfold rdw; omega)))))))), eqRd_tr (eqGo_R b9) (eqRd_tr (eqGo_R d9) (eqRd_tr (eqRd_si (by omega)) (eqRd_tr (eqRd_si (by omega)) (eqRd_tr (eqRd_si (by omega)) (eqRd_tr (eqRd_si (by omega)) (eqRd_tr (eqRd_si (by omega)) (eqRd_tr (eqRd_si (by omega)) (eqRd_si (by omega))))))))) ⟩
  · rw [if_neg (by decide), show (0 : Int32) = i3 0 from rfl, b1, mjBd_some, if_pos (by decide), d1, mjBd_some, if_pos (by decide), if_pos (is_b hb), d5, b5, e28 hb (by omega) c6, mjBd_some]
  · rw [show (0 : Int32) = i3 0 from rfl, b2, mjBd_some, d2, mjBd_some]
    have gl := gdL d6.2.2.2.1
    rw [show (0 : Int32) = i3 0 from rfl] at gl
    have n1 : ∀ (Y : mjZt) (a k : Nat) (v : Int32), a ≠ 211 → Y.1 211 22 = i3 (sA S) → (zSi Y a k v).1 211 22 = i3 (sA S) := fun Y a k v g1 g2 => by rw [si_obj _ _ _ _ (by omega)]; exact g2
    rw [if_pos gl, m6, if_pos (in_p (by omega)), ix_nat (by omega), let_eq]
    rw [n1 _ 222 _ _ (by omega) m6, if_pos (in_p (by omega)), ix_nat (by omega), let_eq]
    rw [n1 _ 223 _ _ (by omega) (n1 _ 222 _ _ (by omega) m6), if_pos (in_p (by omega)), ix_nat (by omega), let_eq]
    rw [n1 _ 224 _ _ (by omega) (n1 _ 223 _ _ (by omega) (n1 _ 222 _ _ (by omega) m6)), show (72 : Int32) = i3 72 from rfl, show (3 : Int32) = i3 3 from rfl, i3_mul, i3_add, show (72 : Int) + 3 * (sA S : Int) = ((72 + 3 * sA S : Nat) : Int) by omega, if_pos (in_p (by omega)), ix_nat (by omega), let_eq]
    rw [n1 _ 221 _ _ (by omega) (n1 _ 224 _ _ (by omega) (n1 _ 223 _ _ (by omega) (n1 _ 222 _ _ (by omega) m6))), i3_mul, i3_add, show (72 : Int) + 3 * (sA S : Int) = ((72 + 3 * sA S : Nat) : Int) by omega, i3_s, if_pos (in_p (by omega)), ix_nat (by omega), let_eq]
    rw [n1 _ 221 _ _ (by omega) (n1 _ 221 _ _ (by omega) (n1 _ 224 _ _ (by omega) (n1 _ 223 _ _ (by omega) (n1 _ 222 _ _ (by omega) m6)))), i3_mul, i3_add, show (72 : Int) + 3 * (sA S : Int) = ((72 + 3 * sA S : Nat) : Int) by omega, show (2 : Int32) = i3 2 from rfl, i3_add, show ((72 + 3 * sA S : Nat) : Int) + 2 = ((72 + 3 * sA S + 2 : Nat) : Int) by omega, if_pos (in_p (by omega)), ix_nat (by omega), let_eq]
    rw [n1 _ 221 _ _ (by omega) (n1 _ 221 _ _ (by omega) (n1 _ 221 _ _ (by omega) (n1 _ 224 _ _ (by omega) (n1 _ 223 _ _ (by omega) (n1 _ 222 _ _ (by omega) m6))))), i3_s, let_eq]
theorem p_act (h : jR X n b Zc Zm S m p t w) (hn : n ≤ 700) (hX : ∀ k, X k ≤ 255) : lnR X n b (f124_readAct b Zc) (f230_actLine Zm) Zc Zm p := by
  have h0 := h
  obtain ⟨hg, h2, h3, h4, hf⟩ := h0
  have hb := rC_b h2
  have ho := h4.1
  have hon := h4.2.2.1
  have o1 := ok_sc ho
  have hpp := (jE_bd (X := X) hg.2.2.2.2)
  have sA22 : Zm.1 211 22 = i3 (sA S) := h3.2.2.2.2.2.2.2.2.2.2.1.2.1
  by_cases full : sA S = 12
  · right
    obtain ⟨Zc1, Zm1, a1, a2, a3, a4, a5, k, q2, k1, k2, k3⟩ := flt hg (k := 5) (by omega)
    refine ⟨Zc1, Zm1, ?_, ?_, a3, eqT3_R a4, eqGw_R a5⟩
    · unfold f124_readAct
      rw [if_pos (is_b hb), b_A h2.1, show (12 : Int32) = i3 12 from rfl, if_neg (by rw [c_lt (by omega)]; omega), show (5 : Int32) = i3 5 from rfl, a1, mjBd_some, if_pos (Or.inl rfl)]
    · unfold f230_actLine
      rw [sA22, show (12 : Int32) = i3 12 from rfl, if_neg (by rw [c_ne (by omega)]; omega), show (5 : Int32) = i3 5 from rfl, a2, mjBd_some]
      unfold f230_actLine_j14
      rw [bdM k3 ⟨k1, k2⟩, mjBp_some, if_pos (by decide), m25f k3 ⟨k1, k2⟩ (rM_gw h3 a5) ho]
  obtain ⟨Zc1, Zm1, a1, a2, a3, a4, a5⟩ := nxt hg hn hX
  have jr1 := jR_go h a3 (eqTk_2 a4) a5 (by omega)
  have c1 := jr1.2.1
  have m1 := jr1.2.2.1
  have hp1 := jE_bd (X := X) a3.2.2.2.2
  have ix5 := ixK a3.1 hX (id := 1000003) (Or.inl rfl)
  have b5 := ixT_bd (X := X) (n := n) (p := jE X n p) (L := LK) (N := 5)
  have i45 : ixT X n (jE X n p) LK 4 = if ixT X n (jE X n p) LK 5 = 4 then -1 else ixT X n (jE X n p) LK 5 := by
    unfold ixT
    split
    · exact gK_4 _
    · rw [if_neg (by decide)]
  have cl : f124_readAct b Zc = if mjCmp .eq (i3 (ixT X n (jE X n p) LK 5)) (i3 (-1)) = true then mjBd (f114_fail (i3 2) Zc1) fun v111 Z112 => if v111 = 0 ∨ v111 = 1 then some (v111, Z112) else none else if mjCmp .ne (i3 (ixT X n (jE X n p) LK 5)) (i3 4) = true then mjBd (f68_advance Zc1) fun _ Z117 => mjBd (f121_takeTeam b (i3 (-1)) Z117) fun v119 Z120 => if mjCmp .ne v119 (i3 (-1)) = true then (if mjCmp .ne (i3 (ixT X n (jE X n p) LK 5)) (i3 3) = true then f124_readAct_j84 b (i3 (ixT X n (jE X n p) LK 5)) v119 (i3 (-1)) Z120 else mjBd (f121_takeTeam b v119 Z120) fun v137 Z138 => f124_readAct_j84 b (i3 (ixT X n (jE X n p) LK 5)) v119 v137 Z138) else some (0, Z120) else mjBd (f114_fail (i3 2) Zc1) fun v140 Z141 => if v140 = 0 ∨ v140 = 1 then some (v140, Z141) else none := by
    unfold f124_readAct
    rw [if_pos (is_b hb), b_A h2.1, if_pos (by rw [show (12 : Int32) = i3 12 from rfl, c_lt (by omega)]; omega), a1, mjBd_some, ix5, mjBp_some]
    rfl
  have md : f230_actLine Zm = mjBd (f229_kindHere (i3 ((4 : Nat) : Int)) Zm1) fun v107 Z108 => mjBd (f226_teamHere Z108) fun v110 Z111 => mjBp (f207_isGood Z111) fun v113 => if mjCmp .eq v113 0 = true then f230_actLine_j47 v107 v110 Z111 else mjBd (f205_goOn Z111) fun _ Z161 => f230_actLine_j47 v107 v110 Z161 := by
    unfold f230_actLine
    rw [sA22, if_pos (by rw [show (12 : Int32) = i3 12 from rfl, c_ne (by omega)]; omega)]
    unfold f230_actLine_j14
    rw [gdM hg.2.2.2.1, mjBp_some, if_neg (by decide), a2, mjBd_some]
    rfl
  rcases kind_here a3 hn hX m1 (N := 4) (by omega) (by omega) with ⟨kd, kd4, hk, Zc2, Zm2, b1, b2, b3, b4, b5', b6⟩ | ⟨hk, Zc2, Zm2, v, b1, b2, ⟨k, q, k1, k2, k3, k4⟩, b4, b5'⟩
  rotate_left
  · right
    refine ⟨Zc2, Zm2, ?_, ?_, ⟨k, q, k1, k2, k3, k4⟩, eqRc_tr (eqTk_R a4) (eqT3_R b4), eqRd_tr (eqGo_R a5) (eqGw_R b5')⟩
    · rw [cl]
      rw [i45] at hk
      by_cases g : ixT X n (jE X n p) LK 5 = 4
      · rw [g, if_neg (by decide), if_neg (by decide), b1, mjBd_some, if_pos (Or.inl rfl)]
      · rw [if_neg g] at hk
        rw [hk, if_pos (by decide), b1, mjBd_some, if_pos (Or.inl rfl)]
    · obtain ⟨v2, hv2⟩ := m226f k4 ⟨k1, k2⟩ (rM_gw m1 b5') ho
      rw [md, b2, mjBd_some, hv2, mjBd_some, bdM k4 ⟨k1, k2⟩, mjBp_some, if_pos (by decide), m47f k4 ⟨k1, k2⟩]
  have hk5 : ixT X n (jE X n p) LK 5 = kd := by
    rw [i45] at hk
    by_cases g : ixT X n (jE X n p) LK 5 = 4
    · rw [if_pos g] at hk; omega
    · rw [if_neg g] at hk; exact hk
  have jr2 := jR_go jr1 b3 (eqTk_2 b5') b6 (by omega)
  have c2 := jr2.2.1
  have m2 := jr2.2.2.1
  rw [hk5, if_neg (by rw [c_eq (by omega)]; omega), if_pos (by rw [c_ne (by omega)]; omega), b1, mjBd_some, e121 b3.1 hX c2.1 ho hon] at cl
  rw [b2, mjBd_some] at md
  have FRc := eqRc_tr (b := b) (eqTk_R a4) (eqTk_R b5')
  have FRd := eqRd_tr (eqGo_R a5) (eqGo_R b6)
  have hp2 := jE_bd (X := X) b3.2.2.2.2
  rcases tm_here b3 hX m2 ho hon with ⟨u, u1, u2, u3, u4⟩ | ⟨j, hj, Zc3, Zm3, v, d1, d2, ⟨k, q, k1, k2, k3, k4⟩, d4, d5⟩
  rotate_left
  · right
    refine ⟨Zc3, Zm3, ?_, ?_, ⟨k, q, k1, k2, k3, k4⟩, eqRc_tr FRc (eqT3_R d4), eqRd_tr FRd (eqGw_R d5)⟩
    · rw [cl]
      rcases hj with ⟨rfl, g⟩ | ⟨rfl, g, g2⟩
      · rw [g, if_neg (by decide), d1, mjBd_some, mjBd_some, if_neg (by decide)]
      · rw [g, if_pos rfl, if_pos g2, d1, mjBd_some, mjBd_some, if_neg (by decide)]
    · rw [md, d2, mjBd_some, bdM k4 ⟨k1, k2⟩, mjBp_some, if_pos (by decide), m47f k4 ⟨k1, k2⟩]
  obtain ⟨Zc3, Zm3, d1, d2, d3, d4, d5⟩ := nxt b3 hn hX
  have jr3 := jR_go jr2 d3 (eqTk_2 d4) d5 (by omega)
  have c3 := jr3.2.1
  have m3 := jr3.2.2.1
  rw [u2, if_pos rfl, u3, if_neg (by omega), if_pos (by rw [c_ne (by omega)]; omega), d1, mjBd_some, mjBd_some, if_pos (by rw [c_ne (by omega)]; omega)] at cl
  rw [u4, mjBd_some, gdM b3.2.2.2.1, mjBp_some, if_neg (by decide), d2, mjBd_some] at md
  unfold f230_actLine_j47 at md
  rw [gdM d3.2.2.2.1, mjBp_some, if_neg (by decide), show (3 : Int32) = i3 3 from rfl, show (-1 : Int32) = i3 (-1) from rfl] at md
  have FRc3 := eqRc_tr FRc (eqTk_R d4)
  have FRd3 := eqRd_tr FRd (eqGo_R d5)
  by_cases k3 : kd = 3
  rotate_left
  · rw [if_pos (by rw [c_ne (by omega)]; omega)] at cl md
    rw [cl, md]
    exact lnR_go (ac_fin jr3 hn hX (by omega) kd4 u1 (Or.inr ⟨k3, rfl⟩)) (by omega) FRc3 FRd3
  rw [if_neg (by rw [c_ne (by omega)]; omega), e121 d3.1 hX c3.1 ho hon] at cl
  rw [if_neg (by rw [c_ne (by omega)]; omega)] at md
  have hp3 := jE_bd (X := X) d3.2.2.2.2
  have j84f : ∀ {Z2 : mjZt} {k : Int} {q : Nat} (x y o : Int32), fltC Z2 k q → 1 ≤ k ∧ k ≤ 7 → f124_readAct_j84 b x y o Z2 = some (0, Z2) := fun x y o g1 g2 => by
    unfold f124_readAct_j84
    rw [g1.1, show (0 : Int32) = i3 0 from rfl, if_pos (by rw [c_ne (by omega)]; omega)] <;> rfl
  rcases tm_here d3 hX m3 ho hon with ⟨v, v1, v2, v3, v4⟩ | ⟨j, hj, Zc4, Zm4, v, f1, f2, ⟨k, q, k1, k2, k3', k4⟩, f4, f5⟩
  rotate_left
  · right
    refine ⟨Zc4, Zm4, ?_, ?_, ⟨k, q, k1, k2, k3', k4⟩, eqRc_tr FRc3 (eqT3_R f4), eqRd_tr FRd3 (eqGw_R f5)⟩
    · rw [cl]
      rcases hj with ⟨rfl, g⟩ | ⟨rfl, g, g2⟩
      · rw [g, if_neg (by decide), f1, mjBd_some, mjBd_some, j84f _ _ _ k3' ⟨k1, k2⟩]
      · rw [g, if_pos rfl, if_pos g2, f1, mjBd_some, mjBd_some, j84f _ _ _ k3' ⟨k1, k2⟩]
    · rw [md, f2, mjBd_some, bdM k4 ⟨k1, k2⟩, mjBp_some, if_pos (by decide), m83f k4 ⟨k1, k2⟩]
  rw [v2, if_pos rfl, v3, if_neg (by omega)] at cl
  rw [v4, mjBd_some, gdM d3.2.2.2.1, mjBp_some, if_neg (by decide)] at md
  by_cases same : v = u
  · right
    obtain ⟨Zc4, Zm4, f1, f2, f3, f4, f5, k, q, k1, k2, k3'⟩ := flt d3 (k := 3) (by omega)
    have f3' := f3
    obtain ⟨k', q', g1, g2, g3, g4⟩ := f3'
    refine ⟨Zc4, Zm4, ?_, ?_, f3, eqRc_tr FRc3 (eqT3_R f4), eqRd_tr FRd3 (eqGw_R f5)⟩
    · rw [cl, if_neg (by rw [c_ne (by omega)]; omega), f1, mjBd_some, mjBd_some, j84f _ _ _ g3 ⟨g1, g2⟩]
    · rw [md, if_neg (by rw [c_ne (by omega)]; omega), f2, mjBd_some, m83f k3' ⟨k1, k2⟩]
  · obtain ⟨Zc4, Zm4, f1, f2, f3, f4, f5⟩ := nxt d3 hn hX
    have jr4 := jR_go jr3 f3 (eqTk_2 f4) f5 (by omega)
    rw [if_pos (by rw [c_ne (by omega)]; omega), f1, mjBd_some, mjBd_some] at cl
    rw [if_pos (by rw [c_ne (by omega)]; omega)] at md
    unfold f230_actLine_j83 at md
    rw [gdM d3.2.2.2.1, mjBp_some, if_neg (by decide), f2, mjBd_some] at md
    rw [cl, md]
    exact lnR_go (ac_fin jr4 hn hX (by omega) kd4 u1 (Or.inl ⟨k3, by omega, by rw [Int.toNat_natCast]; exact v1, by omega⟩)) (by omega) (eqRc_tr FRc3 (eqTk_R f4)) (eqRd_tr FRd3 (eqGo_R f5))
end AC3
