/-! LINES: a rule's conditions -/
section RU3
variable {X : Nat → Nat} {n b : Nat} {Z Z2 Zc Zm : mjZt} {S S2 : mjS} {m p W kd wr : Nat} {t w : Bool}
def ruC (b : Nat) (nm : Int64) (kx : Int32) (Z : mjZt) : Option (Int32 × mjZt) :=
  mjBp (f76_condition (Z.1 b 8) 0 Z) fun v129 => mjBd (f69_read (b + 1) v129 Z) fun v132 Z133 => if mjCmp .ne v132 0 = true then f125_readRule_j190 b nm kx v132 Z133 else mjBp (f51_indexIn 1000004 Z133) fun v145 => if mjCmp .ne v145 1 = true then f125_readRule_j190 b nm kx v132 Z133 else mjBd (f68_advance Z133) fun _ Z150 => mjBp (f76_condition (Z150.1 b 8) 1 Z150) fun v152 => mjBd (f69_read (b + 1) v152 Z150) fun v155 Z156 => f125_readRule_j190 b nm kx v155 Z156
def ruF (x : Int32) (Z126 : mjZt) : Option (Unit × mjZt) :=
    if mjIn ((4 * (Z126.1 211 23)) + 1) 32 = true then
    mjLet (zSi Z126 226 (mjIx ((4 * (Z126.1 211 23)) + 1)) (Z126.1 211 17)) fun Z128 =>
    if mjIn ((4 * (Z128.1 211 23)) + 2) 32 = true then
    mjLet (zSi Z128 226 (mjIx ((4 * (Z128.1 211 23)) + 2)) (Z128.1 211 17)) fun Z130 =>
    mjBp (f208_isWord 111567739122533 Z130) fun v132 =>
    if mjCmp .eq v132 0 = true then
      f231_ruleLine_j163 x Z130
    else
      mjBd (f205_goOn Z130) fun _ Z143 =>
      mjBd (f224_test Z143) fun _ Z146 =>
      f231_ruleLine_j163 x Z146
    else none
    else none
theorem ruF_eq {r m1 : Nat} (x : Int32) (h23 : Z.1 211 23 = i3 r) (hr : r < 8) (h17 : Z.1 211 17 = i3 m1) : ruF x Z = mjBp (f208_isWord 111567739122533 (zSi (zSi Z 226 (4 * r + 1) (i3 m1)) 226 (4 * r + 2) (i3 m1))) fun v132 =>
    if mjCmp .eq v132 0 = true then
      f231_ruleLine_j163 x (zSi (zSi Z 226 (4 * r + 1) (i3 m1)) 226 (4 * r + 2) (i3 m1))
    else
      mjBd (f205_goOn (zSi (zSi Z 226 (4 * r + 1) (i3 m1)) 226 (4 * r + 2) (i3 m1))) fun _ Z143 =>
      mjBd (f224_test Z143) fun _ Z146 =>
      f231_ruleLine_j163 x Z146 := by
  unfold ruF
  have e17 : (zSi Z 226 (4 * r + 1) (i3 m1)).1 211 = Z.1 211 := si_obj _ _ _ _ (by omega)
  rw [h23, h17, show (4 : Int32) = i3 4 from rfl, show (1 : Int32) = i3 1 from rfl, show (2 : Int32) = i3 2 from rfl, i3_mul, i3_add, show (4 : Int) * (r : Int) + 1 = ((4 * r + 1 : Nat) : Int) by omega, if_pos (in_p (by omega)), ix_nat (by omega), let_eq, e17, h23, h17, i3_mul, i3_add, show (4 : Int) * (r : Int) + 2 = ((4 * r + 2 : Nat) : Int) by omega, if_pos (in_p (by omega)), ix_nat (by omega), let_eq]
theorem ruFf {k : Int} {q r : Nat} (h : fltM Z k q) (hk : 1 ≤ k ∧ k ≤ 7) (h23 : Z.1 211 23 = i3 r) (hr : r < 8) (x : Int32) : ∃ Z1, ruF x Z = some ((), Z1) ∧ fltM Z1 k q ∧ eqRd Z Z1 := by
  have e17 : ∀ (Y : mjZt) (k : Nat) (v : Int32), (zSi Y 226 k v).1 211 = Y.1 211 := fun Y k v => si_obj _ _ _ _ (by omega)
  generalize hY : zSi (zSi Z 226 (4 * r + 1) (Z.1 211 17)) 226 (4 * r + 2) (Z.1 211 17) = Y
  have fy : fltM Y k q := by rw [← hY]; exact flt_w (flt_w h (by omega)) (by omega)
  obtain ⟨Z1, a1, a2, a3⟩ := m163f (Z := Y) fy hk (by rw [← hY, e17, e17]; exact h23) hr x
  refine ⟨Z1, ?_, a2, eqRd_tr (by rw [← hY]; exact eqRd_tr (eqRd_si (by omega)) (eqRd_si (by omega))) a3⟩
  unfold ruF
  rw [h23, show (4 : Int32) = i3 4 from rfl, show (1 : Int32) = i3 1 from rfl, show (2 : Int32) = i3 2 from rfl, i3_mul, i3_add, show (4 : Int) * (r : Int) + 1 = ((4 * r + 1 : Nat) : Int) by omega, if_pos (in_p (by omega)), ix_nat (by omega), let_eq, e17, h23, i3_mul, i3_add, show (4 : Int) * (r : Int) + 2 = ((4 * r + 2 : Nat) : Int) by omega, if_pos (in_p (by omega)), ix_nat (by omega), hY, let_eq, m208f fy hk, mjBp_some, if_pos (by decide), a1]
theorem ru_bad {nm : Int64} {kx : Int32} {rc : Option (Int32 × mjZt)} {rm : Option (Unit × mjZt)} (h : oBad X n b wr m rc rm Zc Zm) (F : mjZt → Option (Unit × mjZt)) (G : Int32 → mjZt → Option (Int32 × mjZt)) (hG : ∀ (k : Int) (Z : mjZt), 1 ≤ k ∧ k ≤ 7 → G (i3 k) Z = f125_readRule_j190 b nm kx (i3 k) Z) (hF : ∀ (Z : mjZt) (k : Int) (q : Nat), fltM Z k q → 1 ≤ k ∧ k ≤ 7 → eqCd Zm Z → ∃ Z2, F Z = some ((), Z2) ∧ fltM Z2 k q ∧ eqRd Z Z2) :
    ∃ Zc1 Zm1, (mjBd rc fun v Z => G v Z) = some (0, Zc1) ∧ (mjBd rm fun _ Z => F Z) = some ((), Zm1) ∧ bd Zc1 Zm1 ∧ eqRc b Zc Zc1 ∧ eqRd Zm Zm1 := by
  obtain ⟨k, p1, Y, V, h1, h2, h3, h4, h5, h6, h7, h8, h9, h10⟩ := h
  have kb := fK_bd (X := X) (n := n) (p := p1) ⟨h1, h2⟩
  obtain ⟨Z1, a1, a2, a3⟩ := j190f (b := b) (nm := nm) (kx := kx) h5 ⟨h1, h2⟩
  obtain ⟨Z2, b1, b2, b3⟩ := hF V _ _ h8 kb h10
  refine ⟨Z1, Z2, ?_, ?_, ⟨fK X n p1 k, jQ X n p1, kb.1, kb.2, a2, b2⟩, eqRc_tr (eqCc_R h9) (eqT3_R a3), eqRd_tr (eqCd_R h10) b3⟩
  · rw [h3, mjBd_some, hG k Y ⟨h1, h2⟩, a1]
  · rw [h4, mjBd_some, b1]
theorem rwR_cd {S1 : mjS} (h : rwR Z S) (e : eqCd Z Z2) (h9 : ∀ k, Z2.1 215 k = i3 (S1 9 k)) (eS : ∀ f, f ≠ 9 → S1 f = S f) : rwR Z2 S1 := by
  refine ⟨fun f hf k => ?_, fun k => ?_, fun k => ?_⟩
  · by_cases q : f = 9
    · subst q; exact h9 k
    · have g1 := rwO_bd hf
      have g2 : rwO f ≠ 215 := by unfold rwO; rw [if_neg q]; omega
      rw [e.2.2.1 _ (by omega) (by omega) (by omega), eS f q]; exact h.1 f hf k
  · rw [e.2.1 227 (by omega), eS 11 (by omega)]; exact h.2.1 k
  · rw [e.2.1 228 (by omega), eS 12 (by omega)]; exact h.2.2 k
theorem ru_tail {Zc4 Zm4 : mjZt} {p0 p4 : Nat} (hn : n ≤ 700) (hX : ∀ k, X k ≤ 255) (hg : gd X n Zc4 Zm4 p4) (h2 : rC b Zc4 S m) (h4 : okR S m p4) (hR : sR S < 8) (hk : kd ≤ 4) (hW : nmF 8 W) (hm : rM Zm4 (zuS S 12 (sR S) W) m) (hf : fgR Zc4 Zm4 t w) (hp0 : p0 < p4) :
    lnR X n b (ruC b (i6 (cvN 8 W)) (i3 kd) Zc4) (f231_ruleLine_j84 (i3 kd) Zm4) Zc4 Zm4 p0 := by
  have hb := rC_b h2
  have h2' := h2
  have h4' := h4
  obtain ⟨ho, hoc, hon, hmp, hto, hwv, hlg⟩ := h4'
  obtain ⟨k1, k2, k3, k4⟩ := h2'
  have o1 := ok_sc ho
  have c8 := b_R k1
  obtain ⟨r1, ⟨s1, s2, s3, s4, s5, s6⟩, r3⟩ := rM_r hm
  have eT : sT (zuS S 12 (sR S) W) = sT S := by unfold sT; rw [zuS_f (by omega)]
  have eA : sA (zuS S 12 (sR S) W) = sA S := by unfold sA; rw [zuS_f (by omega)]
  have eR : sR (zuS S 12 (sR S) W) = sR S := by unfold sR; rw [zuS_f (by omega)]
  have e10 : zuS S 12 (sR S) W 10 = S 10 := zuS_f (by omega)
  rw [eT] at s1
  rw [eA] at s2
  rw [eR] at s3
  rw [e10] at s4 s5
  have r5 : rwR (zSi Zm4 226 (4 * sR S) (i3 m)) (zuS (zuS S 12 (sR S) W) 8 (4 * sR S) m) := rwR_si (f := 8) (by omega) rfl r1
  have e211 : (zSi Zm4 226 (4 * sR S) (i3 m)).1 211 = Zm4.1 211 := si_obj _ _ _ _ (by omega)
  have md : f231_ruleLine_j84 (i3 kd) Zm4 = mjBd (f224_test (zSi Zm4 226 (4 * sR S) (i3 m))) fun _ Z => ruF (i3 kd) Z := by
    unfold f231_ruleLine_j84
    rw [if_pos (gdL hg.2.2.2.1), s3, s6, show (4 : Int32) = i3 4 from rfl, i3_mul, show (4 : Int) * (sR S : Int) = ((4 * sR S : Nat) : Int) by omega, if_pos (in_p (by omega)), ix_nat (by omega), let_eq]
    rfl
  have g5 : gd X n Zc4 (zSi Zm4 226 (4 * sR S) (i3 m)) p4 := gd_of hg rfl rfl rfl rfl rfl (si_obj _ _ _ _ (by omega)) (fun f _ _ => by rw [e211]) rfl
  have f5 : eqRd Zm4 (zSi Zm4 226 (4 * sR S) (i3 m)) := eqRd_si (by omega)
  have q5 : ∀ k, zuS (zuS S 12 (sR S) W) 8 (4 * sR S) m 9 k = S 9 k := fun k => by rw [zuS_f (by omega), zuS_f (by omega)]
  have kf5 : kfM (zSi Zm4 226 (4 * sR S) (i3 m)) := ⟨fun j hj => r3.1 j hj, fun j hj => r3.2 j hj⟩
  generalize hZ5 : zSi Zm4 226 (4 * sR S) (i3 m) = Zm5 at *
  obtain ⟨S5, hS5⟩ : ∃ S5, S5 = zuS (zuS S 12 (sR S) W) 8 (4 * sR S) m := ⟨_, rfl⟩
  rw [← hS5] at r5 q5
  have v5 : ∀ f, f ≠ 8 → f ≠ 12 → S5 f = S f := fun f q1 q2 => by rw [hS5, zuS_f q1, zuS_f q2]
  have v12 : (∀ k, k ≠ sR S → S5 12 k = S 12 k) ∧ S5 12 (sR S) = W := ⟨fun k hk => by rw [hS5, zuS_f (by omega), zuS_n hk], by rw [hS5, zuS_f (by omega), zuS_e]⟩
  have v8 : (∀ k, k ≠ 4 * sR S → S5 8 k = S 8 k) ∧ S5 8 (4 * sR S) = m := ⟨fun k hk => by rw [hS5, zuS_n hk, zuS_f (by omega)], by rw [hS5, zuS_e]⟩
  have c76 : ∀ Z, f76_condition (i3 (sR S)) 0 Z = some (i3 ((2 * sR S : Nat) : Int)) := fun Z => by
    unfold f76_condition
    rw [show (2 : Int32) = i3 2 from rfl, show (0 : Int32) = i3 0 from rfl, i3_mul, i3_add, show (sR S : Int) * 2 + 0 = ((2 * sR S : Nat) : Int) by omega]
  have c761 : ∀ Z, f76_condition (i3 (sR S)) 1 Z = some (i3 ((2 * sR S + 1 : Nat) : Int)) := fun Z => by
    unfold f76_condition
    rw [show (2 : Int32) = i3 2 from rfl, show (1 : Int32) = i3 1 from rfl, i3_mul, i3_add, show (sR S : Int) * 2 + 1 = ((2 * sR S + 1 : Nat) : Int) by omega]
  unfold ruC
  rw [c8, c76, mjBp_some, md]
  rcases t_cond hb hn hX (wr := 2 * sR S) (S := S5) (m := m) g5 k3 (by omega) hmp (fun k => r5.1 9 (by omega) k) (by rw [e211]; exact s6) kf5 with ⟨Zc6, Zm6, S1, m1, p6, z1, z2, z3, z4, z5, z6, z7, z8, z9, z10, z11, z12⟩ | bad
  rotate_left
  · right
    obtain ⟨Zc1, Zm1, a1, a2, a3, a4, a5⟩ := ru_bad (nm := i6 (cvN 8 W)) (kx := i3 kd) bad (fun Z => ruF (i3 kd) Z) (fun v132 Z133 => if mjCmp .ne v132 0 = true then f125_readRule_j190 b (i6 (cvN 8 W)) (i3 kd) v132 Z133 else mjBp (f51_indexIn 1000004 Z133) fun v145 => if mjCmp .ne v145 1 = true then f125_readRule_j190 b (i6 (cvN 8 W)) (i3 kd) v132 Z133 else mjBd (f68_advance Z133) fun _ Z150 => mjBp (f76_condition (Z150.1 b 8) 1 Z150) fun v152 => mjBd (f69_read (b + 1) v152 Z150) fun v155 Z156 => f125_readRule_j190 b (i6 (cvN 8 W)) (i3 kd) v155 Z156) (fun k Z hk => if_pos (by rw [show (0 : Int32) = i3 0 from rfl, c_ne (by omega)]; omega)) (fun Z k q q1 q2 q3 => ruFf q1 q2 (by rw [q3.2.2.2 23 (by omega), e211]; exact s3) hR _)
    exact ⟨Zc1, Zm1, a1, a2, a3, a4, eqRd_tr f5 a5⟩
  obtain ⟨y1, y2, y3, y4, y5⟩ := z12
  have hp6 := z3.2.2.2.2
  have m23 : Zm6.1 211 23 = i3 (sR S) := by rw [y5.2.2.2 23 (by omega), e211]; exact s3
  have q1 : ∀ k, k < m → S1 9 k = S 9 k := fun k hk => by rw [y2 k hk, q5 k]
  obtain ⟨t1, t2, t3, t4, t5, t6, t7⟩ := z4
  have mfl : ∀ f, 20 < f → Zm6.1 211 f = Zm4.1 211 f := fun f g => by rw [y5.2.2.2 f (by omega), e211]
  have i8 : Zc6.1 b 8 = i3 (sR S) := by rw [y4.2.2.1 b (by omega) (by omega) (by omega) (by omega) (by omega)]; exact c8
  have i182 : Zc6.1 182 = Zc4.1 182 := y4.2.2.1 182 (by omega) (by omega) (by omega) (by omega) (by omega)
  have r6 : rwR Zm6 S1 := rwR_cd r5 y5 z7 y3
  have r7 : rwR (zSi (zSi Zm6 226 (4 * sR S + 1) (i3 m1)) 226 (4 * sR S + 2) (i3 m1)) (zuS (zuS S1 8 (4 * sR S + 1) m1) 8 (4 * sR S + 2) m1) := rwR_si (f := 8) (by omega) rfl (rwR_si (f := 8) (by omega) rfl r6)
  have rF := ruF_eq (i3 kd) m23 hR z8
  rw [z1, mjBd_some, if_neg (by decide), ixJ z3.1 hX (id := 1000004) (Or.inr (Or.inl rfl)), mjBp_some, z2, mjBd_some, rF]
  have e2117 : (zSi (zSi Zm6 226 (4 * sR S + 1) (i3 m1)) 226 (4 * sR S + 2) (i3 m1)).1 211 = Zm6.1 211 := by rw [si_obj _ _ _ _ (by omega), si_obj _ _ _ _ (by omega)]
  have g7 : gd X n Zc6 (zSi (zSi Zm6 226 (4 * sR S + 1) (i3 m1)) 226 (4 * sR S + 2) (i3 m1)) p6 := gd_of z3 rfl rfl rfl rfl rfl (by rw [si_obj _ _ _ _ (by omega), si_obj _ _ _ _ (by omega)]) (fun f _ _ => by rw [e2117]) rfl
  have f7 : eqRd Zm6 (zSi (zSi Zm6 226 (4 * sR S + 1) (i3 m1)) 226 (4 * sR S + 2) (i3 m1)) := eqRd_tr (eqRd_si (by omega)) (eqRd_si (by omega))
  have kf7 : kfM (zSi (zSi Zm6 226 (4 * sR S + 1) (i3 m1)) 226 (4 * sR S + 2) (i3 m1)) := ⟨fun j hj => z9.1 j hj, fun j hj => z9.2 j hj⟩
  generalize hZ7 : zSi (zSi Zm6 226 (4 * sR S + 1) (i3 m1)) 226 (4 * sR S + 2) (i3 m1) = Zm7 at *
  obtain ⟨S7, hS7⟩ : ∃ S7, S7 = zuS (zuS S1 8 (4 * sR S + 1) m1) 8 (4 * sR S + 2) m1 := ⟨_, rfl⟩
  rw [← hS7] at r7
  have x9 : S7 9 = S1 9 := by rw [hS7, zuS_f (by omega), zuS_f (by omega)]
  have x7 : ∀ f, f ≠ 8 → f ≠ 9 → S7 f = S5 f := fun f g1 g2 => by rw [hS7, zuS_f g1, zuS_f g1, y3 f g2]
  have x8 : (∀ k, k < 4 * sR S → S7 8 k = S 8 k) ∧ S7 8 (4 * sR S) = m ∧ S7 8 (4 * sR S + 1) = m1 ∧ S7 8 (4 * sR S + 2) = m1 := by
    refine ⟨fun k hk => ?_, ?_, ?_, ?_⟩
    · rw [hS7, zuS_n (by omega), zuS_n (by omega), y3 8 (by omega)]; exact v8.1 k (by omega)
    · rw [hS7, zuS_n (by omega), zuS_n (by omega), y3 8 (by omega)]; exact v8.2
    · rw [hS7, zuS_n (by omega), zuS_e]
    · rw [hS7, zuS_e]
  have m8 := m208 g7.2.1 hX g7.2.2.2.1 (w := 111567739122533) (by decide)
  have m8' : f208_isWord 111567739122533 Zm7 = _ := m8
  rw [m8', mjBp_some]
  have iJ5 := (iJ (X := X) (n := n) (p := p6)).2.2.2.2
  have bJ := ixT_bd (X := X) (n := n) (p := p6) (L := LJ) (N := 5)
  have wl := z6.1
  have rz : ruZ b (sR S) m Zc4 Zc6 := ruZ_c hb y4 (Nat.le_refl _) (Or.inl rfl)
  by_cases qX : jS X n p6 = 1 ∧ jN X n p6 = 111567739122533
  rotate_left
  · have : ixT X n p6 LJ 5 ≠ 1 := fun g => qX (iJ5.mp g)
    rw [if_pos (by rw [show (1 : Int32) = i3 1 from rfl, c_ne (by omega)]; omega), decide_eq_false qX, if_pos (by decide)]
    left
    have a4 : Zc6.1 (b + 1 + 4) (2 * sR S + 1) = Zc4.1 (b + 1 + 4) (2 * sR S + 1) := y4.2.2.2.2 0 _ (by omega) (by omega)
    have a5 : Zc6.1 (b + 1 + 5) (2 * sR S + 1) = Zc4.1 (b + 1 + 5) (2 * sR S + 1) := y4.2.2.2.2 1 _ (by omega) (by omega)
    have k45 := k4 (2 * sR S + 1) (by omega) (by omega)
    obtain ⟨Zf, Zg, S2, b1, b2, b3, b4, b5⟩ := ru_fin (m1 := m1) (m2 := m1) (S9 := S7) (t := t) (w := w) h2 h4 hR hk hW g7 hn rz i8 t1
      (cOne_agr t6 (Nat.le_refl _) (fun k _ => by rw [x9]) (fun _ _ _ _ => rfl)) (fun i g1 g2 => by omega) ⟨t4, z5, by rw [t5, ci_agr (S := S1) (S2 := S7) (fun k _ => by rw [x9])]⟩ (by rw [if_neg (by omega), a4, a5]; exact k45) (WF_agr (fun k _ => by rw [x9]) z6) (Nat.le_refl _) (fun g => by omega) z10
      (fun f g1 g2 g3 => by rw [x7 f g1 g2, v5 f g1 g3]) (fun k hk => by rw [x7 12 (by omega) (by omega)]; exact v12.1 k hk) (by rw [x7 12 (by omega) (by omega)]; exact v12.2) x8.1 x8.2.1 x8.2.2.1 x8.2.2.2 (fun k hk => by rw [x9]; exact q1 k hk)
      r7 (by rw [e2117, mfl 21 (by omega)]; exact s1) (by rw [e2117, mfl 22 (by omega)]; exact s2) (by rw [e2117, mfl 23 (by omega)]; exact s3) (by rw [e2117, mfl 25 (by omega)]; exact s4) (by rw [e2117, mfl 26 (by omega)]; exact s5) (by rw [e2117]; exact z8) kf7 ⟨by rw [i182]; exact hf.1, by rw [i182]; exact hf.2.1, by rw [e2117, mfl 24 (by omega)]; exact hf.2.2⟩
    exact ⟨Zf, Zg, S2, m1, p6, t, w, b1, b2, b3, by omega, eqRc_tr (eqCc_R y4) b4, eqRd_tr f5 (eqRd_tr (eqCd_R y5) (eqRd_tr f7 b5))⟩
  · have i1 := iJ5.mpr qX
    rw [if_neg (by rw [show (1 : Int32) = i3 1 from rfl, c_ne (by omega)]; omega), decide_eq_true qX, if_neg (by decide)]
    obtain ⟨Zc8, Zm8, u1, u2, u3, u4, u5⟩ := nxt g7 hn hX
    have hp8 := jE_bd (X := X) hp6
    have tk : ∀ a, a ≠ 183 → Zc8.1 a = Zc6.1 a := fun a g => (u4.2 a g).1
    have go : ∀ f, 8 < f → Zm8.1 211 f = Zm6.1 211 f := fun f g => by rw [u5.2.2 f (by omega), e2117]
    rw [u1, mjBd_some, u2, mjBd_some, tk b (by omega), i8, c761, mjBp_some]
    have r8 : rwR Zm8 S7 := rwR_of r7 (fun a g => u5.2.1 a (by omega))
    rcases t_cond hb hn hX (wr := 2 * sR S + 1) (S := S7) (m := m1) u3 (by rw [tk (b + 1) (by omega)]; exact t1) (by omega) (by omega) (fun k => r8.1 9 (by omega) k) (by rw [go 17 (by omega)]; exact z8) ⟨fun j hj => by rw [(u5.2.1 213 (by omega)).2]; exact kf7.1 j hj, fun j hj => by rw [(u5.2.1 214 (by omega)).2]; exact kf7.2 j hj⟩ with ⟨Zc9, Zm9, S9, m2, p9, a1, a2, a3, a4, a5, a6, a7, a8, a9, a10, a11, a12⟩ | bad
    rotate_left
    · right
      obtain ⟨Zc1, Zm1, a1, a2, a3, a4, a5⟩ := ru_bad (nm := i6 (cvN 8 W)) (kx := i3 kd) bad (fun Z => f231_ruleLine_j163 (i3 kd) Z) (fun v Z => f125_readRule_j190 b (i6 (cvN 8 W)) (i3 kd) v Z) (fun k Z hk => rfl) (fun Z k q q1 q2 q3 => m163f q1 q2 (by rw [q3.2.2.2 23 (by omega), go 23 (by omega)]; exact m23) hR _)
      exact ⟨Zc1, Zm1, a1, a2, a3, eqRc_tr (eqCc_R y4) (eqRc_tr (eqTk_R u4) a4), eqRd_tr f5 (eqRd_tr (eqCd_R y5) (eqRd_tr f7 (eqRd_tr (eqGo_R u5) a5)))⟩
    · left
      obtain ⟨d1, d2, d3, d4, d5⟩ := a12
      obtain ⟨l1, l2, l3, l4, l5, l6, l7⟩ := a4
      have mg : ∀ f, 20 < f → Zm9.1 211 f = Zm4.1 211 f := fun f g => by rw [d5.2.2.2 f (by omega), go f (by omega), mfl f g]
      have i182' : Zc9.1 182 = Zc4.1 182 := by rw [d4.2.2.1 182 (by omega) (by omega) (by omega) (by omega) (by omega), tk 182 (by omega), i182]
      have n9 : ∀ k, k < m1 → S9 9 k = S1 9 k := fun k hk => by rw [d2 k hk, x9]
      have n7 : ∀ f, f ≠ 9 → S9 f = S7 f := d3
      have rz9 : ruZ b (sR S) m Zc4 Zc9 := ruZ_tr rz (ruZ_tr (ruZ_tk hb u4) (ruZ_c hb d4 (by omega) (Or.inr rfl)))
      have b4' : Zc9.1 (b + 1 + 4) (2 * sR S) = Zc8.1 (b + 1 + 4) (2 * sR S) := d4.2.2.2.2 0 _ (by omega) (by omega)
      have b5' : Zc9.1 (b + 1 + 5) (2 * sR S) = Zc8.1 (b + 1 + 5) (2 * sR S) := d4.2.2.2.2 1 _ (by omega) (by omega)
      have b6' : Zc9.1 (b + 1 + 6) (2 * sR S) = Zc8.1 (b + 1 + 6) (2 * sR S) := d4.2.2.2.2 2 _ (by omega) (by omega)
      have wl2 := a6.1
      obtain ⟨Zf, Zg, S2, b1, b2, b3, b4, b5⟩ := ru_fin (m1 := m1) (m2 := m2) (S9 := S9) (t := t) (w := w) h2 h4 hR hk hW a3 hn rz9 (by rw [d4.2.2.1 b (by omega) (by omega) (by omega) (by omega) (by omega), tk b (by omega)]; exact i8) l1
        (cOne_agr (m := m1) t6 (Nat.le_refl _) n9 (fun j k g1 g2 => by rw [d4.2.2.2.1 j k g1 g2, tk _ (by omega)])) l6 ⟨by rw [b4', tk _ (by omega)]; exact t4, by rw [b5', tk _ (by omega)]; exact z5, by rw [b6', tk _ (by omega), t5, ci_agr (S := S1) (S2 := S9) n9]⟩ (by rw [if_pos wl2]; exact ⟨l4, a5, l5⟩) (WF_agr n9 z6) (by omega) (fun _ => a6) a10
        (fun f g1 g2 g3 => by rw [n7 f g2, x7 f g1 g2, v5 f g1 g3]) (fun k hk => by rw [n7 12 (by omega), x7 12 (by omega) (by omega)]; exact v12.1 k hk) (by rw [n7 12 (by omega), x7 12 (by omega) (by omega)]; exact v12.2) (fun k hk => by rw [n7 8 (by omega)]; exact x8.1 k hk) (by rw [n7 8 (by omega)]; exact x8.2.1) (by rw [n7 8 (by omega)]; exact x8.2.2.1) (by rw [n7 8 (by omega)]; exact x8.2.2.2) (fun k hk => by rw [n9 k (by omega)]; exact q1 k hk)
        (rwR_cd r8 d5 a7 n7) (by rw [mg 21 (by omega)]; exact s1) (by rw [mg 22 (by omega)]; exact s2) (by rw [mg 23 (by omega)]; exact s3) (by rw [mg 25 (by omega)]; exact s4) (by rw [mg 26 (by omega)]; exact s5) a8 a9 ⟨by rw [i182']; exact hf.1, by rw [i182']; exact hf.2.1, by rw [mg 24 (by omega)]; exact hf.2.2⟩
      exact ⟨Zf, Zg, S2, m2, p9, t, w, by rw [a1, mjBd_some]; exact b1, by rw [a2, mjBd_some]; exact b2, b3, by omega, eqRc_tr (eqCc_R y4) (eqRc_tr (eqTk_R u4) (eqRc_tr (eqCc_R d4) b4)), eqRd_tr f5 (eqRd_tr (eqCd_R y5) (eqRd_tr f7 (eqRd_tr (eqGo_R u5) (eqRd_tr (eqCd_R d5) b5))))⟩
end RU3
