/-! CONDITIONS READ: a comparison, whole -/
section CN
variable {X : Nat → Nat} {n b fr wr : Nat}
theorem rd_7 {L : pL} (S : mjS) (m : Nat) (h : pN 52 L) : rd (qT 7) L S m = rd q2M L S m := by
  refine rd_cN (fun c g => ?_) ?_ (Or.inl ?_) L S m h
  · have hc : c = 21 ∨ c = 22 ∨ c = 23 ∨ c = 51 := of_decide_eq_true g
    rcases hc with rfl | rfl | rfl | rfl <;> rfl
  · rfl
  · rfl
/-- the sign: the class reduces and pushes, both go on -/
theorem t_mid (hb : b = 2 ∨ b = 92) (hn : n ≤ 700) (hX : ∀ k, X k ≤ 255) {x : Int} (hx : x = 30 ∨ x = 31 ∨ x = 32) {Zc Zm : mjZt} {S : mjS} {m p s N e : Nat} {L : pL} (h : cdE X n b Zc Zm S fr m wr L p s (N + 1)) (hs : jS X n p ≠ 0) (hpn : pN 52 L) (hi : cI S fr m L e) (hh : hasI S m e false) (hcm : cmS Zc 52 L) (hc : crl L = 0)
    (hcl : cLp b (N + 1) s Zc = mjBd (mjBd (f59_join (b + 1) (i3 (opW x)) 7 Zc) fun v Z1 => some (v, Z1)) fun v Z1 => if mjCmp .eq v 0 = true then mjBd (f68_advance Z1) fun _ Z2 => cLp b N (s + 1) Z2 else some (v, Z1)) :
    ∃ Zc2 Zm2 S1 m1 K, cLp b (N + 1) s Zc = cLp b N (s + 1) Zc2 ∧ f205_goOn Zm = some ((), Zm2) ∧ cdS X n b Zc2 Zm2 S1 fr m1 wr ((x, m1) :: K) 1 (jE X n p) (s + 1) N ∧ pN x ((x, m1) :: K) ∧ cI S1 fr m1 ((x, m1) :: K) m1 ∧ cmS Zc2 x ((x, m1) :: K) ∧ p < jE X n p ∧ grw b wr m m1 S S1 Zc Zm Zc2 Zm2 := by
  obtain ⟨hg, h0, hpk, ht, hd, hbs, hkf, ho, hw, hsp, hN⟩ := h
  have hp := jE_bd (X := X) hg.2.2.2.2
  have hpp := hp.2.2.2 hs
  have hp5 := hg.2.2.2.2
  have hst : stg 52 false L := Or.inl ⟨rfl, hpn⟩
  have len := stg_len hst ho
  have er := rd_7 S m hpn
  obtain ⟨e2, ty2, j1, j2, j3, j4, j5, j6, j7, j8, j9, j10⟩ := rd_ok (x := 52) (q := qT 7) (fun c g => qT_p g) L S m e false hi hh hst
  -- compared is told first
  have pk1 : plK (zSi Zc 185 3 1) (cL L) := ⟨by rw [si_fld _ _ _ _ (by omega)]; exact hpk.1, by rw [si_fld _ _ _ _ (by omega)]; exact hpk.2.1, plC_of (si_obj _ _ _ _ (by omega)) (si_obj _ _ _ _ (by omega)) _ hpk.2.2⟩
  obtain ⟨Za', a1, a2, a3, a4⟩ := e49 (wr := wr) hb (x := 52) (tg := 7) (by omega) L S m e false mjF (zSi Zc 185 3 1) (fun _ => Or.inl (by omega)) hi hh hst pk1 (trC_of ht (fun a _ _ => si_obj _ _ _ _ (by omega))) (by omega) ho (by unfold mjF; omega)
  rcases q2_top L S m hpn with ⟨a, K, _, _, t3⟩ | ⟨a, K, t1, t2, _⟩
  · omega
  rw [← er] at hd t1
  generalize hR : rd (qT 7) L S m = R at *
  obtain ⟨S1, m1, L1⟩ := R
  simp only at *
  subst t1
  have ty0 : ty2 = false := by
    rcases j3 with ⟨g, _⟩ | ⟨_, g⟩
    · exact g
    · have : (52 : Int) = 40 ∨ (52 : Int) = 41 ∨ (52 : Int) = 42 ∨ (52 : Int) = 50 := of_decide_eq_true g.1
      omega
  subst ty0
  have ea : e2 = a := j1.2.1.1
  subst ea
  have ch := chn_opn j1.2.1 (Or.inr rfl)
  have no : isOp x = false := decide_eq_false (by omega)
  have ix : isX x = true := decide_eq_true (by omega)
  have w52 : wtL (((52 : Int), e2) :: K) = wtL K := by rw [wtL]; simp
  have o52 : opn (((52 : Int), e2) :: K) = opn K := rfl
  have c52 : cL (((52 : Int), e2) :: K) = K := by rw [cL, if_pos rfl, pT_cL K t2]
  rw [c52] at a2
  rw [w52] at j5
  rw [o52] at j6
  have lenK := stg_len (Or.inr ⟨rfl, t2⟩ : stg x true K) (by omega)
  have ok : opn ((x, m1) :: K) = opn K := by rw [opn, no]; rfl
  obtain ⟨Zc', b1, b2, b3, b4⟩ := e55 hb a2.2.1 a2.2.2 a3 (by omega) (c := x) (by rw [ok]; exact a2.1)
  have ob : opW x = opC x ∧ 7 ≤ opC x ∧ opC x ≤ 9 := by
    rcases hx with rfl | rfl | rfl <;> exact ⟨rfl, by decide, by decide⟩
  have join : f59_join (b + 1) (i3 (opW x)) 7 Zc = some (0, zSi Zc' 185 0 1) := by
    have isc : f58_isComparison (i3 (opW x)) Zc = some 1 := by rcases hx with rfl | rfl | rfl <;> rfl
    have a1' : f49_reduce (b + 1) 7 (zSi Zc 185 3 1) = some ((), Za') := a1
    unfold f59_join
    rw [isc, mjBp_some, if_neg (by decide), hcm.2, show bI (decide ((52 : Int) ≠ 52)) = 0 from rfl, if_neg (by decide), hcm.1, hc, if_pos (by decide), let_eq]
    unfold f59_join_j28
    rw [a1', mjBd_some, b1, mjBd_some]
    rcases hx with rfl | rfl | rfl <;> rfl
  have fr1 : eqRe b wr m (zSi Zc 185 3 1) Zc' := eqRe_tr a4 b4 j4
  have cc : eqCc b wr m Zc (zSi Zc' 185 0 1) := eqCc_tr (m2 := m) (eqCc_si hb (by omega)) (eqCc_tr (m2 := m) fr1.1 (eqCc_si hb (by omega)) (Nat.le_refl _)) (Nat.le_refl _)
  have g2 : gd X n (zSi Zc' 185 0 1) Zm p := gd_cc hb hg cc (by rw [si_lng, fr1.2.1, si_lng]) (by rw [si_obj _ _ _ _ (by omega), fr1.2.2.1, si_obj _ _ _ _ (by omega)]) eqWk_rf
  obtain ⟨Zc2, Zm2, u1, u2, u3, u4, u5⟩ := nxt g2 hn hX
  have q85 : Zc2.1 185 = (zSi Zc' 185 0 1).1 185 := (u4.2 185 (by omega)).1
  have ck : cL ((x, m1) :: K) = (x, m1) :: K := by rw [cL, if_neg (by omega), pT_cL K t2]
  obtain ⟨d1, d2, d3, d4, d5⟩ := hd
  have qx : qM x = 52 := by unfold qM; rw [show isCm x = true from decide_eq_true (by omega)]; rfl
  refine ⟨Zc2, Zm2, S1, m1, K, ?_, u2, ⟨u3, ?_, ?_, trC_of b3 (fun a g1 g2 => by rw [(u4.2 a (by omega)).1, si_obj _ _ _ _ (by omega)]), mdM_go ⟨d1, d2, d3, by rw [ok, ← o52]; exact d4, by rw [qx]; exact d5.1, d5.2⟩ u5, ?_, ⟨fun j hj => ?_, fun j hj => ?_⟩, by omega, ?_, by omega, by omega⟩, Or.inr ⟨ix, rfl, t2⟩, push_b ⟨j1.1, ch, j1.2.2⟩ (by rw [decide_eq_false (by omega)]; exact j2) ⟨no, by omega⟩, ⟨?_, ?_⟩, hpp, j4, j7, j8, eqCc_tr (m2 := m) cc (eqTk_c hb u4) (Nat.le_refl _), eqGo_d u5⟩
  · rw [hcl, join, mjBd_some, mjBd_some, if_pos (by decide), u1, mjBd_some]
  · rw [q85, si_same]
  · rw [ck]
    exact ⟨by rw [q85, si_fld _ _ _ _ (by omega)]; exact b2.1, by rw [q85, si_fld _ _ _ _ (by omega)]; exact b2.2.1, plC_of (by rw [(u4.2 186 (by omega)).1, si_obj _ _ _ _ (by omega)]) (by rw [(u4.2 187 (by omega)).1, si_obj _ _ _ _ (by omega)]) _ b2.2.2⟩
  · have bs52 : bsL L = K.length + 1 := by
      have : ∀ (J : pL) (T : mjS) (k : Nat), pN 52 J → bsL (rd q2M J T k).2.2 = bsL J := fun J => by
        induction J with
        | nil => intro T k g; exact g.elim
        | cons d J ih =>
          obtain ⟨d, k0⟩ := d
          intro T k g
          rw [rd]
          split
          · rename_i gq
            have hd2 : 21 ≤ d ∧ d ≤ 23 := of_decide_eq_true gq
            rcases g with ⟨g1, _, g3⟩ | ⟨g1, _, _⟩
            · rw [ih _ _ g3, bsL, show isX d = false from decide_eq_false (by omega)]; rfl
            · have : d = 52 ∨ d = 30 ∨ d = 31 ∨ d = 32 := of_decide_eq_true g1
              omega
          · rfl
      have e := this L S m hpn
      rw [← er] at e
      rw [← e]
      rfl
    rw [u5.2.2 19 (by omega), hbs, bs52, bsL, if_pos ix]
  · rw [(u5.2.1 213 (by omega)).2]; exact hkf.1 j hj
  · rw [(u5.2.1 214 (by omega)).2]; exact hkf.2 j hj
  · rw [wtL, if_neg (by omega)]; omega
  · rw [q85, si_fld _ _ _ _ (by omega), fr1.2.2.2 2 (by omega) (by omega), si_fld _ _ _ _ (by omega), hcm.1, hc, crl, pT_crl K t2, if_neg (by omega)]
  · rw [q85, si_fld _ _ _ _ (by omega), fr1.2.2.2 3 (by omega) (by omega), si_same, decide_eq_true (by omega)]; rfl
/-- behind not and ( -/
theorem t_cmp0 (hb : b = 2 ∨ b = 92) (hn : n ≤ 700) (hX : ∀ k, X k ≤ 255) {Zc Zm : mjZt} {S : mjS} {m p s N M : Nat} {L : pL} (h : cdS X n b Zc Zm S fr m wr L 0 p s N) (hpt : pT L) (hi : cI S fr m L m) (h40 : sgn X n p 40 = false) (hnot : ¬ (jS X n p = 1 ∧ jN X n p = 7237492)) :
    cGood X n b fr wr (cLp b N s Zc) (f223_comparison_h0 (M + 1) Zm) Zc Zm S m p ∨ oBad X n b wr m (cLp b N s Zc) (f223_comparison_h0 (M + 1) Zm) Zc Zm := by
  obtain ⟨hg, h0, hpk, ht, hd, hbs, hkf, ho, hw, hsp, hN⟩ := h
  have hp5 := hg.2.2.2.2
  obtain ⟨N, rfl⟩ : ∃ N0, N = N0 + 1 := ⟨N - 1, by omega⟩
  have len := stg_len (Or.inr ⟨rfl, hpt⟩ : stg 52 true L) ho
  -- the class
  have st1 : f54_comparisonStarts Zc = some 1 := by rw [e54 hg.1 hX, h40, decide_eq_false hnot]; rfl
  have row := cl0s (b := b) (N := N) (s := s) h0 (by omega) st1
  generalize hZ1 : zSi (zSi (zSi Zc 185 3 0) 185 2 0) 185 0 1 = Zc1 at row
  have oth : ∀ a, a ≠ 185 → Zc1.1 a = Zc.1 a := fun a g => by rw [← hZ1, si_obj _ _ _ _ g, si_obj _ _ _ _ g, si_obj _ _ _ _ g]
  have cc1 : eqCc b wr m Zc Zc1 := by rw [← hZ1]; exact eqCc_tr (m2 := m) (eqCc_si hb (by omega)) (eqCc_tr (m2 := m) (eqCc_si hb (by omega)) (eqCc_si hb (by omega)) (Nat.le_refl _)) (Nat.le_refl _)
  -- the model
  have ok52 : opn (((52 : Int), m) :: L) = opn L := rfl
  obtain ⟨d1, d2, d3, d4, d5⟩ := hd
  obtain ⟨Zm1, r1, r2, r3⟩ := m215 (S := S) (m := m) (L := L) (c := 52) (a := m) ⟨d1, d2, d3, d5⟩ (by rw [ok52]; exact d4) (by omega)
  generalize hZm2 : zSi Zm1 211 19 (Zm1.1 211 18) = Zm2
  have l18 := r2.2.2.1
  have b0 : Zm1.1 211 19 = 0 := by rw [r3.2.2 19 (by omega) (by omega) (by omega), hbs, bsL_T L hpt]; rfl
  have wm : eqCd Zm Zm2 := by rw [← hZm2]; exact eqCd_tr (eqWk_d r3) (eqCd_si (by omega))
  have gd1 : gd X n Zc1 Zm2 p := by
    refine gd_of hg (by rw [← hZ1]; rfl) (oth 1 (by omega)) (oth 183 (by omega)) (by rw [← hZ1]; rfl) (by rw [oth 182 (by omega)]) ?_ (fun f g1 g2 => ?_) ?_
    · rw [← hZm2, si_obj _ _ _ _ (by omega), r3.2.1 212 (by omega) (by omega) (by omega)]
    · rw [← hZm2, si_fld _ _ _ _ (by omega), r3.2.2 f (by omega) (by omega) (by omega)]
    · rw [← hZm2, si_lng, r3.1]
  have md : f223_comparison_h0 (M + 1) Zm = mjBd (f221_numberFormula Zm2) fun _ Z123 => mjBp (f207_isGood Z123) fun v125 => if mjCmp .eq v125 0 = true then f223_comparison_j111 0 Z123 else mjBp (f209_isSignHere 60 Z123) fun v154 => if mjCmp .ne v154 0 = true then f223_comparison_j111 0 Z123 else mjBp (f209_isSignHere 62 Z123) fun v158 => if mjCmp .ne v158 0 = true then f223_comparison_j111 0 Z123 else mjBp (f209_isSignHere 61 Z123) fun v162 => if mjCmp .ne v162 0 = true then f223_comparison_j111 0 Z123 else mjBd (f206_wrong 2 Z123) fun _ Z167 => f223_comparison_j111 0 Z167 := by
    have m8 : f208_isWord 7237492 Zm = some (bI (decide (jS X n p = 1 ∧ jN X n p = 7237492))) := m208 hg.2.1 hX hg.2.2.2.1 (w := 7237492) (by decide)
    have m9 : f209_isSignHere 40 Zm = some (bI (sgn X n p 40)) := m209 hg.2.1 hX hg.2.2.2.1 (c := 40) (by omega)
    have r1' : f215_waitsFor 52 Zm = some ((), Zm1) := r1
    rw [f223_comparison_h0, m8, decide_eq_false hnot, mjBp_some, if_neg (by decide), m9, h40, mjBp_some, if_pos (by decide), if_pos (gdL hg.2.2.2.1), r1', mjBd_some, let_eq, b0, hZm2]
  have fcont : ∀ (Z : mjZt) (k : Int) (q : Nat), fltM Z k q → 1 ≤ k ∧ k ≤ 7 → ∃ Z2, (mjBp (f207_isGood Z) fun v125 => if mjCmp .eq v125 0 = true then f223_comparison_j111 0 Z else mjBp (f209_isSignHere 60 Z) fun v154 => if mjCmp .ne v154 0 = true then f223_comparison_j111 0 Z else mjBp (f209_isSignHere 62 Z) fun v158 => if mjCmp .ne v158 0 = true then f223_comparison_j111 0 Z else mjBp (f209_isSignHere 61 Z) fun v162 => if mjCmp .ne v162 0 = true then f223_comparison_j111 0 Z else mjBd (f206_wrong 2 Z) fun _ Z167 => f223_comparison_j111 0 Z167) = some ((), Z2) ∧ Z2.1 211 9 = Z.1 211 9 ∧ Z2.1 211 10 = Z.1 211 10 ∧ eqCd Z Z2 := fun Z k q f1 f2 =>
    ⟨zSi Z 211 19 0, by rw [bdM f1 f2, mjBp_some, if_pos (by decide), m111f f1 f2], si_fld _ _ _ _ (by omega), si_fld _ _ _ _ (by omega), eqCd_si (by omega)⟩
  have g0 : grw b wr m m S S Zc Zm Zc1 Zm2 := ⟨Nat.le_refl _, fun _ _ => rfl, fun _ _ => rfl, cc1, wm⟩
  have cd1 : cdS X n b Zc1 Zm2 S fr m wr ((52, m) :: L) 1 p s (N + 1) := by
    have c52 : cL (((52 : Int), m) :: L) = cL L := by rw [cL, if_pos rfl]
    refine ⟨gd1, by rw [← hZ1, si_same], ?_, trC_of ht (fun a g1 g2 => oth a (by omega)), mdM_of r2 (by rw [← hZm2, si_obj _ _ _ _ (by omega)]) (by rw [← hZm2, si_obj _ _ _ _ (by omega)]) (fun f g1 g2 g3 => by rw [← hZm2, si_fld _ _ _ _ (by omega)]), ?_, ⟨fun j hj => ?_, fun j hj => ?_⟩, by rw [ok52]; exact ho, ?_, hsp, hN⟩
    · rw [c52, ← hZ1]
      exact ⟨by rw [si_fld _ _ _ _ (by omega), si_fld _ _ _ _ (by omega), si_fld _ _ _ _ (by omega)]; exact hpk.1, by rw [si_fld _ _ _ _ (by omega), si_fld _ _ _ _ (by omega), si_fld _ _ _ _ (by omega)]; exact hpk.2.1, plC_of (by rw [si_obj _ _ _ _ (by omega), si_obj _ _ _ _ (by omega), si_obj _ _ _ _ (by omega)]) (by rw [si_obj _ _ _ _ (by omega), si_obj _ _ _ _ (by omega), si_obj _ _ _ _ (by omega)]) _ hpk.2.2⟩
    · rw [← hZm2, si_same, l18]; rfl
    · rw [← hZm2, si_lng, r3.1]; exact hkf.1 j hj
    · rw [← hZm2, si_lng, r3.1]; exact hkf.2 j hj
    · rw [wtL]; simp; exact hw
  have cm1 : cmS Zc1 52 ((52, m) :: L) := by
    refine ⟨?_, ?_⟩
    · rw [← hZ1, si_fld _ _ _ _ (by omega), si_same, crl, pT_crl L hpt]; rfl
    · rw [← hZ1, si_fld _ _ _ _ (by omega), si_fld _ _ _ _ (by omega), si_same]; rfl
  rw [row, md]
  unfold f221_numberFormula
  -- the first operand
  rcases t_opd (x := 52) hb hn hX (n - p + 1) (p := p) (M := mjF) (by omega) (by unfold mjF; omega) cd1 (Or.inr ⟨rfl, rfl, hpt⟩) (push_o hi (Or.inr rfl)) cm1 with ⟨Zc3, Zm3, S3, m3, L3, p3, s3, N3, e3, z1, z2, z3, z4, z5, z6, z7, z8, z9⟩ | z
  rotate_left
  · right
    have z' := oBad_bd (F := fun Z => f221_numberFormula_h6 mjF 1 Z) (oBad_go z g0) (fun Z k q f1 f2 => ⟨Z, m221f (M := mjF - 1) f1 f2 1, rfl, rfl, eqCd_rf⟩)
    exact oBad_bd z' fcont
  have z2' : f219_operand Zm2 = some ((), Zm3) := z2
  have hp3 := z3.1.2.2.2.2
  rw [z1, z2', mjBd_some]
  have g3 := grw_tr g0 z9
  -- the first formula
  rcases t_num (x := 52) hb hn hX (n - p3 + 1) (M := mjF) (by omega) (by unfold mjF; omega) z3 z4 z5 z6 z7 with ⟨Zc4, Zm4, S4, m4, L4, p4, s4, N4, e4, y1, y2, y3, y4, y5, y6, y7, y8, y9, y10, y11⟩ | z
  rotate_left
  · right
    exact oBad_bd (oBad_go z g3) fcont
  have g4 := grw_tr g3 y11
  rw [y1, y2, mjBd_some]
  have hg4 := y3.1
  have hp4 := hg4.2.2.2.2
  have k5 := kd_255 (n := n) (p := p4) hX
  have k42 := kdS (X := X) (n := n) (p := p4) (c := 42) (by omega)
  have k43 := kdS (X := X) (n := n) (p := p4) (c := 43) (by omega)
  have k45 := kdS (X := X) (n := n) (p := p4) (c := 45) (by omega)
  have n42 : kd X n p4 ≠ 42 := fun g => by rw [k42.mp g] at y9; cases y9.1
  have n43 : kd X n p4 ≠ 43 := fun g => by rw [k43.mp g] at y9; cases y9.2.1
  have n45 : kd X n p4 ≠ 45 := fun g => by rw [k45.mp g] at y9; cases y9.2.2
  obtain ⟨N4, rfl⟩ : ∃ N0, N4 = N0 + 1 := ⟨N4 - 1, by have := y3.2.2.2.2.2.2.2.2.2.1; have := y3.2.2.2.2.2.2.2.2.2.2; omega⟩
  have hs4 : s4 ≤ 700 := by have := y3.2.2.2.2.2.2.2.2.2.1; omega
  have row4 := cl2 (b := b) (N := N4) (s := s4) y3.2.1 hs4 (e47f hg4.1 hX y7 (by omega) (Or.inl rfl))
  rw [e61 hg4.1 hX, if_neg n42, if_neg n43, if_neg n45] at row4
  have s60 : f209_isSignHere 60 Zm4 = some (bI (sgn X n p4 60)) := m209 hg4.2.1 hX hg4.2.2.2.1 (c := 60) (by omega)
  have s61 : f209_isSignHere 61 Zm4 = some (bI (sgn X n p4 61)) := m209 hg4.2.1 hX hg4.2.2.2.1 (c := 61) (by omega)
  have s62 : f209_isSignHere 62 Zm4 = some (bI (sgn X n p4 62)) := m209 hg4.2.1 hX hg4.2.2.2.1 (c := 62) (by omega)
  have k60 := kdS (X := X) (n := n) (p := p4) (c := 60) (by omega)
  have k61 := kdS (X := X) (n := n) (p := p4) (c := 61) (by omega)
  have k62 := kdS (X := X) (n := n) (p := p4) (c := 62) (by omega)
  have h8 := hg4.2.1.2.2.2.2.1
  have vb := jV_bd (X := X) (n := n) (p := p4) hX
  -- what follows the sign
  have after : ∀ x : Int, (x = 30 ∨ x = 31 ∨ x = 32) → jS X n p4 ≠ 0 → (cLp b (N4 + 1) s4 Zc4 = mjBd (mjBd (f59_join (b + 1) (i3 (opW x)) 7 Zc4) fun v Z1 => some (v, Z1)) fun v Z1 => if mjCmp .eq v 0 = true then mjBd (f68_advance Z1) fun _ Z2 => cLp b N4 (s4 + 1) Z2 else some (v, Z1)) → cGood X n b fr wr (cLp b (N4 + 1) s4 Zc4) (f223_comparison_j141 0 (i3 x) Zm4) Zc Zm S m p ∨ oBad X n b wr m (cLp b (N4 + 1) s4 Zc4) (f223_comparison_j141 0 (i3 x) Zm4) Zc Zm := fun x hx hs hcl => by
    obtain ⟨Zc5, Zm5, S5, m5, K, v1, v2, v3, v4, v5, v6, v7, v8⟩ := t_mid hb hn hX hx y3 hs y4 y5 y6 y7 y8 hcl
    have g5 := grw_tr g4 v8
    have hp5' := v3.1.2.2.2.2
    have md5 : f223_comparison_j141 0 (i3 x) Zm4 = mjBd (f221_numberFormula Zm5) fun _ Z149 => f223_comparison_j164 0 (i3 x) Z149 := by
      unfold f223_comparison_j141 f223_comparison_j153
      rw [gdM hg4.2.2.2.1, mjBp_some, if_neg (by decide), v2, mjBd_some, gdM v3.1.2.2.2.1, mjBp_some, if_neg (by decide)]
    have fc2 : ∀ (Z : mjZt) (k : Int) (q : Nat), fltM Z k q → 1 ≤ k ∧ k ≤ 7 → ∃ Z2, f223_comparison_j164 0 (i3 x) Z = some ((), Z2) ∧ Z2.1 211 9 = Z.1 211 9 ∧ Z2.1 211 10 = Z.1 211 10 ∧ eqCd Z Z2 := fun Z k q f1 f2 =>
      ⟨zSi Z 211 19 0, m164f f1 f2 _ _, si_fld _ _ _ _ (by omega), si_fld _ _ _ _ (by omega), eqCd_si (by omega)⟩
    rw [v1, md5]
    unfold f221_numberFormula
    rcases t_opd (x := x) hb hn hX (n - jE X n p4 + 1) (p := jE X n p4) (M := mjF) (by omega) (by unfold mjF; omega) v3 v4 v5 v6 with ⟨Zc6, Zm6, S6, m6, L6, p6, s6, N6, e6, w1, w2, w3, w4, w5, w6, w7, w8, w9⟩ | z
    rotate_left
    · right
      have z' := oBad_bd (F := fun Z => f221_numberFormula_h6 mjF 1 Z) (oBad_go z g5) (fun Z k q f1 f2 => ⟨Z, m221f (M := mjF - 1) f1 f2 1, rfl, rfl, eqCd_rf⟩)
      exact oBad_bd z' fc2
    have w2' : f219_operand Zm5 = some ((), Zm6) := w2
    have hp6 := w3.1.2.2.2.2
    rw [w1, w2', mjBd_some]
    have g6 := grw_tr g5 w9
    rcases t_num (x := x) hb hn hX (n - p6 + 1) (M := mjF) (by omega) (by unfold mjF; omega) w3 w4 w5 w6 w7 with ⟨Zc7, Zm7, S7, m7, L7, p7, s7, N7, e7, x1, x2, x3, x4, x5, x6, x7, x8, x9, x10, x11⟩ | z
    rotate_left
    · right
      exact oBad_bd (oBad_go z g6) fc2
    have g7 := grw_tr g6 x11
    rw [x1, x2, mjBd_some]
    have hp7 := x3.1.2.2.2.2
    obtain ⟨Zc8, Zm8, S8, m8, L8, e8, u1, u2, u3, u4, u5, u6, u7, u8⟩ := t_sgn hb hX hx x3 x4 x5 x6 x7 x8 x9 (by omega)
    left
    exact ⟨Zc8, Zm8, S8, m8, L8, p7, s7, N7, e8, u1, u2, u3, u4, u5, u6, u7, by omega, grw_tr g7 u8⟩
  have sgd : ∀ {c : Nat}, sgn X n p4 c = true → jS X n p4 = 3 ∧ jV X n p4 = c := fun g => of_decide_eq_true g
  rw [gdM hg4.2.2.2.1, mjBp_some, if_neg (by decide)]
  cases q60 : sgn X n p4 60 with
  | true =>
    have sg := sgd q60
    rw [s60, q60, mjBp_some, if_pos (by decide)]
    unfold f223_comparison_j111
    rw [h8, sg.2, if_neg (by decide)]
    rw [if_pos (k60.mpr q60)] at row4
    exact after 30 (Or.inl rfl) (by omega) row4
  | false =>
    have n60 : kd X n p4 ≠ 60 := fun g => by rw [k60.mp g] at q60; cases q60
    cases q62 : sgn X n p4 62 with
    | true =>
      have sg := sgd q62
      rw [s60, q60, mjBp_some, if_neg (by decide), s62, q62, mjBp_some, if_pos (by decide)]
      unfold f223_comparison_j111
      rw [h8, sg.2, if_pos (by decide), if_neg (by decide)]
      have kk := k62.mpr q62
      rw [if_neg n60, if_neg (by omega), if_pos kk] at row4
      exact after 31 (Or.inr (Or.inl rfl)) (by omega) row4
    | false =>
      have n62 : kd X n p4 ≠ 62 := fun g => by rw [k62.mp g] at q62; cases q62
      cases q61 : sgn X n p4 61 with
      | true =>
        have sg := sgd q61
        rw [s60, q60, mjBp_some, if_neg (by decide), s62, q62, mjBp_some, if_neg (by decide), s61, q61, mjBp_some, if_pos (by decide)]
        unfold f223_comparison_j111
        rw [h8, sg.2, if_pos (by decide), if_pos (by decide)]
        have kk := k61.mpr q61
        rw [if_neg n60, if_pos kk] at row4
        exact after 32 (Or.inr (Or.inr rfl)) (by omega) row4
      | false =>
        have n61 : kd X n p4 ≠ 61 := fun g => by rw [k61.mp g] at q61; cases q61
        right
        have ans : cLp b (N4 + 1) s4 Zc4 = some (i3 2, Zc4) := by
          rw [row4, if_neg n60, if_neg n61, if_neg n62]
          have cc : f60_closeCurly (b + 1) Zc4 = some (2, Zc4) := by
            unfold f60_closeCurly
            rw [y7.1, y8, if_neg (by decide)]
          split
          · rw [cc, mjBd_some, mjBd_some, if_neg (by decide)]; rfl
          · rw [mjBd_some, if_neg (by decide)]; rfl
        refine oBad_go (oBad_here hg4 (k := 2) (by omega) ans (fun Zm5 f1 f2 f3 => ⟨zSi Zm5 211 19 0, ?_, fltM_of f2 (si_fld _ _ _ _ (by omega)) (si_fld _ _ _ _ (by omega)), eqCd_si (by omega)⟩)) g4
        have f1' : f206_wrong 2 Zm4 = some ((), Zm5) := f1
        rw [s60, q60, mjBp_some, if_neg (by decide), s62, q62, mjBp_some, if_neg (by decide), s61, q61, mjBp_some, if_neg (by decide), f1', mjBd_some, m111f f2 (fK_b (by omega))]
end CN
