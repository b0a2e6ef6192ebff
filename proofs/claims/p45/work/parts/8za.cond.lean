/-! CONDITIONS READ: a condition, from its begin to its end -/
section CD
variable {X : Nat → Nat} {n b fr wr : Nat}
theorem wf_end {S : mjS} {m e : Nat} (hi : cI S fr m [] e) (hh : hasI S m e true) : WF S fr m := by
  have : e = fr := hi.2.1
  subst this
  exact ⟨hh.1, hh.2.2, hh.2.1, hi.2.2⟩
/-- neither and nor or nor a ) that closes: the condition ends, or a bracket is open -/
theorem t_end (hb : b = 2 ∨ b = 92) (hn : n ≤ 700) (hX : ∀ k, X k ≤ 255) {Zc Zm : mjZt} {S : mjS} {m p s N e M : Nat} {L : pL}
    (h : cdS X n b Zc Zm S fr m wr L 3 p s (N + 1)) (hpt : pT L) (hi : cI S fr m L e) (hh : hasI S m e true) (er4 : rd (qT 4) L S m = rd (fun c => decide (41 ≤ c ∧ c ≤ 42)) L S m) (te1 : f52_truthEnds Zc = some 1) (qP : ¬ (sgn X n p 41 = true ∧ opn L ≠ 0)) (hM : 1 ≤ M)
    (md : f224_test_h21 (M + 1) 1 Zm = mjBd (f218_works 41 42 Zm) fun _ Z122 => mjBp (f216_top Z122) fun v124 => if mjCmp .ne v124 50 = true then f224_test_j124 (f224_test_h21 M) 0 Z122 else f224_test_j124 (f224_test_h21 M) 1 Z122) :
    tGood X n b fr wr (cLp b (N + 1) s Zc) (f224_test_h21 (M + 1) 1 Zm) Zc Zm S m p ∨ oBad X n b wr m (cLp b (N + 1) s Zc) (f224_test_h21 (M + 1) 1 Zm) Zc Zm := by
  obtain ⟨hg, h0, hpk, ht, hd, hbs, hkf, ho, hw, hsp, hN⟩ := h
  have hp5 := hg.2.2.2.2
  have hst : stg 30 true L := Or.inr ⟨rfl, hpt⟩
  have len := stg_len hst ho
  have oR := opn_rd (q := fun c => decide (41 ≤ c ∧ c ≤ 42)) L S m (fun c g => by
    have : 41 ≤ c ∧ c ≤ 42 := of_decide_eq_true g
    exact decide_eq_false (by omega))
  rw [← er4] at oR
  have q4 := q4_top L S m hpt
  obtain ⟨e2, ty2, k1, k2, k3, k4, k5', k6, k7, k8, k9, k10⟩ := rd_ok (x := 30) (q := qT 4) (fun c g => qT_p g) L S m e true hi hh hst
  obtain ⟨Za', a1, a2, a3, a4⟩ := e49 (wr := wr) hb (x := 30) (tg := 4) (by omega) L S m e true mjF Zc (fun g => by omega) hi hh hst hpk ht (by omega) ho (by unfold mjF; omega)
  have a1' : f49_reduce (b + 1) 4 Zc = some ((), Za') := a1
  obtain ⟨Zb', b1, b2, b3, b4⟩ := m218 (lo := 41) (hi := 42) (q := fun c => decide (41 ≤ c ∧ c ≤ 42)) (fun c => by rw [decide_eq_true_eq]) (by omega) L S m mjF Zm hd hbs (stg_mem hst) (by omega) (by omega) (by unfold mjF; omega)
  have b1' : f218_works 41 42 Zm = some ((), Zb') := b1
  rw [← er4] at b2 b3
  have pT4 : pT (rd (qT 4) L S m).2.2 := rd_T L _ _ hpt
  generalize hR : rd (qT 4) L S m = R at *
  obtain ⟨S1, m1, L1⟩ := R
  simp only at *
  have fin := e53 hb a3
  have row := cl3e (b := b) (N := N) (s := s) hb h0 (by omega) te1 a1' fin
  have ty0 : ty2 = true := by
    rcases k3 with ⟨_, g⟩ | ⟨g, _⟩
    · exact (pN_pT _ g pT4).elim
    · exact g
  subst ty0
  have hb9 : Zb'.1 211 9 = 0 := by rw [b4.2.2 9 (by omega) (by omega) (by omega)]; exact hg.2.2.2.1
  have op1 : (zSi Za' (b + 1 + 5) wr (i3 m1)).1 185 1 = i3 (opn L) := by
    rw [si_obj _ _ _ _ (by omega), a2.1, cL_opn, oR]
  rw [op1] at row
  have cc : eqCc b wr m Zc (zSi Za' (b + 1 + 5) wr (i3 m1)) := by
    refine eqCc_tr (m2 := m) a4.1 ⟨rfl, fun _ _ => rfl, fun c _ _ _ _ g => si_obj _ _ _ _ (by omega), fun j c q1 q2 => by rw [si_obj _ _ _ _ (by omega)], fun j c q1 q2 => ?_⟩ (Nat.le_refl _)
    rcases (by omega : j = 0 ∨ j = 1 ∨ j = 2) with rfl | rfl | rfl
    · rw [si_obj _ _ _ _ (by omega)]
    · rw [si_fld _ _ _ _ (by omega)]
    · rw [si_obj _ _ _ _ (by omega)]
  have gfin : gd X n (zSi Za' (b + 1 + 5) wr (i3 m1)) Zb' p := gd_cc hb hg cc (by rw [si_lng, a4.2.1]) (by rw [si_obj _ _ _ _ (by omega), a4.2.2.1]) b4
  have top := m216 b2 (by rw [b4.2.2 19 (by omega) (by omega) (by omega), hbs, b3]) (by have := stg_len k3 (by omega); omega)
  have tr1 : trC b (zSi Za' (b + 1 + 5) wr (i3 m1)) S1 fr m1 wr := by
    obtain ⟨t1, t2, t3, t4, t5, t6, t7⟩ := a3
    refine ⟨by rw [si_obj _ _ _ _ (by omega)]; exact t1, by rw [si_obj _ _ _ _ (by omega)]; exact t2, t3, by rw [si_obj _ _ _ _ (by omega)]; exact t4, by rw [si_obj _ _ _ _ (by omega)]; exact t5, fun i q1 q2 => ?_, t7⟩
    rw [si_obj _ _ _ _ (by omega), si_obj _ _ _ _ (by omega), si_obj _ _ _ _ (by omega)]
    exact t6 i q1 q2
  have sm : (zSi Za' (b + 1 + 5) wr (i3 m1)).1 (b + 1 + 5) wr = i3 m1 := si_same _ _ _ _
  generalize hZf : zSi Za' (b + 1 + 5) wr (i3 m1) = Zf at *
  rw [row, md, b1', mjBd_some, top, mjBp_some]
  by_cases qZ : opn L = 0
  · left
    rcases q4 with ⟨g, _⟩ | ⟨a, K, g1, _⟩
    rotate_left
    · subst g1
      have : opn (((50 : Int), a) :: K) = opn K + 1 := rfl
      omega
    subst g
    have kf1 : kfM Zb' := ⟨fun j hj => by rw [b4.1]; exact hkf.1 j hj, fun j hj => by rw [b4.1]; exact hkf.2 j hj⟩
    refine ⟨Zf, Zb', S1, m1, p, ?_, ?_, gfin, tr1, sm, wf_end k1 k2, b2.1, b2.2.1, kf1, by omega, Nat.le_refl _, k4, k7, k8, cc, eqWk_d b4⟩
    · rw [qZ]
      exact if_neg (by decide)
    · rw [tpL, if_pos (by decide)]
      unfold f224_test_j124
      rw [if_pos (by decide)]
      obtain ⟨M, rfl⟩ : ∃ M0, M = M0 + 1 := ⟨M - 1, by omega⟩
      rw [f224_test_h21, gdM hb9, mjBp_some, if_neg (by decide), if_pos (by decide)]
  · right
    rcases q4 with ⟨_, g⟩ | ⟨a, K, g1, _⟩
    · omega
    have nP : sgn X n p 41 = false := by
      cases g : sgn X n p 41 with
      | false => rfl
      | true => exact absurd ⟨g, qZ⟩ qP
    obtain ⟨Zm1, w1, w2, w3⟩ := flM gfin.2.1 hb9 2
    have kb := fK_bd (X := X) (n := n) (p := p) (k := 2) (by omega)
    refine ⟨2, p, Zf, Zm1, by omega, by omega, ?_, ?_, gfin.1, hp5, gfin.2.2.1, w2, cc, eqCd_tr (eqWk_d b4) (eqGw_d w3)⟩
    · rw [show (0 : Int32) = i3 0 from rfl, if_pos (by rw [c_ne (by omega)]; omega)]; rfl
    · have m9 : f209_isSignHere 41 Zb' = some (bI (sgn X n p 41)) := m209 gfin.2.1 hX hb9 (c := 41) (by omega)
      have w1' : f206_wrong 2 Zb' = some ((), Zm1) := w1
      subst g1
      rw [show tpL (((50 : Int), a) :: K) = 50 from rfl, if_neg (by decide)]
      unfold f224_test_j124 f220_closes f220_closes_j13
      rw [if_neg (by decide), m9, nP, mjBp_some, if_neg (by decide), w1', mjBd_some, if_neg (bdL w2 kb), mjBd_some, m222f w2 kb, mjBd_some]
      obtain ⟨M, rfl⟩ : ∃ M0, M = M0 + 1 := ⟨M - 1, by omega⟩
      exact m224f w2 kb 1
/-- a condition's test: its loop -/
theorem t_tst (hb : b = 2 ∨ b = 92) (hn : n ≤ 700) (hX : ∀ k, X k ≤ 255) : ∀ (k : Nat) {Zc Zm : mjZt} {S : mjS} {m p s N e M : Nat} {L : pL}, n - p < k → n - p + 3 ≤ M → cdS X n b Zc Zm S fr m wr L 3 p s N → pT L → (∀ c a M, L = (c, a) :: M → c ≠ 40) → cI S fr m L e → hasI S m e true →
    tGood X n b fr wr (cLp b N s Zc) (f224_test_h21 M 1 Zm) Zc Zm S m p ∨ oBad X n b wr m (cLp b N s Zc) (f224_test_h21 M 1 Zm) Zc Zm
  | 0, Zc, Zm, S, m, p, s, N, e, M, L, hk, _, _, _, _, _, _ => by omega
  | k + 1, Zc, Zm, S, m, p, s, N, e, M, L, hk, hM, h, hpt, ht4, hi, hh => by
    have h' := h
    obtain ⟨hg, h0, hpk, ht, hd, hbs, hkf, ho, hw, hsp, hN⟩ := h'
    have hp := jE_bd (X := X) hg.2.2.2.2
    have hp5 := hg.2.2.2.2
    obtain ⟨N, rfl⟩ : ∃ N0, N = N0 + 1 := ⟨N - 1, by omega⟩
    obtain ⟨M, rfl⟩ : ∃ M0, M = M0 + 1 := ⟨M - 1, by omega⟩
    have hst : stg 30 true L := Or.inr ⟨rfl, hpt⟩
    have len := stg_len hst ho
    have ih : ∀ {Zc3 Zm3 : mjZt} {S3 : mjS} {m3 p3 s3 N3 e3 : Nat} {L3 : pL}, p < p3 → cdS X n b Zc3 Zm3 S3 fr m3 wr L3 3 p3 s3 N3 → pT L3 → (∀ c a M, L3 = (c, a) :: M → c ≠ 40) → cI S3 fr m3 L3 e3 → hasI S3 m3 e3 true → tGood X n b fr wr (cLp b N3 s3 Zc3) (f224_test_h21 M 1 Zm3) Zc3 Zm3 S3 m3 p3 ∨ oBad X n b wr m3 (cLp b N3 s3 Zc3) (f224_test_h21 M 1 Zm3) Zc3 Zm3 := by
      intro Zc3 Zm3 S3 m3 p3 s3 N3 e3 L3 g1 g2 g3 g4 g5 g6
      have hpn3 := g2.1.2.2.2.2
      exact t_tst hb hn hX k (M := M) (p := p3) (by omega) (by omega) g2 g3 g4 g5 g6
    have mA : f208_isWord 6385252 Zm = some (bI (decide (jS X n p = 1 ∧ jN X n p = 6385252))) := m208 hg.2.1 hX hg.2.2.2.1 (w := 6385252) (by decide)
    have mO : f208_isWord 28530 Zm = some (bI (decide (jS X n p = 1 ∧ jN X n p = 28530))) := m208 hg.2.1 hX hg.2.2.2.1 (w := 28530) (by decide)
    have te := e52 hg.1 hX hpk (by rw [pT_cL L hpt]; exact ho)
    rw [pT_cL L hpt] at te
    obtain ⟨j2, j3, _⟩ := iJ (X := X) (n := n) (p := p)
    have bJ := ixT_bd (X := X) (n := n) (p := p) (L := LJ) (N := 5)
    have h183 : Zc.1 183 3 = i3 (kd X n p) := hg.1.2.2.1
    have ks := kd_spec (X := X) (n := n) (p := p)
    have k5 := kd_255 (n := n) (p := p) hX
    have k41 := kdS (X := X) (n := n) (p := p) (c := 41) (by omega)
    obtain ⟨er5, er4⟩ := rd_T5 S m hpt ht4
    by_cases qA : jS X n p = 1 ∧ jN X n p = 6385252
    · have te0 : f52_truthEnds Zc = some 0 := by rw [te, decide_eq_true qA]; rfl
      have truth : f62_goOnWithTruth (b + 1) Zc = mjBd (f59_join (b + 1) 5 5 Zc) fun v Z1 => some (v, Z1) := by
        unfold f62_goOnWithTruth
        rw [h183, show (41 : Int32) = i3 41 from rfl, if_pos (by rw [c_ne (by omega)]; omega), ixJ hg.1 hX (Or.inl rfl), mjBp_some, show (2 : Int32) = i3 2 from rfl, if_neg (by rw [c_ne (by omega)]; have := j2.mpr qA; omega)]
      exact t_op4 (tg := 5) (up := 41) (c := 41) (q1 := fun c => decide (41 ≤ c ∧ c ≤ 41)) hb hn hX (Or.inl ⟨rfl, rfl, rfl⟩) (fun d => by rw [decide_eq_true_eq]) h (by omega) hpt hi hh er5 (e58_no (k := 5) (Or.inl (by decide)) _ _ rfl)
        (fun Zc1 Zc2 g1 g2 => by
          have g1' : f59_join (b + 1) 5 5 Zc = some (0, Zc1) := g1
          rw [cl3 h0 (by omega) te0, truth, g1', mjBd_some, mjBd_some, if_pos (by decide), g2, mjBd_some])
        (fun Za Zb Zm2 g1 g2 g3 => by
          have g1' : f218_works 41 41 Zm = some ((), Za) := g1
          have g2' : f215_waitsFor 41 Za = some ((), Zb) := g2
          rw [f224_test_h21, gdM hg.2.2.2.1, mjBp_some, if_neg (by decide), if_neg (by decide), mA, decide_eq_true qA, mjBp_some, if_neg (by decide), g1', mjBd_some, g2', mjBd_some, g3, mjBd_some])
        (by omega) ih
    · by_cases qO : jS X n p = 1 ∧ jN X n p = 28530
      · have te0 : f52_truthEnds Zc = some 0 := by rw [te, decide_eq_false qA, decide_eq_true qO]; rfl
        have truth : f62_goOnWithTruth (b + 1) Zc = mjBd (f59_join (b + 1) 4 4 Zc) fun v Z1 => some (v, Z1) := by
          unfold f62_goOnWithTruth
          rw [h183, show (41 : Int32) = i3 41 from rfl, if_pos (by rw [c_ne (by omega)]; omega), ixJ hg.1 hX (Or.inl rfl), mjBp_some, show (2 : Int32) = i3 2 from rfl, if_pos (by rw [c_ne (by omega)]; have := j3.mpr qO; omega)]
        exact t_op4 (tg := 4) (up := 42) (c := 42) (q1 := fun c => decide (41 ≤ c ∧ c ≤ 42)) hb hn hX (Or.inr ⟨rfl, rfl, rfl⟩) (fun d => by rw [decide_eq_true_eq]) h (by omega) hpt hi hh er4 (e58_no (k := 4) (Or.inl (by decide)) _ _ rfl)
          (fun Zc1 Zc2 g1 g2 => by
            have g1' : f59_join (b + 1) 4 4 Zc = some (0, Zc1) := g1
            rw [cl3 h0 (by omega) te0, truth, g1', mjBd_some, mjBd_some, if_pos (by decide), g2, mjBd_some])
          (fun Za Zb Zm2 g1 g2 g3 => by
            have g1' : f218_works 41 42 Zm = some ((), Za) := g1
            have g2' : f215_waitsFor 42 Za = some ((), Zb) := g2
            rw [f224_test_h21, gdM hg.2.2.2.1, mjBp_some, if_neg (by decide), if_neg (by decide), mA, decide_eq_false qA, mjBp_some, if_pos (by decide), mO, decide_eq_true qO, mjBp_some, if_neg (by decide), g1', mjBd_some, g2', mjBd_some, g3, mjBd_some])
          (by omega) ih
      · -- neither and nor or
        have md : f224_test_h21 (M + 1) 1 Zm = mjBd (f218_works 41 42 Zm) fun _ Z122 => mjBp (f216_top Z122) fun v124 => if mjCmp .ne v124 50 = true then f224_test_j124 (f224_test_h21 M) 0 Z122 else f224_test_j124 (f224_test_h21 M) 1 Z122 := by
          rw [f224_test_h21, gdM hg.2.2.2.1, mjBp_some, if_neg (by decide), if_neg (by decide), mA, decide_eq_false qA, mjBp_some, if_pos (by decide), mO, decide_eq_false qO, mjBp_some, if_pos (by decide)]
        rw [decide_eq_false qA, decide_eq_false qO, Bool.false_or, Bool.false_or] at te
        have q4 := q4_top L S m hpt
        have oR := opn_rd (q := fun c => decide (41 ≤ c ∧ c ≤ 42)) L S m (fun c g => by
          have : 41 ≤ c ∧ c ≤ 42 := of_decide_eq_true g
          exact decide_eq_false (by omega))
        rw [← er4] at oR
        by_cases qP : sgn X n p 41 = true ∧ opn L ≠ 0
        · have sg : jS X n p = 3 ∧ jV X n p = 41 := of_decide_eq_true qP.1
          have te0 : f52_truthEnds Zc = some 0 := by rw [te, qP.1, decide_eq_true qP.2]; rfl
          rcases q4 with ⟨_, g⟩ | ⟨a, K, g1, g2⟩
          · rw [g] at oR
            exact absurd oR.symm qP.2
          obtain ⟨Zc1, Za, Zm0, Zm1, S1, m1, L1, e1, z1, z2, z3, z4, z5, z6, z7, z8, z9, z10, z11, z12⟩ := t_par hb hn hX h (by omega) hpt hi hh qP.1 er4 g1 g2 te0
          rw [z1, md, z2, mjBd_some, z3, mjBp_some, if_neg (by decide)]
          unfold f224_test_j124
          rw [if_neg (by decide), z4, mjBd_some, z5, mjBd_some]
          rcases ih z11 z6 z7 z8 z9 z10 with w | w
          · exact Or.inl (tGood_go w (by omega) z12)
          · exact Or.inr (oBad_go w z12)
        · have te1 : f52_truthEnds Zc = some 1 := by
            rw [te]
            cases g : sgn X n p 41 with
            | false => rfl
            | true =>
              rw [decide_eq_false (fun k => qP ⟨g, k⟩)]; rfl
          exact t_end hb hn hX h hpt hi hh er4 te1 qP (by omega) md
/-- a condition: the class's read, the model's test -/
theorem t_cond (hb : b = 2 ∨ b = 92) (hn : n ≤ 700) (hX : ∀ k, X k ≤ 255) {Zc Zm : mjZt} {S : mjS} {m p : Nat} (hg : gd X n Zc Zm p) (h7 : Zc.1 (b + 1) 7 = i3 m) (hwr : wr < 16) (hmp : m ≤ p) (hr : ∀ k, Zm.1 215 k = i3 (S 9 k)) (h17 : Zm.1 211 17 = i3 m) (hkf : kfM Zm) :
    tGood X n b m wr (f69_read (b + 1) (i3 wr) Zc) (f224_test Zm) Zc Zm S m p ∨ oBad X n b wr m (f69_read (b + 1) (i3 wr) Zc) (f224_test Zm) Zc Zm := by
  have hp5 := hg.2.2.2.2
  have i4 : mjIs (b + 1 + 4) 211 13 = true := is_b2 hb 3 (by omega)
  have i6' : mjIs (b + 1 + 6) 211 13 = true := is_b2 hb 5 (by omega)
  have l4 : (mjLay (b + 1 + 4)).2 = 16 := (is_trm hb).2 0 (by omega)
  have l6 : (mjLay (b + 1 + 6)).2 = 16 := (is_trm hb).2 2 (by omega)
  generalize hZa : zSi (zSi (zSi Zc 185 0 0) 185 1 0) 185 6 0 = Za
  have za7 : Za.1 (b + 1) 7 = i3 m := by rw [← hZa, si_obj _ _ _ _ (by omega), si_obj _ _ _ _ (by omega), si_obj _ _ _ _ (by omega)]; exact h7
  generalize hZb : zSi (zSi (zSi Za (b + 1) 6 (i3 wr)) (b + 1 + 4) wr (i3 m)) (b + 1 + 6) wr 0 = Zb
  have cl : f69_read (b + 1) (i3 wr) Zc = cLp b 20000 0 Zb := by
    unfold f69_read f46_begin
    rw [let_eq, let_eq, let_eq, if_pos (is_b1 hb), hZa, show (0 : Int32) = i3 0 from rfl, if_neg (by rw [c_lt (by omega)]; omega), if_pos (is_b1 hb), if_pos i4, l4, i3_ofNat, if_neg (by rw [c_ge (by omega)]; omega), let_eq, if_pos (in_p (by omega)), ix_nat (by omega), si_fld _ _ _ _ (by omega), za7, let_eq, if_pos i6', l6, if_pos (in_p (by omega)), let_eq, mjBd_some]
    have : zSi (zSi (zSi Za (b + 1) 6 (i3 wr)) (b + 1 + 4) wr (i3 m)) (b + 1 + 6) wr (i3 0) = Zb := hZb
    rw [this]; rfl
  generalize hZm : zSi (zSi (zSi Zm 211 18 0) 211 19 0) 211 20 0 = Zm0
  have md : f224_test Zm = mjBd (f223_comparison Zm0) fun _ Z106 => f224_test_h21 mjF 1 Z106 := by
    unfold f224_test
    rw [let_eq, let_eq, let_eq, hZm]
  have o85 : ∀ a, a ≠ 185 → (a ≤ b ∨ b + 7 < a) → Zb.1 a = Zc.1 a := fun a g1 g2 => by rw [← hZb, si_obj _ _ _ _ (by omega), si_obj _ _ _ _ (by omega), si_obj _ _ _ _ (by omega), ← hZa, si_obj _ _ _ _ g1, si_obj _ _ _ _ g1, si_obj _ _ _ _ g1]
  have b85 : Zb.1 185 = Za.1 185 := by rw [← hZb, si_obj _ _ _ _ (by omega), si_obj _ _ _ _ (by omega), si_obj _ _ _ _ (by omega)]
  have lng : Zb.2 = Zc.2 := by rw [← hZb, ← hZa]; rfl
  have cc : eqCc b wr m Zc Zb := by
    refine ⟨by rw [lng], fun a _ => by rw [lng], fun a _ g _ _ g2 => o85 a g g2, fun j k q1 q2 => ?_, fun j k q1 q2 => ?_⟩
    · rw [← hZb, si_obj _ _ _ _ (by omega), si_obj _ _ _ _ (by omega), si_obj _ _ _ _ (by omega), ← hZa, si_obj _ _ _ _ (by omega), si_obj _ _ _ _ (by omega), si_obj _ _ _ _ (by omega)]
    · have a1 : Za.1 (b + 1 + (j + 4)) = Zc.1 (b + 1 + (j + 4)) := by rw [← hZa, si_obj _ _ _ _ (by omega), si_obj _ _ _ _ (by omega), si_obj _ _ _ _ (by omega)]
      rw [← a1, ← hZb]
      rcases (by omega : j = 0 ∨ j = 1 ∨ j = 2) with rfl | rfl | rfl
      · rw [si_obj _ _ _ _ (by omega), si_fld _ _ _ _ (by omega), si_obj _ _ _ _ (by omega)]
      · rw [si_obj _ _ _ _ (by omega), si_obj _ _ _ _ (by omega), si_obj _ _ _ _ (by omega)]
      · rw [si_fld _ _ _ _ (by omega), si_obj _ _ _ _ (by omega), si_obj _ _ _ _ (by omega)]
  have em : eqCd Zm Zm0 := by rw [← hZm]; exact eqCd_tr (eqCd_si (by omega)) (eqCd_tr (eqCd_si (by omega)) (eqCd_si (by omega)))
  have mo : ∀ a, a ≠ 211 → Zm0.1 a = Zm.1 a := fun a g => by rw [← hZm, si_obj _ _ _ _ g, si_obj _ _ _ _ g, si_obj _ _ _ _ g]
  have mf : ∀ f, f ≠ 18 → f ≠ 19 → f ≠ 20 → Zm0.1 211 f = Zm.1 211 f := fun f g1 g2 g3 => by rw [← hZm, si_fld _ _ _ _ (by omega), si_fld _ _ _ _ (by omega), si_fld _ _ _ _ (by omega)]
  have g2 : gd X n Zb Zm0 p := gd_of hg (by rw [lng]) (o85 1 (by omega) (by omega)) (o85 183 (by omega) (by omega)) (by rw [lng]) (by rw [o85 182 (by omega) (by omega)]) (mo 212 (by omega)) (fun f g1 g2 => mf f (by omega) (by omega) (by omega)) (by rw [← hZm]; rfl)
  have cd : cdS X n b Zb Zm0 S m m wr [] 0 p 0 20000 := by
    refine ⟨g2, ?_, ⟨?_, ?_, trivial⟩, ⟨?_, ?_, hwr, ?_, ?_, fun i q1 q2 => by omega, Nat.le_refl _⟩, ⟨fun k => by rw [mo 215 (by omega)]; exact hr k, by rw [mf 17 (by omega) (by omega) (by omega)]; exact h17, ?_, ?_, trivial⟩, ?_, ⟨fun j hj => by rw [← hZm]; exact hkf.1 j hj, fun j hj => by rw [← hZm]; exact hkf.2 j hj⟩, by rw [opn]; omega, by rw [wtL]; omega, by omega, by omega⟩
    · rw [b85, ← hZa, si_fld _ _ _ _ (by omega), si_fld _ _ _ _ (by omega), si_same]
    · rw [b85, ← hZa, si_fld _ _ _ _ (by omega), si_same]; rfl
    · rw [b85, ← hZa, si_same]; rfl
    · rw [← hZb, si_obj _ _ _ _ (by omega), si_obj _ _ _ _ (by omega), si_fld _ _ _ _ (by omega)]; exact za7
    · rw [← hZb, si_obj _ _ _ _ (by omega), si_obj _ _ _ _ (by omega), si_same]
    · rw [← hZb, si_obj _ _ _ _ (by omega), si_same]
    · rw [← hZb, si_same, ci_0]; rfl
    · rw [← hZm, si_fld _ _ _ _ (by omega), si_fld _ _ _ _ (by omega), si_same]; rfl
    · rw [← hZm, si_same]; rfl
    · rw [← hZm, si_fld _ _ _ _ (by omega), si_same]; rfl
  have ci0 : cI S m m [] m := ⟨Nat.le_refl _, rfl, fun i q1 q2 => by omega⟩
  have g0 : grw b wr m m S S Zc Zm Zb Zm0 := ⟨Nat.le_refl _, fun _ _ => rfl, fun _ _ => rfl, cc, em⟩
  rw [cl, md]
  rcases t_cmp hb hn hX (n - p + 1) (p := p) (M := mjF) (by omega) (by unfold mjF; omega) cd trivial ci0 with ⟨Zc3, Zm3, S3, m3, L3, p3, s3, N3, e3, z1, z2, z3, z4, z5, z6, z7, z8, z9⟩ | z
  · have z2' : f223_comparison Zm0 = some ((), Zm3) := z2
    have hp3 := z3.1.2.2.2.2
    rw [z1, z2', mjBd_some]
    rcases t_tst hb hn hX (n - p3 + 1) (p := p3) (M := mjF) (by omega) (by unfold mjF; omega) z3 z4 z5 z6 z7 with w | w
    · exact Or.inl (tGood_go w (by omega) (grw_tr g0 z9))
    · exact Or.inr (oBad_go w (grw_tr g0 z9))
  · right
    exact oBad_bd (F := fun Z => f224_test_h21 mjF 1 Z) (oBad_go z g0) (fun Z k q f1 f2 => ⟨Z, m224f (M := mjF - 1) f1 f2 1, rfl, rfl, eqCd_rf⟩)
/-- a condition has at most a quarter of its codes for comparisons -/
theorem cnt_ok {S : mjS} {to : Nat} (h : WF S fr to) : ∀ (k i : Nat), i < k → fr ≤ i → i < to → (isTt (S 9 i) = false → ciS S fr (i + 1) = ciS S fr (spS S i)) ∧ (isTt (S 9 i) = true → 4 * (ciS S fr (i + 1) - ciS S fr (spS S i)) ≤ ((i + 1 - spS S i : Nat) : Int) + 1)
  | 0, i, hk, _, _ => by omega
  | k + 1, i, hk, hf, ht => by
    obtain ⟨h1, h2, h3⟩ := h.2.2.2 i hf ht
    have sl := sp_le S i
    have sf := WF_sp h hf ht
    have cs := ci_s S (fr := fr) (k := i) hf
    cases q : isLf (S 9 i) with
    | true =>
      have hl : 100 ≤ S 9 i ∨ S 9 i ≤ 11 := of_decide_eq_true q
      have nt : isTt (S 9 i) = false := by unfold isTt; exact decide_eq_false (by unfold cdv at h1; omega)
      have nc : isCm (S 9 i) = false := by unfold isCm; exact decide_eq_false (by unfold cdv at h1; omega)
      rw [sp_leaf q, nt, cs, nc]
      exact ⟨fun _ => by simp, fun g => by cases g⟩
    | false =>
      by_cases q40 : S 9 i = 40
      · obtain ⟨g1, g2, g3⟩ := h2 q40
        have ih := cnt_ok h k (i - 1) (by omega) (by omega) (by omega)
        have s1 := sp_le S (i - 1)
        rw [show i - 1 + 1 = i by omega] at ih
        have i2 := ih.2 g2
        have tt : isTt (S 9 i) = true := by rw [q40]; rfl
        have nc : isCm (S 9 i) = false := by rw [q40]; rfl
        rw [sp_not q40 (by omega), tt, cs, nc]
        refine ⟨fun g => (by cases g), fun _ => ?_⟩
        simp only [Bool.false_eq_true, if_false, Int.add_zero]
        omega
      · obtain ⟨g1, g2, g3, g4, g5, g6⟩ := h3 q q40
        have e1 : lfS S i = spS S (i - 1) - 1 := rfl
        have s1 := sp_le S (i - 1)
        have s2 := sp_le S (lfS S i)
        have ihr := cnt_ok h k (i - 1) (by omega) (by omega) (by omega)
        have ihl := cnt_ok h k (lfS S i) (by omega) (by omega) (by omega)
        rw [show i - 1 + 1 = i by omega] at ihr
        rw [show lfS S i + 1 = spS S (i - 1) by omega] at ihl
        rw [sp_bin q q40 (by omega), cs]
        by_cases q32 : S 9 i ≤ 32
        · obtain ⟨t1, t2⟩ := g4 q32
          have r1 := ihr.1 t1
          have r2 := ihl.1 t2
          cases qc : isCm (S 9 i) with
          | false =>
            have nt : isTt (S 9 i) = false := by
              have : ¬ (30 ≤ S 9 i ∧ S 9 i ≤ 32) := of_decide_eq_false qc
              unfold isTt; exact decide_eq_false (by omega)
            rw [nt]
            refine ⟨fun _ => ?_, fun g => by cases g⟩
            simp only [Bool.false_eq_true, if_false, Int.add_zero]
            omega
          | true =>
            have : 30 ≤ S 9 i ∧ S 9 i ≤ 32 := of_decide_eq_true qc
            have tt : isTt (S 9 i) = true := by unfold isTt; exact decide_eq_true (by omega)
            rw [tt]
            refine ⟨fun g => (by cases g), fun _ => ?_⟩
            simp only [if_true]
            omega
        · have c41 : S 9 i = 41 ∨ S 9 i = 42 := by unfold cdv at h1; have : ¬ (100 ≤ S 9 i ∨ S 9 i ≤ 11) := of_decide_eq_false q; omega
          obtain ⟨t1, t2⟩ := g6 (by omega)
          have r1 := ihr.2 t1
          have r2 := ihl.2 t2
          have tt : isTt (S 9 i) = true := by unfold isTt; exact decide_eq_true (by omega)
          have nc : isCm (S 9 i) = false := by unfold isCm; exact decide_eq_false (by omega)
          rw [tt, nc]
          refine ⟨fun g => (by cases g), fun _ => ?_⟩
          simp only [Bool.false_eq_true, if_false, Int.add_zero]
          omega
theorem cnt_180 {S : mjS} {to : Nat} (h : WF S fr to) (ht : to ≤ 700) : ciS S fr to ≤ 180 := by
  have h0 := h
  obtain ⟨h1, h2, h3, _⟩ := h
  have c := (cnt_ok h0 to (to - 1) (by omega) (by omega) (by omega)).2 h2
  rw [show to - 1 + 1 = to by omega, h3, ci_0] at c
  omega
end CD
