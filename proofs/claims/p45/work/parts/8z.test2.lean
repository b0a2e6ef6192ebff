/-! CONDITIONS READ: a condition, whole -/
section TW
variable {X : Nat → Nat} {n b fr wr : Nat}
def tGood (X : Nat → Nat) (n b fr wr : Nat) (rc : Option (Int32 × mjZt)) (rm : Option (Unit × mjZt)) (Zc Zm : mjZt) (S : mjS) (m p : Nat) : Prop :=
  ∃ Zc1 Zm1 S1 m1 p1, rc = some (i3 0, Zc1) ∧ rm = some ((), Zm1) ∧ gd X n Zc1 Zm1 p1 ∧ trC b Zc1 S1 fr m1 wr ∧ Zc1.1 (b + 1 + 5) wr = i3 m1 ∧ WF S1 fr m1 ∧ (∀ k, Zm1.1 215 k = i3 (S1 9 k)) ∧ Zm1.1 211 17 = i3 m1 ∧ kfM Zm1 ∧ m1 ≤ p1 ∧ p ≤ p1 ∧ grw b wr m m1 S S1 Zc Zm Zc1 Zm1
theorem tGood_go {rc : Option (Int32 × mjZt)} {rm : Option (Unit × mjZt)} {Zc Zm Zc0 Zm0 : mjZt} {S S0 : mjS} {m p m0 p0 : Nat} (h : tGood X n b fr wr rc rm Zc Zm S m p) (hp : p0 ≤ p) (g : grw b wr m0 m S0 S Zc0 Zm0 Zc Zm) : tGood X n b fr wr rc rm Zc0 Zm0 S0 m0 p0 := by
  obtain ⟨Zc1, Zm1, S1, m1, p1, z1, z2, z3, z4, z5, z6, z7, z8, z9, z10, z11, z12⟩ := h
  exact ⟨Zc1, Zm1, S1, m1, p1, z1, z2, z3, z4, z5, z6, z7, z8, z9, z10, by omega, grw_tr g z12⟩
theorem m224f {M : Nat} {Z : mjZt} {k : Int} {q : Nat} (h : fltM Z k q) (hk : 1 ≤ k ∧ k ≤ 7) (v : Int32) : f224_test_h21 (M + 1) v Z = some ((), Z) := by
  rw [f224_test_h21, bdM h hk, mjBp_some, if_pos (by decide)]
theorem m222f {Z : mjZt} {k : Int} {q : Nat} (h : fltM Z k q) (hk : 1 ≤ k ∧ k ≤ 7) : f222_ends Z = some ((), Z) := by
  show f222_ends_h0 (19999 + 1) Z = some ((), Z)
  rw [f222_ends_h0, bdM h hk, mjBp_some, if_pos (by decide)]
theorem e53 (hb : b = 2 ∨ b = 92) {Z : mjZt} {S : mjS} {m : Nat} (h : trC b Z S fr m wr) : f53_finish (b + 1) Z = some ((), zSi Z (b + 1 + 5) wr (i3 m)) := by
  obtain ⟨h1, h2, h3, _⟩ := h
  have i5 : mjIs (b + 1 + 5) 211 13 = true := is_b2 hb 4 (by omega)
  have l5 : (mjLay (b + 1 + 5)).2 = 16 := (is_trm hb).2 1 (by omega)
  unfold f53_finish
  rw [if_pos (is_b1 hb), h2, show (0 : Int32) = i3 0 from rfl, if_neg (by rw [c_lt (by omega)]; omega), if_pos i5, l5, i3_ofNat, if_neg (by rw [c_ge (by omega)]; omega), if_pos (in_p (by omega)), ix_nat (by omega), h1, let_eq]
/-- an and, an or: what is behind -/
theorem t_op4 (hb : b = 2 ∨ b = 92) (hn : n ≤ 700) (hX : ∀ k, X k ≤ 255) {tg up c : Int} {q1 : Int → Bool} {Zc Zm : mjZt} {S : mjS} {m p s N e M : Nat} {L : pL}
    (hc : (c = 41 ∧ tg = 5 ∧ up = 41) ∨ (c = 42 ∧ tg = 4 ∧ up = 42)) (hq1 : ∀ d, q1 d = true ↔ 41 ≤ d ∧ d ≤ up)
    (h : cdS X n b Zc Zm S fr m wr L 3 p s (N + 1)) (hs : jS X n p ≠ 0) (hpt : pT L) (hi : cI S fr m L e) (hh : hasI S m e true) (eqr : rd (qT tg) L S m = rd q1 L S m)
    (hj : f59_join (b + 1) (i3 (opW c)) (i3 tg) Zc = f59_join_j28 (b + 1) (i3 (opW c)) (i3 tg) Zc)
    (hcl : ∀ Zc1 Zc2, f59_join (b + 1) (i3 (opW c)) (i3 tg) Zc = some (0, Zc1) → f68_advance Zc1 = some ((), Zc2) → cLp b (N + 1) s Zc = cLp b N (s + 1) Zc2)
    (hmd : ∀ Za Zb Zm2, f218_works 41 (i3 up) Zm = some ((), Za) → f215_waitsFor (i3 c) Za = some ((), Zb) → f205_goOn Zb = some ((), Zm2) → f224_test_h21 (M + 1) 1 Zm = mjBd (f223_comparison Zm2) fun _ Z => f224_test_h21 M 1 Z)
    (hM : 1 ≤ M)
    (ih : ∀ {Zc3 Zm3 : mjZt} {S3 : mjS} {m3 p3 s3 N3 e3 : Nat} {L3 : pL}, p < p3 → cdS X n b Zc3 Zm3 S3 fr m3 wr L3 3 p3 s3 N3 → pT L3 → (∀ c a M, L3 = (c, a) :: M → c ≠ 40) → cI S3 fr m3 L3 e3 → hasI S3 m3 e3 true → tGood X n b fr wr (cLp b N3 s3 Zc3) (f224_test_h21 M 1 Zm3) Zc3 Zm3 S3 m3 p3 ∨ oBad X n b wr m3 (cLp b N3 s3 Zc3) (f224_test_h21 M 1 Zm3) Zc3 Zm3) :
    tGood X n b fr wr (cLp b (N + 1) s Zc) (f224_test_h21 (M + 1) 1 Zm) Zc Zm S m p ∨ oBad X n b wr m (cLp b (N + 1) s Zc) (f224_test_h21 (M + 1) 1 Zm) Zc Zm := by
  have nc : isCm c = false := decide_eq_false (by omega)
  have no : isOp c = false ∧ c ≠ 52 := ⟨decide_eq_false (by omega), by omega⟩
  have rT := rd_T (q := qT tg) L S m hpt
  obtain ⟨Zc1, Zc2, Za, Zb, Zm2, j1, j2, j3, j4, j5, j6, j7, j8, j9, j10, j11⟩ := t_jn (x := 30) hb hn hX (tg := tg) (lo := 41) (up := up) (by omega) (by omega) hq1 (by omega) h hs hi hh (Or.inr ⟨rfl, hpt⟩) eqr (c := c) no nc (by unfold prp; omega) (fun e2 ty2 g1 g2 => by
    rcases g2 with ⟨_, g2⟩ | ⟨g2, _⟩
    · exact (pN_pT _ g2 rT).elim
    · rw [g2]; exact (decide_eq_true (by omega)).symm) hj
  rw [hcl Zc1 Zc2 j1 j2, hmd Za Zb Zm2 j3 j4 j6]
  obtain ⟨_, _, _, _, _, _, _, _, _, _, j9', _⟩ := rd_ok (x := 30) (fun c g => qT_p g) L S m e true hi hh (Or.inr ⟨rfl, hpt⟩)
  generalize hR : rd (qT tg) L S m = R at *
  obtain ⟨S1, m1, L1⟩ := R
  simp only at *
  rw [if_pos (by omega)] at j7
  have on : onT c L1 := by
    cases L1 with
    | nil => trivial
    | cons d K =>
      obtain ⟨d, a⟩ := d
      have t := j9' d a K rfl
      have hd : d = 40 ∨ d = 41 ∨ d = 42 ∨ d = 50 := of_decide_eq_true rT.1
      refine ⟨fun g => ?_, fun g => ?_⟩
      · have tg5 : tg = 5 := by omega
        subst tg5
        rcases hd with rfl | rfl | rfl | rfl
        · rw [show qT 5 40 = true by decide] at t; cases t
        · rw [show qT 5 41 = true by decide] at t; cases t
        · exact Or.inl rfl
        · exact Or.inr rfl
      · have tg4 : tg = 4 := by omega
        subst tg4
        rcases hd with rfl | rfl | rfl | rfl
        · rw [show qT 4 40 = true by decide] at t; cases t
        · rw [show qT 4 41 = true by decide] at t; cases t
        · rw [show qT 4 42 = true by decide] at t; cases t
        · rfl
  have ist : isT c = true := decide_eq_true (by omega)
  have hpj := j7.1.2.2.2.2
  rcases t_cmp hb hn hX (n - jE X n p + 1) (p := jE X n p) (M := mjF) (by omega) (by unfold mjF; omega) j7 ⟨ist, on, rT⟩ j8 with ⟨Zc3, Zm3, S3, m3, L3, p3, s3, N3, e3, z1, z2, z3, z4, z5, z6, z7, z8, z9⟩ | z
  · have z2' : f223_comparison Zm2 = some ((), Zm3) := z2
    rw [z1, z2', mjBd_some]
    rcases ih (by omega) z3 z4 z5 z6 z7 with w | w
    · exact Or.inl (tGood_go w (by omega) (grw_tr j11 z9))
    · exact Or.inr (oBad_go w (grw_tr j11 z9))
  · right
    obtain ⟨M, rfl⟩ : ∃ M0, M = M0 + 1 := ⟨M - 1, by omega⟩
    exact oBad_bd (F := fun Z => f224_test_h21 (M + 1) 1 Z) (oBad_go z j11) (fun Z k q f1 f2 => ⟨Z, m224f f1 f2 1, rfl, rfl, eqCd_rf⟩)
/-- a ) closes -/
theorem t_par (hb : b = 2 ∨ b = 92) (hn : n ≤ 700) (hX : ∀ k, X k ≤ 255) {Zc Zm : mjZt} {S : mjS} {m p s N e a : Nat} {L K : pL}
    (h : cdS X n b Zc Zm S fr m wr L 3 p s (N + 1)) (hs : jS X n p ≠ 0) (hpt : pT L) (hi : cI S fr m L e) (hh : hasI S m e true) (h41 : sgn X n p 41 = true) (er : rd (qT 4) L S m = rd (fun c => decide (41 ≤ c ∧ c ≤ 42)) L S m) (htop : (rd (qT 4) L S m).2.2 = (50, a) :: K) (hK : pT K) (hte : f52_truthEnds Zc = some 0) :
    ∃ Zc1 Za Zm0 Zm1 S1 m1 L1 e1, cLp b (N + 1) s Zc = cLp b N (s + 1) Zc1 ∧ f218_works 41 42 Zm = some ((), Za) ∧ f216_top Za = some 50 ∧ f220_closes 41 Za = some ((), Zm0) ∧ f222_ends Zm0 = some ((), Zm1) ∧ cdS X n b Zc1 Zm1 S1 fr m1 wr L1 3 (jE X n p) (s + 1) N ∧ pT L1 ∧ (∀ c a M, L1 = (c, a) :: M → c ≠ 40) ∧ cI S1 fr m1 L1 e1 ∧ hasI S1 m1 e1 true ∧ p < jE X n p ∧ grw b wr m m1 S S1 Zc Zm Zc1 Zm1 := by
  obtain ⟨hg, h0, hpk, ht, hd, hbs, hkf, ho, hw, hsp, hN⟩ := h
  have hp := jE_bd (X := X) hg.2.2.2.2
  have hpp := hp.2.2.2 hs
  have hp5 := hg.2.2.2.2
  have hst : stg 30 true L := Or.inr ⟨rfl, hpt⟩
  have len := stg_len hst ho
  obtain ⟨e2, ty2, j1, j2, j3, j4, j5, j6, j7, j8, j9, j10⟩ := rd_ok (x := 30) (q := qT 4) (fun c g => qT_p g) L S m e true hi hh hst
  obtain ⟨Za', a1, a2, a3, a4⟩ := e49 (wr := wr) hb (x := 30) (tg := 4) (by omega) L S m e true mjF Zc (fun g => by omega) hi hh hst hpk ht (by omega) ho (by unfold mjF; omega)
  obtain ⟨Zb', b1, b2, b3, b4⟩ := m218 (lo := 41) (hi := 42) (q := fun c => decide (41 ≤ c ∧ c ≤ 42)) (fun c => by rw [decide_eq_true_eq]) (by omega) L S m mjF Zm hd hbs (stg_mem hst) (by omega) (by omega) (by unfold mjF; omega)
  rw [← er] at b2 b3
  generalize hR : rd (qT 4) L S m = R at *
  obtain ⟨S1, m1, L1⟩ := R
  simp only at *
  subst htop
  have ty0 : ty2 = true := by
    rcases j3 with ⟨_, g⟩ | ⟨g, _⟩
    · rcases g with ⟨g, _⟩ | ⟨g, _⟩
      · have : (50 : Int) = 21 ∨ (50 : Int) = 22 ∨ (50 : Int) = 23 ∨ (50 : Int) = 51 := of_decide_eq_true g
        omega
      · have : (50 : Int) = 52 ∨ (50 : Int) = 30 ∨ (50 : Int) = 31 ∨ (50 : Int) = 32 := of_decide_eq_true g
        omega
    · exact g
  subst ty0
  have ea : e2 = a := j1.2.1.1
  subst ea
  have ch := chn_opn j1.2.1 (Or.inl rfl)
  have o1 : opn (((50 : Int), e2) :: K) = opn K + 1 := rfl
  have w1 : wtL (((50 : Int), e2) :: K) = wtL K := by rw [wtL]; simp
  have c1 : cL (((50 : Int), e2) :: K) = (50, e2) :: K := by rw [cL, if_neg (by decide), pT_cL K hK]
  rw [c1] at a2
  rw [o1] at j6
  rw [w1] at j5
  have lenK := stg_len (Or.inr ⟨rfl, hK⟩ : stg 30 true K) (by omega)
  obtain ⟨p1, p2, _, _, p5⟩ := a2
  rw [o1] at p1
  rw [List.length_cons] at p2
  have h183 : Zc.1 183 3 = i3 (kd X n p) := hg.1.2.2.1
  have kn : kd X n p = 41 := (kdS (X := X) (n := n) (p := p) (c := 41) (by omega)).mpr h41
  generalize hZc' : zSi (zSi Za' 185 1 (i3 (opn K))) 185 6 (i3 K.length) = Zc'
  have oth : ∀ a, a ≠ 185 → Zc'.1 a = Za'.1 a := fun a g => by rw [← hZc', si_obj _ _ _ _ g, si_obj _ _ _ _ g]
  have pk' : plK Zc' (cL K) := by
    rw [pT_cL K hK]
    exact ⟨by rw [← hZc', si_fld _ _ _ _ (by omega), si_same], by rw [← hZc', si_same], plC_of (oth 186 (by omega)) (oth 187 (by omega)) _ p5⟩
  have hi2 : cI S1 fr m1 K e2 := ⟨j1.1, ch, j1.2.2⟩
  have hst2 : stg 30 true K := Or.inr ⟨rfl, hK⟩
  obtain ⟨f2, ty3, k1, k2, k3, k4, k5, k6, k7, k8, k9, k10⟩ := rd_ok (x := 30) (q := qT 6) (fun c g => qT_p g) K S1 m1 e2 true hi2 j2 hst2
  obtain ⟨Zd, d1, d2, d3, d4⟩ := e49 (wr := wr) hb (x := 30) (tg := 6) (by omega) K S1 m1 e2 true mjF Zc' (fun g => by omega) hi2 j2 hst2 pk' (trC_of a3 (fun a g1 g2 => oth a (by omega))) (by omega) (by omega) (by unfold mjF; omega)
  have er6 : rd (qT 6) K S1 m1 = rd (fun c => decide (c = 40)) K S1 m1 := rd_cT (fun c g => by
    have : c = 40 ∨ c = 41 ∨ c = 42 ∨ c = 50 := of_decide_eq_true g
    rcases this with rfl | rfl | rfl | rfl <;> rfl) K _ _ hK
  have pT7 : pT (rd (qT 6) K S1 m1).2.2 := rd_T K _ _ hK
  have ty1 : ty3 = true := by
    rcases k3 with ⟨_, g⟩ | ⟨g, _⟩
    · exact (pN_pT _ g pT7).elim
    · exact g
  subst ty1
  have tru : f62_goOnWithTruth (b + 1) Zc = some (0, Zd) := by
    have a1' : f49_reduce (b + 1) 4 Zc = some ((), Za') := a1
    have d1' : f49_reduce (b + 1) 6 Zc' = some ((), Zd) := d1
    unfold f62_goOnWithTruth
    rw [h183, kn, if_neg (by decide), a1', mjBd_some, p1, i3_p, show ((opn K + 1 : Nat) : Int) - 1 = (opn K : Int) by omega, let_eq, si_fld _ _ _ _ (by omega), p2, i3_p, show ((K.length + 1 : Nat) : Int) - 1 = (K.length : Int) by omega, hZc', let_eq, d1', mjBd_some]
  have cc : eqCc b wr m Zc Zd := eqCc_tr (m2 := m1) (eqCc_tr (m2 := m) a4.1 (by rw [← hZc']; exact eqCc_tr (m2 := m) (eqCc_si hb (by omega)) (eqCc_si hb (by omega)) (Nat.le_refl _)) (Nat.le_refl _)) d4.1 j4
  have l18 := b2.2.2.1
  have l20 := b2.2.2.2.1
  rw [List.length_cons] at l18
  rw [o1] at l20
  generalize hZm' : zSi (zSi Zb' 211 18 (i3 K.length)) 211 20 (i3 (opn K)) = Zm'
  have wk : eqWk Zm Zm' := by rw [← hZm']; exact eqWk_tr b4 (eqWk_tr (eqWk_si (by omega)) (eqWk_si (by omega)))
  have g2 : gd X n Zd Zm' p := gd_cc hb hg cc (by rw [d4.2.1, ← hZc', si_lng, si_lng, a4.2.1]) (by rw [d4.2.2.1, oth 183 (by omega), a4.2.2.1]) wk
  obtain ⟨Zc1, Zm0, u1, u2, u3, u4, u5⟩ := nxt g2 hn hX
  have q85 : Zc1.1 185 = Zd.1 185 := (u4.2 185 (by omega)).1
  have gb : gd X n Zc Zb' p := gd_cc hb hg (eqCc_rf (wr := wr) (m := m)) rfl rfl b4
  have md0 : mdM Zm0 S1 m1 K := by
    refine mdM_go ?_ u5
    refine ⟨fun k => ?_, ?_, ?_, ?_, ?_⟩
    · rw [← hZm', si_obj _ _ _ _ (by omega), si_obj _ _ _ _ (by omega)]; exact b2.1 k
    · rw [← hZm', si_fld _ _ _ _ (by omega), si_fld _ _ _ _ (by omega)]; exact b2.2.1
    · rw [← hZm', si_fld _ _ _ _ (by omega), si_same]
    · rw [← hZm', si_same]
    · exact plM_of (by rw [← hZm', si_obj _ _ _ _ (by omega), si_obj _ _ _ _ (by omega)]) K b2.2.2.2.2.2
  have b19 : Zm0.1 211 19 = i3 (bsL K) := by
    rw [u5.2.2 19 (by omega), wk.2.2 19 (by omega) (by omega) (by omega), hbs, ← b3]; rfl
  obtain ⟨Zm1, s1, s2, s3, s4⟩ := m222 K S1 m1 mjF Zm0 md0 u3.2.2.2.1 b19 (pT_mem K hK) (by omega) (by omega) (by unfold mjF; omega)
  rw [← er6] at s2 s3
  have gfin : gd X n Zc1 Zm1 (jE X n p) := gd_cc hb u3 (eqCc_rf (wr := wr) (m := m)) rfl rfl s4
  refine ⟨Zc1, Zb', Zm0, Zm1, (rd (qT 6) K S1 m1).1, (rd (qT 6) K S1 m1).2.1, (rd (qT 6) K S1 m1).2.2, f2, ?_, b1, ?_, ?_, s1, ⟨gfin, ?_, ?_, trC_of d3 (fun a g1 g2 => (u4.2 a (by omega)).1), s2, ?_, ⟨fun j hj => ?_, fun j hj => ?_⟩, by omega, by omega, by omega, by omega⟩, pT7, fun c a M g => ?_, k1, k2, hpp, by omega, fun k hk => by rw [k7 k (by omega), j7 k hk], fun f hf => by rw [k8 f hf, j8 f hf], eqCc_tr (m2 := m) cc (eqTk_c hb u4) (Nat.le_refl _), eqCd_tr (eqWk_d wk) (eqCd_tr (eqGo_d u5) (eqWk_d s4))⟩
  · rw [cl3 h0 (by omega) hte, tru, mjBd_some, if_pos (by decide), u1, mjBd_some]
  · rw [m216 b2 (by rw [b4.2.2 19 (by omega) (by omega) (by omega), hbs, b3]) (by rw [List.length_cons]; omega)]
    rfl
  · have m9 : f209_isSignHere 41 Zb' = some (bI (sgn X n p 41)) := m209 gb.2.1 hX gb.2.2.2.1 (c := 41) (by omega)
    unfold f220_closes
    rw [m9, h41, mjBp_some, if_pos (by decide)]
    unfold f220_closes_j13
    rw [if_pos (gdL gb.2.2.2.1), l18, i3_p, show ((K.length + 1 : Nat) : Int) - 1 = (K.length : Int) by omega, let_eq, si_fld _ _ _ _ (by omega), l20, i3_p, show ((opn K + 1 : Nat) : Int) - 1 = (opn K : Int) by omega, hZm', let_eq, u2, mjBd_some]
  · rw [q85, d4.2.2.2 0 (by omega) (by omega), ← hZc', si_fld _ _ _ _ (by omega), si_fld _ _ _ _ (by omega), a4.2.2.2 0 (by omega) (by omega)]; exact h0
  · exact plK_of d2 q85 (u4.2 186 (by omega)).1 (u4.2 187 (by omega)).1
  · rw [s4.2.2 19 (by omega) (by omega) (by omega), b19, s3]
  · rw [s4.1, (u5.2.1 213 (by omega)).2, wk.1]; exact hkf.1 j hj
  · rw [s4.1, (u5.2.1 214 (by omega)).2, wk.1]; exact hkf.2 j hj
  · intro g2
    subst g2
    have := k9 40 a M g
    rw [show qT 6 40 = true by decide] at this
    cases this
end TW
