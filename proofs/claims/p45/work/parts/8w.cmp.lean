/-! CONDITIONS READ: a comparison -/
theorem gJ_k (W : Nat) : (gX LJ 5 W = 0 ↔ W = 2003330414) ∧ (gX LJ 5 W = 1 ↔ W = 111567739122533) ∧ (gX LJ 5 W = 2 ↔ W = 6385252) ∧ (gX LJ 5 W = 3 ↔ W = 28530) ∧ (gX LJ 5 W = 4 ↔ W = 7237492) := by
  unfold gX LJ
  simp only [fI, List.getD_cons_zero, List.getD_cons_succ, decide_eq_true_eq]
  by_cases a0 : 2003330414 = W
  · rw [if_pos a0]; omega
  · rw [if_neg a0]
    by_cases a1 : 111567739122533 = W
    · rw [if_pos a1]; omega
    · rw [if_neg a1]
      by_cases a2 : 6385252 = W
      · rw [if_pos a2]; omega
      · rw [if_neg a2]
        by_cases a3 : 28530 = W
        · rw [if_pos a3]; omega
        · rw [if_neg a3]
          by_cases a4 : 7237492 = W
          · rw [if_pos a4]; omega
          · rw [if_neg a4]; omega
section CM
variable {X : Nat → Nat} {n b fr wr : Nat}
theorem iJ {p : Nat} : (ixT X n p LJ 5 = 2 ↔ jS X n p = 1 ∧ jN X n p = 6385252) ∧ (ixT X n p LJ 5 = 3 ↔ jS X n p = 1 ∧ jN X n p = 28530) ∧ (ixT X n p LJ 5 = 4 ↔ jS X n p = 1 ∧ jN X n p = 7237492) ∧ (ixT X n p LJ 5 = 0 ↔ jS X n p = 1 ∧ jN X n p = 2003330414) ∧ (ixT X n p LJ 5 = 1 ↔ jS X n p = 1 ∧ jN X n p = 111567739122533) := by
  obtain ⟨g0, g1, g2, g3, g4⟩ := gJ_k (jN X n p)
  unfold ixT
  by_cases q : jS X n p = 1
  · rw [if_pos q, g0, g1, g2, g3, g4]
    exact ⟨⟨fun g => ⟨q, g⟩, fun g => g.2⟩, ⟨fun g => ⟨q, g⟩, fun g => g.2⟩, ⟨fun g => ⟨q, g⟩, fun g => g.2⟩, ⟨fun g => ⟨q, g⟩, fun g => g.2⟩, ⟨fun g => ⟨q, g⟩, fun g => g.2⟩⟩
  · rw [if_neg q]
    exact ⟨⟨fun g => by omega, fun g => absurd g.1 q⟩, ⟨fun g => by omega, fun g => absurd g.1 q⟩, ⟨fun g => by omega, fun g => absurd g.1 q⟩, ⟨fun g => by omega, fun g => absurd g.1 q⟩, ⟨fun g => by omega, fun g => absurd g.1 q⟩⟩
theorem e54 {Z : mjZt} {p : Nat} (h : tkC X n Z p) (hX : ∀ k, X k ≤ 255) : f54_comparisonStarts Z = some (bI (!(sgn X n p 40 || decide (jS X n p = 1 ∧ jN X n p = 7237492)))) := by
  have h183 : Z.1 183 3 = i3 (kd X n p) := h.2.2.1
  have k5 := kd_255 (n := n) (p := p) hX
  have k40 := kdS (X := X) (n := n) (p := p) (c := 40) (by omega)
  have bJ := ixT_bd (X := X) (n := n) (p := p) (L := LJ) (N := 5)
  have j4 := (iJ (X := X) (n := n) (p := p)).2.2.1
  unfold f54_comparisonStarts
  rw [h183, ixJ h hX (Or.inl rfl), mjBp_some, show (40 : Int32) = i3 40 from rfl, show (4 : Int32) = i3 4 from rfl]
  cases q : sgn X n p 40 with
  | true =>
    have := k40.mpr q
    rw [if_pos (by rw [c_eq (by omega)]; omega)]; rfl
  | false =>
    have k : kd X n p ≠ 40 := fun g => by rw [k40.mp g] at q; cases q
    rw [if_neg (by rw [c_eq (by omega)]; omega), Bool.false_or]
    by_cases g : jS X n p = 1 ∧ jN X n p = 7237492
    · rw [if_pos (by rw [c_eq (by omega)]; exact j4.mpr g), decide_eq_true g]; rfl
    · rw [if_neg (by rw [c_eq (by omega)]; exact fun k => g (j4.mp k)), decide_eq_false g]; rfl
/-- the model behind a fault in a comparison -/
theorem m164f {Z : mjZt} {k : Int} {q : Nat} (h : fltM Z k q) (hk : 1 ≤ k ∧ k ≤ 7) (y v : Int32) : f223_comparison_j164 y v Z = some ((), zSi Z 211 19 y) := by
  have h2 : fltM (zSi Z 211 19 y) k q := fltM_of h (si_fld _ _ _ _ (by omega)) (si_fld _ _ _ _ (by omega))
  unfold f223_comparison_j164
  rw [let_eq, if_neg (bdL h2 hk)]
theorem m111f {Z : mjZt} {k : Int} {q : Nat} (h : fltM Z k q) (hk : 1 ≤ k ∧ k ≤ 7) (y : Int32) : f223_comparison_j111 y Z = some ((), zSi Z 211 19 y) := by
  have e : ∀ v : Int32, f223_comparison_j141 y v Z = some ((), zSi Z 211 19 y) := fun v => by
    unfold f223_comparison_j141 f223_comparison_j153
    rw [bdM h hk, mjBp_some, if_pos (by decide), mjBp_some, if_pos (by decide), m164f h hk]
  unfold f223_comparison_j111
  split
  · split
    · exact e _
    · exact e _
  · exact e _
/-- what comes of a comparison -/
def cGood (X : Nat → Nat) (n b fr wr : Nat) (rc : Option (Int32 × mjZt)) (rm : Option (Unit × mjZt)) (Zc Zm : mjZt) (S : mjS) (m p : Nat) : Prop :=
  ∃ Zc1 Zm1 S1 m1 L1 p1 s1 N1 e1, rc = cLp b N1 s1 Zc1 ∧ rm = some ((), Zm1) ∧ cdS X n b Zc1 Zm1 S1 fr m1 wr L1 3 p1 s1 N1 ∧ pT L1 ∧ (∀ c a M, L1 = (c, a) :: M → c ≠ 40) ∧ cI S1 fr m1 L1 e1 ∧ hasI S1 m1 e1 true ∧ p < p1 ∧ grw b wr m m1 S S1 Zc Zm Zc1 Zm1
theorem cGood_go {rc : Option (Int32 × mjZt)} {rm : Option (Unit × mjZt)} {Zc Zm Zc0 Zm0 : mjZt} {S S0 : mjS} {m p m0 p0 : Nat} (h : cGood X n b fr wr rc rm Zc Zm S m p) (hp : p0 ≤ p) (g : grw b wr m0 m S0 S Zc0 Zm0 Zc Zm) : cGood X n b fr wr rc rm Zc0 Zm0 S0 m0 p0 := by
  obtain ⟨Zc1, Zm1, S1, m1, L1, p1, s1, N1, e1, z1, z2, z3, z4, z5, z6, z7, z8, z9⟩ := h
  exact ⟨Zc1, Zm1, S1, m1, L1, p1, s1, N1, e1, z1, z2, z3, z4, z5, z6, z7, by omega, grw_tr g z9⟩
/-- the second formula has ended: the comparison becomes a term, and what is not behind not -/
theorem t_sgn (hb : b = 2 ∨ b = 92) (hX : ∀ k, X k ≤ 255) {x : Int} (hx : x = 30 ∨ x = 31 ∨ x = 32) {Zc Zm : mjZt} {S : mjS} {m p s N e : Nat} {L : pL} (h : cdE X n b Zc Zm S fr m wr L p s N) (hpn : pN x L) (hi : cI S fr m L e) (hh : hasI S m e false) (hcm : cmS Zc x L) (hc : crl L = 0) (h3 : sgn X n p 42 = false ∧ sgn X n p 43 = false ∧ sgn X n p 45 = false) (hp0 : p ≤ 700) :
    ∃ Zc1 Zm1 S1 m1 L1 e1, cLp b N s Zc = cLp b N s Zc1 ∧ f223_comparison_j164 0 (i3 x) Zm = some ((), Zm1) ∧ cdS X n b Zc1 Zm1 S1 fr m1 wr L1 3 p s N ∧ pT L1 ∧ (∀ c a M, L1 = (c, a) :: M → c ≠ 40) ∧ cI S1 fr m1 L1 e1 ∧ hasI S1 m1 e1 true ∧ grw b wr m m1 S S1 Zc Zm Zc1 Zm1 := by
  obtain ⟨hg, h0, hpk, ht, hd, hbs, hkf, ho, hw, hsp, hN⟩ := h
  obtain ⟨N, rfl⟩ : ∃ N0, N = N0 + 1 := ⟨N - 1, by omega⟩
  have hst : stg x false L := Or.inl ⟨rfl, hpn⟩
  have len := stg_len hst ho
  obtain ⟨e2, ty2, j1, j2, j3, j4, j5, j6, j7, j8, j9, j10⟩ := rd_ok (x := x) (q := qT 6) (fun c g => qT_p g) L S m e false hi hh hst
  obtain ⟨Za', a1, a2, a3, a4⟩ := e49 (wr := wr) hb (tg := 6) (by omega) L S m e false mjF Zc (fun g => by omega) hi hh hst hpk ht (by omega) ho (by unfold mjF; omega)
  obtain ⟨_, _, k1, k2, k3, k4, k5, k6, _⟩ := rd_ok (x := x) (q := q2M) (fun c g => by have : 21 ≤ c ∧ c ≤ 23 := of_decide_eq_true g; unfold prp; omega) L S m e false hi hh hst
  have comp : rd (qT 6) L S m = rd (qT 6) (rd q2M L S m).2.2 (rd q2M L S m).1 (rd q2M L S m).2.1 := (rd_comp (q := qT 6) (q1 := q2M) (fun c g => by
    have : 21 ≤ c ∧ c ≤ 23 := of_decide_eq_true g
    rcases (by omega : c = 21 ∨ c = 22 ∨ c = 23) with rfl | rfl | rfl <;> rfl) L S m).symm
  rcases q2_top L S m hpn with ⟨a, K, _, _, t3⟩ | ⟨a, K, t1, t2, _⟩
  · omega
  generalize hR2 : rd q2M L S m = R2 at *
  obtain ⟨S2, m2, L2⟩ := R2
  simp only at *
  subst t1
  have cx : rd (qT 6) ((x, a) :: K) S2 m2 = rd (fun c => decide (c = 40)) K (zuS S2 9 m2 x) (m2 + 1) := by
    rw [rd, if_pos (by rcases hx with rfl | rfl | rfl <;> decide)]
    exact rd_cT (fun c g => by
      have : c = 40 ∨ c = 41 ∨ c = 42 ∨ c = 50 := of_decide_eq_true g
      rcases this with rfl | rfl | rfl | rfl <;> rfl) K _ _ t2
  rw [cx] at comp
  have pT7 : pT (rd (qT 6) L S m).2.2 := by rw [comp]; exact rd_T K _ _ t2
  have ty0 : ty2 = true := by
    rcases j3 with ⟨_, g⟩ | ⟨g, _⟩
    · exact (pN_pT _ g pT7).elim
    · exact g
  subst ty0
  have no : isOp x = false := decide_eq_false (by omega)
  have wx : wtL ((x, a) :: K) = wtL K + 1 := by rw [wtL, if_neg (by omega)]
  have ox : opn ((x, a) :: K) = opn K := by rw [opn, no]; rfl
  rw [wx] at k5
  rw [ox] at k6
  have lenK := stg_len (Or.inr ⟨rfl, t2⟩ : stg x true K) (by omega)
  obtain ⟨d1, d2, d3, d4, d5⟩ := hd
  rw [List.length_cons] at d3
  rw [ox] at d4
  generalize hZ1 : zSi (zSi Zm 211 19 0) 211 18 (i3 K.length) = Z1
  have w1 : eqCd Zm Z1 := by rw [← hZ1]; exact eqCd_tr (eqCd_si (by omega)) (eqCd_si (by omega))
  have z1 : mdM Z1 S2 m2 K := by
    refine ⟨fun k => ?_, ?_, ?_, ?_, ?_⟩
    · rw [← hZ1, si_obj _ _ _ _ (by omega), si_obj _ _ _ _ (by omega)]; exact d1 k
    · rw [← hZ1, si_fld _ _ _ _ (by omega), si_fld _ _ _ _ (by omega)]; exact d2
    · rw [← hZ1, si_same]
    · rw [← hZ1, si_fld _ _ _ _ (by omega), si_fld _ _ _ _ (by omega)]; exact d4
    · exact plM_of (by rw [← hZ1, si_obj _ _ _ _ (by omega), si_obj _ _ _ _ (by omega)]) K d5.2
  obtain ⟨Z2, r1, r2, r3⟩ := m214 (c := x) z1 (by omega)
  have g9 : Z2.1 211 9 = 0 := by rw [r3.2.2 9 (by omega) (by omega) (by omega), ← hZ1, si_fld _ _ _ _ (by omega), si_fld _ _ _ _ (by omega)]; exact hg.2.2.2.1
  have bK : bsL K = 0 := bsL_T K t2
  have g19 : Z2.1 211 19 = i3 (bsL K) := by rw [r3.2.2 19 (by omega) (by omega) (by omega), ← hZ1, si_fld _ _ _ _ (by omega), si_same, bK]; rfl
  obtain ⟨Z3, s1, s2, s3, s4⟩ := m222 K (zuS S2 9 m2 x) (m2 + 1) mjF Z2 r2 g9 g19 (pT_mem K t2) (by omega) (by omega) (by unfold mjF; omega)
  have em : f223_comparison_j164 0 (i3 x) Zm = some ((), Z3) := by
    have l0 : (zSi Zm 211 19 0).1 211 9 = 0 := by rw [si_fld _ _ _ _ (by omega)]; exact hg.2.2.2.1
    have s1' : f222_ends Z2 = some ((), Z3) := s1
    unfold f223_comparison_j164
    rw [let_eq, if_pos (gdL l0), si_fld _ _ _ _ (by omega), d3, i3_p, show ((K.length + 1 : Nat) : Int) - 1 = (K.length : Int) by omega, hZ1, let_eq, r1, mjBd_some, s1', mjBd_some]
  have wk2 : eqWk Z1 Z3 := eqWk_tr r3 s4
  have oth : ∀ a, a ≠ 211 → Z1.1 a = Zm.1 a := fun a g => by rw [← hZ1, si_obj _ _ _ _ g, si_obj _ _ _ _ g]
  have cl2' := cl2e (b := b) (N := N) (s := s) h0 (by omega) (e47t hg.1 hX hcm (by omega) hc h3) (show f49_reduce (b + 1) 6 Zc = some ((), Za') from a1)
  refine ⟨zSi Za' 185 0 3, Z3, (rd (qT 6) L S m).1, (rd (qT 6) L S m).2.1, (rd (qT 6) L S m).2.2, e2, cl2', em, ⟨?_, si_same _ _ _ _, ⟨?_, ?_, ?_⟩, trC_of a3 (fun a g1 g2 => si_obj _ _ _ _ (by omega)), ?_, ?_, ⟨fun j hj => ?_, fun j hj => ?_⟩, by omega, by omega, hsp, hN⟩, pT7, fun c a M g => ?_, j1, j2, j4, j7, j8, eqCc_tr (m2 := m) a4.1 (eqCc_si hb (by omega)) (Nat.le_refl _), eqCd_tr w1 (eqWk_d wk2)⟩
  · refine gd_of hg (by rw [si_lng, a4.2.1]) ?_ ?_ (by rw [si_lng, a4.2.1]) ?_ ?_ (fun f g1 g2 => ?_) ?_
    · rw [si_obj _ _ _ _ (by omega)]; exact a4.1.2.2.1 1 (by omega) (by omega) (by omega) (by omega) (by omega)
    · rw [si_obj _ _ _ _ (by omega)]; exact a4.2.2.1
    · rw [si_obj _ _ _ _ (by omega), a4.1.2.2.1 182 (by omega) (by omega) (by omega) (by omega) (by omega)]
    · rw [wk2.2.1 212 (by omega) (by omega) (by omega), oth 212 (by omega)]
    · rw [wk2.2.2 f (by omega) (by omega) (by omega), ← hZ1, si_fld _ _ _ _ (by omega), si_fld _ _ _ _ (by omega)]
    · rw [wk2.1, ← hZ1]; rfl
  · rw [si_fld _ _ _ _ (by omega)]; exact a2.1
  · rw [si_fld _ _ _ _ (by omega)]; exact a2.2.1
  · exact plC_of (si_obj _ _ _ _ (by omega)) (si_obj _ _ _ _ (by omega)) _ a2.2.2
  · rw [comp]; exact s2
  · rw [s4.2.2 19 (by omega) (by omega) (by omega), g19, comp, s3]
  · rw [wk2.1, ← hZ1]; exact hkf.1 j hj
  · rw [wk2.1, ← hZ1]; exact hkf.2 j hj
  · intro g2
    subst g2
    have := j9 40 a M g
    rw [show qT 6 40 = true by decide] at this
    cases this
end CM
