/-! CONDITIONS READ: a number's formula -/
def q2M (c : Int) : Bool := decide (21 ≤ c ∧ c ≤ 23)
def q3M (c : Int) : Bool := decide (23 ≤ c ∧ c ≤ 23)
theorem pN_x {x : Int} : ∀ L, pN x L → isX x = true
  | [], h => h.elim
  | (c, a) :: L, h => by
    rcases h with ⟨_, _, h3⟩ | ⟨h1, h2, _⟩
    · exact pN_x L h3
    · rw [← h2]; exact h1
theorem rd_12 {x : Int} {L : pL} (S : mjS) (m : Nat) (h : pN x L) : rd (qT 12) L S m = rd q3M L S m := by
  have hx : x = 52 ∨ x = 30 ∨ x = 31 ∨ x = 32 := of_decide_eq_true (pN_x L h)
  refine rd_cN (fun c g => ?_) ?_ (Or.inl ?_) L S m h
  · have hc : c = 21 ∨ c = 22 ∨ c = 23 ∨ c = 51 := of_decide_eq_true g
    rcases hc with rfl | rfl | rfl | rfl <;> rfl
  · rcases hx with rfl | rfl | rfl | rfl <;> rfl
  · rcases hx with rfl | rfl | rfl | rfl <;> rfl
theorem rd_10 {x : Int} {L : pL} (S : mjS) (m : Nat) (h : pN x L) : rd (qT 10) L S m = rd q2M L S m := by
  have hx : x = 52 ∨ x = 30 ∨ x = 31 ∨ x = 32 := of_decide_eq_true (pN_x L h)
  refine rd_cN (fun c g => ?_) ?_ (Or.inl ?_) L S m h
  · have hc : c = 21 ∨ c = 22 ∨ c = 23 ∨ c = 51 := of_decide_eq_true g
    rcases hc with rfl | rfl | rfl | rfl <;> rfl
  · rcases hx with rfl | rfl | rfl | rfl <;> rfl
  · rcases hx with rfl | rfl | rfl | rfl <;> rfl
/-- behind an open brace the class's widest reduction goes no further -/
theorem rd_4 {x : Int} : ∀ (L : pL) (S : mjS) (m : Nat), pN x L → crl L ≠ 0 → rd (qT 4) L S m = rd q2M L S m
  | [], _, _, h, _ => h.elim
  | (c, a) :: L, S, m, h, hc => by
    rcases h with ⟨h1, _, h3⟩ | ⟨h1, h2, h3⟩
    · have hk : c = 21 ∨ c = 22 ∨ c = 23 ∨ c = 51 := of_decide_eq_true h1
      rw [rd, rd]
      rcases hk with rfl | rfl | rfl | rfl
      · rw [if_pos (by decide), if_pos (by decide)]; exact rd_4 L _ _ h3 (by rw [crl, if_neg (by omega)] at hc; exact hc)
      · rw [if_pos (by decide), if_pos (by decide)]; exact rd_4 L _ _ h3 (by rw [crl, if_neg (by omega)] at hc; exact hc)
      · rw [if_pos (by decide), if_pos (by decide)]; exact rd_4 L _ _ h3 (by rw [crl, if_neg (by omega)] at hc; exact hc)
      · rw [if_neg (by decide), if_neg (by decide)]
    · have hx : c = 52 ∨ c = 30 ∨ c = 31 ∨ c = 32 := of_decide_eq_true h1
      rw [crl, pT_crl L h3, if_neg (by omega)] at hc
      exact absurd rfl hc
/-- where it stops: at a brace, or at the comparison's mark -/
theorem q2_top {x : Int} : ∀ (L : pL) (S : mjS) (m : Nat), pN x L → (∃ a M, (rd q2M L S m).2.2 = (51, a) :: M ∧ pN x M ∧ crl L = crl M + 1) ∨ (∃ a M, (rd q2M L S m).2.2 = (x, a) :: M ∧ pT M ∧ crl L = 0)
  | [], _, _, h => h.elim
  | (c, a) :: L, S, m, h => by
    rcases h with ⟨h1, _, h3⟩ | ⟨h1, h2, h3⟩
    · have hk : c = 21 ∨ c = 22 ∨ c = 23 ∨ c = 51 := of_decide_eq_true h1
      rw [rd]
      rcases hk with rfl | rfl | rfl | rfl
      · rw [if_pos (by decide), crl, if_neg (by omega)]; exact q2_top L _ _ h3
      · rw [if_pos (by decide), crl, if_neg (by omega)]; exact q2_top L _ _ h3
      · rw [if_pos (by decide), crl, if_neg (by omega)]; exact q2_top L _ _ h3
      · rw [if_neg (by decide)]
        exact Or.inl ⟨a, L, rfl, h3, rfl⟩
    · have hx : c = 52 ∨ c = 30 ∨ c = 31 ∨ c = 32 := of_decide_eq_true h1
      rw [rd, if_neg (by rcases hx with rfl | rfl | rfl | rfl <;> decide)]
      exact Or.inr ⟨a, L, by rw [h2], h3, by rw [crl, pT_crl L h3, if_neg (by omega)]⟩
/-- tops after reducing -/
theorem onN_of {x c : Int} {L : pL} (h : pN x L) (hc : c = 21 ∨ c = 22 ∨ c = 23) (ht : ∀ d a M, L = (d, a) :: M → (c = 23 → d ≠ 23) ∧ (c ≠ 23 → d ≠ 21 ∧ d ≠ 22 ∧ d ≠ 23)) : onN c L := by
  cases L with
  | nil => trivial
  | cons d M =>
    obtain ⟨d, a⟩ := d
    obtain ⟨t1, t2⟩ := ht d a M rfl
    rcases h with ⟨h1, _⟩ | ⟨h1, _⟩
    · have hk : d = 21 ∨ d = 22 ∨ d = 23 ∨ d = 51 := of_decide_eq_true h1
      refine ⟨fun g => Or.inl ?_, fun g => ?_⟩
      · have := t2 (by omega); omega
      · have := t1 g; omega
    · exact ⟨fun _ => Or.inr h1, fun _ => Or.inr (Or.inr (Or.inr h1))⟩
section NU
variable {X : Nat → Nat} {n b fr wr : Nat} {x : Int}
theorem e47f {Z : mjZt} {L : pL} {p : Nat} (h : tkC X n Z p) (hX : ∀ k, X k ≤ 255) (hcm : cmS Z x L) (hl : crl L ≤ 1000) (g : x = 52 ∨ crl L ≠ 0 ∨ sgn X n p 42 = true ∨ sgn X n p 43 = true ∨ sgn X n p 45 = true) : f47_comparisonEnds Z = some 0 := by
  have h183 : Z.1 183 3 = i3 (kd X n p) := h.2.2.1
  have k5 := kd_255 (n := n) (p := p) hX
  have k42 := kdS (X := X) (n := n) (p := p) (c := 42) (by omega)
  have k43 := kdS (X := X) (n := n) (p := p) (c := 43) (by omega)
  have k45 := kdS (X := X) (n := n) (p := p) (c := 45) (by omega)
  unfold f47_comparisonEnds
  rw [hcm.1, hcm.2, h183]
  by_cases g1 : x = 52
  · rw [decide_eq_false (by omega), if_pos (by decide)]
  · rw [decide_eq_true g1, if_neg (by decide), show (0 : Int32) = i3 0 from rfl]
    by_cases g2 : crl L = 0
    · rw [if_neg (by rw [c_ne (by omega)]; omega), show (43 : Int32) = i3 43 from rfl, show (45 : Int32) = i3 45 from rfl, show (42 : Int32) = i3 42 from rfl]
      by_cases a1 : kd X n p = 43
      · rw [if_pos (by rw [c_eq (by omega)]; omega)]
      · rw [if_neg (by rw [c_eq (by omega)]; omega)]
        by_cases a2 : kd X n p = 45
        · rw [if_pos (by rw [c_eq (by omega)]; omega)]
        · rw [if_neg (by rw [c_eq (by omega)]; omega)]
          have a3 : kd X n p = 42 := by
            rcases g with g | g | g | g | g
            · exact absurd g g1
            · exact absurd g2 g
            · exact k42.mpr g
            · exact absurd (k43.mpr g) a1
            · exact absurd (k45.mpr g) a2
          rw [if_pos (by rw [c_eq (by omega)]; omega)]
    · rw [if_pos (by rw [c_ne (by omega)]; omega)]
theorem e47t {Z : mjZt} {L : pL} {p : Nat} (h : tkC X n Z p) (hX : ∀ k, X k ≤ 255) (hcm : cmS Z x L) (g1 : x ≠ 52) (g2 : crl L = 0) (g3 : sgn X n p 42 = false ∧ sgn X n p 43 = false ∧ sgn X n p 45 = false) : f47_comparisonEnds Z = some 1 := by
  have h183 : Z.1 183 3 = i3 (kd X n p) := h.2.2.1
  have k5 := kd_255 (n := n) (p := p) hX
  have k42 := kdS (X := X) (n := n) (p := p) (c := 42) (by omega)
  have k43 := kdS (X := X) (n := n) (p := p) (c := 43) (by omega)
  have k45 := kdS (X := X) (n := n) (p := p) (c := 45) (by omega)
  have a1 : kd X n p ≠ 43 := fun g => by rw [k43.mp g] at g3; cases g3.2.1
  have a2 : kd X n p ≠ 45 := fun g => by rw [k45.mp g] at g3; cases g3.2.2
  have a3 : kd X n p ≠ 42 := fun g => by rw [k42.mp g] at g3; cases g3.1
  unfold f47_comparisonEnds
  rw [hcm.1, hcm.2, h183, decide_eq_true g1, if_neg (by decide), g2, if_neg (by decide), show (43 : Int32) = i3 43 from rfl, show (45 : Int32) = i3 45 from rfl, show (42 : Int32) = i3 42 from rfl, if_neg (by rw [c_eq (by omega)]; omega), if_neg (by rw [c_eq (by omega)]; omega), if_neg (by rw [c_eq (by omega)]; omega)]
/-- the class behind a number, by its token -/
theorem e61 {Z : mjZt} {p : Nat} (h : tkC X n Z p) (hX : ∀ k, X k ≤ 255) : f61_goOnWithNumber (b + 1) Z = if kd X n p = 42 then (mjBd (f59_join (b + 1) 12 12 Z) fun v Z1 => some (v, Z1)) else if kd X n p = 43 then (mjBd (f59_join (b + 1) 10 10 Z) fun v Z1 => some (v, Z1)) else if kd X n p = 45 then (mjBd (f59_join (b + 1) 11 10 Z) fun v Z1 => some (v, Z1)) else if kd X n p = 60 then (mjBd (f59_join (b + 1) 7 7 Z) fun v Z1 => some (v, Z1)) else if kd X n p = 61 then (mjBd (f59_join (b + 1) 9 7 Z) fun v Z1 => some (v, Z1)) else if kd X n p = 62 then (mjBd (f59_join (b + 1) 8 7 Z) fun v Z1 => some (v, Z1)) else if kd X n p = 125 then (mjBd (f60_closeCurly (b + 1) Z) fun v Z1 => some (v, Z1)) else some (2, Z) := by
  have h183 : Z.1 183 3 = i3 (kd X n p) := h.2.2.1
  have k5 := kd_255 (n := n) (p := p) hX
  have e : ∀ c : Nat, c ≤ 255 → ((i3 (kd X n p) = i3 c) = (kd X n p = c)) := fun c hc => by
    rw [i3_inj (by omega)]; exact propext ⟨fun g => by omega, fun g => by omega⟩
  unfold f61_goOnWithNumber
  rw [h183, show ((42 : Int32)) = i3 ((42 : Nat) : Int) from rfl, show ((43 : Int32)) = i3 ((43 : Nat) : Int) from rfl, show ((45 : Int32)) = i3 ((45 : Nat) : Int) from rfl, show ((60 : Int32)) = i3 ((60 : Nat) : Int) from rfl, show ((61 : Int32)) = i3 ((61 : Nat) : Int) from rfl, show ((62 : Int32)) = i3 ((62 : Nat) : Int) from rfl, show ((125 : Int32)) = i3 ((125 : Nat) : Int) from rfl]
  simp only [e 42 (by omega), e 43 (by omega), e 45 (by omega), e 60 (by omega), e 61 (by omega), e 62 (by omega), e 125 (by omega)]
def cdE (X : Nat → Nat) (n b : Nat) (Zc Zm : mjZt) (S : mjS) (fr m wr : Nat) (L : pL) (p s N : Nat) : Prop :=
  gd X n Zc Zm p ∧ Zc.1 185 0 = 2 ∧ plK Zc (cL L) ∧ trC b Zc S fr m wr ∧ mdM Zm (rd q2M L S m).1 (rd q2M L S m).2.1 (rd q2M L S m).2.2 ∧ Zm.1 211 19 = i3 (bsL L) ∧ kfM Zm ∧ opn L ≤ 6 ∧ m + wtL L ≤ p ∧ s ≤ p ∧ N + s = 20000
theorem oBad_bd {m : Nat} {rc : Option (Int32 × mjZt)} {rm : Option (Unit × mjZt)} {Zc Zm : mjZt} {F : mjZt → Option (Unit × mjZt)} (h : oBad X n b wr m rc rm Zc Zm) (hF : ∀ (Z : mjZt) (k : Int) (q : Nat), fltM Z k q → 1 ≤ k ∧ k ≤ 7 → ∃ Z2, F Z = some ((), Z2) ∧ Z2.1 211 9 = Z.1 211 9 ∧ Z2.1 211 10 = Z.1 211 10 ∧ eqCd Z Z2) : oBad X n b wr m rc (mjBd rm fun _ Z => F Z) Zc Zm := by
  obtain ⟨k, p1, Y, W, h1, h2, h3, h4, h5, h6, h7, h8, h9, h10⟩ := h
  obtain ⟨Z2, f1, f2, f3, f4⟩ := hF W _ _ h8 (fK_b ⟨h1, h2⟩)
  exact ⟨k, p1, Y, Z2, h1, h2, h3, by rw [h4, mjBd_some]; exact f1, h5, h6, h7, fltM_of h8 f2 f3, h9, eqCd_tr h10 f4⟩
theorem m221f {M : Nat} {Z : mjZt} {k : Int} {q : Nat} (h : fltM Z k q) (hk : 1 ≤ k ∧ k ≤ 7) (v : Int32) : f221_numberFormula_h6 (M + 1) v Z = some ((), Z) := by
  rw [f221_numberFormula_h6, bdM h hk, mjBp_some, if_pos (by decide)]
def nGood (X : Nat → Nat) (n b fr wr : Nat) (x : Int) (rc : Option (Int32 × mjZt)) (rm : Option (Unit × mjZt)) (Zc Zm : mjZt) (S : mjS) (m p : Nat) : Prop :=
  ∃ Zc1 Zm1 S1 m1 L1 p1 s1 N1 e1, rc = cLp b N1 s1 Zc1 ∧ rm = some ((), Zm1) ∧ cdE X n b Zc1 Zm1 S1 fr m1 wr L1 p1 s1 N1 ∧ pN x L1 ∧ cI S1 fr m1 L1 e1 ∧ hasI S1 m1 e1 false ∧ cmS Zc1 x L1 ∧ crl L1 = 0 ∧ (sgn X n p1 42 = false ∧ sgn X n p1 43 = false ∧ sgn X n p1 45 = false) ∧ p ≤ p1 ∧ grw b wr m m1 S S1 Zc Zm Zc1 Zm1
theorem nGood_go {rc : Option (Int32 × mjZt)} {rm : Option (Unit × mjZt)} {Zc Zm Zc0 Zm0 : mjZt} {S S0 : mjS} {m p m0 p0 : Nat} (h : nGood X n b fr wr x rc rm Zc Zm S m p) (hp : p0 ≤ p) (g : grw b wr m0 m S0 S Zc0 Zm0 Zc Zm) : nGood X n b fr wr x rc rm Zc0 Zm0 S0 m0 p0 := by
  obtain ⟨Zc1, Zm1, S1, m1, L1, p1, s1, N1, e1, z1, z2, z3, z4, z5, z6, z7, z8, z9, z10, z11⟩ := h
  exact ⟨Zc1, Zm1, S1, m1, L1, p1, s1, N1, e1, z1, z2, z3, z4, z5, z6, z7, z8, z9, by omega, grw_tr g z11⟩
/-- an operator, an operand behind it, and what follows -/
theorem t_op3 (hb : b = 2 ∨ b = 92) (hn : n ≤ 700) (hX : ∀ k, X k ≤ 255) {tg lo c : Int} {q1 : Int → Bool} {Zc Zm : mjZt} {S : mjS} {m p s N e M : Nat} {L : pL}
    (hc : c = 21 ∨ c = 22 ∨ c = 23) (hq1 : ∀ d, q1 d = true ↔ lo ≤ d ∧ d ≤ 23) (hlc : (c = 23 ∧ lo = 23 ∧ tg = 12) ∨ (c ≠ 23 ∧ lo = 21 ∧ tg = 10))
    (h : cdS X n b Zc Zm S fr m wr L 2 p s (N + 1)) (hs : jS X n p ≠ 0) (hpn : pN x L) (hi : cI S fr m L e) (hh : hasI S m e false) (hcm : cmS Zc x L) (eqr : rd (qT tg) L S m = rd q1 L S m) (hx : qT tg x = false)
    (hj : f59_join (b + 1) (i3 (opW c)) (i3 tg) Zc = f59_join_j28 (b + 1) (i3 (opW c)) (i3 tg) Zc)
    (hcl : ∀ Zc1 Zc2, f59_join (b + 1) (i3 (opW c)) (i3 tg) Zc = some (0, Zc1) → f68_advance Zc1 = some ((), Zc2) → cLp b (N + 1) s Zc = cLp b N (s + 1) Zc2)
    (hmd : ∀ Za Zb Zm2, f218_works (i3 lo) (i3 23) Zm = some ((), Za) → f215_waitsFor (i3 c) Za = some ((), Zb) → Za.1 211 8 = Zm.1 211 8 → f205_goOn Zb = some ((), Zm2) → f221_numberFormula_h6 (M + 1) 1 Zm = mjBd (f219_operand Zm2) fun _ Z => f221_numberFormula_h6 M 1 Z)
    (hM : 1 ≤ M)
    (ih : ∀ {Zc3 Zm3 : mjZt} {S3 : mjS} {m3 p3 s3 N3 e3 : Nat} {L3 : pL}, p < p3 → cdS X n b Zc3 Zm3 S3 fr m3 wr L3 2 p3 s3 N3 → pN x L3 → cI S3 fr m3 L3 e3 → hasI S3 m3 e3 false → cmS Zc3 x L3 → nGood X n b fr wr x (cLp b N3 s3 Zc3) (f221_numberFormula_h6 M 1 Zm3) Zc3 Zm3 S3 m3 p3 ∨ oBad X n b wr m3 (cLp b N3 s3 Zc3) (f221_numberFormula_h6 M 1 Zm3) Zc3 Zm3) :
    nGood X n b fr wr x (cLp b (N + 1) s Zc) (f221_numberFormula_h6 (M + 1) 1 Zm) Zc Zm S m p ∨ oBad X n b wr m (cLp b (N + 1) s Zc) (f221_numberFormula_h6 (M + 1) 1 Zm) Zc Zm := by
  have nc : isCm c = false := decide_eq_false (by omega)
  have no : isOp c = false ∧ c ≠ 52 := ⟨decide_eq_false (by omega), by omega⟩
  have rN := rd_N hx L S m hpn
  obtain ⟨Zc1, Zc2, Za, Zb, Zm2, j1, j2, j3, j4, j5, j6, j7, j8, j9, j10, j11⟩ := t_jn (x := x) hb hn hX (tg := tg) (lo := lo) (up := 23) (by omega) (by omega) hq1 (by omega) h hs hi hh (Or.inl ⟨rfl, hpn⟩) eqr (c := c) no nc (by unfold prp; omega) (fun e2 ty2 g1 g2 => by
    rcases g2 with ⟨g2, _⟩ | ⟨_, g2⟩
    · rw [g2]; exact (decide_eq_false (by omega)).symm
    · exact (pN_pT _ rN g2).elim) hj
  rw [hcl Zc1 Zc2 j1 j2, hmd Za Zb Zm2 j3 j4 j5 j6]
  obtain ⟨_, _, _, _, _, _, _, _, _, _, j9', _⟩ := rd_ok (x := x) (fun c g => qT_p g) L S m e false hi hh (Or.inl ⟨rfl, hpn⟩)
  have crl1 := rd_crl (qT_51 tg) L S m
  generalize hR : rd (qT tg) L S m = R at *
  obtain ⟨S1, m1, L1⟩ := R
  simp only at *
  rw [if_neg (by omega)] at j7
  have on : onN c L1 := onN_of rN hc (fun d a M2 g => by
    have t := j9' d a M2 g
    rw [g] at rN
    rcases hlc with ⟨c1, _, c3⟩ | ⟨c1, _, c3⟩
    · subst c3
      refine ⟨fun _ g3 => ?_, fun g2 => absurd c1 g2⟩
      subst g3
      rw [show qT 12 23 = true by decide] at t; cases t
    · subst c3
      refine ⟨fun g2 => absurd g2 c1, fun _ => ⟨fun g3 => ?_, fun g3 => ?_, fun g3 => ?_⟩⟩
      · subst g3; rw [show qT 10 21 = true by decide] at t; cases t
      · subst g3; rw [show qT 10 22 = true by decide] at t; cases t
      · subst g3; rw [show qT 10 23 = true by decide] at t; cases t)
  have icn : isN c = true := decide_eq_true (by omega)
  have cm2 : cmS Zc2 x ((c, m1) :: L1) := by
    refine ⟨?_, ?_⟩
    · rw [j9 2 (by omega), hcm.1, crl, if_neg (by omega), crl1, Nat.add_zero]
    · rw [j9 3 (by omega)]; exact hcm.2
  have hpj := j7.1.2.2.2.2
  rcases t_opd (x := x) hb hn hX (n - jE X n p + 1) (p := jE X n p) (M := mjF) (by omega) (by unfold mjF; omega) j7 (Or.inl ⟨icn, on, rN⟩) j8 cm2 with ⟨Zc3, Zm3, S3, m3, L3, p3, s3, N3, e3, z1, z2, z3, z4, z5, z6, z7, z8, z9⟩ | z
  · have z2' : f219_operand Zm2 = some ((), Zm3) := z2
    rw [z1, z2', mjBd_some]
    rcases ih (by omega) z3 z4 z5 z6 z7 with w | w
    · exact Or.inl (nGood_go w (by omega) (grw_tr j11 z9))
    · exact Or.inr (oBad_go w (grw_tr j11 z9))
  · right
    obtain ⟨M, rfl⟩ : ∃ M0, M = M0 + 1 := ⟨M - 1, by omega⟩
    exact oBad_bd (F := fun Z => f221_numberFormula_h6 (M + 1) 1 Z) (oBad_go z j11) (fun Z k q f1 f2 => ⟨Z, m221f f1 f2 1, rfl, rfl, eqCd_rf⟩)
/-- a brace closes -/
theorem t_cls (hb : b = 2 ∨ b = 92) (hn : n ≤ 700) (hX : ∀ k, X k ≤ 255) {Zc Zm : mjZt} {S : mjS} {m p s N e : Nat} {L : pL}
    (h : cdS X n b Zc Zm S fr m wr L 2 p s (N + 1)) (hs : jS X n p ≠ 0) (hpn : pN x L) (hi : cI S fr m L e) (hh : hasI S m e false) (hcm : cmS Zc x L) (hc : crl L ≠ 0) (h125 : sgn X n p 125 = true) :
    ∃ Zc1 Za Zm1 S1 m1 L1 e1, cLp b (N + 1) s Zc = cLp b N (s + 1) Zc1 ∧ f218_works 21 23 Zm = some ((), Za) ∧ f216_top Za = some 51 ∧ f220_closes 125 Za = some ((), Zm1) ∧ cdS X n b Zc1 Zm1 S1 fr m1 wr L1 2 (jE X n p) (s + 1) N ∧ pN x L1 ∧ cI S1 fr m1 L1 e1 ∧ hasI S1 m1 e1 false ∧ cmS Zc1 x L1 ∧ p < jE X n p ∧ grw b wr m m1 S S1 Zc Zm Zc1 Zm1 := by
  obtain ⟨hg, h0, hpk, ht, hd, hbs, hkf, ho, hw, hsp, hN⟩ := h
  have hp := jE_bd (X := X) hg.2.2.2.2
  have hpp := hp.2.2.2 hs
  have hp5 := hg.2.2.2.2
  have hst : stg x false L := Or.inl ⟨rfl, hpn⟩
  have len := stg_len hst ho
  have er := rd_4 L S m hpn hc
  obtain ⟨e2, ty2, j1, j2, j3, j4, j5, j6, j7, j8, j9, j10⟩ := rd_ok (x := x) (q := qT 4) (fun c g => qT_p g) L S m e false hi hh hst
  obtain ⟨Za', a1, a2, a3, a4⟩ := e49 (wr := wr) hb (tg := 4) (by omega) L S m e false mjF Zc (fun _ => Or.inr hc) hi hh hst hpk ht (by omega) ho (by unfold mjF; omega)
  obtain ⟨Zb', b1, b2, b3, b4⟩ := m218 (lo := 21) (hi := 23) (q := q2M) (fun c => by unfold q2M; rw [decide_eq_true_eq]) (by omega) L S m mjF Zm hd hbs (stg_mem hst) (by omega) (by omega) (by unfold mjF; omega)
  rcases q2_top L S m hpn with ⟨a, M, t1, t2, t3⟩ | ⟨a, M, _, _, t3⟩
  rotate_left
  · exact absurd t3 hc
  rw [← er] at b2 b3 t1
  have crl1 : crl L = crl M + 1 := t3
  generalize hR : rd (qT 4) L S m = R at *
  obtain ⟨S1, m1, L1⟩ := R
  simp only at *
  subst t1
  have ty0 : ty2 = false := by
    rcases j3 with ⟨g, _⟩ | ⟨_, g⟩
    · exact g
    · have : (51 : Int) = 40 ∨ (51 : Int) = 41 ∨ (51 : Int) = 42 ∨ (51 : Int) = 50 := of_decide_eq_true g.1
      omega
  subst ty0
  have ea : e2 = a := j1.2.1.1
  subst ea
  have ch := chn_opn j1.2.1 (Or.inl rfl)
  have o1 : opn (((51 : Int), e2) :: M) = opn M + 1 := rfl
  have w1 : wtL (((51 : Int), e2) :: M) = wtL M := by rw [wtL]; simp
  have c1 : cL (((51 : Int), e2) :: M) = (51, e2) :: cL M := by rw [cL, if_neg (by decide)]
  rw [c1] at a2
  have co := cL_opn M
  have lm := cL_len M
  rw [o1] at j6
  have lenM := stg_len (Or.inl ⟨rfl, t2⟩ : stg x false M) (by omega)
  have ok1 : opn (((51 : Int), e2) :: cL M) = opn (cL M) + 1 := rfl
  obtain ⟨p1, p2, _, _, p5⟩ := a2
  rw [ok1] at p1
  rw [List.length_cons] at p2
  have h183 : Zc.1 183 3 = i3 (kd X n p) := hg.1.2.2.1
  have kn : kd X n p = 125 := (kdS (X := X) (n := n) (p := p) (c := 125) (by omega)).mpr h125
  have pc := pN_len L hpn
  have cb : ∀ K : pL, crl K ≤ K.length := fun K => by
    induction K with
    | nil => exact Nat.le_refl _
    | cons d K ih => obtain ⟨d, k⟩ := d; rw [crl, List.length_cons]; split <;> omega
  have cbL := cb L
  generalize hZc' : zSi (zSi (zSi Za' 185 2 (i3 (crl M))) 185 1 (i3 (opn (cL M)))) 185 6 (i3 (cL M).length) = Zc'
  have cls : f60_closeCurly (b + 1) Zc = some (0, Zc') := by
    unfold f60_closeCurly
    have a1' : f49_reduce (b + 1) 4 Zc = some ((), Za') := a1
    rw [hcm.1, show (0 : Int32) = i3 0 from rfl, if_pos (by rw [c_ne (by omega)]; omega), a1', mjBd_some, a4.2.2.2 2 (by omega) (by omega), hcm.1, i3_p, show (crl L : Int) - 1 = (crl M : Int) by omega, let_eq, si_fld _ _ _ _ (by omega), p1, i3_p, show ((opn (cL M) + 1 : Nat) : Int) - 1 = (opn (cL M) : Int) by omega, let_eq, si_fld _ _ _ _ (by omega), si_fld _ _ _ _ (by omega), p2, i3_p, show (((cL M).length + 1 : Nat) : Int) - 1 = ((cL M).length : Int) by omega, hZc', let_eq] <;> rfl
  have cc : eqCc b wr m Zc Zc' := by
    rw [← hZc']
    exact eqCc_tr (m2 := m) a4.1 (eqCc_tr (m2 := m) (eqCc_si hb (by omega)) (eqCc_tr (m2 := m) (eqCc_si hb (by omega)) (eqCc_si hb (by omega)) (Nat.le_refl _)) (Nat.le_refl _)) (Nat.le_refl _)
  have oth : ∀ a, a ≠ 185 → Zc'.1 a = Za'.1 a := fun a g => by rw [← hZc', si_obj _ _ _ _ g, si_obj _ _ _ _ g, si_obj _ _ _ _ g]
  have l18 := b2.2.2.1
  have l20 := b2.2.2.2.1
  rw [List.length_cons] at l18
  rw [o1] at l20
  generalize hZm' : zSi (zSi Zb' 211 18 (i3 M.length)) 211 20 (i3 (opn M)) = Zm'
  have wk : eqWk Zm Zm' := by rw [← hZm']; exact eqWk_tr b4 (eqWk_tr (eqWk_si (by omega)) (eqWk_si (by omega)))
  have g2 : gd X n Zc' Zm' p := gd_cc hb hg cc (by rw [← hZc', si_lng, si_lng, si_lng, a4.2.1]) (by rw [oth 183 (by omega), a4.2.2.1]) wk
  obtain ⟨Zc1, Zm1, u1, u2, u3, u4, u5⟩ := nxt g2 hn hX
  have q85 : Zc1.1 185 = Zc'.1 185 := (u4.2 185 (by omega)).1
  have gb : gd X n Zc Zb' p := gd_cc hb hg (eqCc_rf (wr := wr) (m := m)) rfl rfl b4
  refine ⟨Zc1, Zb', Zm1, S1, m1, M, e2, ?_, b1, ?_, ?_, ⟨u3, ?_, ⟨?_, ?_, ?_⟩, ?_, ?_, ?_, ⟨fun j hj => ?_, fun j hj => ?_⟩, by omega, by omega, by omega, by omega⟩, t2, ⟨j1.1, ch, j1.2.2⟩, j2, ⟨?_, ?_⟩, hpp, j4, j7, j8, eqCc_tr (m2 := m) cc (eqTk_c hb u4) (Nat.le_refl _), eqCd_tr (eqWk_d wk) (eqGo_d u5)⟩
  · rw [cl2 h0 (by omega) (e47f hg.1 hX hcm (by omega) (Or.inr (Or.inl hc))), e61 hg.1 hX, if_neg (by omega), if_neg (by omega), if_neg (by omega), if_neg (by omega), if_neg (by omega), if_neg (by omega), if_pos kn, cls, mjBd_some, mjBd_some, if_pos (by decide), u1, mjBd_some]
  · rw [m216 b2 (by rw [b4.2.2 19 (by omega) (by omega) (by omega), hbs, b3]) (by rw [List.length_cons]; omega)]
    rfl
  · have m9 : f209_isSignHere 125 Zb' = some (bI (sgn X n p 125)) := m209 gb.2.1 hX gb.2.2.2.1 (c := 125) (by omega)
    unfold f220_closes
    rw [m9, h125, mjBp_some, if_pos (by decide)]
    unfold f220_closes_j13
    rw [if_pos (gdL gb.2.2.2.1), l18, i3_p, show ((M.length + 1 : Nat) : Int) - 1 = (M.length : Int) by omega, let_eq, si_fld _ _ _ _ (by omega), l20, i3_p, show ((opn M + 1 : Nat) : Int) - 1 = (opn M : Int) by omega, hZm', let_eq, u2, mjBd_some]
  · rw [q85, ← hZc', si_fld _ _ _ _ (by omega), si_fld _ _ _ _ (by omega), si_fld _ _ _ _ (by omega), a4.2.2.2 0 (by omega) (by omega)]; exact h0
  · rw [q85, ← hZc', si_fld _ _ _ _ (by omega), si_same]
  · rw [q85, ← hZc', si_same]
  · exact plC_of (by rw [(u4.2 186 (by omega)).1, oth 186 (by omega)]) (by rw [(u4.2 187 (by omega)).1, oth 187 (by omega)]) _ p5
  · exact trC_of a3 (fun a g1 g2 => by rw [(u4.2 a (by omega)).1, oth a (by omega)])
  · refine mdM_go ?_ u5
    refine ⟨fun k => ?_, ?_, ?_, ?_, ?_⟩
    · rw [← hZm', si_obj _ _ _ _ (by omega), si_obj _ _ _ _ (by omega)]; exact b2.1 k
    · rw [← hZm', si_fld _ _ _ _ (by omega), si_fld _ _ _ _ (by omega)]; exact b2.2.1
    · rw [← hZm', si_fld _ _ _ _ (by omega), si_same]
    · rw [← hZm', si_same]
    · exact plM_of (by rw [← hZm', si_obj _ _ _ _ (by omega), si_obj _ _ _ _ (by omega)]) M b2.2.2.2.2.2
  · rw [u5.2.2 19 (by omega), wk.2.2 19 (by omega) (by omega) (by omega), hbs, ← b3]; rfl
  · rw [(u5.2.1 213 (by omega)).2, wk.1]; exact hkf.1 j hj
  · rw [(u5.2.1 214 (by omega)).2, wk.1]; exact hkf.2 j hj
  · rw [q85, ← hZc', si_fld _ _ _ _ (by omega), si_fld _ _ _ _ (by omega), si_same]
  · rw [q85, ← hZc', si_fld _ _ _ _ (by omega), si_fld _ _ _ _ (by omega), si_fld _ _ _ _ (by omega), a4.2.2.2 3 (by omega) (by omega)]; exact hcm.2
end NU
