/-! LINES: one after another -/
section LS
variable {X : Nat → Nat} {n b : Nat} {Z Z2 Z3 Zc Zm : mjZt} {S : mjS} {m p x : Nat} {t w : Bool}
def eqRf (Z Z2 : mjZt) : Prop := Z2.2.2 = Z.2.2 ∧ (∀ a, a ≠ 211 → a ≠ 215 → a ≠ 217 → (a < 218 ∨ 228 < a) → Z2.1 a = Z.1 a ∧ Z2.2.1 a = Z.2.1 a) ∧ ∀ f, (f < 5 ∨ (10 < f ∧ f < 17) ∨ 27 < f) → Z2.1 211 f = Z.1 211 f
theorem eqRf_tr (h : eqRf Z Z2) (g : eqRf Z2 Z3) : eqRf Z Z3 := ⟨g.1.trans h.1, fun a q1 q2 q3 q4 => ⟨(g.2.1 a q1 q2 q3 q4).1.trans (h.2.1 a q1 q2 q3 q4).1, (g.2.1 a q1 q2 q3 q4).2.trans (h.2.1 a q1 q2 q3 q4).2⟩, fun f q => (g.2.2 f q).trans (h.2.2 f q)⟩
theorem eqRd_f (h : eqRd Z Z2) : eqRf Z Z2 := ⟨h.1, h.2.1, fun f q => h.2.2 f (by omega)⟩
theorem eqRf_si {k : Nat} {v : Int32} (h : (5 ≤ k ∧ k ≤ 10) ∨ (17 ≤ k ∧ k ≤ 27)) : eqRf Z (zSi Z 211 k v) := ⟨rfl, fun a q1 _ _ _ => ⟨si_obj _ _ _ _ q1, rfl⟩, fun f q => si_fld _ _ _ _ (by omega)⟩
theorem eqRf_rf : eqRf Z Z := ⟨rfl, fun _ _ _ _ _ => ⟨rfl, rfl⟩, fun _ _ => rfl⟩
theorem jR_27 (h : jR X n b Zc Zm S m p t w) (v : Int32) : jR X n b Zc (zSi Zm 211 27 v) S m p t w := by
  obtain ⟨h1, h2, h3, h4, h5, h6, h7⟩ := h
  refine ⟨gd_of h1 rfl rfl rfl rfl rfl (si_obj _ _ _ _ (by omega)) (fun f _ _ => si_fld _ _ _ _ (by omega)) rfl, h2, rM_of h3 (fun a g1 g2 _ => ⟨si_obj _ _ _ _ (by omega), rfl⟩) (fun f g => si_fld _ _ _ _ (by omega)), h4, h5, h6, ?_⟩
  rw [si_fld _ _ _ _ (by omega)]; exact h7
theorem bd_27 (h : bd Zc Zm) (v : Int32) : bd Zc (zSi Zm 211 27 v) := by
  obtain ⟨k, q, k1, k2, k3, k4⟩ := h
  exact ⟨k, q, k1, k2, k3, fltM_of k4 (si_fld _ _ _ _ (by omega)) (si_fld _ _ _ _ (by omega))⟩
/-- a line's two ends -/
def lnG (X : Nat → Nat) (n b : Nat) (rc rc1 : mjZt → Option (Int32 × mjZt)) (rm : Option (Unit × mjZt)) (Zc Zm : mjZt) (p : Nat) : Prop :=
  (∃ Zc1 Zm1 S1 m1 p1 t1 w1, rc Zc = rc1 Zc1 ∧ rm = some ((), Zm1) ∧ jR X n b Zc1 Zm1 S1 m1 p1 t1 w1 ∧ p + 2 ≤ p1 ∧ Zm1.1 211 27 = Zm.1 211 27 + 1 ∧ eqRc b Zc Zc1 ∧ eqRf Zm Zm1) ∨
  (∃ Zc1 Zm1, rc Zc = some (-1, Zc1) ∧ rm = some ((), Zm1) ∧ bd Zc1 Zm1 ∧ eqRc b Zc Zc1 ∧ eqRf Zm Zm1)
theorem ln_end {R : Nat → Int32 → mjZt → Option (Int32 × mjZt)} {rc : mjZt → Option (Int32 × mjZt)} {rm : Option (Unit × mjZt)} (h : lnR X n b (rc Zc) rm Zc Zm p) (hn : n ≤ 700) (hX : ∀ k, X k ≤ 255) :
    lnG X n b (fun Z => mjBd (rc Z) fun v Z => f128_read_j179 R b (i3 x) v Z) (fun Z => R b (i3 ((x + 1 : Nat) : Int)) Z) (mjBd rm fun _ Z => f233_line_j131 Z) Zc Zm p := by
  rcases h with ⟨Zc1, Zm1, S1, m1, p1, t1, w1, a1, a2, a3, a4, a5, a6⟩ | ⟨Zc1, Zm1, a1, a2, ⟨k, q, k1, k2, k3, k4⟩, a4, a5⟩
  · have hp1 := jE_bd (X := X) a3.1.2.2.2.2
    have hb := rC_b a3.2.1
    rcases p_sign a3.1 hn hX (c := 59) (by omega) with ⟨Zc2, Zm2, b1, b2, b3, b4, b5, b6⟩ | ⟨Zc2, Zm2, b1, b2, b3, b4, b5⟩
    · left
      have b1' : f117_takeSign 59 Zc1 = some (1, Zc2) := b1
      have b2' : f212_must 59 Zm1 = some ((), Zm2) := b2
      have j2 := jR_go a3 b3 b5 b6 (by omega)
      refine ⟨Zc2, zSi Zm2 211 27 (Zm2.1 211 27 + 1), S1, m1, _, t1, w1, ?_, ?_, jR_27 j2 _, by omega, ?_, eqRc_tr a5 (eqT2_R b5), eqRf_tr (eqRd_f a6) (eqRf_tr (eqRd_f (eqGo_R b6)) (eqRf_si (by omega)))⟩
      · simp only []
        rw [a1, mjBd_some]
        unfold f128_read_j179
        rw [if_neg (by decide), b1', mjBd_some, if_pos (by decide), i3_s]
      · rw [a2, mjBd_some]
        unfold f233_line_j131
        rw [b2', mjBd_some, let_eq]
      · rw [si_same, b6.2.2 27 (by omega), a6.2.2 27 (by omega)]
    · right
      have b1' : f117_takeSign 59 Zc1 = some (0, Zc2) := b1
      have b2' : f212_must 59 Zm1 = some ((), Zm2) := b2
      refine ⟨Zc2, zSi Zm2 211 27 (Zm2.1 211 27 + 1), ?_, ?_, bd_27 b3 _, eqRc_tr a5 (eqT3_R b4), eqRf_tr (eqRd_f a6) (eqRf_tr (eqRd_f (eqGw_R b5)) (eqRf_si (by omega)))⟩
      · simp only []
        rw [a1, mjBd_some]
        unfold f128_read_j179
        rw [if_neg (by decide), b1', mjBd_some, if_neg (by decide)]
      · rw [a2, mjBd_some]
        unfold f233_line_j131
        rw [b2', mjBd_some, let_eq]
  · right
    refine ⟨Zc1, zSi Zm1 211 27 (Zm1.1 211 27 + 1), ?_, ?_, bd_27 ⟨k, q, k1, k2, k3, k4⟩ _, a4, eqRf_tr (eqRd_f a5) (eqRf_si (by omega))⟩
    · simp only []
      rw [a1, mjBd_some]
      unfold f128_read_j179
      rw [if_pos (by decide)]
    · rw [a2, mjBd_some]
      unfold f233_line_j131
      rw [m212f k4 ⟨k1, k2⟩, mjBd_some, let_eq]
theorem gL_k (W : Nat) : (gX LL 7 W = 1 ↔ W = 1952801133) ∧ (gX LL 7 W = 2 ↔ W = 1920298611) ∧ (gX LL 7 W = 3 ↔ W = 6382452) ∧ (gX LL 7 W = 4 ↔ W = 1920298085) ∧ (gX LL 7 W = 5 ↔ W = 32765938003961704) ∧ (gX LL 7 W = 6 ↔ W = 131294808271214) := by
  unfold gX LL
  simp only [fI, List.getD_cons_zero, List.getD_cons_succ, decide_eq_true_eq]
  by_cases a0 : 500135191403 = W
  · rw [if_pos a0]; omega
  · rw [if_neg a0]
    by_cases a1 : 1952801133 = W
    · rw [if_pos a1]; omega
    · rw [if_neg a1]
      by_cases a2 : 1920298611 = W
      · rw [if_pos a2]; omega
      · rw [if_neg a2]
        by_cases a3 : 6382452 = W
        · rw [if_pos a3]; omega
        · rw [if_neg a3]
          by_cases a4 : 1920298085 = W
          · rw [if_pos a4]; omega
          · rw [if_neg a4]
            by_cases a5 : 32765938003961704 = W
            · rw [if_pos a5]; omega
            · rw [if_neg a5]
              by_cases a6 : 131294808271214 = W
              · rw [if_pos a6]; omega
              · rw [if_neg a6]; omega
theorem mL (h : gd X n Zc Zm p) (hX : ∀ k, X k ≤ 255) : f208_isWord 1952801133 Zm = some (bI (decide (ixT X n p LL 7 = 1))) ∧ f208_isWord 1920298611 Zm = some (bI (decide (ixT X n p LL 7 = 2))) ∧ f208_isWord 6382452 Zm = some (bI (decide (ixT X n p LL 7 = 3))) ∧ f208_isWord 1920298085 Zm = some (bI (decide (ixT X n p LL 7 = 4))) ∧ f208_isWord 32765938003961704 Zm = some (bI (decide (ixT X n p LL 7 = 5))) ∧ f208_isWord 131294808271214 Zm = some (bI (decide (ixT X n p LL 7 = 6))) := by
  obtain ⟨g1, g2, g3, g4, g5, g6⟩ := gL_k (jN X n p)
  have key : ∀ (w : Nat) (i : Int), i ≠ -1 → w < 2 ^ 63 → (gX LL 7 (jN X n p) = i ↔ jN X n p = w) → f208_isWord (i6 w) Zm = some (bI (decide (ixT X n p LL 7 = i))) := fun w i hi hw e => by
    rw [m208 h.2.1 hX h.2.2.2.1 hw]
    congr 2
    refine decide_eq_decide.mpr ?_
    unfold ixT
    by_cases q : jS X n p = 1
    · rw [if_pos q]
      exact ⟨fun g => e.mpr g.2, fun g => ⟨q, e.mp g⟩⟩
    · rw [if_neg q]
      exact ⟨fun g => absurd g.1 q, fun g => absurd g.symm hi⟩
  exact ⟨key 1952801133 1 (by omega) (by decide) g1, key 1920298611 2 (by omega) (by decide) g2, key 6382452 3 (by omega) (by decide) g3, key 1920298085 4 (by omega) (by decide) g4, key 32765938003961704 5 (by omega) (by decide) g5, key 131294808271214 6 (by omega) (by decide) g6⟩
theorem bd_ass {o : Option (Unit × mjZt)} {num : mjZt → Option (Int32 × mjZt)} {g : Int32 → mjZt → mjZt} {F : mjZt → Option (Unit × mjZt)} : (mjBd (mjBd o fun _ Z => mjBd (num Z) fun v Z2 => mjLet (g v Z2) fun Z3 => some ((), Z3)) fun _ Z => F Z) = mjBd o fun _ Z => mjBd (num Z) fun v Z2 => mjLet (g v Z2) fun Z3 => F Z3 := by
  cases o with
  | none => rfl
  | some a =>
    obtain ⟨u, Z⟩ := a
    rw [mjBd_some, mjBd_some]
    cases num Z with
    | none => rfl
    | some c =>
      obtain ⟨v, Z2⟩ := c
      rw [mjBd_some, mjBd_some, let_eq, let_eq, mjBd_some]
/-- a line -/
theorem p_line (h : jR X n b Zc Zm S m p t w) (hn : n ≤ 700) (hX : ∀ k, X k ≤ 255) (hs : jS X n p ≠ 0) (hx : x < 700) (N : Nat) : lnG X n b (fun Z => f128_read_h46 (N + 1) b (i3 x) Z) (fun Z => f128_read_h46 N b (i3 ((x + 1 : Nat) : Int)) Z) (f233_line Zm) Zc Zm p := by
  have hg := h.1
  have h183 : Zc.1 183 3 = i3 (kd X n p) := hg.1.2.2.1
  have ks := kd_spec (X := X) (n := n) (p := p)
  have k5 := kd_255 (n := n) (p := p) hX
  have b7 := ixT_bd (X := X) (n := n) (p := p) (L := LL) (N := 7)
  obtain ⟨m1, m2, m3, m4, m5, m6⟩ := mL hg hX
  have cl : f128_read_h46 (N + 1) b (i3 x) Zc = if (i3 (ixT X n p LL 7)).toInt < 1 ∨ 6 < (i3 (ixT X n p LL 7)).toInt then mjBd (f114_fail 2 Zc) fun v123 Z124 => f128_read_j179 (f128_read_h46 N) b (i3 x) v123 Z124 else if ((i3 (ixT X n p LL 7)).toInt - 1).toNat = 0 then mjBd (f120_readTeam b Zc) fun v132 Z133 => f128_read_j179 (f128_read_h46 N) b (i3 x) v132 Z133 else if ((i3 (ixT X n p LL 7)).toInt - 1).toNat = 1 then mjBd (f123_readRuns b Zc) fun v136 Z137 => f128_read_j179 (f128_read_h46 N) b (i3 x) v136 Z137 else if ((i3 (ixT X n p LL 7)).toInt - 1).toNat = 2 then mjBd (f124_readAct b Zc) fun v140 Z141 => f128_read_j179 (f128_read_h46 N) b (i3 x) v140 Z141 else if ((i3 (ixT X n p LL 7)).toInt - 1).toNat = 3 then mjBd (f125_readRule b Zc) fun v144 Z145 => f128_read_j179 (f128_read_h46 N) b (i3 x) v144 Z145 else if ((i3 (ixT X n p LL 7)).toInt - 1).toNat = 4 then mjBd (f126_readThrough b Zc) fun v148 Z149 => f128_read_j179 (f128_read_h46 N) b (i3 x) v148 Z149 else if ((i3 (ixT X n p LL 7)).toInt - 1).toNat = 5 then mjBd (f127_readWithin b Zc) fun v152 Z153 => f128_read_j179 (f128_read_h46 N) b (i3 x) v152 Z153 else none := by
    rw [f128_read_h46, show (700 : Int32) = i3 700 from rfl, if_neg (by rw [c_ge (by omega)]; omega), h183, show (0 : Int32) = i3 0 from rfl, if_neg (by rw [c_eq (by omega)]; omega), ixL hg.1 hX (id := 1000002) (Or.inl rfl), mjBp_some]
  have go : ∀ {rc : mjZt → Option (Int32 × mjZt)} {rm : Option (Unit × mjZt)}, lnR X n b (rc Zc) rm Zc Zm p → f128_read_h46 (N + 1) b (i3 x) Zc = (mjBd (rc Zc) fun v Z => f128_read_j179 (f128_read_h46 N) b (i3 x) v Z) → f233_line Zm = (mjBd rm fun _ Z => f233_line_j131 Z) → lnG X n b (fun Z => f128_read_h46 (N + 1) b (i3 x) Z) (fun Z => f128_read_h46 N b (i3 ((x + 1 : Nat) : Int)) Z) (f233_line Zm) Zc Zm p := fun {rc rm} g1 g2 g3 => by
    have e := ln_end (x := x) (R := f128_read_h46 N) g1 hn hX
    rw [← g3] at e
    unfold lnG at e ⊢
    simp only [] at e ⊢
    rw [← g2] at e
    exact e
  by_cases q1 : ixT X n p LL 7 < 1
  · refine go (rc := fun Z => f114_fail 2 Z) (rm := f206_wrong 2 Zm) ?_ ?_ ?_
    · right
      obtain ⟨Zc1, Zm1, a1, a2, a3, a4, a5, _⟩ := flt hg (k := 2) (by omega)
      exact ⟨Zc1, Zm1, a1, a2, a3, eqT3_R a4, eqGw_R a5⟩
    · rw [cl, if_pos]
      rcases (by omega : ixT X n p LL 7 = -1 ∨ ixT X n p LL 7 = 0) with g | g
      · rw [g]; decide
      · rw [g]; decide
    · unfold f233_line
      rw [m1, mjBp_some, decide_eq_false (by omega), if_pos (by decide), m2, mjBp_some, decide_eq_false (by omega), if_pos (by decide), m3, mjBp_some, decide_eq_false (by omega), if_pos (by decide), m4, mjBp_some, decide_eq_false (by omega), if_pos (by decide), m5, mjBp_some, decide_eq_false (by omega), if_pos (by decide), m6, mjBp_some, decide_eq_false (by omega), if_pos (by decide)]
  rcases (by omega : ixT X n p LL 7 = 1 ∨ ixT X n p LL 7 = 2 ∨ ixT X n p LL 7 = 3 ∨ ixT X n p LL 7 = 4 ∨ ixT X n p LL 7 = 5 ∨ ixT X n p LL 7 = 6) with g | g | g | g | g | g
  · refine go (rc := fun Z => f120_readTeam b Z) (rm := f227_teamLine Zm) (p_team h hn hX hs) ?_ ?_
    · rw [cl, g, if_neg (by decide), if_pos (by decide)]
    · unfold f233_line
      rw [m1, mjBp_some, decide_eq_true g, if_neg (by decide)]
  · refine go (rc := fun Z => f123_readRuns b Z) (rm := f228_runsLine Zm) (p_runs h hn hX) ?_ ?_
    · rw [cl, g, if_neg (by decide), if_neg (by decide), if_pos (by decide)]
    · unfold f233_line
      rw [m1, mjBp_some, decide_eq_false (by omega), if_pos (by decide), m2, mjBp_some, decide_eq_true g, if_neg (by decide)]
  · refine go (rc := fun Z => f124_readAct b Z) (rm := f230_actLine Zm) (p_act h hn hX) ?_ ?_
    · rw [cl, g, if_neg (by decide), if_neg (by decide), if_neg (by decide), if_pos (by decide)]
    · unfold f233_line
      rw [m1, mjBp_some, decide_eq_false (by omega), if_pos (by decide), m2, mjBp_some, decide_eq_false (by omega), if_pos (by decide), m3, mjBp_some, decide_eq_true g, if_neg (by decide)]
  · refine go (rc := fun Z => f125_readRule b Z) (rm := f231_ruleLine Zm) (p_rule h hn hX) ?_ ?_
    · rw [cl, g, if_neg (by decide), if_neg (by decide), if_neg (by decide), if_neg (by decide), if_pos (by decide)]
    · unfold f233_line
      rw [m1, mjBp_some, decide_eq_false (by omega), if_pos (by decide), m2, mjBp_some, decide_eq_false (by omega), if_pos (by decide), m3, mjBp_some, decide_eq_false (by omega), if_pos (by decide), m4, mjBp_some, decide_eq_true g, if_neg (by decide)]
  · refine go (rc := fun Z => f126_readThrough b Z) (p_through h hn hX hs) ?_ ?_
    · rw [cl, g, if_neg (by decide), if_neg (by decide), if_neg (by decide), if_neg (by decide), if_neg (by decide), if_pos (by decide)]
    · unfold f233_line
      rw [m1, mjBp_some, decide_eq_false (by omega), if_pos (by decide), m2, mjBp_some, decide_eq_false (by omega), if_pos (by decide), m3, mjBp_some, decide_eq_false (by omega), if_pos (by decide), m4, mjBp_some, decide_eq_false (by omega), if_pos (by decide), m5, mjBp_some, decide_eq_true g, if_neg (by decide)]
      exact (bd_ass (num := fun Z => f213_number 1 6 Z) (g := fun v Z => zSi Z 211 25 v) (F := f233_line_j131)).symm
  · refine go (rc := fun Z => f127_readWithin b Z) (p_within h hn hX hs) ?_ ?_
    · rw [cl, g, if_neg (by decide), if_neg (by decide), if_neg (by decide), if_neg (by decide), if_neg (by decide), if_neg (by decide), if_pos (by decide)]
    · unfold f233_line
      rw [m1, mjBp_some, decide_eq_false (by omega), if_pos (by decide), m2, mjBp_some, decide_eq_false (by omega), if_pos (by decide), m3, mjBp_some, decide_eq_false (by omega), if_pos (by decide), m4, mjBp_some, decide_eq_false (by omega), if_pos (by decide), m5, mjBp_some, decide_eq_false (by omega), if_pos (by decide), m6, mjBp_some, decide_eq_true g, if_neg (by decide)]
      exact (bd_ass (num := fun Z => f213_number 0 99 Z) (g := fun v Z => zSi Z 211 26 v) (F := f233_line_j131)).symm
/-- all lines -/
theorem p_lines (hn : n ≤ 700) (hX : ∀ k, X k ≤ 255) : ∀ (k : Nat) {Zc Zm : mjZt} {S : mjS} {m p x N M : Nat} {t w : Bool}, n - p < k → n - p < N → n - p + 1 < M → jR X n b Zc Zm S m p t w → Zm.1 211 27 = i3 x → 2 * x ≤ p →
    (∃ Zc1 Zm1 S1 m1 p1 t1 w1 x1, f128_read_h46 N b (i3 x) Zc = some (i3 ((x1 : Nat) : Int), Zc1) ∧ f236_book_h76 M Zm = f236_book_j97 Zm1 ∧ jR X n b Zc1 Zm1 S1 m1 p1 t1 w1 ∧ Zm1.1 211 27 = i3 x1 ∧ x1 ≤ 350 ∧ eqRc b Zc Zc1 ∧ eqRf Zm Zm1) ∨
    (∃ Zc1 Zm1, f128_read_h46 N b (i3 x) Zc = some (-1, Zc1) ∧ f236_book_h76 M Zm = f236_book_j97 Zm1 ∧ bd Zc1 Zm1 ∧ eqRc b Zc Zc1 ∧ eqRf Zm Zm1)
  | 0, _, _, _, _, _, _, _, _, _, _, hk, _, _, _, _, _ => by omega
  | k + 1, Zc, Zm, S, m, p, x, N, M, t, w, hk, hN, hM, h, hx, hxp => by
    obtain ⟨N, rfl⟩ : ∃ N0, N = N0 + 1 := ⟨N - 1, by omega⟩
    obtain ⟨M, rfl⟩ : ∃ M0, M = M0 + 1 := ⟨M - 1, by omega⟩
    have hg := h.1
    have hp := hg.2.2.2.2
    have h183 : Zc.1 183 3 = i3 (kd X n p) := hg.1.2.2.1
    have ks := kd_spec (X := X) (n := n) (p := p)
    have k5 := kd_255 (n := n) (p := p) hX
    have h7 := hg.2.1.2.2.2.1
    have s4 : jS X n p ≤ 4 := by omega
    have md : f236_book_h76 (M + 1) Zm = if mjCmp .eq (i3 (jS X n p)) 0 = true then f236_book_j97 Zm else mjBd (f233_line Zm) fun _ Z133 => f236_book_h76 M Z133 := by
      rw [f236_book_h76, gdM hg.2.2.2.1, mjBp_some, if_neg (by decide), h7]
    by_cases hs : jS X n p = 0
    · left
      refine ⟨Zc, Zm, S, m, p, t, w, x, ?_, ?_, h, hx, by omega, eqRc_rf, eqRf_rf⟩
      · rw [f128_read_h46, show (700 : Int32) = i3 700 from rfl, if_neg (by rw [c_ge (by omega)]; omega), h183, show (0 : Int32) = i3 0 from rfl, if_pos (by rw [c_eq (by omega)]; omega)]
      · rw [md, hs]; exact if_pos (by decide)
    · rw [if_neg (by rw [show (0 : Int32) = i3 0 from rfl, c_eq (by omega)]; omega)] at md
      rcases p_line h hn hX hs (x := x) (by omega) N with ⟨Zc1, Zm1, S1, m1, p1, t1, w1, a1, a2, a3, a4, a5, a6, a7⟩ | ⟨Zc1, Zm1, a1, a2, a3, a4, a5⟩
      · simp only [] at a1
        rw [a2, mjBd_some] at md
        rw [md, a1]
        have hp1 := a3.1.2.2.2.2
        rcases p_lines hn hX k (p := p1) (x := x + 1) (N := N) (M := M) (by omega) (by omega) (by omega) a3 (by rw [a5, hx, i3_s]) (by omega) with ⟨Zc2, Zm2, S2, m2, p2, t2, w2, x2, b1, b2, b3, b4, b5, b6, b7⟩ | ⟨Zc2, Zm2, b1, b2, b3, b4, b5⟩
        · exact Or.inl ⟨Zc2, Zm2, S2, m2, p2, t2, w2, x2, b1, b2, b3, b4, b5, eqRc_tr a6 b6, eqRf_tr a7 b7⟩
        · exact Or.inr ⟨Zc2, Zm2, b1, b2, b3, eqRc_tr a6 b4, eqRf_tr a7 b5⟩
      · simp only [] at a1
        rw [a2, mjBd_some] at md
        obtain ⟨kk, q, k1, k2, k3, k4⟩ := a3
        obtain ⟨M, rfl⟩ : ∃ M0, M = M0 + 1 := ⟨M - 1, by omega⟩
        right
        refine ⟨Zc1, Zm1, a1, ?_, ⟨kk, q, k1, k2, k3, k4⟩, a4, a5⟩
        rw [md, f236_book_h76, bdM k4 ⟨k1, k2⟩, mjBp_some, if_pos (by decide)]
end LS
