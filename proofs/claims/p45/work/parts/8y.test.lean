/-! CONDITIONS READ: openers ahead of a comparison -/
section TS
variable {X : Nat → Nat} {n b fr wr : Nat}
theorem m223f {M : Nat} {Z : mjZt} {k : Int} {q : Nat} (h : fltM Z k q) (hk : 1 ≤ k ∧ k ≤ 7) : f223_comparison_h0 (M + 1) Z = some ((), Z) := by
  rw [f223_comparison_h0, m208f h hk, mjBp_some, if_neg (by decide), m209f h hk, mjBp_some, if_pos (by decide), if_neg (bdL h hk)]
theorem t_cmp (hb : b = 2 ∨ b = 92) (hn : n ≤ 700) (hX : ∀ k, X k ≤ 255) : ∀ (k : Nat) {Zc Zm : mjZt} {S : mjS} {m p s N M : Nat} {L : pL}, n - p < k → n - p + 1 < M → cdS X n b Zc Zm S fr m wr L 0 p s N → pT L → cI S fr m L m →
    cGood X n b fr wr (cLp b N s Zc) (f223_comparison_h0 M Zm) Zc Zm S m p ∨ oBad X n b wr m (cLp b N s Zc) (f223_comparison_h0 M Zm) Zc Zm
  | 0, Zc, Zm, S, m, p, s, N, M, L, hk, _, _, _, _ => by omega
  | k + 1, Zc, Zm, S, m, p, s, N, M, L, hk, hM, h, hpt, hi => by
    have h' := h
    obtain ⟨hg, h0, hpk, ht, hd, hbs, hkf, ho, hw, hsp, hN⟩ := h'
    have hp := jE_bd (X := X) hg.2.2.2.2
    have hp5 := hg.2.2.2.2
    obtain ⟨N, rfl⟩ : ∃ N0, N = N0 + 1 := ⟨N - 1, by omega⟩
    obtain ⟨M, rfl⟩ : ∃ M0, M = M0 + 1 := ⟨M - 1, by omega⟩
    have len := stg_len (Or.inr ⟨rfl, hpt⟩ : stg 52 true L) ho
    have m8 : f208_isWord 7237492 Zm = some (bI (decide (jS X n p = 1 ∧ jN X n p = 7237492))) := m208 hg.2.1 hX hg.2.2.2.1 (w := 7237492) (by decide)
    have m9 : f209_isSignHere 40 Zm = some (bI (sgn X n p 40)) := m209 hg.2.1 hX hg.2.2.2.1 (c := 40) (by omega)
    by_cases op : sgn X n p 40 = true ∨ (jS X n p = 1 ∧ jN X n p = 7237492)
    rotate_left
    · exact t_cmp0 hb hn hX h hpt hi (by cases g : sgn X n p 40 with
        | true => exact absurd (Or.inl g) op
        | false => rfl) (fun g => op (Or.inr g))
    have k40 := kdS (X := X) (n := n) (p := p) (c := 40) (by omega)
    have ks := kd_spec (X := X) (n := n) (p := p)
    have h183 : Zc.1 183 3 = i3 (kd X n p) := hg.1.2.2.1
    have h7 := hg.2.1.2.2.2.1
    have sgd : ∀ {c : Nat}, sgn X n p c = true → jS X n p = 3 ∧ jV X n p = c := fun g => of_decide_eq_true g
    have k5 := kd_255 (n := n) (p := p) hX
    -- which of the two
    obtain ⟨c, hc, hcc, hcm⟩ : ∃ c : Int, (c = 40 ∨ c = 50) ∧ (if mjCmp .ne (Zc.1 183 3) 40 = true then (6 : Int32) else 2) = i3 (opW c) ∧ f223_comparison_h0 (M + 1) Zm = mjBd (f217_opens (i3 (qM c)) Zm) fun _ Z108 => f223_comparison_h0 M Z108 := by
      rcases op with g | g
      · have sg := sgd g
        refine ⟨50, Or.inr rfl, ?_, ?_⟩
        · rw [h183, k40.mpr g]; rfl
        · rw [f223_comparison_h0, m8, decide_eq_false (fun k => by omega), mjBp_some, if_neg (by decide), m9, g, mjBp_some, if_neg (by decide)]
          unfold f223_comparison_j19
          rw [h7, sg.1, if_pos (by decide)]; rfl
      · refine ⟨40, Or.inl rfl, ?_, ?_⟩
        · rw [h183, show (40 : Int32) = i3 40 from rfl, if_pos (by rw [c_ne (by omega)]; omega)]; rfl
        · rw [f223_comparison_h0, m8, decide_eq_true g, mjBp_some, if_pos (by decide)]
          unfold f223_comparison_j19
          rw [h7, g.1, if_neg (by decide)]; rfl
    have hs : jS X n p ≠ 0 := by
      rcases op with g | g
      · have := sgd g; omega
      · omega
    have hpp := hp.2.2.2 hs
    have iso : isOp c = true := by rcases hc with rfl | rfl <;> rfl
    have ist : isT c = true := by rcases hc with rfl | rfl <;> rfl
    have c52 : c ≠ 52 := by omega
    have st0 : f54_comparisonStarts Zc = some 0 := by
      rw [e54 hg.1 hX]
      rcases op with g | g
      · rw [g]; rfl
      · rw [decide_eq_true g, Bool.or_true]; rfl
    have row := cl0o (b := b) (N := N) (s := s) h0 (by omega) st0
    rw [hcc] at row
    have cl := cL_len L
    have co := cL_opn L
    by_cases full : opn L = 6
    · right
      have e := e56b (b := b) hpk (by rw [co]; exact full) (i3 (opW c))
      obtain ⟨Zm1, b1, b2, b3⟩ := m217b hg.2.1 hg.2.2.2.1 hd full (by omega) (qM c)
      have kb := fK_bd (X := X) (n := n) (p := p) (k := 7) (by omega)
      refine ⟨7, p, Zc, Zm1, by omega, by omega, ?_, ?_, hg.1, hp5, hg.2.2.1, b2, eqCc_rf, b3⟩
      · rw [row, e, mjBd_some, if_neg (by decide)]
      · rw [hcm, b1, mjBd_some]
        cases M with
        | zero => omega
        | succ M => exact m223f b2 kb
    · obtain ⟨Zc2, r1, r2, r3, r4⟩ := e56g hb hpk ht (by rw [co]; omega) (by omega) (c := c) iso
      obtain ⟨Zm2, u1, u2, u3⟩ := m217g hg.2.2.2.1 hd (by omega) (by omega) (c := c) iso
      have g2 : gd X n Zc2 Zm2 p := gd_cc hb hg r4.1 r4.2.1 r4.2.2.1 u3
      obtain ⟨Zc3, Zm3, d1, d2, d3, d4, d5⟩ := nxt g2 hn hX
      have q85 : Zc3.1 185 = Zc2.1 185 := (d4.2 185 (by omega)).1
      have ck : cL ((c, m) :: L) = (c, m) :: cL L := by rw [cL, if_neg c52]
      have nx : isX c = false := decide_eq_false (by omega)
      have cd : cdS X n b Zc3 Zm3 S fr m wr ((c, m) :: L) 0 (jE X n p) (s + 1) N := by
        refine ⟨d3, ?_, ?_, trC_of r3 (fun a g1 g2 => (d4.2 a (by omega)).1), mdM_go u2 d5, ?_, ⟨fun j hj => ?_, fun j hj => ?_⟩, ?_, ?_, by omega, by omega⟩
        · rw [q85, r4.2.2.2 0 (by omega) (by omega)]; exact h0
        · rw [ck]; exact plK_of r2 q85 (d4.2 186 (by omega)).1 (d4.2 187 (by omega)).1
        · rw [d5.2.2 19 (by omega), u3.2.2 19 (by omega) (by omega) (by omega), hbs, bsL, nx]; rfl
        · rw [(d5.2.1 213 (by omega)).2, u3.1]; exact hkf.1 j hj
        · rw [(d5.2.1 214 (by omega)).2, u3.1]; exact hkf.2 j hj
        · rw [opn, if_pos iso]; omega
        · rw [wtL]; split <;> omega
      have gr : grw b wr m m S S Zc Zm Zc3 Zm3 := ⟨Nat.le_refl _, fun _ _ => rfl, fun _ _ => rfl, eqCc_tr (m2 := m) r4.1 (eqTk_c hb d4) (Nat.le_refl _), eqCd_tr (eqWk_d u3) (eqGo_d d5)⟩
      have e1 : cLp b (N + 1) s Zc = cLp b N (s + 1) Zc3 := by
        rw [row, r1, mjBd_some, if_pos (by decide), d1, mjBd_some]
      have e2 : f223_comparison_h0 (M + 1) Zm = f223_comparison_h0 M Zm3 := by
        rw [hcm, u1, d2, mjBd_some, mjBd_some]
      rw [e1, e2]
      rcases t_cmp hb hn hX k (p := jE X n p) (M := M) (by omega) (by omega) cd ⟨ist, onT_op (by omega) L, hpt⟩ (push_o hi (Or.inl iso)) with z | z
      · exact Or.inl (cGood_go z (by omega) gr)
      · exact Or.inr (oBad_go z gr)
/-! conditions whole -/
theorem rd_T5 {L : pL} (S : mjS) (m : Nat) (h : pT L) (ht : ∀ c a M, L = (c, a) :: M → c ≠ 40) : rd (qT 5) L S m = rd (fun c => decide (41 ≤ c ∧ c ≤ 41)) L S m ∧ rd (qT 4) L S m = rd (fun c => decide (41 ≤ c ∧ c ≤ 42)) L S m := by
  -- under an and, an or there is no not
  have key : ∀ (J : pL), pT J → (∀ c a M, J = (c, a) :: M → c ≠ 40) → ∀ (T : mjS) (k : Nat), rd (qT 5) J T k = rd (fun c => decide (41 ≤ c ∧ c ≤ 41)) J T k ∧ rd (qT 4) J T k = rd (fun c => decide (41 ≤ c ∧ c ≤ 42)) J T k := fun J => by
    induction J with
    | nil => intro _ _ T k; exact ⟨rfl, rfl⟩
    | cons d J ih =>
      obtain ⟨d, a⟩ := d
      intro hJ hd T k
      have d40 := hd d a J rfl
      have hc : d = 40 ∨ d = 41 ∨ d = 42 ∨ d = 50 := of_decide_eq_true hJ.1
      have below : d = 41 ∨ d = 42 → ∀ c a' M, J = (c, a') :: M → c ≠ 40 := fun g c a' M e => by
        have on := hJ.2.1
        subst e
        rcases g with rfl | rfl
        · have := on.1 rfl; omega
        · have := on.2 rfl; omega
      rcases (by omega : d = 41 ∨ d = 42 ∨ d = 50) with rfl | rfl | rfl
      · have i := ih hJ.2.2 (below (Or.inl rfl))
        exact ⟨by rw [rd, rd, if_pos (by decide), if_pos (by decide)]; exact (i _ _).1, by rw [rd, rd, if_pos (by decide), if_pos (by decide)]; exact (i _ _).2⟩
      · have i := ih hJ.2.2 (below (Or.inr rfl))
        exact ⟨by rw [rd, rd, if_neg (by decide), if_neg (by decide)], by rw [rd, rd, if_pos (by decide), if_pos (by decide)]; exact (i _ _).2⟩
      · exact ⟨by rw [rd, rd, if_neg (by decide), if_neg (by decide)], by rw [rd, rd, if_neg (by decide), if_neg (by decide)]⟩
  exact key L h ht S m
/-- where it stops: nothing is left, or an open ( -/
theorem q4_top : ∀ (L : pL) (S : mjS) (m : Nat), pT L → (rd (qT 4) L S m).2.2 = [] ∧ opn (rd (qT 4) L S m).2.2 = 0 ∨ ∃ a M, (rd (qT 4) L S m).2.2 = (50, a) :: M ∧ pT M
  | [], _, _, _ => Or.inl ⟨rfl, rfl⟩
  | (c, a) :: L, S, m, h => by
    have hc : c = 40 ∨ c = 41 ∨ c = 42 ∨ c = 50 := of_decide_eq_true h.1
    rw [rd]
    rcases hc with rfl | rfl | rfl | rfl
    · rw [if_pos (by decide)]; exact q4_top L _ _ h.2.2
    · rw [if_pos (by decide)]; exact q4_top L _ _ h.2.2
    · rw [if_pos (by decide)]; exact q4_top L _ _ h.2.2
    · rw [if_neg (by decide)]; exact Or.inr ⟨a, L, rfl, h.2.2⟩
theorem opn_rd {q : Int → Bool} : ∀ (L : pL) (S : mjS) (m : Nat), (∀ c, q c = true → isOp c = false) → opn (rd q L S m).2.2 = opn L
  | [], _, _, _ => rfl
  | (c, a) :: L, S, m, hq => by
    rw [rd]
    by_cases g : q c = true
    · rw [if_pos g, opn_rd L _ _ hq, opn, hq c g]; rfl
    · rw [if_neg g]
theorem e52 {Z : mjZt} {K : pL} {p : Nat} (h : tkC X n Z p) (hX : ∀ k, X k ≤ 255) (hk : plK Z K) (ho : opn K ≤ 6) : f52_truthEnds Z = some (bI (!(decide (jS X n p = 1 ∧ jN X n p = 6385252) || (decide (jS X n p = 1 ∧ jN X n p = 28530) || (sgn X n p 41 && decide (opn K ≠ 0)))))) := by
  have h183 : Z.1 183 3 = i3 (kd X n p) := h.2.2.1
  have k5 := kd_255 (n := n) (p := p) hX
  have k41 := kdS (X := X) (n := n) (p := p) (c := 41) (by omega)
  have bJ := ixT_bd (X := X) (n := n) (p := p) (L := LJ) (N := 5)
  obtain ⟨j2, j3, _⟩ := iJ (X := X) (n := n) (p := p)
  unfold f52_truthEnds
  rw [ixJ h hX (Or.inl rfl), mjBp_some, h183, hk.1, show (2 : Int32) = i3 2 from rfl, show (3 : Int32) = i3 3 from rfl, show (41 : Int32) = i3 41 from rfl]
  by_cases g2 : jS X n p = 1 ∧ jN X n p = 6385252
  · rw [if_pos (by rw [c_eq (by omega)]; exact j2.mpr g2), decide_eq_true g2]; rfl
  · rw [if_neg (by rw [c_eq (by omega)]; exact fun k => g2 (j2.mp k)), decide_eq_false g2, Bool.false_or]
    by_cases g3 : jS X n p = 1 ∧ jN X n p = 28530
    · rw [if_pos (by rw [c_eq (by omega)]; exact j3.mpr g3), decide_eq_true g3]; rfl
    · rw [if_neg (by rw [c_eq (by omega)]; exact fun k => g3 (j3.mp k)), decide_eq_false g3, Bool.false_or]
      cases q : sgn X n p 41 with
      | true =>
        have kk := k41.mpr q
        rw [if_neg (by rw [c_ne (by omega)]; omega), Bool.true_and]
        by_cases g4 : opn K = 0
        · rw [g4, if_neg (by decide)]; rfl
        · rw [show (0 : Int32) = i3 0 from rfl, if_pos (by rw [c_ne (by omega)]; omega), decide_eq_true g4]; rfl
      | false =>
        have kk : kd X n p ≠ 41 := fun g => by rw [k41.mp g] at q; cases q
        rw [if_pos (by rw [c_ne (by omega)]; omega)]; rfl
end TS
