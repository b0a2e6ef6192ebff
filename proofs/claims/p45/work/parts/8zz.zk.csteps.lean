/-! the class reads a condition: one token -/
def cZ9 (X : Nat → Nat) (n b : Nat) (Z : mjZt) (p : Nat) (A : mjCd) : Prop := tkC X n Z p ∧ p ≤ n ∧ ct9 b Z A
def gG9 (X : Nat → Nat) (n b : Nat) (A : mjCd) (ts : List (Nat × Nat)) (B : mjCd) (nx : Nat → Prop) : Prop := ∀ (Z : mjZt) (p q N s : Nat), cZ9 X n b Z p A → rdT X n p ts q → q ≤ n → ts.length < N → s + ts.length ≤ 700 → nx q → ∃ Z2, cLp b N s Z = cLp b (N - ts.length) (s + ts.length) Z2 ∧ cZ9 X n b Z2 q B ∧ eqJ b Z Z2
/-- no token is taken -/
def gV9 (X : Nat → Nat) (n b : Nat) (A B : mjCd) (nx : Nat → Prop) : Prop := ∀ (Z : mjZt) (p N s : Nat), cZ9 X n b Z p A → s ≤ 700 → nx p → ∃ Z2, cLp b (N + 1) s Z = cLp b (N + 1) s Z2 ∧ cZ9 X n b Z2 p B ∧ eqJ b Z Z2
section CS
variable {X : Nat → Nat} {n b p q N s op cu : Nat} {cm : Bool} {Z Z1 Z2 : mjZt} {A B C : mjCd} {W V P : List Nat} {ts us : List (Nat × Nat)} {nx : Nat → Prop}
theorem tkC_cg (h : tkC X n Z p) (e : jQ X n p = jQ X n q) : tkC X n Z q := by
  obtain ⟨c1, c2, c3, c4⟩ := tk_cg e
  obtain ⟨h1, h2, h3, h4, h5, h6⟩ := h
  exact ⟨h1, by rw [← c2]; exact h2, by rw [← c1, ← c3]; exact h3, by rw [← e]; exact h4, by rw [← c1, ← c3]; exact h5, by rw [← c1, ← c4]; exact h6⟩
theorem rd_sp2 {a c : List (Nat × Nat)} (hp : p ≤ n) (h : rdT X n p (a ++ c) q) : ∃ q1, rdT X n p a q1 ∧ rdT X n q1 c q ∧ q1 ≤ n := by
  induction a generalizing p with
  | nil => exact ⟨p, rfl, h, hp⟩
  | cons t r ih =>
    obtain ⟨q1, g1, g2, g3⟩ := ih (jE_bd (X := X) hp).2.2.1 h.2.2
    exact ⟨q1, ⟨h.1, h.2.1, g1⟩, g2, g3⟩
theorem gG_tr {nx2 : Nat → Prop} (h : gG9 X n b A ts B nx2) (g : gG9 X n b B us C nx) (hx : ∀ p q, p ≤ n → rdT X n p us q → nx2 p) : gG9 X n b A (ts ++ us) C nx := by
  intro Z p q N s hZ hr hq hN hs hnx
  rw [List.length_append] at hN hs ⊢
  obtain ⟨q1, r1, r2, r3⟩ := rd_sp2 hZ.2.1 hr
  obtain ⟨Y, a1, a2, a3⟩ := h Z p q1 N s hZ r1 r3 (by omega) (by omega) (hx q1 q r3 r2)
  obtain ⟨V, b1, b2, b3⟩ := g Y q1 q (N - ts.length) (s + ts.length) a2 r2 hq (by omega) (by omega) hnx
  refine ⟨V, ?_, b2, eqJ_tr a3 b3⟩
  rw [a1, b1, Nat.sub_sub, Nat.add_assoc]
theorem gV_G {nx2 : Nat → Prop} (h : gV9 X n b A B nx2) (g : gG9 X n b B us C nx) (hx : ∀ p q, p ≤ n → rdT X n p us q → nx2 p) : gG9 X n b A us C nx := by
  intro Z p q N s hZ hr hq hN hs hnx
  obtain ⟨N, rfl⟩ : ∃ N0, N = N0 + 1 := ⟨N - 1, by omega⟩
  obtain ⟨Y, a1, a2, a3⟩ := h Z p N s hZ (by omega) (hx p q hZ.2.1 hr)
  obtain ⟨V, b1, b2, b3⟩ := g Y p q (N + 1) s a2 hr hq hN hs hnx
  exact ⟨V, a1.trans b1, b2, eqJ_tr a3 b3⟩
theorem gG_V {nx2 : Nat → Prop} (h : gG9 X n b A us B nx2) (g : gV9 X n b B C nx) (hx : ∀ q, nx q → nx2 q) : gG9 X n b A us C nx := by
  intro Z p q N s hZ hr hq hN hs hnx
  obtain ⟨Y, a1, a2, a3⟩ := h Z p q N s hZ hr hq hN hs (hx q hnx)
  obtain ⟨M, hM⟩ : ∃ M, N - us.length = M + 1 := ⟨N - us.length - 1, by omega⟩
  obtain ⟨V, b1, b2, b3⟩ := g Y q M (s + us.length) a2 (by omega) hnx
  exact ⟨V, by rw [a1, hM, b1], b2, eqJ_tr a3 b3⟩
theorem gG_wk {nx2 : Nat → Prop} (h : gG9 X n b A ts B nx) (hx : ∀ q, nx2 q → nx q) : gG9 X n b A ts B nx2 := fun Z p q N s hZ hr hq hN hs hnx => h Z p q N s hZ hr hq hN hs (hx q hnx)
theorem adv9 (hb : b = 2 ∨ b = 92) (hn : n ≤ 700) (hX : ∀ k, X k ≤ 255) (h : cZ9 X n b Z p A) (e1 : eqI b Z Z1) (c1 : ct9 b Z1 B) : ∃ Z2, f68_advance Z1 = some ((), Z2) ∧ cZ9 X n b Z2 (jE X n p) B ∧ eqJ b Z Z2 := by
  have t1 := tk_eqI hb h.1 e1
  obtain ⟨Z2, a1, a2, a3⟩ := adv t1 hn hX h.2.1
  obtain ⟨d1, d2, d3, d5, d6, d7⟩ := c1
  have o : ∀ a, a ≠ 183 → Z2.1 a = Z1.1 a := fun a ha => (a3.2 a ha).1
  refine ⟨Z2, a1, ⟨a2, (jE_bd (X := X) h.2.1).2.2.1, by rw [o 185 (by omega)]; exact d1, by rw [o 185 (by omega)]; exact d2, by rw [o 185 (by omega)]; exact d3, by rw [o 185 (by omega)]; exact d5, stw_of (o 186 (by omega)) _ d6, ?_⟩, ⟨a3.1.trans e1.1.1, fun a ha => ?_⟩⟩
  · unfold trm9
    rw [o (b + 1) (by omega)]; exact d7
  · have := a3.2 a (fun g => ha (by unfold jw; omega))
    exact ⟨this.1.trans (e1.1.2 a ha).1, this.2.trans (e1.1.2 a ha).2⟩
/-- one token taken, out of the loop's row -/
theorem one9 (hb : b = 2 ∨ b = 92) (hn : n ≤ 700) (hX : ∀ k, X k ≤ 255) {t : Nat × Nat} (h : ∀ (Z : mjZt) (p N s : Nat), cZ9 X n b Z p A → jS X n p = t.1 → tkW X n p t.1 = t.2 → s ≤ 700 → ∃ F, cLp b (N + 1) s Z = (mjBd F fun v Z1 => if mjCmp .eq v 0 = true then mjBd (f68_advance Z1) fun _ Z2 => cLp b N (s + 1) Z2 else some (v, Z1)) ∧ ∃ Z1, F = some (0, Z1) ∧ eqI b Z Z1 ∧ ct9 b Z1 B) : gG9 X n b A [t] B (fun _ => True) := by
  intro Z p q N s hZ hr hq hN hs _
  obtain ⟨r1, r2, r3⟩ := hr
  obtain ⟨N, rfl⟩ : ∃ N0, N = N0 + 1 := ⟨N - 1, by have : 1 < N := hN; omega⟩
  have hs1 : s + 1 ≤ 700 := hs
  obtain ⟨F, a1, Z1, a2, a3, a4⟩ := h Z p N s hZ r1 r2 (by omega)
  obtain ⟨Z2, b1, b2, b3⟩ := adv9 hb hn hX hZ a3 a4
  refine ⟨Z2, ?_, ⟨tkC_cg b2.1 r3, hq, b2.2.2⟩, b3⟩
  rw [a1, a2, mjBd_some, if_pos (by decide), b1, mjBd_some]
  rfl
theorem kd_tok {t : Nat × Nat} (h1 : jS X n p = t.1) (h2 : tkW X n p t.1 = t.2) (ht : t.1 = 1 ∨ t.1 = 2 ∨ t.1 = 3) : kd X n p = if t.1 = 3 then t.2 else t.1 := by
  unfold kd cK
  unfold tkW at h2
  rw [h1]
  rcases ht with e | e | e
  · rw [if_neg (by omega), if_neg (by omega), if_neg (by omega)]
  · rw [if_neg (by omega), if_neg (by omega), if_neg (by omega)]
  · rw [if_neg (by omega)] at h2
    rw [if_pos e, if_pos e, h2]
theorem ct_st {st : Nat} (h : ct9 b Z (A.1, A.2)) (e : Z1 = zSi Z 185 0 (i3 (st : Nat))) (hb : b = 2 ∨ b = 92) (hA : A.1 ≠ 0) : ct9 b Z1 (st, A.2) ∧ eqI b Z Z1 := by
  obtain ⟨d1, d2, d3, d5, d6, d7⟩ := h
  subst e
  refine ⟨⟨si_same _ _ _ _, by rw [si_fld _ _ _ _ (by omega)]; exact d2, Or.inr (d3.elim (fun g => absurd g hA) (fun g => ⟨by rw [si_fld _ _ _ _ (by omega)]; exact g.1, by rw [si_fld _ _ _ _ (by omega)]; exact g.2⟩)), by rw [si_fld _ _ _ _ (by omega)]; exact d5, stw_of (si_obj _ _ _ _ (by omega)) _ d6, ?_⟩, eqI_si (by omega) (by omega)⟩
  have : (zSi Z 185 0 (i3 (st : Nat))).1 (b + 1) = Z.1 (b + 1) := si_obj _ _ _ _ (by omega)
  unfold trm9
  rw [this]; exact d7
/-- a number, a fact -/
theorem st_num (hb : b = 2 ∨ b = 92) (hn : n ≤ 700) (hX : ∀ k, X k ≤ 255) {t : Nat × Nat} (ht : (∃ v, t = (2, v)) ∨ ∃ k, k < 11 ∧ t = (1, LF.getD k 0)) : gG9 X n b (1, op, cu, cm, W) [t] (2, op, cu, cm, W) (fun _ => True) := by
  refine one9 hb hn hX (fun Z p N s hZ r1 r2 hs => ?_)
  obtain ⟨d1, d2, d3, d5, d6, d7⟩ := hZ.2.2
  refine ⟨_, cl1 d1 hs, ?_⟩
  have h3 : Z.1 183 3 = i3 (kd X n p) := hZ.1.2.2.1
  have tt : t.1 = 1 ∨ t.1 = 2 ∨ t.1 = 3 := by
    rcases ht with ⟨v, e⟩ | ⟨k, _, e⟩ <;> rw [e]
    · exact Or.inr (Or.inl rfl)
    · exact Or.inl rfl
  have k3 := kd_tok r1 r2 tt
  have fin : ∀ (x v : Int32), ∃ Z1, (mjBd (f48_put (b + 1) x v 0 Z) fun _ Z110 => mjLet (zSi Z110 185 0 2) fun Z111 => some ((0 : Int32), Z111)) = some (0, Z1) ∧ eqI b Z Z1 ∧ ct9 b Z1 (2, op, cu, cm, W) := fun x v => by
    obtain ⟨Y, p1, p2, p3⟩ := r_put hb d7 x v 0
    have o185 : Y.1 185 = Z.1 185 := p3.2 185 (by omega)
    have o186 : Y.1 186 = Z.1 186 := p3.2 186 (by omega)
    obtain ⟨c1, c2⟩ := ct_st (A := (1, op, cu, cm, W)) (st := 2) (Z := Y) (Z1 := zSi Y 185 0 2) ⟨by rw [o185]; exact d1, by rw [o185]; exact d2, by rw [o185]; exact d3, by rw [o185]; exact d5, stw_of o186 _ d6, p2⟩ rfl hb (by simp)
    exact ⟨_, by rw [p1, mjBd_some, let_eq], eqI_tr (eqZp_I hb p3) c2, c1⟩
  rcases ht with ⟨v, e⟩ | ⟨k, hk, e⟩
  · have k2 : kd X n p = 2 := by rw [k3, e]; rfl
    have ix := ixT_bd (X := X) (n := n) (p := p) (L := LF) (N := 11)
    have hx : ixT X n p LF 11 = -1 := by
      unfold ixT
      rw [r1, e, if_neg (by simp)]
    obtain ⟨Z1, f1, f2, f3⟩ := fin 0 (Z.1 183 5)
    refine ⟨Z1, ?_, f2, f3⟩
    unfold f57_startNumber
    rw [h3, k2, if_pos (by decide), ixF hZ.1 hX (Or.inl rfl), mjBp_some, if_pos (by decide), hx]
    unfold f57_startNumber_j48
    rw [if_neg (by decide), if_pos (is_b1 hb)]
    exact f1
  · have k1 : kd X n p = 1 := by rw [k3, e]; rfl
    have s1 : jS X n p = 1 := by rw [r1, e]
    have n1 : jN X n p = LF.getD k 0 := by
      have := r2
      rw [e] at this
      exact this
    have hx : ixT X n p LF 11 = (k : Nat) := by
      unfold ixT
      rw [if_pos s1, n1]
      exact (by decide : ∀ j, j < 11 → gX LF 11 (LF.getD j 0) = ((j : Nat) : Int)) k hk
    obtain ⟨Z1, f1, f2, f3⟩ := fin 1 (i3 (k : Nat))
    refine ⟨Z1, ?_, f2, f3⟩
    unfold f57_startNumber
    rw [h3, k1, if_pos (by decide), ixF hZ.1 hX (Or.inl rfl), mjBp_some, if_neg (by decide), hx, if_pos (by rw [show (-1 : Int32) = i3 (-1) from rfl, c_ne (by omega)]; omega)]
    unfold f57_startNumber_j48
    rw [if_pos (by rw [show (-1 : Int32) = i3 (-1) from rfl, c_ne (by omega)]; omega), if_pos (is_b1 hb)]
    exact f1
/-- what opens -/
theorem r_open (hb : b = 2 ∨ b = 92) {w : Nat} (hw : w ≤ 20) (h : ct9 b Z A) (ho : A.2.1 < 6) (hl : A.2.2.2.2.length < 64) : ∃ Z1, f56_openOne (b + 1) (i3 (w : Nat)) Z = some (0, Z1) ∧ eqI b Z Z1 ∧ ct9 b Z1 (A.1, A.2.1 + 1, A.2.2.1, A.2.2.2.1, w :: A.2.2.2.2) := by
  obtain ⟨d1, d2, d3, d5, d6, d7⟩ := h
  obtain ⟨Y, hY⟩ : ∃ Y, Y = zSi Z 185 1 (i3 ((A.2.1 + 1 : Nat) : Int)) := ⟨_, rfl⟩
  have yb : Y.1 (b + 1) = Z.1 (b + 1) := by rw [hY, si_obj _ _ _ _ (by omega)]
  have yo : ∀ k, k ≠ 1 → Y.1 185 k = Z.1 185 k := fun k hk => by rw [hY, si_fld _ _ _ _ (by omega)]
  obtain ⟨Z1, p1, p2, p3, p4, p5, p6⟩ := r_push hb hw hl (Z := Y) (by rw [yo 6 (by omega)]; exact d5) (stw_of (by rw [hY, si_obj _ _ _ _ (by omega)]) _ d6) (by unfold trm9; rw [yb]; exact d7)
  refine ⟨Z1, ?_, eqI_tr (by rw [hY]; exact eqI_si (by omega) (by omega)) p5, by rw [p6 0 (by omega), yo 0 (by omega)]; exact d1, by rw [p6 1 (by omega), hY, si_same], by rw [p6 2 (by omega), yo 2 (by omega), p6 3 (by omega), yo 3 (by omega)]; exact d3, p2, p3, p4⟩
  unfold f56_openOne
  rw [d2, show (6 : Int32) = i3 6 from rfl, if_pos (by rw [c_lt (by omega)]; omega), i3_s, let_eq, ← hY, p1, mjBd_some]
theorem st_curly (hb : b = 2 ∨ b = 92) (hn : n ≤ 700) (hX : ∀ k, X k ≤ 255) (ho : op < 6) (hl : W.length < 64) : gG9 X n b (1, op, cu, cm, W) [(3, 123)] (1, op + 1, cu + 1, cm, 3 :: W) (fun _ => True) := by
  refine one9 hb hn hX (fun Z p N s hZ r1 r2 hs => ?_)
  obtain ⟨d1, d2, d3, d5, d6, d7⟩ := hZ.2.2
  refine ⟨_, cl1 d1 hs, ?_⟩
  have h3 : Z.1 183 3 = i3 (kd X n p) := hZ.1.2.2.1
  have k3 : kd X n p = 123 := (kd_tok r1 r2 (Or.inr (Or.inr rfl))).trans rfl
  obtain ⟨Y, hY⟩ : ∃ Y, Y = zSi Z 185 2 (i3 ((cu + 1 : Nat) : Int)) := ⟨_, rfl⟩
  have yb : Y.1 (b + 1) = Z.1 (b + 1) := by rw [hY, si_obj _ _ _ _ (by omega)]
  have yo : ∀ k, k ≠ 2 → Y.1 185 k = Z.1 185 k := fun k hk => by rw [hY, si_fld _ _ _ _ (by omega)]
  obtain ⟨Z1, p1, p2, p3⟩ := r_open hb (w := 3) (A := (1, op, cu + 1, cm, W)) (Z := Y) (by omega) ⟨by rw [yo 0 (by omega)]; exact d1, by rw [yo 1 (by omega)]; exact d2, Or.inr ⟨by rw [hY, si_same], by rw [yo 3 (by omega)]; exact (d3.resolve_left (by simp)).2⟩, by rw [yo 6 (by omega)]; exact d5, stw_of (by rw [hY, si_obj _ _ _ _ (by omega)]) _ d6, by unfold trm9; rw [yb]; exact d7⟩ ho hl
  refine ⟨Z1, ?_, eqI_tr (by rw [hY]; exact eqI_si (by omega) (by omega)) p2, p3⟩
  unfold f57_startNumber
  have p1' : f56_openOne (b + 1) 3 Y = _ := p1
  rw [h3, k3, if_neg (by decide), show Z.1 185 2 = i3 (cu : Nat) from (d3.resolve_left (by simp)).1, i3_s, let_eq, ← hY, p1', mjBd_some]
/-- ends of comparisons -/
theorem r47 (hX : ∀ k, X k ≤ 255) (h : cZ9 X n b Z p A) (hc : A.2.2.1 ≤ 1000) (h0 : A.1 ≠ 0) : f47_comparisonEnds Z = some (bI (A.2.2.2.1 && decide (A.2.2.1 = 0) && decide (¬ (kd X n p = 42 ∨ kd X n p = 43 ∨ kd X n p = 45)))) := by
  obtain ⟨d1, d2, d3, d5, d6, d7⟩ := h.2.2
  have h3 : Z.1 183 3 = i3 (kd X n p) := h.1.2.2.1
  have k5 := kd_255 (n := n) (p := p) hX
  obtain ⟨d4, d9⟩ := d3.resolve_left h0
  unfold f47_comparisonEnds
  rw [d9, d4, h3]
  cases q1 : A.2.2.2.1 with
  | false => rw [if_pos (by decide)]; rfl
  | true =>
    rw [if_neg (by decide)]
    by_cases q2 : A.2.2.1 = 0
    · rw [if_neg (by rw [show (0 : Int32) = i3 0 from rfl, c_ne (by omega)]; omega), decide_eq_true q2]
      by_cases g1 : kd X n p = 43
      · rw [if_pos (by rw [g1]; decide), decide_eq_false (by omega)]; rfl
      · rw [if_neg (by rw [show (43 : Int32) = i3 43 from rfl, c_eq (by omega)]; omega)]
        by_cases g2 : kd X n p = 45
        · rw [if_pos (by rw [g2]; decide), decide_eq_false (by omega)]; rfl
        · rw [if_neg (by rw [show (45 : Int32) = i3 45 from rfl, c_eq (by omega)]; omega)]
          by_cases g3 : kd X n p = 42
          · rw [if_pos (by rw [g3]; decide), decide_eq_false (by omega)]; rfl
          · rw [if_neg (by rw [show (42 : Int32) = i3 42 from rfl, c_eq (by omega)]; omega), decide_eq_true (by omega)]; rfl
    · rw [if_pos (by rw [show (0 : Int32) = i3 0 from rfl, c_ne (by omega)]; omega), decide_eq_false q2]; rfl
/-- a join: those that bind as tight are done, the operator waits, and what is wanted then -/
theorem r_join (hb : b = 2 ∨ b = 92) {c t st : Nat} (hA : A.1 ≠ 0) (hc : 4 ≤ c ∧ c ≤ 12) (ht : t ≤ 20) (h : ct9 b Z (A.1, op, cu, cm, P ++ V)) (hP : ∀ d, d ∈ P → t ≤ d) (hV : tpw t V) (h6 : n6 P = 0) (ho : op ≤ 100) (hl : (P ++ V).length ≤ 60) (hst : st = if c = 5 ∨ c = 4 then 0 else 1) : ∃ Z1, f59_join_j28 (b + 1) (i3 (c : Nat)) (i3 (t : Nat)) Z = some (0, Z1) ∧ eqI b Z Z1 ∧ ct9 b Z1 (st, op, cu, cm, c :: V) := by
  obtain ⟨d1, d2, d3, d5, d6, d7⟩ := h
  rw [List.length_append] at hl
  obtain ⟨Y, p1, p2, p3, p4, p5, p6, p7⟩ := r_red hb ht P mjF op Z (by unfold mjF; omega) (by rw [List.length_append]; omega) hP hV (by omega) ho d2 d5 d6 d7
  rw [h6, Nat.sub_zero] at p2
  obtain ⟨Y2, q1, q2, q3, q4, q5, q6⟩ := r_push hb (c := c) (by omega) (by omega) p3 p4 p5
  have c2 : ct9 b Y2 (A.1, op, cu, cm, c :: V) := ⟨by rw [q6 0 (by omega), p7 0 (by omega) (by omega)]; exact d1, by rw [q6 1 (by omega)]; exact p2, by rw [q6 2 (by omega), p7 2 (by omega) (by omega), q6 3 (by omega), p7 3 (by omega) (by omega)]; exact d3, q2, q3, q4⟩
  obtain ⟨e1, e2⟩ := ct_st (st := st) (A := (A.1, op, cu, cm, c :: V)) (Z1 := zSi Y2 185 0 (i3 (st : Nat))) c2 rfl hb hA
  refine ⟨_, ?_, eqI_tr p6 (eqI_tr q5 e2), e1⟩
  unfold f59_join_j28 f49_reduce
  rw [p1, mjBd_some, q1, mjBd_some]
  by_cases g5 : c = 5
  · rw [if_pos (by rw [g5]; decide), hst, if_pos (Or.inl g5)]; rfl
  · rw [if_neg (by rw [show (5 : Int32) = i3 5 from rfl, c_eq (by omega)]; omega)]
    by_cases g4 : c = 4
    · rw [if_neg (by rw [g4]; decide), hst, if_pos (Or.inr g4)]; rfl
    · rw [if_pos (by rw [show (4 : Int32) = i3 4 from rfl, c_ne (by omega)]; omega), hst, if_neg (by omega)]; rfl
end CS
