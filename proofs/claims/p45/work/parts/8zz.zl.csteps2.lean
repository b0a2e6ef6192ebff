/-! the class reads a condition: operators, ends -/
def nS9 (X : Nat → Nat) (n p : Nat) : Prop := ¬ (kd X n p = 42 ∨ kd X n p = 43 ∨ kd X n p = 45)
section CT
variable {X : Nat → Nat} {n b p q N s op cu : Nat} {cm : Bool} {Z Z1 Z2 : mjZt} {A B C : mjCd} {W V P NN : List Nat} {ts us : List (Nat × Nat)} {nx : Nat → Prop}
theorem f58_v : ∀ c : Nat, c < 13 → ∀ Z : mjZt, f58_isComparison (i3 (c : Nat)) Z = some (if 7 ≤ c ∧ c ≤ 9 then 1 else 0) := by
  intro c hc Z
  unfold f58_isComparison
  by_cases h1 : c < 7
  · rw [show (7 : Int32) = i3 7 from rfl, if_pos (by rw [c_lt (by omega)]; omega), if_neg (by omega)]
  · rw [show (7 : Int32) = i3 7 from rfl, if_neg (by rw [c_lt (by omega)]; omega)]
    by_cases h2 : 9 < c
    · rw [show (9 : Int32) = i3 9 from rfl, if_pos (by rw [c_gt (by omega)]; omega), if_neg (by omega)]
    · rw [show (9 : Int32) = i3 9 from rfl, if_neg (by rw [c_gt (by omega)]; omega), if_pos (by omega)]
/-- + - * -/
theorem st_op (hb : b = 2 ∨ b = 92) (hn : n ≤ 700) (hX : ∀ k, X k ≤ 255) {c0 c t : Nat} (hc : (c0 = 42 ∧ c = 12 ∧ t = 12) ∨ (c0 = 43 ∧ c = 10 ∧ t = 10) ∨ (c0 = 45 ∧ c = 11 ∧ t = 10)) (hP : ∀ d, d ∈ P → t ≤ d) (hV : tpw t V) (h6 : n6 P = 0) (ho : op ≤ 100) (hl : (P ++ V).length ≤ 60) (hcu : cu ≤ 1000) : gG9 X n b (2, op, cu, cm, P ++ V) [(3, c0)] (1, op, cu, cm, c :: V) (fun _ => True) := by
  refine one9 hb hn hX (fun Z p N s hZ r1 r2 hs => ?_)
  obtain ⟨d1, d2, d3, d5, d6, d7⟩ := hZ.2.2
  have k3 : kd X n p = c0 := (kd_tok r1 r2 (Or.inr (Or.inr rfl))).trans rfl
  have he := r47 hX hZ hcu (by simp)
  rw [decide_eq_false (p := ¬ (kd X n p = 42 ∨ kd X n p = 43 ∨ kd X n p = 45)) (by omega), Bool.and_false] at he
  refine ⟨_, cl2 d1 hs he, ?_⟩
  obtain ⟨Z1, j1, j2, j3⟩ := r_join hb (A := (2, op, cu, cm, P ++ V)) (c := c) (t := t) (st := 1) (by simp) (by omega) (by omega) hZ.2.2 hP hV h6 ho hl (by rw [if_neg (by omega)])
  refine ⟨Z1, ?_, j2, j3⟩
  have f0 : ∀ w : Int32, w = i3 (c : Nat) → ∀ w2 : Int32, w2 = i3 (t : Nat) → (mjBd (f59_join (b + 1) w w2 Z) fun v Z1 => some (v, Z1)) = some (0, Z1) := fun w hw w2 hw2 => by
    rw [hw, hw2]
    unfold f59_join
    rw [f58_v c (by omega) Z, if_neg (by omega), mjBp_some, if_pos (by decide), j1, mjBd_some]
  rw [e61 hZ.1 hX, k3]
  rcases hc with ⟨e1, e2, e3⟩ | ⟨e1, e2, e3⟩ | ⟨e1, e2, e3⟩
  · rw [if_pos e1]; exact f0 _ (by rw [e2]; rfl) _ (by rw [e3]; rfl)
  · rw [if_neg (by omega), if_pos e1]; exact f0 _ (by rw [e2]; rfl) _ (by rw [e3]; rfl)
  · rw [if_neg (by omega), if_neg (by omega), if_pos e1]; exact f0 _ (by rw [e2]; rfl) _ (by rw [e3]; rfl)
/-- < > = -/
theorem st_cmp (hb : b = 2 ∨ b = 92) (hn : n ≤ 700) (hX : ∀ k, X k ≤ 255) {c0 c : Nat} (hc : (c0 = 60 ∧ c = 7) ∨ (c0 = 62 ∧ c = 8) ∨ (c0 = 61 ∧ c = 9)) (hP : ∀ d, d ∈ P → 7 ≤ d) (hV : tpw 7 V) (h6 : n6 P = 0) (ho : op ≤ 100) (hl : (P ++ V).length ≤ 60) : gG9 X n b (2, op, 0, false, P ++ V) [(3, c0)] (1, op, 0, true, c :: V) (fun _ => True) := by
  refine one9 hb hn hX (fun Z p N s hZ r1 r2 hs => ?_)
  obtain ⟨d1, d2, d3, d5, d6, d7⟩ := hZ.2.2
  obtain ⟨d3, d4⟩ := d3.resolve_left (by simp)
  have k3 : kd X n p = c0 := (kd_tok r1 r2 (Or.inr (Or.inr rfl))).trans rfl
  have he := r47 hX hZ (by show 0 ≤ 1000; omega) (by simp)
  rw [show (2, op, 0, false, P ++ V).2.2.2.1 = false from rfl, Bool.false_and, Bool.false_and] at he
  refine ⟨_, cl2 d1 hs he, ?_⟩
  obtain ⟨Y, hY⟩ : ∃ Y, Y = zSi Z 185 3 1 := ⟨_, rfl⟩
  have yo : ∀ k, k ≠ 3 → Y.1 185 k = Z.1 185 k := fun k hk => by rw [hY, si_fld _ _ _ _ (by omega)]
  have yb : Y.1 (b + 1) = Z.1 (b + 1) := by rw [hY, si_obj _ _ _ _ (by omega)]
  have cY : ct9 b Y (2, op, 0, true, P ++ V) := ⟨by rw [yo 0 (by omega)]; exact d1, by rw [yo 1 (by omega)]; exact d2, Or.inr ⟨by rw [yo 2 (by omega)]; exact d3, by rw [hY, si_same]; rfl⟩, by rw [yo 6 (by omega)]; exact d5, stw_of (by rw [hY, si_obj _ _ _ _ (by omega)]) _ d6, by unfold trm9; rw [yb]; exact d7⟩
  obtain ⟨Z1, j1, j2, j3⟩ := r_join hb (A := (2, op, 0, true, P ++ V)) (c := c) (t := 7) (st := 1) (by simp) (by omega) (by omega) cY hP hV h6 ho hl (by rw [if_neg (by omega)])
  refine ⟨Z1, ?_, eqI_tr (by rw [hY]; exact eqI_si (by omega) (by omega)) j2, j3⟩
  have f0 : ∀ w : Int32, w = i3 (c : Nat) → (mjBd (f59_join (b + 1) w 7 Z) fun v Z1 => some (v, Z1)) = some (0, Z1) := fun w hw => by
    rw [hw]
    unfold f59_join
    have j1' : f59_join_j28 (b + 1) (i3 (c : Nat)) 7 Y = some (0, Z1) := j1
    rw [f58_v c (by omega) Z, if_pos (by omega), mjBp_some, if_neg (by decide), show Z.1 185 3 = bI false from d4, if_neg (by decide), show Z.1 185 2 = i3 ((0 : Nat) : Int) from d3, if_pos (by decide), let_eq, ← hY, j1', mjBd_some]
  rw [e61 hZ.1 hX, k3]
  rcases hc with ⟨e1, e2⟩ | ⟨e1, e2⟩ | ⟨e1, e2⟩
  · rw [if_neg (by omega), if_neg (by omega), if_neg (by omega), if_pos e1]; exact f0 _ (by rw [e2]; rfl)
  · rw [if_neg (by omega), if_neg (by omega), if_neg (by omega), if_neg (by omega), if_neg (by omega), if_pos e1]; exact f0 _ (by rw [e2]; rfl)
  · rw [if_neg (by omega), if_neg (by omega), if_neg (by omega), if_neg (by omega), if_pos e1]; exact f0 _ (by rw [e2]; rfl)
/-- } -/
theorem st_close (hb : b = 2 ∨ b = 92) (hn : n ≤ 700) (hX : ∀ k, X k ≤ 255) (hP : ∀ d, d ∈ P → 4 ≤ d) (h6 : n6 P = 0) (ho : op ≤ 90) (hl : (P ++ 3 :: V).length ≤ 60) (hcu : cu ≤ 900) : gG9 X n b (2, op + 1, cu + 1, cm, P ++ 3 :: V) [(3, 125)] (2, op, cu, cm, V) (fun _ => True) := by
  refine one9 hb hn hX (fun Z p N s hZ r1 r2 hs => ?_)
  obtain ⟨d1, d2, d3, d5, d6, d7⟩ := hZ.2.2
  obtain ⟨d3, d4⟩ := d3.resolve_left (by simp)
  have k3 : kd X n p = 125 := (kd_tok r1 r2 (Or.inr (Or.inr rfl))).trans rfl
  have he := r47 hX hZ (by show cu + 1 ≤ 1000; omega) (by simp)
  rw [show decide ((2, op + 1, cu + 1, cm, P ++ 3 :: V).2.2.1 = 0) = false from decide_eq_false (Nat.succ_ne_zero cu), Bool.and_false, Bool.false_and] at he
  refine ⟨_, cl2 d1 hs he, ?_⟩
  obtain ⟨Y, p1, p2, p3, p4, p5, p6, p7⟩ := r_red hb (t := 4) (W := 3 :: V) (by omega) P mjF (op + 1) Z (by rw [List.length_append] at hl; unfold mjF; omega) (by omega) hP (fun c U e => by cases e; omega) (by omega) (by omega) d2 d5 d6 d7
  rw [h6, Nat.sub_zero] at p2
  have d3' : Z.1 185 2 = i3 ((cu + 1 : Nat) : Int) := d3
  have lv : (3 :: V).length = V.length + 1 := rfl
  rw [lv] at p3
  refine ⟨zSi (zSi (zSi Y 185 2 (i3 (cu : Nat))) 185 1 (i3 (op : Nat))) 185 6 (i3 (V.length : Nat)), ?_, eqI_tr p6 (eqI_tr (eqI_si (by omega) (by omega)) (eqI_tr (eqI_si (by omega) (by omega)) (eqI_si (by omega) (by omega)))), ?_⟩
  · rw [e61 hZ.1 hX, k3, if_neg (by omega), if_neg (by omega), if_neg (by omega), if_neg (by omega), if_neg (by omega), if_neg (by omega), if_pos rfl]
    unfold f60_closeCurly f49_reduce
    have p1' : f49_reduce_h0 mjF (b + 1) 4 Z = some ((), Y) := p1
    rw [d3', if_pos (by rw [show (0 : Int32) = i3 0 from rfl, c_ne (by omega)]; omega), p1', mjBd_some, p7 2 (by omega) (by omega), d3', show (1 : Int32) = i3 1 from rfl, i3_sub, show ((cu + 1 : Nat) : Int) - 1 = ((cu : Nat) : Int) from by omega, let_eq, si_fld _ _ _ _ (show ¬ (185 = 185 ∧ 1 = 2) by omega), p2, i3_sub, show ((op + 1 : Nat) : Int) - 1 = ((op : Nat) : Int) from by omega, let_eq, si_fld _ _ _ _ (show ¬ (185 = 185 ∧ 6 = 1) by omega), si_fld _ _ _ _ (show ¬ (185 = 185 ∧ 6 = 2) by omega), p3, i3_sub, show ((V.length + 1 : Nat) : Int) - 1 = ((V.length : Nat) : Int) from by omega, let_eq, mjBd_some]
  · have o : ∀ k, k ≠ 1 → k ≠ 2 → k ≠ 6 → (zSi (zSi (zSi Y 185 2 (i3 (cu : Nat))) 185 1 (i3 (op : Nat))) 185 6 (i3 (V.length : Nat))).1 185 k = Z.1 185 k := fun k g1 g2 g3 => by rw [si_fld _ _ _ _ (by omega), si_fld _ _ _ _ (by omega), si_fld _ _ _ _ (by omega)]; exact p7 k g1 g3
    refine ⟨by rw [o 0 (by omega) (by omega) (by omega)]; exact d1, by rw [si_fld _ _ _ _ (by omega), si_same], Or.inr ⟨by rw [si_fld _ _ _ _ (by omega), si_fld _ _ _ _ (by omega), si_same], by rw [o 3 (by omega) (by omega) (by omega)]; exact d4⟩, by rw [si_same], stw_of (by rw [si_obj _ _ _ _ (by omega), si_obj _ _ _ _ (by omega), si_obj _ _ _ _ (by omega)]) _ p4.2.2, ?_⟩
    have : (zSi (zSi (zSi Y 185 2 (i3 (cu : Nat))) 185 1 (i3 (op : Nat))) 185 6 (i3 (V.length : Nat))).1 (b + 1) = Y.1 (b + 1) := by rw [si_obj _ _ _ _ (by omega), si_obj _ _ _ _ (by omega), si_obj _ _ _ _ (by omega)]
    unfold trm9
    rw [this]; exact p5
/-- a comparison ends -/
theorem cv_end (hb : b = 2 ∨ b = 92) (hX : ∀ k, X k ≤ 255) (hP : ∀ d, d ∈ P → 6 ≤ d) (hV : tpw 6 V) (h6 : n6 P ≤ op) (ho : op ≤ 100) (hl : (P ++ V).length ≤ 60) : gV9 X n b (2, op, 0, true, P ++ V) (3, op - n6 P, 0, true, V) (nS9 X n) := by
  intro Z p N s hZ hs hx
  obtain ⟨d1, d2, d3, d5, d6, d7⟩ := hZ.2.2
  have he := r47 hX hZ (by show 0 ≤ 1000; omega) (by simp)
  rw [show (2, op, 0, true, P ++ V).2.2.2.1 = true from rfl, show decide ((2, op, 0, true, P ++ V).2.2.1 = 0) = true from rfl, decide_eq_true (show ¬ (kd X n p = 42 ∨ kd X n p = 43 ∨ kd X n p = 45) from hx)] at he
  obtain ⟨Y, p1, p2, p3, p4, p5, p6, p7⟩ := r_red hb (t := 6) (W := V) (by omega) P mjF op Z (by rw [List.length_append] at hl; unfold mjF; omega) (by omega) hP hV h6 ho d2 d5 d6 d7
  have c2 : ct9 b Y (2, op - n6 P, 0, true, V) := ⟨by rw [p7 0 (by omega) (by omega)]; exact d1, p2, by rw [p7 2 (by omega) (by omega), p7 3 (by omega) (by omega)]; exact d3, p3, p4, p5⟩
  obtain ⟨e1, e2⟩ := ct_st (st := 3) (A := (2, op - n6 P, 0, true, V)) (Z1 := zSi Y 185 0 3) c2 rfl hb (by simp)
  have e3 := eqI_tr p6 e2
  exact ⟨_, cl2e d1 hs he p1, ⟨tk_eqI hb hZ.1 e3, hZ.2.1, e1⟩, e3.1⟩
/-- a comparison starts -/
theorem cv_start (hb : b = 2 ∨ b = 92) (hX : ∀ k, X k ≤ 255) : gV9 X n b (0, op, cu, cm, W) (1, op, 0, false, W) (fun p => sgn X n p 40 = false ∧ ¬ (jS X n p = 1 ∧ jN X n p = 7237492)) := by
  intro Z p N s hZ hs hx
  obtain ⟨d1, d2, d3, d5, d6, d7⟩ := hZ.2.2
  have he := e54 hZ.1 hX
  rw [hx.1, decide_eq_false hx.2] at he
  have e3 : eqI b Z (zSi (zSi (zSi Z 185 3 0) 185 2 0) 185 0 1) := eqI_tr (eqI_si (by omega) (by omega)) (eqI_tr (eqI_si (by omega) (by omega)) (eqI_si (by omega) (by omega)))
  refine ⟨_, cl0s d1 hs he, ⟨tk_eqI hb hZ.1 e3, hZ.2.1, si_same _ _ _ _, ?_, Or.inr ⟨?_, ?_⟩, ?_, ?_, ?_⟩, e3.1⟩
  · rw [si_fld _ _ _ _ (by omega), si_fld _ _ _ _ (by omega), si_fld _ _ _ _ (by omega)]; exact d2
  · rw [si_fld _ _ _ _ (by omega), si_same]; rfl
  · rw [si_fld _ _ _ _ (by omega), si_fld _ _ _ _ (by omega), si_same]; rfl
  · rw [si_fld _ _ _ _ (by omega), si_fld _ _ _ _ (by omega), si_fld _ _ _ _ (by omega)]; exact d5
  · exact stw_of (by rw [si_obj _ _ _ _ (by omega), si_obj _ _ _ _ (by omega), si_obj _ _ _ _ (by omega)]) _ d6
  · have : (zSi (zSi (zSi Z 185 3 0) 185 2 0) 185 0 1).1 (b + 1) = Z.1 (b + 1) := by rw [si_obj _ _ _ _ (by omega), si_obj _ _ _ _ (by omega), si_obj _ _ _ _ (by omega)]
    unfold trm9
    rw [this]; exact d7
/-- not, ( -/
theorem sv_not (hb : b = 2 ∨ b = 92) (hn : n ≤ 700) (hX : ∀ k, X k ≤ 255) (ho : op < 6) (hl : W.length < 64) : gG9 X n b (0, op, cu, cm, W) [(1, 7237492)] (0, op + 1, cu, cm, 6 :: W) (fun _ => True) := by
  refine one9 hb hn hX (fun Z p N s hZ r1 r2 hs => ?_)
  obtain ⟨d1, d2, d3, d5, d6, d7⟩ := hZ.2.2
  have h3 : Z.1 183 3 = i3 (kd X n p) := hZ.1.2.2.1
  have k3 : kd X n p = 1 := (kd_tok r1 r2 (Or.inl rfl)).trans rfl
  have he := e54 hZ.1 hX
  have n1 : jN X n p = 7237492 := r2
  rw [decide_eq_true ⟨r1, n1⟩, Bool.or_true] at he
  refine ⟨_, cl0o d1 hs he, ?_⟩
  obtain ⟨Z1, p1, p2, p3⟩ := r_open hb (w := 6) (by omega) hZ.2.2 ho hl
  refine ⟨Z1, ?_, p2, p3⟩
  rw [h3, k3, if_pos (by decide)]
  exact p1
theorem st_par (hb : b = 2 ∨ b = 92) (hn : n ≤ 700) (hX : ∀ k, X k ≤ 255) (ho : op < 6) (hl : W.length < 64) : gG9 X n b (0, op, cu, cm, W) [(3, 40)] (0, op + 1, cu, cm, 2 :: W) (fun _ => True) := by
  refine one9 hb hn hX (fun Z p N s hZ r1 r2 hs => ?_)
  obtain ⟨d1, d2, d3, d5, d6, d7⟩ := hZ.2.2
  have h3 : Z.1 183 3 = i3 (kd X n p) := hZ.1.2.2.1
  have k3 : kd X n p = 40 := (kd_tok r1 r2 (Or.inr (Or.inr rfl))).trans rfl
  have he := e54 hZ.1 hX
  have v1 : jV X n p = 40 := r2
  rw [show sgn X n p 40 = true from decide_eq_true ⟨r1, v1⟩, Bool.true_or] at he
  refine ⟨_, cl0o d1 hs he, ?_⟩
  obtain ⟨Z1, p1, p2, p3⟩ := r_open hb (w := 2) (by omega) hZ.2.2 ho hl
  refine ⟨Z1, ?_, p2, p3⟩
  rw [h3, k3, if_neg (by decide)]
  exact p1
/-- whether a test ends -/
theorem r52 (hX : ∀ k, X k ≤ 255) (h : cZ9 X n b Z p A) (ho : A.2.1 ≤ 100) : f52_truthEnds Z = some (bI (!(decide (jS X n p = 1 ∧ jN X n p = 6385252) || (decide (jS X n p = 1 ∧ jN X n p = 28530) || (decide (kd X n p = 41) && decide (A.2.1 ≠ 0)))))) := by
  obtain ⟨d1, d2, d3, d5, d6, d7⟩ := h.2.2
  have h3 : Z.1 183 3 = i3 (kd X n p) := h.1.2.2.1
  have k5 := kd_255 (n := n) (p := p) hX
  have ib := ixT_bd (X := X) (n := n) (p := p) (L := LJ) (N := 5)
  obtain ⟨i1, i2, -, -, -⟩ := iJ (X := X) (n := n) (p := p)
  unfold f52_truthEnds
  rw [ixJ h.1 hX (Or.inl rfl), mjBp_some]
  by_cases q1 : ixT X n p LJ 5 = 2
  · rw [if_pos (by rw [q1]; decide), decide_eq_true (i1.1 q1)]; rfl
  · rw [if_neg (by rw [show (2 : Int32) = i3 2 from rfl, c_eq (by omega)]; omega), decide_eq_false (fun g => q1 (i1.2 g))]
    by_cases q2 : ixT X n p LJ 5 = 3
    · rw [if_pos (by rw [q2]; decide), decide_eq_true (i2.1 q2)]; rfl
    · rw [if_neg (by rw [show (3 : Int32) = i3 3 from rfl, c_eq (by omega)]; omega), decide_eq_false (fun g => q2 (i2.2 g)), h3]
      by_cases q3 : kd X n p = 41
      · rw [if_neg (by rw [q3]; decide), d2, decide_eq_true q3]
        by_cases q4 : A.2.1 = 0
        · rw [if_neg (by rw [show (0 : Int32) = i3 0 from rfl, c_ne (by omega)]; omega), decide_eq_false (fun g => g q4)]; rfl
        · rw [if_pos (by rw [show (0 : Int32) = i3 0 from rfl, c_ne (by omega)]; omega), decide_eq_true q4]; rfl
      · rw [if_pos (by rw [show (41 : Int32) = i3 41 from rfl, c_ne (by omega)]; omega), decide_eq_false q3]; rfl
/-- and, or -/
theorem sv_jn (hb : b = 2 ∨ b = 92) (hn : n ≤ 700) (hX : ∀ k, X k ≤ 255) {w c : Nat} (hw : (w = 6385252 ∧ c = 5) ∨ (w = 28530 ∧ c = 4)) (hP : ∀ d, d ∈ P → c ≤ d) (hV : tpw c V) (h6 : n6 P = 0) (ho : op ≤ 100) (hl : (P ++ V).length ≤ 60) : gG9 X n b (3, op, cu, cm, P ++ V) [(1, w)] (0, op, cu, cm, c :: V) (fun _ => True) := by
  refine one9 hb hn hX (fun Z p N s hZ r1 r2 hs => ?_)
  obtain ⟨d1, d2, d3, d5, d6, d7⟩ := hZ.2.2
  have h3 : Z.1 183 3 = i3 (kd X n p) := hZ.1.2.2.1
  have k3 : kd X n p = 1 := (kd_tok r1 r2 (Or.inl rfl)).trans rfl
  have n1 : jN X n p = w := r2
  have s1 : jS X n p = 1 := r1
  have he := r52 hX hZ ho
  obtain ⟨i1, i2, -, -, -⟩ := iJ (X := X) (n := n) (p := p)
  have he0 : f52_truthEnds Z = some 0 := by
    rw [he]
    rcases hw with ⟨e1, e2⟩ | ⟨e1, e2⟩
    · rw [decide_eq_true ⟨s1, by rw [n1, e1]⟩]; rfl
    · rw [decide_eq_true (p := jS X n p = 1 ∧ jN X n p = 28530) ⟨s1, by rw [n1, e1]⟩, Bool.true_or, Bool.or_true]; rfl
  refine ⟨_, cl3 d1 hs he0, ?_⟩
  obtain ⟨Z1, j1, j2, j3⟩ := r_join hb (A := (3, op, cu, cm, P ++ V)) (c := c) (t := c) (st := 0) (by simp) (by omega) (by omega) hZ.2.2 hP hV h6 ho hl (by rw [if_pos (by omega)])
  refine ⟨Z1, ?_, j2, j3⟩
  unfold f62_goOnWithTruth
  rw [h3, k3, if_pos (by decide), ixJ hZ.1 hX (Or.inl rfl), mjBp_some]
  rcases hw with ⟨e1, e2⟩ | ⟨e1, e2⟩
  · rw [i1.2 ⟨s1, by rw [n1, e1]⟩, if_neg (by decide)]
    unfold f59_join
    rw [e2] at j1
    have j1' : f59_join_j28 (b + 1) 5 5 Z = some (0, Z1) := j1
    have f5 : f58_isComparison 5 Z = some 0 := f58_v 5 (by omega) Z
    rw [f5, mjBp_some, if_pos (by decide), j1', mjBd_some]
  · rw [i2.2 ⟨s1, by rw [n1, e1]⟩, if_pos (by decide)]
    unfold f59_join
    rw [e2] at j1
    have j1' : f59_join_j28 (b + 1) 4 4 Z = some (0, Z1) := j1
    have f5 : f58_isComparison 4 Z = some 0 := f58_v 4 (by omega) Z
    rw [f5, mjBp_some, if_pos (by decide), j1', mjBd_some]
theorem n6_all : ∀ NN : List Nat, (∀ c, c ∈ NN → c = 6) → n6 NN = NN.length
  | [], _ => rfl
  | c :: NN, h => by
    rw [n6, if_pos (h c (List.mem_cons_self ..)), n6_all NN (fun d hd => h d (List.mem_cons_of_mem _ hd)), List.length_cons]
    omega
/-- ) -/
theorem st_rpar (hb : b = 2 ∨ b = 92) (hn : n ≤ 700) (hX : ∀ k, X k ≤ 255) (hP : ∀ d, d ∈ P → 4 ≤ d) (h6 : n6 P = 0) (hNN : ∀ c, c ∈ NN → c = 6) (hV : tpw 6 V) (hno : NN.length ≤ op) (ho : op ≤ 90) (hl : (P ++ 2 :: (NN ++ V)).length ≤ 60) : gG9 X n b (3, op + 1, cu, cm, P ++ 2 :: (NN ++ V)) [(3, 41)] (3, op - NN.length, cu, cm, V) (fun _ => True) := by
  refine one9 hb hn hX (fun Z p N s hZ r1 r2 hs => ?_)
  obtain ⟨d1, d2, d3, d5, d6, d7⟩ := hZ.2.2
  have h3 : Z.1 183 3 = i3 (kd X n p) := hZ.1.2.2.1
  have k3 : kd X n p = 41 := (kd_tok r1 r2 (Or.inr (Or.inr rfl))).trans rfl
  have s3 : jS X n p = 3 := r1
  have he := r52 hX hZ (by show op + 1 ≤ 100; omega)
  rw [decide_eq_true k3, show decide ((3, op + 1, cu, cm, P ++ 2 :: (NN ++ V)).2.1 ≠ 0) = true from decide_eq_true (Nat.succ_ne_zero op), Bool.and_true, Bool.or_true, Bool.or_true] at he
  refine ⟨_, cl3 d1 hs he, ?_⟩
  have hl2 : P.length + ((NN ++ V).length + 1) ≤ 60 := by rw [List.length_append] at hl; exact hl
  obtain ⟨Y, p1, p2, p3, p4, p5, p6, p7⟩ := r_red hb (t := 4) (W := 2 :: (NN ++ V)) (by omega) P mjF (op + 1) Z (by unfold mjF; omega) (by omega) hP (fun c U e => by cases e; omega) (by omega) (by omega) d2 d5 d6 d7
  rw [h6, Nat.sub_zero] at p2
  rw [show (2 :: (NN ++ V)).length = (NN ++ V).length + 1 from rfl] at p3
  obtain ⟨Y2, hY2⟩ : ∃ Y2, Y2 = zSi (zSi Y 185 1 (i3 (op : Nat))) 185 6 (i3 ((NN ++ V).length : Nat)) := ⟨_, rfl⟩
  have y1 : Y2.1 185 1 = i3 (op : Nat) := by rw [hY2, si_fld _ _ _ _ (by omega), si_same]
  have y6 : Y2.1 185 6 = i3 ((NN ++ V).length : Nat) := by rw [hY2, si_same]
  have yo : ∀ k, k ≠ 1 → k ≠ 6 → Y2.1 185 k = Z.1 185 k := fun k g1 g2 => by rw [hY2, si_fld _ _ _ _ (by omega), si_fld _ _ _ _ (by omega)]; exact p7 k g1 g2
  have yb : Y2.1 (b + 1) = Y.1 (b + 1) := by rw [hY2, si_obj _ _ _ _ (by omega), si_obj _ _ _ _ (by omega)]
  have eY2 : eqI b Y Y2 := by rw [hY2]; exact eqI_tr (eqI_si (by omega) (by omega)) (eqI_si (by omega) (by omega))
  have n6e := n6_all NN hNN
  obtain ⟨Z1, w1, w2, w3, w4, w5, w6, w7⟩ := r_red hb (t := 6) (W := V) (by omega) NN mjF op Y2 (by rw [List.length_append] at hl2; unfold mjF; omega) (by omega) (fun d hd => by rw [hNN d hd]; omega) hV (by omega) (by omega) y1 y6 (stw_of (by rw [hY2, si_obj _ _ _ _ (by omega), si_obj _ _ _ _ (by omega)]) _ p4.2.2) (by unfold trm9; rw [yb]; exact p5)
  rw [n6e] at w2
  refine ⟨Z1, ?_, eqI_tr p6 (eqI_tr eY2 w6), by rw [w7 0 (by omega) (by omega), yo 0 (by omega) (by omega)]; exact d1, w2, by rw [w7 2 (by omega) (by omega), w7 3 (by omega) (by omega), yo 2 (by omega) (by omega), yo 3 (by omega) (by omega)]; exact d3, w3, w4, w5⟩
  unfold f62_goOnWithTruth f49_reduce
  have p1' : f49_reduce_h0 mjF (b + 1) 4 Z = some ((), Y) := p1
  have w1' : f49_reduce_h0 mjF (b + 1) 6 Y2 = some ((), Z1) := w1
  rw [h3, k3, if_neg (by decide), p1', mjBd_some, p2, show (1 : Int32) = i3 1 from rfl, i3_sub, show ((op + 1 : Nat) : Int) - 1 = ((op : Nat) : Int) from by omega, let_eq, si_fld _ _ _ _ (show ¬ (185 = 185 ∧ 6 = 1) by omega), p3, i3_sub, show (((NN ++ V).length + 1 : Nat) : Int) - 1 = (((NN ++ V).length : Nat) : Int) from by omega, let_eq, ← hY2, w1', mjBd_some]
/-- all is read -/
theorem cv_fin (hb : b = 2 ∨ b = 92) (hX : ∀ k, X k ≤ 255) (hP : ∀ d, d ∈ P → 4 ≤ d) (h6 : n6 P = 0) (hl : P.length ≤ 60) (hZ : cZ9 X n b Z p (3, 0, cu, cm, P)) (hs : s ≤ 700) (hx : ¬ (jS X n p = 1 ∧ jN X n p = 6385252) ∧ ¬ (jS X n p = 1 ∧ jN X n p = 28530)) : ∃ Z1, cLp b (N + 1) s Z = some (0, Z1) ∧ tkC X n Z1 p ∧ eqJ b Z Z1 ∧ ∃ m : Nat, m ≤ 700 ∧ Z1.1 (b + 1) 7 = i3 (m : Nat) := by
  obtain ⟨d1, d2, d3, d5, d6, d7⟩ := hZ.2.2
  have he := r52 hX hZ (by show 0 ≤ 100; omega)
  rw [decide_eq_false hx.1, decide_eq_false hx.2, show decide ((3, 0, cu, cm, P).2.1 ≠ 0) = false from rfl, Bool.and_false] at he
  obtain ⟨Y, p1, p2, p3, p4, p5, p6, p7⟩ := r_red hb (t := 4) (W := []) (by omega) P mjF 0 Z (by unfold mjF; omega) (by rw [List.append_nil]; omega) hP (fun c U e => by cases e) (by omega) (by omega) d2 (by rw [List.append_nil]; exact d5) (by rw [List.append_nil]; exact d6) d7
  rw [h6] at p2
  obtain ⟨⟨w, hw, g6⟩, m, hm, g7⟩ := p5
  have l5 : (mjLay (b + 1 + 5)).2 = 16 := (is_trm hb).2 1 (by omega)
  have f53 : f53_finish (b + 1) Y = some ((), zSi Y (b + 1 + 5) w (i3 (m : Nat))) := by
    unfold f53_finish
    rw [if_pos (is_b1 hb), g6, show (0 : Int32) = i3 0 from rfl, if_neg (by rw [c_lt (by omega)]; omega), if_pos (show mjIs (b + 1 + 5) 211 13 = true from is_b2 hb 4 (by omega)), l5, i3_ofNat, if_neg (by rw [c_ge (by omega)]; omega), if_pos (of_eq_true (in_t (by omega))), ix_nat (by omega), g7, let_eq]
  have e1 : eqI b Z (zSi Y (b + 1 + 5) w (i3 (m : Nat))) := eqI_tr p6 (eqI_si (by omega) (by omega))
  refine ⟨zSi Y (b + 1 + 5) w (i3 (m : Nat)), ?_, tk_eqI hb hZ.1 e1, e1.1, m, hm, by rw [si_obj _ _ _ _ (by omega)]; exact g7⟩
  rw [cl3e hb d1 hs he p1 f53, si_obj _ _ _ _ (by omega), p2, if_neg (by decide)]
end CT
