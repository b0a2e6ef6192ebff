/-! the class reads what was grown without a fault -/
def cpO (T : List (Nat × Nat) → Prop) (X : Nat → Nat) (n b o l : Nat) : Prop := ∀ ts (op cu : Nat) (cm : Bool) (W : List Nat), T ts → op + o ≤ 6 → W.length + l ≤ 55 → cu + o ≤ 900 → gG9 X n b (1, op, cu, cm, W) ts (2, op, cu, cm, W) (fun _ => True)
def fs9 (ts : List (Nat × Nat)) : Prop := ∃ t r, ts = t :: r ∧ ((∃ v, t = (2, v)) ∨ (∃ k, k < 11 ∧ t = (1, LF.getD k 0)) ∨ t = (3, 123))
section CG
variable {X : Nat → Nat} {n b p q N s op cu o l : Nat} {cm : Bool} {Z Z1 Z2 : mjZt} {W V P NN : List Nat} {ts us : List (Nat × Nat)} {T : List (Nat × Nat) → Prop}
theorem tpw_le {t u : Nat} (h : tpw t W) (hu : t ≤ u) : tpw u W := fun c V e => by have := h c V e; omega
theorem tpw_c {t c : Nat} (h : c < t) : tpw t (c :: W) := fun d V e => by cases e; exact h
theorem c_M (hb : b = 2 ∨ b = 92) (hn : n ≤ 700) (hX : ∀ k, X k ≤ 255) (hT : cpO T X n b o l) (h : tM T ts) (hW : tpw 12 W) (ho : op + o ≤ 6) (hl : W.length + l + 1 ≤ 55) (hc : cu + o ≤ 900) : ∃ P : List Nat, (∀ d, d ∈ P → 12 ≤ d) ∧ n6 P = 0 ∧ P.length ≤ 1 ∧ gG9 X n b (1, op, cu, cm, W) ts (2, op, cu, cm, P ++ W) (fun _ => True) := by
  rcases h with h | ⟨x, y, h1, h2, e⟩
  · exact ⟨[], fun d hd => absurd hd List.not_mem_nil, rfl, Nat.zero_le _, hT ts op cu cm W h ho (by omega) hc⟩
  · refine ⟨[12], fun d hd => by rw [List.mem_singleton.1 hd]; omega, rfl, Nat.le_refl _, ?_⟩
    rw [e]
    have s1 := hT x op cu cm W h1 ho (by omega) hc
    have s2 := st_op (op := op) (cu := cu) (cm := cm) (P := []) (V := W) hb hn hX (c0 := 42) (c := 12) (t := 12) (Or.inl ⟨rfl, rfl, rfl⟩) (fun d hd => absurd hd List.not_mem_nil) hW rfl (by omega) (by show W.length ≤ 60; omega) (by omega)
    have s3 := hT y op cu cm (12 :: W) h2 ho (by show W.length + 1 + l ≤ 55; omega) hc
    exact gG_tr s1 (gG_tr (us := y) s2 s3 (fun _ _ _ _ => trivial)) (fun _ _ _ _ => trivial)
theorem c_E (hb : b = 2 ∨ b = 92) (hn : n ≤ 700) (hX : ∀ k, X k ≤ 255) (hT : cpO T X n b o l) (h : tE T ts) (hW : tpw 10 W) (ho : op + o ≤ 6) (hl : W.length + l + 2 ≤ 55) (hc : cu + o ≤ 900) : ∃ P : List Nat, (∀ d, d ∈ P → 10 ≤ d) ∧ n6 P = 0 ∧ P.length ≤ 2 ∧ gG9 X n b (1, op, cu, cm, W) ts (2, op, cu, cm, P ++ W) (fun _ => True) := by
  rcases h with h | ⟨x, y, c0, h1, h2, hc0, e⟩
  · obtain ⟨P, p1, p2, p3, p4⟩ := c_M (cm := cm) hb hn hX hT h (tpw_le hW (by omega)) ho (by omega) hc
    exact ⟨P, fun d hd => by have := p1 d hd; omega, p2, by omega, p4⟩
  · obtain ⟨P, p1, p2, p3, p4⟩ := c_M (cm := cm) hb hn hX hT h1 (tpw_le hW (by omega)) ho (by omega) hc
    have key : ∀ c : Nat, ((c0 = 42 ∧ c = 12 ∧ 10 = 12) ∨ (c0 = 43 ∧ c = 10 ∧ 10 = 10) ∨ (c0 = 45 ∧ c = 11 ∧ 10 = 10)) → 10 ≤ c → c < 12 → ∃ P : List Nat, (∀ d, d ∈ P → 10 ≤ d) ∧ n6 P = 0 ∧ P.length ≤ 2 ∧ gG9 X n b (1, op, cu, cm, W) ts (2, op, cu, cm, P ++ W) (fun _ => True) := by
      intro c hcc hc1 hc2
      obtain ⟨P2, q1, q2, q3, q4⟩ := c_M (cm := cm) (W := c :: W) hb hn hX hT h2 (tpw_c hc2) ho (by show W.length + 1 + l + 1 ≤ 55; omega) hc
      have s2 := st_op (op := op) (cu := cu) (cm := cm) (P := P) (V := W) hb hn hX (c0 := c0) (c := c) (t := 10) hcc (fun d hd => by have := p1 d hd; omega) hW p2 (by omega) (by rw [List.length_append]; omega) (by omega)
      refine ⟨P2 ++ [c], fun d hd => ?_, ?_, by rw [List.length_append]; show P2.length + 1 ≤ 2; omega, ?_⟩
      · rcases List.mem_append.1 hd with g | g
        · have := q1 d g; omega
        · rw [List.mem_singleton.1 g]; exact hc1
      · have ap : ∀ (A : List Nat) (c : Nat), n6 A = 0 → c ≠ 6 → n6 (A ++ [c]) = 0 := by
          intro A c
          induction A with
          | nil => intro _ g; show (if c = 6 then 1 else 0) + 0 = 0; rw [if_neg g]
          | cons a A ih =>
            intro g g2
            have g3 : (if a = 6 then 1 else 0) + n6 A = 0 := g
            show (if a = 6 then 1 else 0) + n6 (A ++ [c]) = 0
            rw [ih (by omega) g2]
            omega
        exact ap P2 c q2 (by omega)
      · rw [e, List.append_assoc]
        exact gG_tr p4 (gG_tr (us := y) s2 q4 (fun _ _ _ _ => trivial)) (fun _ _ _ _ => trivial)
    rcases hc0 with g | g
    · exact key 10 (Or.inr (Or.inl ⟨g, rfl, rfl⟩)) (by omega) (by omega)
    · exact key 11 (Or.inr (Or.inr ⟨g, rfl, rfl⟩)) (by omega) (by omega)
theorem c_U (hb : b = 2 ∨ b = 92) (hn : n ≤ 700) (hX : ∀ k, X k ≤ 255) : ∀ k, cpO (tU k) X n b k (3 * k)
  | 0 => fun ts op cu cm W h ho hl hc => by
    rcases h with ⟨v, _, e⟩ | ⟨k, hk, e⟩
    · rw [e]; exact st_num hb hn hX (Or.inl ⟨v, rfl⟩)
    · rw [e]; exact st_num hb hn hX (Or.inr ⟨k, hk, rfl⟩)
  | k + 1 => fun ts op cu cm W h ho hl hc => by
    rcases h with h | ⟨x, h1, e⟩
    · rcases h with ⟨v, _, e⟩ | ⟨k, hk, e⟩
      · rw [e]; exact st_num hb hn hX (Or.inl ⟨v, rfl⟩)
      · rw [e]; exact st_num hb hn hX (Or.inr ⟨k, hk, rfl⟩)
    · obtain ⟨P, p1, p2, p3, p4⟩ := c_E (op := op + 1) (cu := cu + 1) (cm := cm) (W := 3 :: W) hb hn hX (c_U hb hn hX k) h1 (tpw_c (by omega)) (by omega) (by show W.length + 1 + 3 * k + 2 ≤ 55; omega) (by omega)
      have s1 := st_curly (op := op) (cu := cu) (cm := cm) (W := W) hb hn hX (by omega) (by omega)
      have s2 := st_close (op := op) (cu := cu) (cm := cm) (P := P) (V := W) hb hn hX (fun d hd => by have := p1 d hd; omega) p2 (by omega) (by rw [List.length_append]; show P.length + (W.length + 1) ≤ 60; omega) (by omega)
      rw [e]
      exact gG_tr (us := x ++ [(3, 125)]) s1 (gG_tr p4 s2 (fun _ _ _ _ => trivial)) (fun _ _ _ _ => trivial)
/-- how what is grown begins -/
theorem f_lf (h : tLf ts) : fs9 ts := by
  rcases h with ⟨v, _, e⟩ | ⟨k, hk, e⟩
  · exact ⟨_, [], e, Or.inl ⟨v, rfl⟩⟩
  · exact ⟨_, [], e, Or.inr (Or.inl ⟨k, hk, rfl⟩)⟩
theorem f_ap (h : fs9 ts) (e : us = ts ++ V.map (fun x => (3, x)) ++ []) : fs9 us := by
  obtain ⟨t, r, e1, e2⟩ := h
  exact ⟨t, r ++ V.map (fun x => (3, x)) ++ [], by rw [e, e1]; rfl, e2⟩
theorem f_a2 {x y : List (Nat × Nat)} (h : fs9 x) : fs9 (x ++ y) := by
  obtain ⟨t, r, e1, e2⟩ := h
  exact ⟨t, r ++ y, by rw [e1]; rfl, e2⟩
theorem f_E (hT : ∀ ts, T ts → fs9 ts) (h : tE T ts) : fs9 ts := by
  have hM : ∀ us, tM T us → fs9 us := fun us g => by
    rcases g with g | ⟨x, y, g1, _, e⟩
    · exact hT us g
    · rw [e]; exact f_a2 (hT x g1)
  rcases h with h | ⟨x, y, c, h1, _, _, e⟩
  · exact hM ts h
  · rw [e]; exact f_a2 (hM x h1)
theorem f_U : ∀ k ts, tU k ts → fs9 ts
  | 0, ts, h => f_lf h
  | k + 1, ts, h => by
    rcases h with h | ⟨x, h1, e⟩
    · exact f_lf h
    · exact ⟨_, _, e, Or.inr (Or.inr rfl)⟩
theorem LF_no : ∀ k, k < 11 → LF.getD k 0 ≠ 7237492 := by decide
theorem fs_start (h : fs9 ts) (hr : rdT X n p ts q) : sgn X n p 40 = false ∧ ¬ (jS X n p = 1 ∧ jN X n p = 7237492) := by
  obtain ⟨t, r, e1, e2⟩ := h
  rw [e1] at hr
  obtain ⟨r1, r2, r3⟩ := hr
  rcases e2 with ⟨v, e⟩ | ⟨k, hk, e⟩ | e
  · rw [e] at r1
    have r1' : jS X n p = 2 := r1
    exact ⟨decide_eq_false (fun g => by have := g.1; omega), fun g => by have := g.1; omega⟩
  · rw [e] at r1 r2
    have r1' : jS X n p = 1 := r1
    have r2' : jN X n p = LF.getD k 0 := r2
    exact ⟨decide_eq_false (fun g => by have := g.1; omega), fun g => LF_no k hk (r2'.symm.trans g.2)⟩
  · rw [e] at r1 r2
    have r1' : jS X n p = 3 := r1
    have r2' : jV X n p = 123 := r2
    exact ⟨decide_eq_false (fun g => by have := g.2; omega), fun g => by have := g.1; omega⟩
/-- tests -/
def cpB (T : List (Nat × Nat) → Prop) (X : Nat → Nat) (n b o l : Nat) : Prop := ∀ ts (op cu : Nat) (cm : Bool) (NN V : List Nat), T ts → (∀ c, c ∈ NN → c = 6) → tpw 6 V → NN.length ≤ op → op + o ≤ 6 → NN.length + V.length + l ≤ 45 → gG9 X n b (0, op, cu, cm, NN ++ V) ts (3, op - NN.length, 0, true, V) (nS9 X n)
theorem n6_ap : ∀ (A B : List Nat), n6 (A ++ B) = n6 A + n6 B
  | [], B => (Nat.zero_add _).symm
  | a :: A, B => by
    show (if a = 6 then 1 else 0) + n6 (A ++ B) = (if a = 6 then 1 else 0) + n6 A + n6 B
    rw [n6_ap A B]; omega
theorem c_C (hb : b = 2 ∨ b = 92) (hn : n ≤ 700) (hX : ∀ k, X k ≤ 255) : cpB tC X n b 2 10 := by
  intro ts op cu cm NN V ⟨x, y, c0, h1, h2, hc0, e⟩ hNN hV hno ho hl
  have key : ∀ c : Nat, ((c0 = 60 ∧ c = 7) ∨ (c0 = 62 ∧ c = 8) ∨ (c0 = 61 ∧ c = 9)) → gG9 X n b (0, op, cu, cm, NN ++ V) ts (3, op - NN.length, 0, true, V) (nS9 X n) := by
    intro c hc
    have tW : tpw 7 (NN ++ V) := fun d U eq => by
      cases NN with
      | nil => have := hV d U eq; omega
      | cons a NN =>
        have : a = 6 := hNN a (List.mem_cons_self ..)
        have e2 : a :: (NN ++ V) = d :: U := eq
        cases e2
        omega
    have lW : (NN ++ V).length = NN.length + V.length := List.length_append
    obtain ⟨P, p1, p2, p3, p4⟩ := c_E (op := op) (cu := 0) (cm := false) (W := NN ++ V) hb hn hX (c_U hb hn hX 2) h1 (tpw_le tW (by omega)) ho (by omega) (by omega)
    obtain ⟨P2, q1, q2, q3, q4⟩ := c_E (op := op) (cu := 0) (cm := true) (W := c :: (NN ++ V)) hb hn hX (c_U hb hn hX 2) h2 (tpw_c (by omega)) ho (by show (NN ++ V).length + 1 + 3 * 2 + 2 ≤ 55; omega) (by omega)
    have s2 := st_cmp (op := op) (P := P) (V := NN ++ V) hb hn hX hc (fun d hd => by have := p1 d hd; omega) tW p2 (by omega) (by rw [List.length_append]; omega)
    have n6N : n6 (P2 ++ c :: NN) = NN.length := by
      rw [n6_ap, q2]
      show 0 + ((if c = 6 then 1 else 0) + n6 NN) = _
      rw [if_neg (by omega), n6_all NN hNN]
      omega
    have s3 := cv_end (n := n) (op := op) (P := P2 ++ c :: NN) (V := V) hb hX (fun d hd => by
      rcases List.mem_append.1 hd with g | g
      · have := q1 d g; omega
      · rcases List.mem_cons.1 g with g | g
        · omega
        · rw [hNN d g]; omega) hV (by rw [n6N]; exact hno) (by omega) (by rw [List.length_append, List.length_append, List.length_cons]; omega)
    rw [n6N] at s3
    have es : P2 ++ c :: NN ++ V = P2 ++ c :: (NN ++ V) := by rw [List.append_assoc]; rfl
    rw [es] at s3
    have s4 := gG_V (nx2 := fun _ => True) (gG_tr p4 (gG_tr (us := y) s2 q4 (fun _ _ _ _ => trivial)) (fun _ _ _ _ => trivial)) s3 (fun _ _ => trivial)
    rw [e]
    exact gV_G (cv_start hb hX) s4 (fun p q _ hr => fs_start (f_a2 (f_E (f_U 2) h1)) hr)
  rcases hc0 with g | g | g
  · exact key 7 (Or.inl ⟨g, rfl⟩)
  · exact key 8 (Or.inr (Or.inl ⟨g, rfl⟩))
  · exact key 9 (Or.inr (Or.inr ⟨g, rfl⟩))
/-- a token that no comparison goes on with -/
theorem nS_w {w : Nat} {r : List (Nat × Nat)} (h : rdT X n p ((1, w) :: r) q) : nS9 X n p := by
  have := kd_tok h.1 h.2.1 (Or.inl rfl)
  have k : kd X n p = 1 := this
  unfold nS9
  omega
theorem nS_p {r : List (Nat × Nat)} (h : rdT X n p ((3, 41) :: r) q) : nS9 X n p := by
  have := kd_tok h.1 h.2.1 (Or.inr (Or.inr rfl))
  have k : kd X n p = 41 := this
  unfold nS9
  omega
theorem c_A (hb : b = 2 ∨ b = 92) (hn : n ≤ 700) (hX : ∀ k, X k ≤ 255) (hT : cpB T X n b o l) (h : tA T ts) (hV : tpw 5 V) (ho : op + o ≤ 6) (hl : V.length + l + 1 ≤ 45) : ∃ P : List Nat, (∀ d, d ∈ P → d = 5) ∧ P.length ≤ 1 ∧ gG9 X n b (0, op, cu, cm, V) ts (3, op, 0, true, P ++ V) (nS9 X n) := by
  rcases h with h | ⟨x, y, h1, h2, e⟩
  · exact ⟨[], fun d hd => absurd hd List.not_mem_nil, Nat.zero_le _, hT ts op cu cm [] V h (fun d hd => absurd hd List.not_mem_nil) (tpw_le hV (by omega)) (Nat.zero_le _) ho (by show 0 + V.length + l ≤ 45; omega)⟩
  · have s1 := hT x op cu cm [] V h1 (fun d hd => absurd hd List.not_mem_nil) (tpw_le hV (by omega)) (Nat.zero_le _) ho (by show 0 + V.length + l ≤ 45; omega)
    have s2 := sv_jn (op := op) (cu := 0) (cm := true) (P := []) (V := V) hb hn hX (w := 6385252) (c := 5) (Or.inl ⟨rfl, rfl⟩) (fun d hd => absurd hd List.not_mem_nil) hV rfl (by omega) (by show V.length ≤ 60; omega)
    have s3 := hT y op 0 true [] (5 :: V) h2 (fun d hd => absurd hd List.not_mem_nil) (tpw_c (by omega)) (Nat.zero_le _) ho (by show 0 + (V.length + 1) + l ≤ 45; omega)
    refine ⟨[5], fun d hd => List.mem_singleton.1 hd, Nat.le_refl _, ?_⟩
    rw [e]
    exact gG_tr s1 (gG_tr (us := y) s2 s3 (fun _ _ _ _ => trivial)) (fun p q _ hr => nS_w hr)
theorem n6_5 : ∀ P : List Nat, (∀ d, d ∈ P → d = 4 ∨ d = 5) → n6 P = 0
  | [], _ => rfl
  | c :: P, h => by
    have := h c (List.mem_cons_self ..)
    rw [n6, if_neg (by omega), n6_5 P (fun d hd => h d (List.mem_cons_of_mem _ hd))]
theorem c_T (hb : b = 2 ∨ b = 92) (hn : n ≤ 700) (hX : ∀ k, X k ≤ 255) (hT : cpB T X n b o l) (h : tT T ts) (hV : tpw 4 V) (ho : op + o ≤ 6) (hl : V.length + l + 2 ≤ 45) : ∃ P : List Nat, (∀ d, d ∈ P → d = 4 ∨ d = 5) ∧ P.length ≤ 2 ∧ gG9 X n b (0, op, cu, cm, V) ts (3, op, 0, true, P ++ V) (nS9 X n) := by
  rcases h with h | ⟨x, y, h1, h2, e⟩
  · obtain ⟨P, p1, p2, p3⟩ := c_A (op := op) (cu := cu) (cm := cm) hb hn hX hT h (tpw_le hV (by omega)) ho (by omega)
    exact ⟨P, fun d hd => Or.inr (p1 d hd), by omega, p3⟩
  · obtain ⟨P, p1, p2, p3⟩ := c_A (op := op) (cu := cu) (cm := cm) hb hn hX hT h1 (tpw_le hV (by omega)) ho (by omega)
    obtain ⟨P2, q1, q2, q3⟩ := c_A (V := 4 :: V) (op := op) (cu := 0) (cm := true) hb hn hX hT h2 (tpw_c (by omega)) ho (by show V.length + 1 + l + 1 ≤ 45; omega)
    have s2 := sv_jn (op := op) (cu := 0) (cm := true) (P := P) (V := V) hb hn hX (w := 28530) (c := 4) (Or.inr ⟨rfl, rfl⟩) (fun d hd => by rw [p1 d hd]; omega) hV (n6_5 P (fun d hd => Or.inr (p1 d hd))) (by omega) (by rw [List.length_append]; omega)
    refine ⟨P2 ++ [4], fun d hd => ?_, by rw [List.length_append]; show P2.length + 1 ≤ 2; omega, ?_⟩
    · rcases List.mem_append.1 hd with g | g
      · exact Or.inr (q1 d g)
      · exact Or.inl (List.mem_singleton.1 g)
    · rw [e, List.append_assoc]
      exact gG_tr p3 (gG_tr (us := y) s2 q3 (fun _ _ _ _ => trivial)) (fun p q _ hr => nS_w hr)
theorem c_B (hb : b = 2 ∨ b = 92) (hn : n ≤ 700) (hX : ∀ k, X k ≤ 255) : ∀ k, cpB (tB k) X n b (2 + k) (10 + 4 * k)
  | 0 => c_C hb hn hX
  | k + 1 => by
    intro ts op cu cm NN V h hNN hV hno ho hl
    rcases h with h | ⟨x, h1, e⟩ | ⟨x, h1, e⟩
    · exact c_C hb hn hX ts op cu cm NN V h hNN hV hno (by omega) (by omega)
    · have s1 := sv_not (op := op) (cu := cu) (cm := cm) (W := NN ++ V) hb hn hX (by omega) (by rw [List.length_append]; omega)
      have s2 := c_B hb hn hX k x (op + 1) cu cm (6 :: NN) V h1 (fun d hd => by
        rcases List.mem_cons.1 hd with g | g
        · exact g
        · exact hNN d g) hV (by rw [List.length_cons]; omega) (by omega) (by rw [List.length_cons]; omega)
      rw [List.length_cons, show op + 1 - (NN.length + 1) = op - NN.length from by omega] at s2
      rw [e]
      exact gG_tr (us := x) s1 s2 (fun _ _ _ _ => trivial)
    · obtain ⟨P, p1, p2, p3⟩ := c_T (V := 2 :: (NN ++ V)) (op := op + 1) (cu := cu) (cm := cm) hb hn hX (c_B hb hn hX k) h1 (tpw_c (by omega)) (by omega) (by rw [List.length_cons, List.length_append]; omega)
      have s1 := st_par (op := op) (cu := cu) (cm := cm) (W := NN ++ V) hb hn hX (by omega) (by rw [List.length_append]; omega)
      have s3 := st_rpar (op := op) (cu := 0) (cm := true) (P := P) (NN := NN) (V := V) hb hn hX (fun d hd => by have := p1 d hd; omega) (n6_5 P p1) hNN hV hno (by omega) (by rw [List.length_append, List.length_cons, List.length_append]; omega)
      rw [e]
      exact gG_wk (gG_tr (us := x ++ [(3, 41)]) s1 (gG_tr p3 s3 (fun p q _ hr => nS_p hr)) (fun _ _ _ _ => trivial)) (fun _ _ => trivial)
/-- a whole condition -/
theorem c_cond (hb : b = 2 ∨ b = 92) (hn : n ≤ 700) (hX : ∀ k, X k ≤ 255) (ht : tT (tB 2) ts) (hr : rdT X n p ts q) (hp : p ≤ n) (hq : q ≤ n) (hlen : ts.length ≤ 700) (hk : tkC X n Z p) (h7 : ∃ m : Nat, m ≤ 700 ∧ Z.1 (b + 1) 7 = i3 (m : Nat)) {w : Nat} (hw : w < 16) (hx : nS9 X n q ∧ ¬ (jS X n q = 1 ∧ jN X n q = 6385252) ∧ ¬ (jS X n q = 1 ∧ jN X n q = 28530)) : ∃ Z1, f69_read (b + 1) (i3 (w : Nat)) Z = some (0, Z1) ∧ tkC X n Z1 q ∧ eqJ b Z Z1 ∧ ∃ m : Nat, m ≤ 700 ∧ Z1.1 (b + 1) 7 = i3 (m : Nat) := by
  obtain ⟨m, hm, h7⟩ := h7
  obtain ⟨Y, hY⟩ : ∃ Y, Y = zSi (zSi (zSi Z 185 0 0) 185 1 0) 185 6 0 := ⟨_, rfl⟩
  have y0 : Y.1 185 0 = 0 := by rw [hY, si_fld _ _ _ _ (by omega), si_fld _ _ _ _ (by omega), si_same]
  have y1 : Y.1 185 1 = 0 := by rw [hY, si_fld _ _ _ _ (by omega), si_same]
  have y6 : Y.1 185 6 = 0 := by rw [hY, si_same]
  have yb : Y.1 (b + 1) = Z.1 (b + 1) := by rw [hY, si_obj _ _ _ _ (by omega), si_obj _ _ _ _ (by omega), si_obj _ _ _ _ (by omega)]
  have eY : eqI b Z Y := by rw [hY]; exact eqI_tr (eqI_si (by omega) (by omega)) (eqI_tr (eqI_si (by omega) (by omega)) (eqI_si (by omega) (by omega)))
  have i1 := is_b1 hb
  have j4 : mjIs (b + 1 + 4) 211 13 = true := is_b2 hb 3 (by omega)
  have j6 : mjIs (b + 1 + 6) 211 13 = true := is_b2 hb 5 (by omega)
  have l4 : (mjLay (b + 1 + 4)).2 = 16 := (is_trm hb).2 0 (by omega)
  have l6 : (mjLay (b + 1 + 6)).2 = 16 := (is_trm hb).2 2 (by omega)
  obtain ⟨V, hV⟩ : ∃ V, V = zSi (zSi (zSi Y (b + 1) 6 (i3 (w : Nat))) (b + 1 + 4) w (i3 (m : Nat))) (b + 1 + 6) w 0 := ⟨_, rfl⟩
  have g46 : f46_begin (b + 1) (i3 (w : Nat)) Y = some ((), V) := by
    unfold f46_begin
    rw [show (0 : Int32) = i3 0 from rfl, if_neg (by rw [c_lt (by omega)]; omega), if_pos i1, if_pos j4, l4, i3_ofNat, if_neg (by rw [c_ge (by omega)]; omega), let_eq, if_pos (of_eq_true (in_t (by omega))), ix_nat (by omega), si_fld _ _ _ _ (show ¬ (b + 1 = b + 1 ∧ 7 = 6) by omega), yb, h7, let_eq, if_pos j6, l6, if_pos (of_eq_true (in_t (by omega))), let_eq, hV]
    rfl
  have eV : eqI b Z V := eqI_tr eY (by rw [hV]; exact eqI_tr (eqI_si (by omega) (by omega)) (eqI_tr (eqI_si (by omega) (by omega)) (eqI_si (by omega) (by omega))))
  have v185 : V.1 185 = Y.1 185 := by rw [hV, si_obj _ _ _ _ (by omega), si_obj _ _ _ _ (by omega), si_obj _ _ _ _ (by omega)]
  have v6 : V.1 (b + 1) 6 = i3 (w : Nat) := by rw [hV, si_obj _ _ _ _ (by omega), si_obj _ _ _ _ (by omega), si_same]
  have v7 : V.1 (b + 1) 7 = i3 (m : Nat) := by rw [hV, si_obj _ _ _ _ (by omega), si_obj _ _ _ _ (by omega), si_fld _ _ _ _ (by omega), yb]; exact h7
  have cV : cZ9 X n b V p (0, 0, 0, true, []) := ⟨tk_eqI hb hk eV, hp, by rw [v185]; exact y0, by rw [v185]; exact y1, Or.inl rfl, by rw [v185]; exact y6, trivial, ⟨w, hw, v6⟩, m, hm, v7⟩
  obtain ⟨P, p1, p2, p3⟩ := c_T (V := []) (op := 0) (cu := 0) (cm := true) hb hn hX (c_B hb hn hX 2) ht (fun c U e => by cases e) (by omega) (by show 0 + (10 + 4 * 2) + 2 ≤ 45; omega)
  rw [List.append_nil] at p3
  obtain ⟨Z2, a1, a2, a3⟩ := p3 V p q mjF 0 cV hr hq (by unfold mjF; omega) (by omega) hx.1
  obtain ⟨M, hM⟩ : ∃ M, mjF - ts.length = M + 1 := ⟨mjF - ts.length - 1, by unfold mjF; omega⟩
  obtain ⟨Z3, b1, b2, b3, b4⟩ := cv_fin (N := M) (s := 0 + ts.length) hb hX (fun d hd => by have := p1 d hd; omega) (n6_5 P p1) (by omega) a2 (by omega) hx.2
  refine ⟨Z3, ?_, b2, eqJ_tr eV.1 (eqJ_tr a3 b3), b4⟩
  unfold f69_read
  have a1' : f69_read_h23 mjF (b + 1) 0 V = cLp b (mjF - ts.length) (0 + ts.length) Z2 := a1
  rw [let_eq, let_eq, let_eq, ← hY, if_pos i1, g46, mjBd_some, a1', hM, b1]
end CG
