/-! acts waived and taken back, as many as a team needs to stay-/
section WV9
variable {Z Z2 Z3 : mjZt} {b N U : Nat} {S S2 : mjS} {E : Nat → Nat → Int} {W : Nat → Bool}
def eV9 (S S2 : mjS) : Prop := (∀ f, f ≠ 3 → S2 f = S f) ∧ (∀ k, k < 72 → S2 3 k = S 3 k) ∧ ∀ a, S2 3 (72 + 3 * a) = S 3 (72 + 3 * a) ∧ S2 3 (72 + 3 * a + 1) = S 3 (72 + 3 * a + 1)
def fr9 (Z Z2 : mjZt) : Prop := ∀ a, 251 ≤ a → Z2.1 a = Z.1 a
theorem fr9_rf : fr9 Z Z := fun _ _ => rfl
theorem fr9_tr (h : fr9 Z Z2) (g : fr9 Z2 Z3) : fr9 Z Z3 := fun a q => (g a q).trans (h a q)
theorem fr9_Q (h : eqQ Z Z2) : fr9 Z Z2 := fun a q => (h.2.1 a (by unfold scr; omega) (by omega)).1
theorem fr9_Y (hb : b = 2 ∨ b = 92) (h : eqY b Z Z2) : fr9 Z Z2 := fun a q => (h.2 a (by omega) (by omega) (by omega) (by omega) (by omega) (by omega)).1
theorem scZ_9 {L : Nat} {xs : Nat → Int32} (h : scZ Z L xs) (e : fr9 Z Z2) : scZ Z2 L xs := ⟨h.1, by rw [e 2000001 (by omega)]; exact h.2.1, by rw [e 2000000 (by omega)]; exact h.2.2⟩
theorem v_G (h : eV9 S S2) : eqG S S2 := ⟨h.1, h.2.1⟩
theorem v_Fk (h : eV9 S S2) (ho : okS S) {a : Nat} (hal : a < sAll S) {W : Nat → Bool} {te sz : Int} (k : Nat) : sFk S2 W a te sz k = sFk S W a te sz k := by
  have g := v_G h
  have t2 := tmA_lt ho hal
  have oth : ∀ c, c < sAll S → sTe S2 c = sTe S c := fun c hc => g_Te g ho hc (fun _ => (h.2.2 c).1)
  rcases (by omega : k = 0 ∨ k = 1 ∨ k = 2 ∨ k = 3 ∨ k = 4 ∨ k = 5 ∨ k = 6 ∨ k = 7 ∨ k = 8 ∨ k = 9 ∨ 10 ≤ k) with rfl | rfl | rfl | rfl | rfl | rfl | rfl | rfl | rfl | rfl | hk
  · rfl
  · rfl
  · show (sLa S2 (sTmA S2 a) te : Int) + 1 = (sLa S (sTmA S a) te : Int) + 1
    rw [g_TmA g, g_La g ho t2]
  · show sPl S2 (sTmA S2 a) te / 10 = sPl S (sTmA S a) te / 10
    rw [g_TmA g, g_Pl g ho t2]
  · show S2 1 (sTmA S2 a) = S 1 (sTmA S a)
    rw [g_TmA g, h.1 1 (by omega)]
  · show (if sOt S2 a = -1 then 0 else S2 1 (sOt S2 a).toNat) = (if sOt S a = -1 then 0 else S 1 (sOt S a).toNat)
    rw [g_Ot g, h.1 1 (by omega)]
  · show (if sOt S2 a = -1 then 0 else sPl S2 (sTmA S2 a) te - sPl S2 (sOt S2 a).toNat te) = (if sOt S a = -1 then 0 else sPl S (sTmA S a) te - sPl S (sOt S a).toNat te)
    rw [g_Ot g, g_TmA g, g_Pl g ho t2]
    rcases ot_cases ho (a := a) with ⟨q, _⟩ | ⟨o, q, q2, _⟩
    · rw [if_pos q, if_pos q]
    · rw [if_neg (by omega), if_neg (by omega), q, Int.toNat_natCast, g_Pl g ho q2]
  · show (if S2 0 4 = 0 then 0 else S2 0 1 + S2 0 4 - sPl S2 (sTmA S2 a) te / 10) = (if S 0 4 = 0 then 0 else S 0 1 + S 0 4 - sPl S (sTmA S a) te / 10)
    rw [h.1 0 (by omega), g_TmA g, g_Pl g ho t2]
  · show cN (agP S2 W a te) (sAll S2) = cN (agP S W a te) (sAll S)
    rw [g_All g]
    refine cN_congr _ (fun c hc => ?_)
    unfold agP
    rw [g_Kd g, g_Kd g, g_TmA g, g_TmA g, oth c hc]
  · show cN (foP S2 W a te) (sA S2) = cN (foP S W a te) (sA S)
    rw [g_A g]
    refine cN_congr _ (fun c hc => ?_)
    unfold foP
    rw [g_Kd g, g_Ot g, g_TmA g, oth c (by unfold sAll; omega)]
  · obtain ⟨k, rfl⟩ : ∃ k2, k = k2 + 10 := ⟨k - 10, by omega⟩
    show cN (rkP S2 a te) (sT S2) + 1 = cN (rkP S a te) (sT S) + 1
    rw [g_T g]
    congr 1
    refine cN_congr _ (fun c hc => ?_)
    unfold rkP
    rw [g_TmA g, g_Pl g ho t2, g_Pl g ho hc]
theorem v_stk (h : eV9 S S2) (ho : okS S) {a : Nat} (ha : a < sAll S) : stk S2 W a = stk S W a := by
  have g := v_G h
  have e : ∀ te sz, sFk S2 W a te sz = sFk S W a te sz := fun te sz => by funext k; exact v_Fk h ho ha k
  have e1 := g_Te g ho ha (fun _ => (h.2.2 a).1)
  have e2 := g_Sz g ho ha (fun _ => (h.2.2 a).2)
  unfold stk fRu
  rw [e1, e2, g_R g]
  have : (fun r => sSt S2 W a (sTe S a) (sSz S a) r) = fun r => sSt S W a (sTe S a) (sSz S a) r := by
    funext r
    unfold sSt
    rw [e, g_Kd g, h.1 7 (by omega), g_Ho h.1, g_Ho h.1, g_Ex h.1]
  rw [this]
theorem v_stN (h : eV9 S S2) (ho : okS S) (t : Nat) : stN S2 W t (sAll S2) = stN S W t (sAll S) := by
  unfold stN
  rw [g_All (v_G h)]
  exact cN_congr _ (fun a ha => by rw [v_stk h ho ha, g_TmA (v_G h)])
/-- acts below i of the set waived-/
def pW (S : mjS) (c : Nat) : Nat → mjS
  | 0 => S
  | i + 1 => if c.testBit i = true then updS (pW S c i) (72 + 3 * i + 2) (1 - pW S c i 3 (72 + 3 * i + 2)) else pW S c i
theorem pW_V (c : Nat) : ∀ i, eV9 S (pW S c i)
  | 0 => ⟨fun _ _ => rfl, fun _ _ => rfl, fun _ => ⟨rfl, rfl⟩⟩
  | i + 1 => by
    obtain ⟨h1, h2, h3⟩ := pW_V c i
    rw [pW]
    split
    · refine ⟨fun f hf => by rw [updS_f hf]; exact h1 f hf, fun k hk => by rw [updS_n (by omega)]; exact h2 k hk, fun a => ⟨by rw [updS_n (by omega)]; exact (h3 a).1, by rw [updS_n (by omega)]; exact (h3 a).2⟩⟩
    · exact ⟨h1, h2, h3⟩
theorem pW_fl (c : Nat) : ∀ i j, pW S c i 3 (72 + 3 * j + 2) = if j < i ∧ c.testBit j = true then 1 - S 3 (72 + 3 * j + 2) else S 3 (72 + 3 * j + 2)
  | 0, j => by rw [pW, if_neg (by omega)]
  | i + 1, j => by
    have ih := pW_fl c i j
    rw [pW]
    by_cases q : c.testBit i = true
    · rw [if_pos q]
      by_cases e : j = i
      · rw [e, updS_e, if_pos ⟨by omega, q⟩]
        have := pW_fl c i i
        rw [if_neg (by omega)] at this
        rw [this]
      · rw [updS_n (by omega), ih]
        by_cases g : j < i ∧ c.testBit j = true
        · rw [if_pos g, if_pos ⟨by omega, g.2⟩]
        · rw [if_neg g, if_neg (fun x => g ⟨by omega, x.2⟩)]
    · rw [if_neg q, ih]
      by_cases g : j < i ∧ c.testBit j = true
      · rw [if_pos g, if_pos ⟨by omega, g.2⟩]
      · rw [if_neg g, if_neg (fun x => g ⟨by
          rcases Nat.lt_or_ge j i with y | y
          · exact y
          · have : j = i := by omega
            rw [this] at x
            exact absurd x.2 q, x.2⟩)]
theorem fl_01 (ho : okS S) {a : Nat} (ha : a < sA S) : S 3 (72 + 3 * a + 2) = 0 ∨ S 3 (72 + 3 * a + 2) = 1 := (ok_act ho ha).2.2.2.2.2.2.2.2.2.2
theorem fl_0 (ho : okS S) {c j : Nat} (hc : cmW S c = false) (hj : j < sA S) (hb : c.testBit j = true) : S 3 (72 + 3 * j + 2) = 0 := by
  have h := any_none _ hc j hj
  rw [hb, Bool.true_and] at h
  have : ¬ (j < sA S ∧ S 3 (72 + 3 * j + 2) = 1) := of_decide_eq_false h
  have := fl_01 ho hj
  omega
theorem pW_sW (ho : okS S) {c : Nat} (hc : cmW S c = false) : sW (pW S c (sA S)) = wM S c := by
  have g := v_G (pW_V (S := S) c (sA S))
  have o1 := ok_sc ho
  funext a
  unfold sW wM
  rw [g_A g, pW_fl]
  refine decide_eq_decide.mpr ⟨fun ⟨h1, h2⟩ => ⟨h1, ?_⟩, fun ⟨h1, h2⟩ => ⟨h1, ?_⟩⟩
  · rw [bt_nat (by omega)]
    by_cases q : c.testBit a = true
    · exact Or.inr q
    · rw [if_neg (fun x => q x.2)] at h2; exact Or.inl h2
  · rw [bt_nat (by omega)] at h2
    by_cases q : c.testBit a = true
    · rw [if_pos ⟨h1, q⟩, fl_0 ho hc h1 q]; rfl
    · rw [if_neg (fun x => q x.2)]
      exact h2.resolve_right q
/-- the set that is told-/
theorem bSt_is {t : Nat} : ∀ m, bSt S t m = -2 ∨ ∃ c : Nat, bSt S t m = ((c : Nat) : Int) ∧ c < m ∧ cmW S c = false ∧ unF S (wM S c) t (sAll S) 0 = true
  | 0 => Or.inl rfl
  | m + 1 => by
    rw [bSt]
    by_cases q : cmW S m = false ∧ (cb 12 m : Int) < bC S t m ∧ unF S (wM S m) t (sAll S) 0 = true
    · rw [if_pos q]
      exact Or.inr ⟨m, rfl, by omega, q.1, q.2.2⟩
    · rw [if_neg q]
      rcases bSt_is (t := t) m with h | ⟨c, h1, h2, h3⟩
      · exact Or.inl h
      · exact Or.inr ⟨c, h1, by omega, h3⟩
theorem un_st {t : Nat} (h : unF S W t (sAll S) 0 = true) : stN S W t (sAll S) = 0 := by
  rw [unF_iff] at h
  unfold stN
  have : ∀ n, n ≤ sAll S → cN (fun a => stk S W a && decide (sTmA S a = t)) n = 0 := fun n => by
    induction n with
    | zero => intro _; rfl
    | succ n ih =>
      intro g
      have k := h n (by omega) (by omega)
      rw [cN, ih (by omega), if_neg (fun x => by
        rw [Bool.and_eq_true] at x
        exact k ⟨of_decide_eq_true x.2, x.1⟩)]
      rfl
  exact this _ (Nat.le_refl _)
theorem cN_up {p : Nat → Bool} {i : Nat} : ∀ d, cN p i ≤ cN p (i + d)
  | 0 => Int.le_refl _
  | d + 1 => by
    have := cN_up (p := p) (i := i) d
    rw [← Nat.add_assoc, cN]
    split <;> omega
/-- waived, one after another-/
theorem jg_wv (ho : okS S) {c : Nat} (hc : cmW S c = false) (hc2 : c < 2 ^ sA S) (hU : U ≤ 4) (hcb : cb 12 c ≤ 4) (K : Int32 → Int32 → Int32 → mjZt → Option (Int32 × mjZt)) (x3 x5 : Int32) : ∀ f i M (Z : mjZt) (N n : Nat) (F : Nat → Nat → Int), i + f = sA S → f < M → ((n : Nat) : Int) = cN (fun j => c.testBit j) i → cI9 Z b (pW S c i) N (U + n) F → hS9 n (pW S c i) F S → (∀ k, F (k + n) = E k) → ∃ (Z2 : mjZt) (N2 n2 : Nat) (F2 : Nat → Nat → Int), fr9 Z Z2 ∧ n2 ≤ 4 ∧ cI9 Z2 b (pW S c (sA S)) N2 (U + n2) F2 ∧ hS9 n2 (pW S c (sA S)) F2 S ∧ (∀ k, F2 (k + n2) = E k) ∧ f701_judged_h435 K M x3 (i3 (c : Nat)) x5 (i3 (n : Nat)) (i3 (i : Nat)) Z = K x3 x5 (i3 (n2 : Nat)) Z2 := by
  have o1 := ok_sc ho
  have cbN := cb_cN 12 c
  intro f
  induction f with
  | zero =>
    intro i M Z N n F he hM hn hi hh hE
    obtain ⟨M, rfl⟩ : ∃ N0, M = N0 + 1 := ⟨M - 1, by omega⟩
    have ei : i = sA S := by omega
    have up := cN_up (p := fun j => c.testBit j) (i := i) (12 - i)
    rw [show i + (12 - i) = 12 by omega] at up
    have g := g_A (v_G (pW_V (S := S) c i))
    refine ⟨Z, N, n, F, fr9_rf, by omega, by rw [← ei]; exact hi, by rw [← ei]; exact hh, hE, ?_⟩
    rw [f701_judged_h435, x_ab7 hi.1 hi.2.1, mjBp_some, g, if_pos (by rw [c_ge (by omega)]; omega)]
  | succ f ih =>
    intro i M Z N n F he hM hn hi hh hE
    obtain ⟨M, rfl⟩ : ∃ N0, M = N0 + 1 := ⟨M - 1, by omega⟩
    have g := g_A (v_G (pW_V (S := S) c i))
    have up := cN_up (p := fun j => c.testBit j) (i := i + 1) (12 - (i + 1))
    rw [show i + 1 + (12 - (i + 1)) = 12 by omega] at up
    have sn : cN (fun j => c.testBit j) (i + 1) = cN (fun j => c.testBit j) i + (if c.testBit i = true then 1 else 0) := rfl
    rw [f701_judged_h435, x_ab7 hi.1 hi.2.1, mjBp_some, g, if_neg (by rw [c_ge (by omega)]; omega), show (1 : Int32) = i3 1 from rfl, bt_test (by omega), bt_nat (by omega)]
    by_cases q : c.testBit i = true
    · obtain ⟨V, w1, w2, w3, w4, w5⟩ := y_waive hi (a := i) (by omega)
      have fl : pW S c i 3 (72 + 3 * i + 2) = 0 := by
        rw [pW_fl, if_neg (by omega)]; exact fl_0 ho hc (by omega) q
      have eu : pW S c (i + 1) = updS (pW S c i) (72 + 3 * i + 2) (1 - pW S c i 3 (72 + 3 * i + 2)) := by rw [pW, if_pos q]
      rw [← eu] at w2 w3 w4
      have lu : lgU (U + n) = U + (n + 1) := by
        rw [if_pos q] at sn
        unfold lgU
        rw [if_pos (by omega)]; omega
      rw [lu] at w2
      rw [if_pos q] at sn
      obtain ⟨Z2, N2, n2, F2, r1, r2, r3, r4, r5, r6⟩ := ih (i + 1) M V (lgN N) (n + 1) (lgE F (enW i)) (by omega) (by omega) (by omega) w2 (hS_push w3 w4 hh) (fun k => by
        show lgE F (enW i) (k + n + 1) = _
        unfold lgE
        rw [if_neg (by omega)]
        exact hE k)
      refine ⟨Z2, N2, n2, F2, fr9_tr (fr9_Y (b_b hi.2.1) w5) r1, r2, r3, r4, r5, ?_⟩
      rw [if_pos q, if_pos (by decide), w1, mjBd_some, fl, if_pos (by decide), i3_add, i3_add]
      exact r6
    · have eu : pW S c (i + 1) = pW S c i := by rw [pW, if_neg q]
      rw [← eu] at hi hh
      rw [if_neg q, Int.add_zero] at sn
      obtain ⟨Z2, N2, n2, F2, r1, r2, r3, r4, r5, r6⟩ := ih (i + 1) M Z N n F (by omega) (by omega) (by omega) hi hh hE
      refine ⟨Z2, N2, n2, F2, r1, r2, r3, r4, r5, ?_⟩
      rw [if_neg q, if_neg (by decide), i3_add]
      exact r6
/-- and back-/
theorem jg_bk (K : Int32 → Int32 → mjZt → Option (Int32 × mjZt)) (x3 x5 : Int32) : ∀ n M (Z : mjZt) (S2 : mjS) (N : Nat) (F : Nat → Nat → Int), n ≤ 100 → n < M → U ≤ 100 → cI9 Z b S2 N (U + n) F → hS9 n S2 F S → (∀ k, F (k + n) = E k) → ∃ (Z2 : mjZt) (N2 : Nat), fr9 Z Z2 ∧ cI9 Z2 b S N2 U E ∧ f701_judged_h491 K M x3 x5 (i3 (n : Nat)) Z = K x3 x5 Z2
  | 0, M, Z, S2, N, F, h1, hM, hU, hi, hh, hE => by
    obtain ⟨M, rfl⟩ : ∃ N0, M = N0 + 1 := ⟨M - 1, by omega⟩
    have e : S2 = S := hh
    have eF : F = E := by funext k; exact hE k
    refine ⟨Z, N, fr9_rf, by rw [← e, ← eF]; exact hi, ?_⟩
    rw [f701_judged_h491, if_pos (by decide)]
  | n + 1, M, Z, S2, N, F, h1, hM, hU, hi, hh, hE => by
    obtain ⟨M, rfl⟩ : ∃ N0, M = N0 + 1 := ⟨M - 1, by omega⟩
    obtain ⟨hv, hh2⟩ := hh
    obtain ⟨V, N1, u1, u2, u3⟩ := y_undo hi hv
    obtain ⟨Z2, N2, r1, r2, r3⟩ := jg_bk K x3 x5 n M V (tkS (F 0) S2) N1 (fun k => F (k + 1)) (by omega) (by omega) hU u2 hh2 (fun k => hE k)
    have u1' : f193_undo Z = some (i3 ((U + n : Nat) : Int), V) := u1
    refine ⟨Z2, N2, fr9_tr (fr9_Y (b_b hi.2.1) u3) r1, r2, ?_⟩
    rw [f701_judged_h491, if_neg (by rw [show (0 : Int32) = i3 0 from rfl, c_le (by omega)]; omega), u1', mjBd_some, if_pos (by rw [show (0 : Int32) = i3 0 from rfl, c_ge (by omega)]; omega), show (-1 : Int32) = i3 (-1) from rfl, i3_add, show (((n + 1 : Nat) : Int) + -1) = ((n : Nat) : Int) from by omega]
    exact r3
theorem jg_st : ∀ f t M (Z : mjZt) (N : Nat), t + f = sT S → f < M → U ≤ 10 → cI9 Z b S N U E → ∃ (Z2 : mjZt) (N2 : Nat), fr9 Z Z2 ∧ cI9 Z2 b S N2 U E ∧ f701_judged_h362 M (i3 (t : Nat)) Z = some (1, Z2) := by
  intro f
  induction f with
  | zero =>
    intro t M Z N he hM hU hi
    obtain ⟨M, rfl⟩ : ∃ N0, M = N0 + 1 := ⟨M - 1, by omega⟩
    have o1 := ok_sc hi.2.2.2.2.2.1
    refine ⟨Z, N, fr9_rf, hi, ?_⟩
    rw [f701_judged_h362, x_ab5 hi.1 hi.2.1, mjBp_some, if_pos (by rw [c_ge (by omega)]; omega)]
  | succ f ih =>
    intro t M Z N he hM hU hi
    obtain ⟨M, rfl⟩ : ∃ N0, M = N0 + 1 := ⟨M - 1, by omega⟩
    have ho := hi.2.2.2.2.2.1
    have o1 := ok_sc ho
    have ht : t < sT S := by omega
    have pw := pw_le (k := sA S) (by omega)
    obtain ⟨V, eV, hV⟩ := x_stays hi ht (k := 1) (by omega)
    have hiV := cI_q hi eV
    have hV' : f189_stays (i3 (t : Nat)) 1 Z = some (i3 (if bSt S t (2 ^ sA S) = -2 then -2 else if (1 : Nat) = 0 then bC S t (2 ^ sA S) else bSt S t (2 ^ sA S)), V) := hV
    obtain ⟨Z3, N3, a1, a2, a3⟩ := ih (t + 1) M V N (by omega) (by omega) hU hiV
    rw [f701_judged_h362, x_ab5 hi.1 hi.2.1, mjBp_some, if_neg (by rw [c_ge (by omega)]; omega), hV', mjBd_some]
    rcases bSt_is (S := S) (t := t) (2 ^ sA S) with h | ⟨c, h1, h2, h3, h4⟩
    · refine ⟨Z3, N3, fr9_tr (fr9_Q eV) a1, a2, ?_⟩
      rw [if_pos h, if_neg (by decide), i3_s]
      exact a3
    · have cbb := cb_le 12 c
      have bb := (bC_bd (S := S) t (2 ^ sA S)).2.2
      have bC9 : bC S t (2 ^ sA S) = cb 12 c := by
        rcases bb with g | ⟨g1, g2, g3⟩
        · omega
        · rw [h1, Int.toNat_natCast] at g3; exact g3
      have e1 : f323_bitCount (i3 (c : Nat)) V = some (i3 ((cb 12 c : Nat) : Int)) := by rw [e323, bc_12 c (by omega)]
      obtain ⟨V2, eV2, hV2⟩ := x_stays hiV ht (k := 0) (by omega)
      have hiV2 := cI_q hiV eV2
      rw [if_neg (by omega), if_pos rfl, bC9] at hV2
      have hV2' : f189_stays (i3 (t : Nat)) 0 V = some (i3 ((cb 12 c : Nat) : Int), V2) := hV2
      have e2 : f323_bitCount (i3 (c : Nat)) V2 = some (i3 ((cb 12 c : Nat) : Int)) := by rw [e323, bc_12 c (by omega)]
      have u11 : f154_about 11 V2 = some (i3 (U : Nat)) := by rw [x_ab11, hiV2.2.2.2.2.2.2.2.2.2.2.1]
      obtain ⟨Z4, N4, b1, b2, b3⟩ := ih (t + 1) M V2 N (by omega) (by omega) hU hiV2
      have val : (if bSt S t (2 ^ sA S) = -2 then (-2 : Int) else if (1 : Nat) = 0 then bC S t (2 ^ sA S) else bSt S t (2 ^ sA S)) = ((c : Nat) : Int) := by
        rw [if_neg (by omega), if_neg (by decide), h1]
      rw [val, if_pos (by rw [show (0 : Int32) = i3 0 from rfl, c_ge (by omega)]; omega), e1, mjBp_some, hV2', mjBd_some, if_pos (eq_self _), u11, mjBp_some]
      by_cases q : U ≤ 4
      · rw [if_neg (by rw [show (4 : Int32) = i3 4 from rfl, c_gt (by omega)]; omega), e2, mjBp_some]
        by_cases q2 : cb 12 c ≤ 4
        · rw [if_pos (by rw [show (4 : Int32) = i3 4 from rfl, c_le (by omega)]; omega)]
          obtain ⟨Y, NY, n2, F2, r1, r2, r3, r4, r5, r6⟩ := jg_wv (b := b) (U := U) (E := E) ho h3 h2 q q2 (fun x3_Z169 x5_Z169 x6_Z169 Z169 =>
                mjBp (f179_struck x3_Z169 2 Z169) fun v171 =>
                if mjCmp .eq v171 0 = true then
                  f701_judged_h491 (fun x3_Z179 x5_Z179 Z179 =>
                    mjBp (f154_about 11 Z179) fun v181 =>
                    if mjCmp .eq v181 x5_Z179 = true then
                      f701_judged_h362 M (x3_Z179 + 1) Z179
                    else
                      some (0, Z179)
                    ) mjF x3_Z169 x5_Z169 x6_Z169 Z169
                else
                  some (0, Z169)
                ) (i3 (t : Nat)) (i3 (U : Nat)) (sA S) 0 mjF V2 N 0 E (by omega) (by unfold mjF; omega) rfl hiV2 rfl (fun _ => rfl)
          have r6' : f701_judged_h435 (fun x3_Z169 x5_Z169 x6_Z169 Z169 =>
                mjBp (f179_struck x3_Z169 2 Z169) fun v171 =>
                if mjCmp .eq v171 0 = true then
                  f701_judged_h491 (fun x3_Z179 x5_Z179 Z179 =>
                    mjBp (f154_about 11 Z179) fun v181 =>
                    if mjCmp .eq v181 x5_Z179 = true then
                      f701_judged_h362 M (x3_Z179 + 1) Z179
                    else
                      some (0, Z179)
                    ) mjF x3_Z169 x5_Z169 x6_Z169 Z169
                else
                  some (0, Z169)
                ) mjF (i3 (t : Nat)) (i3 (c : Nat)) (i3 (U : Nat)) 0 0 V2 = (mjBp (f179_struck (i3 (t : Nat)) 2 Y) fun v171 =>
                if mjCmp .eq v171 0 = true then
                  f701_judged_h491 (fun x3_Z179 x5_Z179 Z179 =>
                    mjBp (f154_about 11 Z179) fun v181 =>
                    if mjCmp .eq v181 x5_Z179 = true then
                      f701_judged_h362 M (x3_Z179 + 1) Z179
                    else
                      some (0, Z179)
                    ) mjF (i3 (t : Nat)) (i3 (U : Nat)) (i3 (n2 : Nat)) Y
                else
                  some (0, Y)) := r6
          have gT := g_T (v_G (pW_V (S := S) c (sA S)))
          have st := x_struck2 r3 (t := t) (by rw [gT]; exact ht)
          rw [v_stN (pW_V (S := S) c (sA S)) ho, pW_sW ho h3, un_st h4] at st
          obtain ⟨Y2, NY2, s1, s2, s3⟩ := jg_bk (b := b) (U := U) (E := E) (S := S) (fun x3_Z179 x5_Z179 Z179 =>
                    mjBp (f154_about 11 Z179) fun v181 =>
                    if mjCmp .eq v181 x5_Z179 = true then
                      f701_judged_h362 M (x3_Z179 + 1) Z179
                    else
                      some (0, Z179)
                    ) (i3 (t : Nat)) (i3 (U : Nat)) n2 mjF Y _ NY F2 (by omega) (by unfold mjF; omega) (by omega) r3 r4 r5
          obtain ⟨Z5, N5, c1, c2, c3⟩ := ih (t + 1) M Y2 NY2 (by omega) (by omega) hU s2
          have u11' : f154_about 11 Y2 = some (i3 (U : Nat)) := by rw [x_ab11, s2.2.2.2.2.2.2.2.2.2.2.1]
          refine ⟨Z5, N5, fr9_tr (fr9_Q eV) (fr9_tr (fr9_Q eV2) (fr9_tr r1 (fr9_tr s1 c1))), c2, ?_⟩
          rw [r6', st, mjBp_some, if_pos (by decide), s3]
          show (mjBp (f154_about 11 Y2) fun v181 => if mjCmp .eq v181 (i3 (U : Nat)) = true then f701_judged_h362 M (i3 (t : Nat) + 1) Y2 else some (0, Y2)) = _
          rw [u11', mjBp_some, if_pos (eq_self _), i3_s]
          exact c3
        · refine ⟨Z4, N4, fr9_tr (fr9_Q eV) (fr9_tr (fr9_Q eV2) b1), b2, ?_⟩
          rw [if_neg (by rw [show (4 : Int32) = i3 4 from rfl, c_le (by omega)]; omega), i3_s]
          exact b3
      · refine ⟨Z4, N4, fr9_tr (fr9_Q eV) (fr9_tr (fr9_Q eV2) b1), b2, ?_⟩
        rw [if_pos (by rw [show (4 : Int32) = i3 4 from rfl, c_gt (by omega)]; omega), i3_s]
        exact b3
/-- the law's judging is so-/
theorem judged_ok (hi : cI9 Z b S N U E) (hU : U ≤ 10) : ∃ (Z2 : mjZt) (N2 : Nat), fr9 Z Z2 ∧ cI9 Z2 b S N2 U E ∧ f701_judged Z = some (1, Z2) := by
  have ho := hi.2.2.2.2.2.1
  have o1 := ok_sc ho
  have oa := all_le ho
  obtain ⟨V, e1, h1⟩ := jg_acts (b := b) (N := N) (U := U) (S := S) (E := E) (sAll S) 0 mjF Z (by omega) (by unfold mjF; omega) hi
  have hiV := cI_q hi e1
  obtain ⟨V2, e2, h2⟩ := jg_res (b := b) (N := N) (U := U) (S := S) (E := E) (sT S + 1) 0 mjF V 0 (by omega) (by unfold mjF; omega) hiV (fun j hj => by
    have r := rk_bd9 (S := S) (W := sW S) (t := j)
    have z : bt (0 : Int32) j = false := bt_0 j
    rw [z, decide_eq_false (by omega), Bool.and_false])
  obtain ⟨Z2, N2, c1, c2, c3⟩ := jg_st (b := b) (U := U) (S := S) (E := E) (sT S) 0 mjF V2 N (by omega) (by unfold mjF; omega) hU (cI_q hiV e2)
  refine ⟨Z2, N2, fr9_tr (fr9_Q e1) (fr9_tr (fr9_Q e2) c1), c2, ?_⟩
  have h1' : f701_judged_h9 mjF (i3 (sR S)) 0 Z = f701_judged_h210 mjF 0 0 V := h1
  have h2' : f701_judged_h210 mjF 0 0 V = f701_judged_h362 mjF 0 V2 := h2
  have c3' : f701_judged_h362 mjF 0 V2 = some (1, Z2) := c3
  unfold f701_judged
  rw [x_ab8 hi.1 hi.2.1, mjBp_some, h1', h2', c3']
end WV9
