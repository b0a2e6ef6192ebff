/-! the result's order: no place is left out-/
section OD9
variable {Z Z2 : mjZt} {b N U : Nat} {S : mjS} {E : Nat → Nat → Int} {W : Nat → Bool}
def rk9 (S : mjS) (W : Nat → Bool) (t : Nat) : Int := cN (kP (sIn S W) (sTm S) (S 1) t) (sT S)
def lt9 (S : mjS) (o t : Nat) : Prop := sTm S o < sTm S t ∨ (sTm S o = sTm S t ∧ S 1 o < S 1 t)
theorem kP_lt {o t : Nat} : kP (sIn S W) (sTm S) (S 1) t o = true ↔ sIn S W o = true ∧ lt9 S o t := by
  unfold kP lt9
  rw [Bool.and_eq_true, Bool.or_eq_true, Bool.and_eq_true]
  constructor
  · rintro ⟨h1, h2 | ⟨h2, h3⟩⟩
    · exact ⟨h1, Or.inl (of_decide_eq_true h2)⟩
    · exact ⟨h1, Or.inr ⟨of_decide_eq_true h2, of_decide_eq_true h3⟩⟩
  · rintro ⟨h1, h2 | ⟨h2, h3⟩⟩
    · exact ⟨h1, Or.inl (decide_eq_true h2)⟩
    · exact ⟨h1, Or.inr ⟨decide_eq_true h2, decide_eq_true h3⟩⟩
theorem in_T {t : Nat} (h : sIn S W t = true) : t < sT S ∧ sTd S t = sLg S ∧ sHi S W (sAll S) t = false := by
  unfold sIn at h
  rw [Bool.and_eq_true, Bool.and_eq_true] at h
  refine ⟨of_decide_eq_true h.1, of_decide_eq_true h.2.1, ?_⟩
  have := h.2.2
  cases q : sHi S W (sAll S) t with
  | false => rfl
  | true => rw [q] at this; exact absurd this (by decide)
theorem lt9_tot (ho : okS S) {o t : Nat} (h1 : o < sT S) (h2 : t < sT S) (hne : o ≠ t) : lt9 S o t ∨ lt9 S t o := by
  have this : ¬ (S 1 o = S 1 t) := fun e => hne (ok_ln ho h1 h2 e)
  unfold lt9
  omega
theorem lt9_tr {a c d : Nat} (h1 : lt9 S a c) (h2 : lt9 S c d) : lt9 S a d := by
  unfold lt9 at h1 h2 ⊢
  omega
theorem lt9_ir {a : Nat} (h : lt9 S a a) : False := by
  unfold lt9 at h
  omega
theorem cN_ins {p q : Nat → Bool} {m : Nat} : ∀ n, m < n → q m = false → (∀ i, i < n → p i = (q i || decide (i = m))) → cN p n = cN q n + 1
  | 0, h, _, _ => by omega
  | n + 1, h, hq, hp => by
    have hn := hp n (by omega)
    rw [cN, cN]
    by_cases e : n = m
    · have c := cN_congr (p := p) (q := q) n (fun i hi => by rw [hp i (by omega), decide_eq_false (by omega), Bool.or_false])
      rw [c, hn, e, hq, decide_eq_true rfl]
      simp
    · rw [cN_ins n (by omega) hq (fun i hi => hp i (by omega)), hn, decide_eq_false e, Bool.or_false]
      omega
theorem cN_lt9 {p q : Nat → Bool} {m : Nat} : ∀ n, m < n → p m = false → q m = true → (∀ i, i < n → p i = true → q i = true) → cN p n < cN q n
  | 0, h, _, _, _ => by omega
  | n + 1, h, h1, h2, h3 => by
    rw [cN, cN]
    by_cases e : m = n
    · rw [← e, h1, h2, if_neg (by decide), if_pos rfl]
      have := cN_mono (p := p) (q := q) m (fun i hi => h3 i (by omega))
      omega
    · have := cN_lt9 n (by omega) h1 h2 (fun i hi => h3 i (by omega))
      have h3n := h3 n (by omega)
      by_cases g : p n = true
      · rw [if_pos g, if_pos (h3n g)]; omega
      · rw [if_neg g]; split <;> omega
theorem rk_lt {a t : Nat} (ha : sIn S W a = true) (h : lt9 S a t) : rk9 S W a < rk9 S W t := by
  unfold rk9
  refine cN_lt9 (m := a) (sT S) (in_T ha).1 ?_ (kP_lt.2 ⟨ha, h⟩) (fun i hi g => ?_)
  · cases q : kP (sIn S W) (sTm S) (S 1) a a with
    | false => rfl
    | true => exact absurd (kP_lt.1 q).2 (fun g => lt9_ir g)
  · have g' := kP_lt.1 g
    exact kP_lt.2 ⟨g'.1, lt9_tr g'.2 h⟩
theorem rk_inj (ho : okS S) {a t : Nat} (ha : sIn S W a = true) (ht : sIn S W t = true) (e : rk9 S W a = rk9 S W t) : a = t := by
  by_cases q : a = t
  · exact q
  · rcases lt9_tot ho (in_T ha).1 (in_T ht).1 q with g | g
    · have := rk_lt ha g; omega
    · have := rk_lt ht g; omega
theorem max9 (ho : okS S) {p : Nat → Bool} : ∀ n, n ≤ sT S → (∀ o, o < n → p o = false) ∨ ∃ m, m < n ∧ p m = true ∧ ∀ o, o < n → p o = true → o = m ∨ lt9 S o m
  | 0, _ => Or.inl (fun o h => by omega)
  | n + 1, hn => by
    rcases max9 ho (p := p) n (by omega) with h | ⟨m, h1, h2, h3⟩
    · by_cases q : p n = true
      · refine Or.inr ⟨n, by omega, q, fun o h4 h5 => ?_⟩
        by_cases e : o = n
        · exact Or.inl e
        · rw [h o (by omega)] at h5; exact absurd h5 (by decide)
      · refine Or.inl (fun o h4 => ?_)
        by_cases e : o = n
        · rw [e]; simpa using q
        · exact h o (by omega)
    · by_cases q : p n = true
      · rcases lt9_tot ho (o := m) (t := n) (by omega) (by omega) (by omega) with g | g
        · refine Or.inr ⟨n, by omega, q, fun o h4 h5 => ?_⟩
          by_cases e : o = n
          · exact Or.inl e
          · rcases h3 o (by omega) h5 with e2 | e2
            · right; rw [e2]; exact g
            · exact Or.inr (lt9_tr e2 g)
        · refine Or.inr ⟨m, by omega, h2, fun o h4 h5 => ?_⟩
          by_cases e : o = n
          · right; rw [e]; exact g
          · exact h3 o (by omega) h5
      · refine Or.inr ⟨m, by omega, h2, fun o h4 h5 => ?_⟩
        by_cases e : o = n
        · rw [e] at h5; exact absurd h5 q
        · exact h3 o (by omega) h5
/-- the one just ahead-/
theorem rk_pred (ho : okS S) {t : Nat} (ht : sIn S W t = true) (hr : 0 < rk9 S W t) : ∃ m, sIn S W m = true ∧ rk9 S W m = rk9 S W t - 1 := by
  rcases max9 ho (p := kP (sIn S W) (sTm S) (S 1) t) (sT S) (Nat.le_refl _) with h | ⟨m, h1, h2, h3⟩
  · have z : rk9 S W t = 0 := by
      unfold rk9
      have : ∀ n, (∀ o, o < n → kP (sIn S W) (sTm S) (S 1) t o = false) → cN (kP (sIn S W) (sTm S) (S 1) t) n = 0 := fun n => by
        induction n with
        | zero => intro _; rfl
        | succ n ih =>
          intro g
          rw [cN, ih (fun o ho => g o (by omega)), g n (by omega)]
          rfl
      exact this _ h
    omega
  · have hm := kP_lt.1 h2
    refine ⟨m, hm.1, ?_⟩
    have e : rk9 S W t = rk9 S W m + 1 := by
      unfold rk9
      refine cN_ins (m := m) (sT S) h1 ?_ (fun i hi => ?_)
      · cases q : kP (sIn S W) (sTm S) (S 1) m m with
        | false => rfl
        | true => exact absurd (kP_lt.1 q).2 (fun g => lt9_ir g)
      · by_cases g : kP (sIn S W) (sTm S) (S 1) t i = true
        · rcases h3 i hi g with e | e
          · rw [g, e, decide_eq_true rfl, Bool.or_true]
          · rw [g, kP_lt.2 ⟨(kP_lt.1 g).1, e⟩, Bool.true_or]
        · have f1 : ¬ kP (sIn S W) (sTm S) (S 1) m i = true := fun x => g (kP_lt.2 ⟨(kP_lt.1 x).1, lt9_tr (kP_lt.1 x).2 hm.2⟩)
          have f2 : ¬ i = m := fun x => g (by rw [x]; exact h2)
          rw [decide_eq_false f2, Bool.or_false]
          simp at g f1
          rw [g, f1]
    omega
theorem rk_all (ho : okS S) : ∀ d t, sIn S W t = true → ∀ k : Int, 0 ≤ k → k + (d : Nat) = rk9 S W t → ∃ m, sIn S W m = true ∧ rk9 S W m = k
  | 0, t, ht, k, h0, he => ⟨t, ht, by omega⟩
  | d + 1, t, ht, k, h0, he => by
    obtain ⟨m, h1, h2⟩ := rk_pred ho ht (by omega)
    exact rk_all ho d m h1 k h0 (by omega)
theorem rk_bd9 {t : Nat} : 0 ≤ rk9 S W t ∧ rk9 S W t ≤ sT S := cN_bd _ _
/-- the one at a place-/
theorem re_yes (ho : okS S) {t : Nat} (ht : sIn S W t = true) : sRe S W (rk9 S W t) = ((t : Nat) : Int) := by
  unfold sRe kTh
  have tl := (in_T ht).1
  have hp : (sIn S W t && decide (cN (kP (sIn S W) (sTm S) (S 1) t) (sT S) = rk9 S W t)) = true := by
    rw [ht, Bool.true_and]; exact decide_eq_true rfl
  refine fI_eq hp (sT S) 0 (by omega) (by omega) (fun i h1 h2 => ?_)
  cases q : (sIn S W i && decide (cN (kP (sIn S W) (sTm S) (S 1) i) (sT S) = rk9 S W t)) with
  | false => rfl
  | true =>
    rw [Bool.and_eq_true] at q
    have := rk_inj ho q.1 ht (of_decide_eq_true q.2)
    omega
theorem re_no {k : Int} (h : sRe S W k < 0) {t : Nat} (ht : sIn S W t = true) : rk9 S W t ≠ k := fun e => by
  unfold sRe kTh at h
  have tl := (in_T ht).1
  have hp : (sIn S W t && decide (cN (kP (sIn S W) (sTm S) (S 1) t) (sT S) = k)) = true := by
    rw [ht, Bool.true_and]; exact decide_eq_true e
  have := fI_yes (p := fun t => sIn S W t && decide (cN (kP (sIn S W) (sTm S) (S 1) t) (sT S) = k)) (sT S) 0 t (by omega) (by omega) hp
  have b := fI_bd (fun t => sIn S W t && decide (cN (kP (sIn S W) (sTm S) (S 1) t) (sT S) = k)) (sT S) 0
  omega
theorem re_in {k : Int} (h : ¬ sRe S W k < 0) : ∃ t, sRe S W k = ((t : Nat) : Int) ∧ sIn S W t = true ∧ rk9 S W t = k := by
  unfold sRe kTh at h ⊢
  obtain ⟨x, h1, h2, h3, h4⟩ := fI_ne (p := fun t => sIn S W t && decide (cN (kP (sIn S W) (sTm S) (S 1) t) (sT S) = k)) (sT S) 0 (by omega)
  rw [Bool.and_eq_true] at h4
  exact ⟨x, h1, h4.1, of_decide_eq_true h4.2⟩
/-! none of its acts struck: none must be waived-/
theorem unF_iff {t : Nat} : ∀ f i, unF S W t f i = true ↔ ∀ a, i ≤ a → a < i + f → ¬ (sTmA S a = t ∧ stk S W a = true)
  | 0, i => by
    rw [unF]
    exact ⟨fun _ a h1 h2 => by omega, fun _ => rfl⟩
  | f + 1, i => by
    rw [unF]
    by_cases q : sTmA S i = t ∧ stk S W i = true
    · rw [if_pos q]
      exact ⟨fun h => absurd h (by decide), fun h => absurd q (h i (Nat.le_refl _) (by omega))⟩
    · rw [if_neg q, unF_iff f (i + 1)]
      constructor
      · intro h a h1 h2
        by_cases e : a = i
        · rw [e]; exact q
        · exact h a (by omega) (by omega)
      · intro h a h1 h2
        exact h a (by omega) (by omega)
theorem any_no {p : Nat → Bool} : ∀ n, anyN p n = false → ∀ j, j < n → p j = false := any_none
theorem hi_un {t : Nat} (h : sHi S W (sAll S) t = false) : unF S W t (sAll S) 0 = true := by
  rw [unF_iff]
  intro a h1 h2 ⟨g1, g2⟩
  have := any_no _ h a (by omega)
  rw [g2, decide_eq_true g1] at this
  exact absurd this (by decide)
theorem st_0 {t : Nat} (h : sHi S W (sAll S) t = false) : stN S W t (sAll S) = 0 := by
  unfold stN
  have : ∀ n, n ≤ sAll S → cN (fun a => stk S W a && decide (sTmA S a = t)) n = 0 := fun n => by
    induction n with
    | zero => intro _; rfl
    | succ n ih =>
      intro g
      have := any_no _ h n (by omega)
      rw [cN, ih (by omega), this]
      rfl
  exact this _ (Nat.le_refl _)
theorem wM_0 : wM S 0 = sW S := by
  funext a
  unfold wM sW
  have : bt (i3 ((0 : Nat) : Int)) a = false := bt_0 a
  rw [this]
  exact decide_eq_decide.mpr ⟨fun h => ⟨h.1, h.2.resolve_right (by decide)⟩, fun h => ⟨h.1, Or.inl h.2⟩⟩
theorem bSt_0 {t : Nat} (h : sHi S (sW S) (sAll S) t = false) : ∀ m, bC S t (m + 1) = 0 ∧ bSt S t (m + 1) = 0
  | 0 => by
    have c0 : cmW S 0 = false := any_of _ (fun j _ => by rw [Nat.zero_testBit, Bool.false_and])
    have u0 : unF S (wM S 0) t (sAll S) 0 = true := by rw [wM_0]; exact hi_un h
    have cb0 : cb 12 0 = 0 := by decide
    rw [bC, bSt, bC, if_pos ⟨c0, by rw [cb0]; decide, u0⟩, if_pos ⟨c0, by rw [cb0]; decide, u0⟩, cb0]
    exact ⟨rfl, rfl⟩
  | m + 1 => by
    obtain ⟨h1, h2⟩ := bSt_0 h m
    rw [bC, bSt, h1, h2, if_neg (fun g => by have := g.2.1; omega), if_neg (fun g => by have := g.2.1; omega)]
    exact ⟨rfl, rfl⟩
/-! values-/
theorem x_result (hi : cI9 Z b S N U E) {k : Int} (hk : -2 ≤ k ∧ k ≤ 100) : f181_result (i3 k) Z = some (i3 (sRe S (sW S) k)) := by
  obtain ⟨hb, h, hd, htr, hv, ho, hoc, hl⟩ := hi
  unfold f181_result
  rw [hb, e140 ho h hv (Or.inl rfl) (by omega), mjBp_some]
theorem x_struck2 (hi : cI9 Z b S N U E) {t : Nat} (ht : t < sT S) : f179_struck (i3 (t : Nat)) 2 Z = some (i3 (stN S (sW S) t (sAll S))) := by
  obtain ⟨hb, h, hd, htr, hv, ho, hoc, hl⟩ := hi
  have o1 := ok_sc ho
  have oa := all_le ho
  have e1 : f144_firstStruckAct 199 b (i3 (t : Nat)) Z = some (i3 (m2 (bsN S (sW S) t (sAll S)))) := e144h ho h hd hv (Or.inl rfl) (show t < 6 by omega) (sAll S) 0 mjF (by omega) (by unfold mjF; omega)
  have e2 : f145_struckActs 199 b (i3 (t : Nat)) Z = some (i3 (stN S (sW S) t (sAll S))) := e145h ho h hd hv (Or.inl rfl) (show t < 6 by omega) (sAll S) 0 mjF (by omega) (by unfold mjF; omega)
  unfold f179_struck
  rw [hb, if_pos (is_b (b_b h)), e7t h ho ht, mjBp_some, if_pos (by decide), e1, mjBp_some, if_neg (by decide), if_neg (by decide), if_neg (by decide), if_pos (by decide), e2, mjBp_some]
theorem x_stays (hi : cI9 Z b S N U E) {t k : Nat} (ht : t < sT S) (hk : k < 2) : ∃ Z2, eqQ Z Z2 ∧ f189_stays (i3 (t : Nat)) (i3 (k : Nat)) Z = some (i3 (if bSt S t (2 ^ sA S) = -2 then -2 else if k = 0 then bC S t (2 ^ sA S) else bSt S t (2 ^ sA S)), Z2) := by
  obtain ⟨hb, h, hd, htr, hv, ho, hoc, hl⟩ := hi
  have o1 := ok_sc ho
  have hp := pw_le (k := sA S) (by omega)
  obtain ⟨Z1, r1, r2⟩ := e96 ho hoc (show t < 6 by omega) h hd htr
  have bb := bC_bd (S := S) t (2 ^ sA S)
  refine ⟨Z1, r2, ?_⟩
  unfold f189_stays
  rw [hb, if_pos (is_b (b_b h)), e7t h ho ht, mjBp_some, if_neg (by decide), show (0 : Int32) = i3 0 from rfl, show (1 : Int32) = i3 1 from rfl, if_neg (by rw [c_lt (by omega)]; omega), if_pos (by rw [c_le (by omega)]; omega), r1, mjBd_some, show (-2 : Int32) = i3 (-2) from rfl]
  generalize hN : 2 ^ sA S = N9 at *
  by_cases q2 : bSt S t N9 = -2
  · rw [if_pos (by rw [q2]; decide), if_pos q2, q2]
  · obtain ⟨c, hc⟩ : ∃ c : Nat, bSt S t N9 = c := ⟨(bSt S t N9).toNat, by omega⟩
    rw [if_neg (by rw [c_eq (by omega)]; omega), if_neg q2]
    by_cases q3 : k = 0
    · have g : bC S t N9 = cb 12 c := by
        have := bb.2.2
        rw [hc, Int.toNat_natCast] at this
        omega
      rw [if_pos (by rw [c_ne (by omega)]; omega), if_pos q3, e323, mjBp_some, hc, bc_12 c (by omega), g]
    · rw [if_neg (by rw [c_ne (by omega)]; omega), if_neg q3]
end OD9
