/-! QUERIES: result, margin, winner, struck -/
theorem max_ex {p : Nat → Bool} {g : Nat → Int} : ∀ n, (∃ x, x < n ∧ p x = true) → ∃ x, x < n ∧ p x = true ∧ ∀ y, y < n → p y = true → g y ≤ g x
  | 0, ⟨x, hx, _⟩ => by omega
  | n + 1, ⟨x, hx, hp⟩ => by
    by_cases q : ∃ x, x < n ∧ p x = true
    · obtain ⟨m, h1, h2, h3⟩ := max_ex (g := g) n q
      by_cases q2 : p n = true ∧ g m < g n
      · refine ⟨n, by omega, q2.1, fun y hy hpy => ?_⟩
        by_cases q3 : y = n
        · subst q3; omega
        · have := h3 y (by omega) hpy; omega
      · refine ⟨m, by omega, h2, fun y hy hpy => ?_⟩
        by_cases q3 : y = n
        · subst q3
          by_cases q4 : g m < g y
          · exact absurd ⟨hpy, q4⟩ q2
          · omega
        · exact h3 y (by omega) hpy
    · refine ⟨x, hx, hp, fun y hy hpy => ?_⟩
      have e : ∀ z, z < n + 1 → p z = true → z = n := fun z hz hpz => by
        by_cases q3 : z = n
        · exact q3
        · exact absurd ⟨z, by omega, hpz⟩ q
      rw [e x hx hp, e y hy hpy]
      exact Int.le_refl _
theorem cN_ex {p : Nat → Bool} : ∀ n, 1 ≤ cN p n → ∃ x, x < n ∧ p x = true
  | 0, h => by simp [cN] at h
  | n + 1, h => by
    by_cases q : p n = true
    · exact ⟨n, by omega, q⟩
    · rw [cN, if_neg q, Int.add_zero] at h
      obtain ⟨x, h1, h2⟩ := cN_ex n h
      exact ⟨x, by omega, h2⟩
theorem cN_mono {p q : Nat → Bool} : ∀ n, (∀ i, i < n → p i = true → q i = true) → cN p n ≤ cN q n
  | 0, _ => by simp [cN]
  | n + 1, h => by
    have h1 := cN_mono n (fun i hi => h i (by omega))
    rw [cN, cN]
    by_cases q1 : p n = true
    · rw [if_pos q1, if_pos (h n (by omega) q1)]; omega
    · rw [if_neg q1]; split <;> omega
theorem cN_plus {p q : Nat → Bool} {x : Nat} (hq : q x = false) (hp : p x = true) : ∀ n, (∀ i, i < n → i ≠ x → p i = q i) → cN p n = cN q n + (if x < n then 1 else 0)
  | 0, _ => by simp [cN]
  | n + 1, h => by
    have h1 := cN_plus hq hp n (fun i hi => h i (by omega))
    rw [cN, cN, h1]
    by_cases q1 : x = n
    · subst q1
      rw [if_neg (by omega), if_pos hp, hq, if_neg (by decide), if_pos (by omega)]
    · rw [h n (by omega) (fun g => q1 g.symm)]
      have e : (if x < n then (1 : Int) else 0) = (if x < n + 1 then 1 else 0) := by
        by_cases q2 : x < n
        · rw [if_pos q2, if_pos (by omega)]
        · rw [if_neg q2, if_neg (by omega)]
      rw [e]
      exact Int.add_right_comm _ _ _
theorem fI_ne {p : Nat → Bool} : ∀ f t, fI p f t ≠ -1 → ∃ x : Nat, fI p f t = x ∧ t ≤ x ∧ x < t + f ∧ p x = true
  | 0, t, h => by simp [fI] at h
  | f + 1, t, h => by
    rw [fI] at h ⊢
    by_cases q : p t = true
    · rw [if_pos q]; exact ⟨t, rfl, by omega, by omega, q⟩
    · rw [if_neg q] at h ⊢
      obtain ⟨x, h1, h2, h3, h4⟩ := fI_ne f (t + 1) h
      exact ⟨x, h1, by omega, by omega, h4⟩
/-- who comes k-th has one who comes before -/
theorem kTh_pred {am : Nat → Bool} {ky ln : Nat → Int} {T : Nat} {k : Int} (hl : ∀ a b, a < T → b < T → ln a = ln b → a = b) (hk : 1 ≤ k) (h : kTh am ky ln T k ≠ -1) : kTh am ky ln T (k - 1) ≠ -1 := by
  obtain ⟨t, _, _, ht, h4⟩ := fI_ne T 0 h
  simp only [Nat.zero_add] at ht
  simp only [Bool.and_eq_true, decide_eq_true_eq] at h4
  obtain ⟨ha, hc⟩ := h4
  obtain ⟨x, hx, hxp, hmax⟩ := max_ex (p := kP am ky ln t) (g := fun x => cN (kP am ky ln x) T) T (cN_ex T (by omega))
  have hxa : am x = true := by unfold kP at hxp; simp at hxp; exact hxp.1
  have lt_ : ∀ a b : Nat, (kP am ky ln a b = true) = (am b = true ∧ (ky b < ky a ∨ (ky b = ky a ∧ ln b < ln a))) := fun a b => by unfold kP; simp
  have e : cN (kP am ky ln t) T = cN (kP am ky ln x) T + (if x < T then 1 else 0) := by
    refine cN_plus ?_ hxp T (fun i hi hne => ?_)
    · have : ¬ kP am ky ln x x = true := by rw [lt_]; omega
      simpa using this
    · have hx2 := hxp
      rw [lt_] at hx2
      by_cases q : kP am ky ln x i = true
      · rw [q]
        rw [lt_] at q ⊢
        refine ⟨q.1, ?_⟩
        have := q.2
        have := hx2.2
        omega
      · have q2 : kP am ky ln x i = false := by simpa using q
        rw [q2]
        by_cases q3 : kP am ky ln t i = true
        · exfalso
          have m := hmax i hi q3
          have q4 := q3
          rw [lt_] at q q3
          have hnl : ln i ≠ ln x := fun g => hne (hl i x hi hx g)
          have hxi : kP am ky ln i x = true := by
            rw [lt_]
            refine ⟨hxa, ?_⟩
            have : ¬ (ky i < ky x ∨ (ky i = ky x ∧ ln i < ln x)) := fun g => q ⟨q3.1, g⟩
            omega
          have c1 : cN (kP am ky ln x) T + 1 ≤ cN (kP am ky ln i) T := by
            have := cN_plus (p := fun j => kP am ky ln x j || decide (j = x)) (q := kP am ky ln x) (x := x) (by
              have : ¬ kP am ky ln x x = true := by rw [lt_]; omega
              simpa using this) (by simp) T (fun j hj hj2 => by simp [hj2])
            rw [if_pos hx] at this
            rw [← this]
            refine cN_mono T (fun j hj g => ?_)
            simp only [Bool.or_eq_true, decide_eq_true_eq] at g
            rcases g with g | rfl
            · rw [lt_] at g hxi ⊢
              refine ⟨g.1, ?_⟩
              have := g.2
              have := hxi.2
              omega
            · exact hxi
          omega
        · simpa using q3
  rw [if_pos hx] at e
  intro g
  have g2 := fI_neg T 0 x g (by omega) (by omega)
  rw [hxa, Bool.true_and, decide_eq_false_iff_not] at g2
  omega
section Q89
variable {b o : Nat} {S : mjS} {W : Nat → Bool} {Z Zm : mjZt}
def sRe (S : mjS) (W : Nat → Bool) (k : Int) : Int := kTh (sIn S W) (sTm S) (S 1) (sT S) k
theorem re_bd (S : mjS) (W : Nat → Bool) (k : Int) : -1 ≤ sRe S W k ∧ sRe S W k < sT S := by
  have := fI_bd (fun t => sIn S W t && decide (cN (kP (sIn S W) (sTm S) (S 1) t) (sT S) = k)) (sT S) 0
  unfold sRe kTh
  omega
theorem e140 (hk : okS S) (h : cBk Z b S) (hv : vRep Z o S W) (ho : o = 199 ∨ o = 204) {k : Int} (hkr : -2147483648 ≤ k ∧ k ≤ 2147483647) : f140_kthOfResult o b (i3 k) Z = some (i3 (sRe S W k)) := by
  obtain ⟨p0, p1, p2, p3, p4, l1, l2, l3, l4⟩ := is_o ho
  have o1 := ok_sc hk
  unfold f140_kthOfResult sRe
  rw [if_pos p0, if_pos (is_b (b_b h)), e44 h hk p3 l3 (am := sIn S W) (ky := sTm S) (fun c hc => by have := tm_bd hk hc; omega) (fun c hc => (hv.2.2.1 (by omega) c (by omega)).1) hkr, mjBp_some]
theorem m308h (hk : okS S) {k : Int} (hkr : -2147483648 ≤ k ∧ k ≤ 2147483647) : ∀ f i n (Z : mjZt), i + f = sT S → f < n → mRep Z S → mVd Z S W (sAll S) → (∀ t, t < i → Z.1 242 t = i3 (if sIn S W t = true then 1 else 0) ∧ Z.1 241 t = i3 (sTm S t)) → ∃ Z1, f308_resultAt_h6 n (i3 k) (i3 i) Z = some (i3 (sRe S W k), Z1) ∧ eqQ Z Z1
  | f, i, 0, _, _, hn, _, _, _ => by omega
  | 0, i, n + 1, Z, hf, _, hm, hV, hp => by
    obtain rfl : i = sT S := by omega
    have o1 := ok_sc hk
    refine ⟨Z, ?_, eqQ_rf⟩
    rw [f308_resultAt_h6, m_T hm, if_pos (by rw [c_ge (by omega)]; omega), m259 hm hk (am := sIn S W) (ky := sTm S) (fun c hc _ => by have := tm_bd hk hc; omega) (fun c hc => ⟨(hp c hc).1, fun _ => (hp c hc).2⟩) hkr, mjBp_some]
    rfl
  | f + 1, i, n + 1, Z, hf, hn, hm, hV, hp => by
    have o1 := ok_sc hk
    have hi : i < sT S := by omega
    have e1 : ∀ x, eqQ Z (zSi Z 242 i x) := fun x => eqQ_si (by omega)
    have e2 : eqQ Z (zSi (zSi Z 242 i (i3 (if sIn S W i = true then 1 else 0))) 241 i (i3 (sTm S i))) := eqQ_tr (e1 _) (eqQ_si (by omega))
    obtain ⟨Z1, r1, r2⟩ := m308h hk hkr f (i + 1) n _ (by omega) (by omega) (mRep_q hm e2) (mVd_of hV (fun a h1 h2 => by rw [si_obj _ _ _ _ (by omega), si_obj _ _ _ _ (by omega)])) (fun t ht => by
      by_cases q : t = i
      · subst q
        rw [si_obj _ _ _ _ (by omega), si_same, si_same]
        exact ⟨rfl, rfl⟩
      · rw [si_obj _ _ _ _ (by omega), si_fld _ _ _ _ (by omega), si_fld _ _ _ _ (by omega), si_obj _ _ _ _ (by omega)]
        exact hp t (by omega))
    refine ⟨Z1, ?_, eqQ_tr e2 r2⟩
    rw [f308_resultAt_h6, m_T hm, if_neg (by rw [c_ge (by omega)]; omega), m304 hk hm hV hi, mjBp_some, if_pos (in_p (by omega)), if_pos (by split <;> first | exact Or.inr rfl | exact Or.inl rfl), ix_nat (by omega), let_eq, m246 (mRep_q hm (e1 _)) hk hi, mjBp_some, let_eq, i3_s]
    exact r1
theorem m308 (hk : okS S) (hoc : okC S) (hm : mRep Z S) (hW : mWv Z S W) {k : Int} (hkr : -2147483648 ≤ k ∧ k ≤ 2147483647) : ∃ Z1, f308_resultAt (i3 k) Z = some (i3 (sRe S W k), Z1) ∧ eqQ Z Z1 := by
  have o1 := ok_sc hk
  obtain ⟨Z1, r1, r2, r3⟩ := m302 hk hoc hm hW
  obtain ⟨Z2, s1, s2⟩ := m308h (W := W) hk hkr (sT S) 0 mjF Z1 (by omega) (by unfold mjF; omega) (mRep_q hm r2) r3 (fun t ht => by omega)
  refine ⟨Z2, ?_, eqQ_tr r2 s2⟩
  unfold f308_resultAt
  rw [r1, mjBd_some]
  exact s1
theorem q_result (hb : Z.2.2.1 = b) (h : cBk Z b S) (ho : okS S) (hoc : okC S) (hm : mRep Zm S) (hW : mWv Zm S (sW S)) (hv : vRep Z 199 S (sW S)) (x : Int32) : ∃ v, f181_result x Z = some v ∧ ∃ Z2, f311_result x Zm = some (v, Z2) ∧ eqQ Zm Z2 := by
  obtain ⟨k, rfl, hk1, hk2⟩ := i3_ex x
  obtain ⟨Z1, r1, r2⟩ := m308 ho hoc hm hW (k := k) (by omega)
  refine ⟨i3 (sRe S (sW S) k), ?_, Z1, ?_, r2⟩
  · unfold f181_result
    rw [hb, e140 ho h hv (by omega) (by omega), mjBp_some]
  · unfold f311_result
    rw [r1, mjBd_some]
theorem q_margin (hb : Z.2.2.1 = b) (h : cBk Z b S) (hd : cDr Z b S) (ho : okS S) (hoc : okC S) (hm : mRep Zm S) (hW : mWv Zm S (sW S)) (hv : vRep Z 199 S (sW S)) (x : Int32) : ∃ v, f185_margin x Z = some v ∧ ∃ Z2, f309_margin x Zm = some (v, Z2) ∧ eqQ Zm Z2 := by
  have o1 := ok_sc ho
  have hb2 := b_b h
  obtain ⟨k, rfl, hk1, hk2⟩ := i3_ex x
  unfold f185_margin f309_margin
  rw [hb, show (-1 : Int32) = i3 (-1) from rfl, show (1 : Int32) = i3 1 from rfl]
  by_cases q : 1 ≤ k
  · obtain ⟨Z1, r1, r2⟩ := m308 ho hoc hm hW (k := k) (by omega)
    have b1 := re_bd S (sW S) k
    have b2 := re_bd S (sW S) (k - 1)
    by_cases q2 : sRe S (sW S) k = -1
    · refine ⟨i3 (-1), ?_, Z1, ?_, r2⟩
      · rw [if_pos (by rw [c_ge (by omega)]; omega), e140 ho h hv (by omega) (by omega), mjBp_some, i3_sub, e140 ho h hv (by omega) (by omega), mjBp_some, if_pos (by rw [q2]; decide)]
      · rw [if_pos (by rw [c_ge (by omega)]; omega), r1, mjBd_some, if_neg (by rw [q2]; decide)]
    · have q3 : sRe S (sW S) (k - 1) ≠ -1 := kTh_pred (fun a c ha hc e => ok_ln ho ha hc e) q q2
      obtain ⟨Z2, s1, s2⟩ := m308 ho hoc (mRep_q hm r2) (mWv_q hW r2) (k := k - 1) (by omega)
      obtain ⟨t, ht⟩ : ∃ t : Nat, sRe S (sW S) k = t := ⟨(sRe S (sW S) k).toNat, by omega⟩
      obtain ⟨u, hu⟩ : ∃ u : Nat, sRe S (sW S) (k - 1) = u := ⟨(sRe S (sW S) (k - 1)).toNat, by omega⟩
      refine ⟨i3 (sTm S t - sTm S u), ?_, Z2, ?_, eqQ_tr r2 s2⟩
      · rw [if_pos (by rw [c_ge (by omega)]; omega), e140 ho h hv (by omega) (by omega), mjBp_some, i3_sub, e140 ho h hv (by omega) (by omega), mjBp_some, if_neg (by rw [c_eq (by omega)]; omega), if_pos (by rw [c_ne (by omega)]; omega), if_pos (is_b hb2), ht, hu, e8 h ho (by omega), mjBp_some, if_pos (is_tm hb2 t (by omega)), e99 h hd ho (by omega), mjBp_some, e8 h ho (by omega), mjBp_some, if_pos (is_tm hb2 u (by omega)), e99 h hd ho (by omega), mjBp_some, i3_sub]
      · rw [if_pos (by rw [c_ge (by omega)]; omega), r1, mjBd_some, if_pos (by rw [c_ne (by omega)]; omega), ht, m246 (mRep_q hm r2) ho (by omega), mjBp_some, i3_sub, s1, mjBd_some, hu, m246 (mRep_q hm (eqQ_tr r2 s2)) ho (by omega), mjBp_some, i3_sub]
  · refine ⟨i3 (-1), ?_, Zm, ?_, eqQ_rf⟩
    · rw [if_neg (by rw [c_ge (by omega)]; omega)]
    · rw [if_neg (by rw [c_ge (by omega)]; omega)]
theorem q_winner (hb : Z.2.2.1 = b) (h : cBk Z b S) (hd : cDr Z b S) (htr : cTr Z b S) (ho : okS S) (hoc : okC S) (hm : mRep Zm S) (h59 : Zm.1 211 59 = i3 (-1)) (h60 : Zm.1 211 60 = i3 0) (x : Int32) : ∃ v Z1, f188_winner x Z = some (v, Z1) ∧ eqQ Z Z1 ∧ ∃ Z2, f317_winner x Zm = some (v, Z2) ∧ eqQ Zm Z2 := by
  have hb2 := b_b h
  have o1 := ok_sc ho
  have oa := all_le ho
  unfold f188_winner f317_winner
  rw [hb]
  rcases ac_cases S x with ⟨a, rfl, ha⟩ | ⟨a, rfl, ha⟩
  · have hw : ∀ j, j < sAll S → b6 (Z.2.1 b 11 ^^^ (i6 1 <<< ((i3 a).toInt64 &&& 63))) j = (sW S j != decide (j = a)) := fun j hj => by
      rw [b6_xor, wv_bit h (by omega), b6_single (by omega) (by omega)]
    obtain ⟨Z1, r1, r2, r3⟩ := e136 (o := 204) (by omega) ho hoc hw h hd htr
    have eQ : eqQ Z Z1 := ⟨r2.1, fun c h1 h2 => r2.2 c (fun g => h1 (by unfold scr; omega)) (fun g => h1 (by unfold scr; omega)) (by unfold scr at h1; omega), fun f _ => by rw [(r2.2 211 (by omega) (by omega) (by omega)).1], (r2.2 211 (by omega) (by omega) (by omega)).2⟩
    have hm1 : mRep (zSi Zm 211 59 (i3 a)) S := mRep_of hm ⟨fun c hc => ⟨si_obj _ _ _ _ (by omega), rfl⟩, fun f h1 h2 => si_fld _ _ _ _ (by omega)⟩
    have hW1 : mWv (zSi Zm 211 59 (i3 a)) S (fun j => sW S j != decide (j = a)) := fun j hj => by
      rw [m278 hm1 ho (x := (a : Int)) (s := i3 0) (by omega) (si_same _ _ _ _) (by rw [si_fld _ _ _ _ (by omega)]; exact h60) hj, bt_0, show decide ((j : Int) = (a : Int)) = decide (j = a) from decide_eq_decide.mpr (by omega)]
      unfold sW
      simp
    obtain ⟨Z2, s1, s2⟩ := m308 ho hoc hm1 hW1 (k := 0) (by omega)
    have eM : eqQ Zm (zSi Z2 211 59 (-1)) := by
      refine ⟨s2.1, fun c h1 h2 => ⟨?_, (s2.2.1 c h1 h2).2⟩, fun f hf => ?_, s2.2.2.2⟩
      · rw [si_obj _ _ _ _ h2, (s2.2.1 c h1 h2).1, si_obj _ _ _ _ h2]
      · by_cases q : f = 59
        · subst q; rw [si_same, h59]; rfl
        · rw [si_fld _ _ _ _ (by omega), s2.2.2.1 f hf, si_fld _ _ _ _ (by omega)]
    have hb1 : Z1.2.2.1 = b := by rw [r2.1, hb]
    have b1 := re_bd S (fun j => sW S j != decide (j = a)) 0
    have e0 := e140 ho (cBk_of ⟨o1.1, o1.2.1⟩ h (eqW_B (by omega) hb2 r2)) r3 (by omega) (k := 0) (by omega)
    rw [show i3 0 = (0 : Int32) from rfl] at e0 s1
    refine ⟨if sRe S (fun j => sW S j != decide (j = a)) 0 = -1 then i3 (-2) else i3 (sRe S (fun j => sW S j != decide (j = a)) 0), Z1, ?_, eQ, zSi Z2 211 59 (-1), ?_, eM⟩
    · rw [if_pos (is_b hb2), e17t h hd ho ha, mjBp_some, if_pos (by decide), show (1 : Int64) = i6 1 from rfl, r1, mjBd_some, hb1, e0, mjBp_some, show (-1 : Int32) = i3 (-1) from rfl]
      by_cases q : sRe S (fun j => sW S j != decide (j = a)) 0 = -1
      · rw [if_neg (by rw [q]; decide), if_pos q]; rfl
      · rw [if_pos (by rw [c_ne (by omega)]; omega), if_neg q]
    · rw [m270t hm ho ha, mjBp_some, if_pos (by decide), let_eq, s1, mjBd_some, let_eq]
      by_cases q : sRe S (fun j => sW S j != decide (j = a)) 0 = -1
      · rw [if_neg (by rw [q]; decide), if_pos q]; rfl
      · rw [if_pos (by rw [show (-1 : Int32) = i3 (-1) from rfl, c_ne (by omega)]; omega), if_neg q]
  · refine ⟨i3 (-1), Z, ?_, eqQ_rf, Zm, ?_, eqQ_rf⟩
    · rw [if_pos (is_b hb2), e17f h hd ho ha, mjBp_some, if_neg (by decide)]; rfl
    · rw [m270f hm ho ha, mjBp_some, if_neg (by decide)]; rfl
/-! struck -/
def bsN (S : mjS) (W : Nat → Bool) (t : Nat) : Nat → Int
  | 0 => -1
  | n + 1 => if stk S W n = true ∧ sTmA S n = t then (if bsN S W t n = -1 then (n : Int) else if sTe S n < sTe S (bsN S W t n).toNat then (n : Int) else bsN S W t n) else bsN S W t n
theorem bs_bd (S : mjS) (W : Nat → Bool) (t : Nat) : ∀ n, -1 ≤ bsN S W t n ∧ bsN S W t n < n ∧ (bsN S W t n ≠ -1 → stk S W (bsN S W t n).toNat = true)
  | 0 => by simp [bsN]
  | n + 1 => by
    obtain ⟨h1, h2, h3⟩ := bs_bd S W t n
    rw [bsN]
    by_cases q : stk S W n = true ∧ sTmA S n = t
    · rw [if_pos q]
      by_cases q2 : bsN S W t n = -1
      · rw [if_pos q2]; exact ⟨by omega, by omega, fun _ => q.1⟩
      · rw [if_neg q2]
        by_cases q3 : sTe S n < sTe S (bsN S W t n).toNat
        · rw [if_pos q3]; exact ⟨by omega, by omega, fun _ => q.1⟩
        · rw [if_neg q3]; exact ⟨h1, by omega, h3⟩
    · rw [if_neg q]; exact ⟨h1, by omega, h3⟩
def stN (S : mjS) (W : Nat → Bool) (t : Nat) (n : Nat) : Int := cN (fun a => stk S W a && decide (sTmA S a = t)) n
def m2 (x : Int) : Int := if x = -1 then -2 else x
theorem e144h (hk : okS S) (h : cBk Z b S) (hd : cDr Z b S) (hv : vRep Z o S W) (ho : o = 199 ∨ o = 204) {t : Nat} (ht : t < 6) : ∀ f i n, i + f = sAll S → f < n → f144_firstStruckAct_h6 n o b (i3 t) (i3 (m2 (bsN S W t i))) (i3 i) Z = some (i3 (m2 (bsN S W t (sAll S))))
  | f, i, 0, _, hn => by omega
  | 0, i, n + 1, hf, _ => by
    obtain rfl : i = sAll S := by omega
    have oa := all_le hk
    rw [f144_firstStruckAct_h6, if_pos (is_b (b_b h)), hd.1, if_pos (by rw [c_ge (by omega)]; omega)]
  | f + 1, i, n + 1, hf, hn => by
    have o1 := ok_sc hk
    have oa := all_le hk
    have hb := b_b h
    have hi : i < sAll S := by omega
    have ih := e144h hk h hd hv ho ht f (i + 1) n (by omega) (by omega)
    obtain ⟨a0, a1, a2, a3, a4⟩ := d_ac hd hi
    have t2 := tmA_lt hk hi
    obtain ⟨b1, b2, b3⟩ := bs_bd S W t i
    rw [bsN] at ih
    rw [f144_firstStruckAct_h6, if_pos (is_b hb), hd.1, if_neg (by rw [c_ge (by omega)]; omega), e6 hb (by omega), mjBp_some, if_pos (is_ac hb i (by omega)), a1]
    unfold f144_firstStruckAct_j45 f144_firstStruckAct_j46
    rw [i3_s]
    by_cases q1 : sTmA S i = t
    · rw [if_neg (by rw [c_ne (by omega)]; omega), if_pos (is_o ho).1, e142 hk hv ho hi, mjBp_some]
      by_cases q3 : stk S W i = true
      · rw [if_pos ⟨q3, q1⟩] at ih
        rw [if_neg (by rw [stk_bt hk hv hi, q3]; decide), if_neg (by decide), show (-2 : Int32) = i3 (-2) from rfl]
        by_cases q4 : bsN S W t i = -1
        · rw [if_pos q4] at ih
          rw [q4, if_pos (by decide)]
          unfold m2 at ih
          rw [if_neg (by omega)] at ih
          exact ih
        · rw [if_neg q4] at ih
          obtain ⟨c, hc⟩ : ∃ c : Nat, bsN S W t i = c := ⟨(bsN S W t i).toNat, by omega⟩
          have hc2 : c < sAll S := by omega
          obtain ⟨_, _, _, c3, _⟩ := d_ac hd hc2
          have g1 := te_bd hk hi
          have g2 := te_bd hk hc2
          have em : m2 (bsN S W t i) = c := by unfold m2; rw [if_neg q4, hc]
          rw [em, if_neg (by rw [c_eq (by omega)]; omega), if_pos (is_ac hb i (by omega)), if_pos (is_b hb), e6 hb (by omega), mjBp_some, if_pos (is_ac hb c (by omega)), a3, c3]
          rw [hc, Int.toNat_natCast] at ih
          by_cases q5 : sTe S i < sTe S c
          · rw [if_pos q5] at ih
            unfold m2 at ih
            rw [if_neg (by omega)] at ih
            rw [if_neg (by rw [c_ge (by omega)]; omega)]
            exact ih
          · rw [if_neg q5, ← hc, em] at ih
            rw [if_pos (by rw [c_ge (by omega)]; omega)]
            exact ih
      · rw [if_neg (fun g => q3 g.1)] at ih
        simp at q3
        rw [if_pos (by rw [stk_bt hk hv hi]; exact q3), if_pos (by decide)]
        exact ih
    · rw [if_neg (fun g => q1 g.2)] at ih
      rw [if_pos (by rw [c_ne (by omega)]; omega), if_pos (by decide)]
      exact ih
theorem e145h (hk : okS S) (h : cBk Z b S) (hd : cDr Z b S) (hv : vRep Z o S W) (ho : o = 199 ∨ o = 204) {t : Nat} (ht : t < 6) : ∀ f i n, i + f = sAll S → f < n → f145_struckActs_h5 n o b (i3 t) (i3 (stN S W t i)) (i3 i) Z = some (i3 (stN S W t (sAll S)))
  | f, i, 0, _, hn => by omega
  | 0, i, n + 1, hf, _ => by
    obtain rfl : i = sAll S := by omega
    have oa := all_le hk
    rw [f145_struckActs_h5, if_pos (is_b (b_b h)), hd.1, if_pos (by rw [c_ge (by omega)]; omega)]
  | f + 1, i, n + 1, hf, hn => by
    have o1 := ok_sc hk
    have oa := all_le hk
    have hb := b_b h
    have hi : i < sAll S := by omega
    have ih := e145h hk h hd hv ho ht f (i + 1) n (by omega) (by omega)
    obtain ⟨a0, a1, a2, a3, a4⟩ := d_ac hd hi
    have t2 := tmA_lt hk hi
    have ex : stN S W t (i + 1) = stN S W t i + (if (stk S W i && decide (sTmA S i = t)) = true then 1 else 0) := rfl
    rw [ex] at ih
    rw [f145_struckActs_h5, if_pos (is_b hb), hd.1, if_neg (by rw [c_ge (by omega)]; omega), e6 hb (by omega), mjBp_some, if_pos (is_ac hb i (by omega)), a1, i3_s, i3_s0]
    by_cases q1 : sTmA S i = t
    · rw [decide_eq_true q1, Bool.and_true] at ih
      rw [if_neg (by rw [c_ne (by omega)]; omega), if_pos (is_o ho).1, e142 hk hv ho hi, mjBp_some]
      by_cases q3 : stk S W i = true
      · rw [if_pos q3] at ih
        rw [if_neg (by rw [stk_bt hk hv hi, q3]; decide)]
        exact ih
      · rw [if_neg q3, Int.add_zero] at ih
        simp at q3
        rw [if_pos (by rw [stk_bt hk hv hi]; exact q3)]
        exact ih
    · rw [decide_eq_false q1, Bool.and_false, if_neg (by decide), Int.add_zero] at ih
      rw [if_pos (by rw [c_ne (by omega)]; omega)]
      exact ih
theorem fI_cut {p : Nat → Bool} {R : Nat} : ∀ f t, R ≤ t + f → t ≤ R → fI (fun j => decide (j < R) && p j) f t = fI p (R - t) t
  | 0, t, h1, h2 => by rw [show R - t = 0 by omega]; rfl
  | f + 1, t, h1, h2 => by
    by_cases q : t = R
    · subst q
      rw [show t - t = 0 by omega, fI_none]
      · rfl
      · intro i h3 h4; rw [decide_eq_false (by omega), Bool.false_and]
    · rw [show R - t = (R - (t + 1)) + 1 by omega, fI, fI, fI_cut f (t + 1) (by omega) (by omega), decide_eq_true (show t < R by omega), Bool.true_and]
theorem e143h (hk : okS S) (hv : vRep Z o S W) (ho : o = 199 ∨ o = 204) {a : Nat} (ha : a < sAll S) : ∀ (f i n : Nat), i + f = 8 → f < n → f143_firstRuleStriking_h2 n o (i3 a) (i3 i) Z = some (i3 (m2 (fI (bt (Z.1 (o + 1) a)) f i)))
  | f, i, 0, _, hn => by omega
  | 0, i, n + 1, hf, _ => by
    obtain rfl : i = 8 := by omega
    rw [f143_firstRuleStriking_h2, if_pos (by decide)]; rfl
  | f + 1, i, n + 1, hf, hn => by
    have ih := e143h hk hv ho ha f (i + 1) n (by omega) (by omega)
    rw [f143_firstRuleStriking_h2, show (8 : Int32) = i3 8 from rfl, if_neg (by rw [c_ge (by omega)]; omega), if_pos (is_o ho).1, e142 hk hv ho ha, mjBp_some, show (1 : Int32) = i3 1 from rfl, bt_test (by omega), show i3 (i : Int) + i3 1 = i3 ((i + 1 : Nat) : Int) from i3_s i, fI]
    cases q : bt (Z.1 (o + 1) a) i
    · rw [if_pos (by decide), if_neg (by decide)]
      exact ih
    · rw [if_neg (by decide), if_pos rfl]
      unfold m2
      rw [if_neg (by omega)]
theorem e143n (ho : o = 199 ∨ o = 204) : ∀ (f i n : Nat), i + f = 8 → f < n → f143_firstRuleStriking_h2 n o (i3 (-2)) (i3 i) Z = some (i3 (-2))
  | f, i, 0, _, hn => by omega
  | 0, i, n + 1, hf, _ => by
    obtain rfl : i = 8 := by omega
    rw [f143_firstRuleStriking_h2, if_pos (by decide)]; rfl
  | f + 1, i, n + 1, hf, hn => by
    have ih := e143n ho f (i + 1) n (by omega) (by omega)
    have e0 : f142_rulesStriking o (i3 (-2)) Z = some (i3 0) := by
      unfold f142_rulesStriking f5_at
      rw [if_pos (is_o ho).1, if_pos (by decide), mjBp_some]; rfl
    rw [f143_firstRuleStriking_h2, show (8 : Int32) = i3 8 from rfl, if_neg (by rw [c_ge (by omega)]; omega), if_pos (is_o ho).1, e0, mjBp_some, show (1 : Int32) = i3 1 from rfl, bt_test (by omega), bt_0, if_pos (by decide), show i3 (i : Int) + i3 1 = i3 ((i + 1 : Nat) : Int) from i3_s i]
    exact ih
theorem m303h (hk : okS S) (hoc : okC S) (hm : mRep Z S) (hW : mWv Z S W) (hV : mVd Z S W (sAll S)) {t : Nat} (ht : t < sT S) {k : Int} (hkr : 0 ≤ k ∧ k ≤ 2) : ∀ f i n, i + f = sAll S → f < n → ∃ Z1, f303_struck_h34 n (i3 t) (i3 k) (i3 (bsN S W t i)) (i3 (stN S W t i)) (i3 i) Z = some (i3 (if k = 2 then stN S W t (sAll S) else if bsN S W t (sAll S) = -1 then -2 else if k = 0 then bsN S W t (sAll S) else fRu S W (bsN S W t (sAll S)).toNat (sTe S (bsN S W t (sAll S)).toNat) (sSz S (bsN S W t (sAll S)).toNat)), Z1) ∧ eqQ Z Z1
  | f, i, 0, _, hn => by omega
  | 0, i, n + 1, hf, _ => by
    obtain rfl : i = sAll S := by omega
    have oa := all_le hk
    obtain ⟨b1, b2, b3⟩ := bs_bd S W t (sAll S)
    by_cases q : k = 2
    · refine ⟨Z, ?_, eqQ_rf⟩
      rw [f303_struck_h34, m251 hm hk, mjBp_some, if_pos (by rw [c_ge (by omega)]; omega), if_neg (by rw [show (2 : Int32) = i3 2 from rfl, c_ne (by omega)]; omega), if_pos q]
    · by_cases q2 : bsN S W t (sAll S) = -1
      · refine ⟨Z, ?_, eqQ_rf⟩
        rw [f303_struck_h34, m251 hm hk, mjBp_some, if_pos (by rw [c_ge (by omega)]; omega), if_pos (by rw [show (2 : Int32) = i3 2 from rfl, c_ne (by omega)]; omega), if_neg (by rw [q2]; decide), if_neg q, if_pos q2]; rfl
      · obtain ⟨c, hc⟩ : ∃ c : Nat, bsN S W t (sAll S) = c := ⟨(bsN S W t (sAll S)).toNat, by omega⟩
        by_cases q3 : k = 0
        · refine ⟨Z, ?_, eqQ_rf⟩
          rw [f303_struck_h34, m251 hm hk, mjBp_some, if_pos (by rw [c_ge (by omega)]; omega), if_pos (by rw [show (2 : Int32) = i3 2 from rfl, c_ne (by omega)]; omega), if_pos (by rw [show (-1 : Int32) = i3 (-1) from rfl, c_ne (by omega)]; omega), if_neg (by rw [show (0 : Int32) = i3 0 from rfl, c_ne (by omega)]; omega), if_neg q, if_neg q2, if_pos q3]
        · obtain ⟨Z1, r1, r2⟩ := m298 hk hoc (a := c) (by omega) hm hW
          refine ⟨Z1, ?_, r2⟩
          rw [f303_struck_h34, m251 hm hk, mjBp_some, if_pos (by rw [c_ge (by omega)]; omega), if_pos (by rw [show (2 : Int32) = i3 2 from rfl, c_ne (by omega)]; omega), if_pos (by rw [show (-1 : Int32) = i3 (-1) from rfl, c_ne (by omega)]; omega), if_pos (by rw [show (0 : Int32) = i3 0 from rfl, c_ne (by omega)]; omega), if_neg q, if_neg q2, if_neg q3, hc, r1, mjBd_some, Int.toNat_natCast]
  | f + 1, i, n + 1, hf, hn => by
    have o1 := ok_sc hk
    have oa := all_le hk
    have hi : i < sAll S := by omega
    have ih := m303h hk hoc hm hW hV ht hkr f (i + 1) n (by omega) (by omega)
    have t2 := tmA_lt hk hi
    obtain ⟨b1, b2, b3⟩ := bs_bd S W t i
    have ex : stN S W t (i + 1) = stN S W t i + (if (stk S W i && decide (sTmA S i = t)) = true then 1 else 0) := rfl
    rw [ex, bsN] at ih
    rw [f303_struck_h34, m251 hm hk, mjBp_some, if_neg (by rw [c_ge (by omega)]; omega), if_pos (in_p (by omega)), ix_nat (by omega), hV.1 i hi, i3_s, i3_s0]
    by_cases q3 : stk S W i = true
    · rw [q3, Bool.true_and] at ih
      rw [if_pos q3, if_neg (by decide), m274 hm hk hi, mjBp_some]
      by_cases q1 : sTmA S i = t
      · rw [decide_eq_true q1, if_pos rfl, if_pos ⟨rfl, q1⟩] at ih
        rw [if_pos (by rw [c_eq (by omega)]; omega), show (-1 : Int32) = i3 (-1) from rfl]
        by_cases q4 : bsN S W t i = -1
        · rw [if_pos q4] at ih
          rw [if_pos (by rw [q4]; decide)]
          exact ih
        · rw [if_neg q4] at ih
          obtain ⟨c, hc⟩ : ∃ c : Nat, bsN S W t i = c := ⟨(bsN S W t i).toNat, by omega⟩
          rw [hc] at ih ⊢
          rw [Int.toNat_natCast] at ih
          rw [if_neg (by rw [c_eq (by omega)]; omega), m279 hm hk hi (by omega), mjBp_some]
          by_cases q5 : sTe S i < sTe S c
          · rw [if_pos q5] at ih
            have : sAh S i c = true := by unfold sAh; simp; omega
            rw [this, if_neg (by decide)]
            exact ih
          · rw [if_neg q5] at ih
            have : sAh S i c = false := by unfold sAh; simp; omega
            rw [this, if_pos (by decide)]
            exact ih
      · rw [decide_eq_false q1, if_neg (show ¬ (true = true ∧ sTmA S i = t) from fun g => q1 g.2), if_neg (show ¬ (false = true) by decide), Int.add_zero] at ih
        rw [if_neg (by rw [c_eq (by omega)]; omega)]
        exact ih
    · rw [if_neg (fun g => q3 g.1)] at ih
      simp at q3
      rw [q3, Bool.false_and, if_neg (by decide), Int.add_zero] at ih
      rw [q3, if_pos (by decide)]
      exact ih
theorem q_struck (hb : Z.2.2.1 = b) (h : cBk Z b S) (hd : cDr Z b S) (ho : okS S) (hoc : okC S) (hm : mRep Zm S) (hW : mWv Zm S (sW S)) (hv : vRep Z 199 S (sW S)) (x y : Int32) : ∃ v, f179_struck x y Z = some v ∧ ∃ Z2, f303_struck x y Zm = some (v, Z2) ∧ eqQ Zm Z2 := by
  have hb2 := b_b h
  have o1 := ok_sc ho
  have oa := all_le ho
  unfold f179_struck f303_struck
  rw [hb]
  rcases tm_cases S x with ⟨t, rfl, ht⟩ | ⟨t, rfl, ht⟩
  · obtain ⟨k, rfl, hk1, hk2⟩ := i3_ex y
    have e1 := e144h ho h hd hv (by omega) (show t < 6 by omega) (sAll S) 0 mjF (by omega) (by unfold mjF; omega)
    rw [show i3 (m2 (bsN S (sW S) t 0)) = (-2 : Int32) from rfl, show i3 ((0 : Nat) : Int) = (0 : Int32) from rfl] at e1
    have C : ∀ v, (if (i3 k).toInt < 0 ∨ 2 < (i3 k).toInt then
      some ((-1))
    else if ((i3 k).toInt - 0).toNat = 0 then
      some (i3 (m2 (bsN S (sW S) t (sAll S))))
    else if ((i3 k).toInt - 0).toNat = 1 then
      mjBp (f143_firstRuleStriking 199 (i3 (m2 (bsN S (sW S) t (sAll S)))) Z) fun v113 =>
      some v113
    else if ((i3 k).toInt - 0).toNat = 2 then
      mjBp (f145_struckActs 199 b (i3 t) Z) fun v117 =>
      some v117
    else none) = v → (if mjIs b 211 2 = true then
  mjBp (f7_hasTeam b (i3 t) Z) fun v103 =>
  if mjCmp .ne v103 0 = true then
    mjBp (f144_firstStruckAct 199 b (i3 t) Z) fun v107 =>
    if (i3 k).toInt < 0 ∨ 2 < (i3 k).toInt then
      some ((-1))
    else if ((i3 k).toInt - 0).toNat = 0 then
      some v107
    else if ((i3 k).toInt - 0).toNat = 1 then
      mjBp (f143_firstRuleStriking 199 v107 Z) fun v113 =>
      some v113
    else if ((i3 k).toInt - 0).toNat = 2 then
      mjBp (f145_struckActs 199 b (i3 t) Z) fun v117 =>
      some v117
    else none
  else
    some ((-1))
  else none) = v := by
      intro v hv
      unfold f144_firstStruckAct
      rw [if_pos (is_b hb2), e7t h ho ht, mjBp_some, if_pos (by decide), e1, mjBp_some]
      exact hv
    by_cases q : k < 0 ∨ 2 < k
    · refine ⟨i3 (-1), C _ ?_, Zm, ?_, eqQ_rf⟩
      · rw [if_pos (by rw [i3_int (by omega)]; omega)]; rfl
      · rw [m240t hm ho ht, mjBp_some, if_neg (by decide), i36 (by omega), show (0 : Int64) = i6 0 from rfl, show (2 : Int64) = i6 2 from rfl, m195f (by omega), mjBp_some, if_neg (by decide)]; rfl
    · obtain ⟨Z1, r1, r2, r3⟩ := m302 ho hoc hm hW
      obtain ⟨Z2, s1, s2⟩ := m303h ho hoc (mRep_q hm r2) (mWv_q hW r2) r3 ht (k := k) (by omega) (sAll S) 0 mjF (by omega) (by unfold mjF; omega)
      rw [show i3 (bsN S (sW S) t 0) = (-1 : Int32) from rfl, show i3 (stN S (sW S) t 0) = (0 : Int32) from rfl, show i3 ((0 : Nat) : Int) = (0 : Int32) from rfl] at s1
      obtain ⟨b1, b2, b3⟩ := bs_bd S (sW S) t (sAll S)
      refine ⟨i3 (if k = 2 then stN S (sW S) t (sAll S) else if bsN S (sW S) t (sAll S) = -1 then -2 else if k = 0 then bsN S (sW S) t (sAll S) else fRu S (sW S) (bsN S (sW S) t (sAll S)).toNat (sTe S (bsN S (sW S) t (sAll S)).toNat) (sSz S (bsN S (sW S) t (sAll S)).toNat)), C _ ?_, Z2, ?_, eqQ_tr r2 s2⟩
      rotate_left
      · rw [m240t hm ho ht, mjBp_some, if_neg (by decide), i36 (by omega), show (0 : Int64) = i6 0 from rfl, show (2 : Int64) = i6 2 from rfl, m195t (by omega), mjBp_some, if_pos (by decide), r1, mjBd_some]
        exact s1
      · rcases (by omega : k = 0 ∨ k = 1 ∨ k = 2) with rfl | rfl | rfl
        · rw [if_neg (by decide), if_pos (by decide), if_neg (by decide)]
          unfold m2
          by_cases q2 : bsN S (sW S) t (sAll S) = -1
          · rw [if_pos q2, if_pos q2]
          · rw [if_neg q2, if_neg q2, if_pos rfl]
        · rw [if_neg (by decide), if_neg (by decide), if_pos (by decide), if_neg (show ¬ ((1 : Int) = 2) by decide), if_neg (show ¬ ((1 : Int) = 0) by decide)]
          unfold f143_firstRuleStriking
          by_cases q2 : bsN S (sW S) t (sAll S) = -1
          · have e2 := e143n (Z := Z) (o := 199) (by omega) 8 0 mjF (by omega) (by decide)
            rw [if_pos q2, show m2 (bsN S (sW S) t (sAll S)) = -2 by unfold m2; rw [if_pos q2]]
            rw [show i3 ((0 : Nat) : Int) = (0 : Int32) from rfl] at e2
            rw [e2, mjBp_some]
          · obtain ⟨c, hc⟩ : ∃ c : Nat, bsN S (sW S) t (sAll S) = c := ⟨(bsN S (sW S) t (sAll S)).toNat, by omega⟩
            have e2 := e143h ho hv (by omega) (a := c) (by omega) 8 0 mjF (by omega) (by decide)
            rw [show i3 ((0 : Nat) : Int) = (0 : Int32) from rfl] at e2
            have g := b3 q2
            rw [hc, Int.toNat_natCast] at g
            have e3 : fI (bt (Z.1 (199 + 1) c)) 8 0 = fRu S (sW S) c (sTe S c) (sSz S c) := by
              unfold fRu
              rw [fI_congr (q := fun j => decide (j < sR S) && sSt S (sW S) c (sTe S c) (sSz S c) j) 8 0 (fun j _ hj => hv.1 c (by omega) j (by omega)), fI_cut 8 0 (by omega) (by omega), Nat.sub_zero]
            have g2 : fRu S (sW S) c (sTe S c) (sSz S c) ≠ -1 := by unfold stk at g; simpa using g
            rw [if_neg q2, show m2 (bsN S (sW S) t (sAll S)) = c by unfold m2; rw [if_neg q2, hc], e2, mjBp_some, e3, hc, Int.toNat_natCast]
            unfold m2
            rw [if_neg g2]
        · have e2 := e145h ho h hd hv (by omega) (show t < 6 by omega) (sAll S) 0 mjF (by omega) (by unfold mjF; omega)
          rw [show i3 (stN S (sW S) t 0) = (0 : Int32) from rfl, show i3 ((0 : Nat) : Int) = (0 : Int32) from rfl] at e2
          unfold f145_struckActs
          rw [if_neg (by decide), if_neg (by decide), if_neg (by decide), if_pos (by decide), e2, mjBp_some, if_pos rfl]
  · refine ⟨i3 (-1), ?_, Zm, ?_, eqQ_rf⟩
    · rw [if_pos (is_b hb2), e7f h ho ht, mjBp_some, if_neg (by decide)]; rfl
    · rw [m240f hm ho ht, mjBp_some, if_pos (by decide)]; rfl
end Q89
