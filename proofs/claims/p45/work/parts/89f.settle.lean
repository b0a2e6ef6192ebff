/-! SETTLING a book: from what is told to what follows -/
/-- the objects that settling writes: of the book its count of acts, of each team two rows, the acts not told -/
def sBad (b A a : Nat) : Prop := a = b ∨ (b + 18 ≤ a ∧ a < b + 48 ∧ 3 ≤ (a - b - 18) % 5) ∨ (b + 48 + A ≤ a ∧ a < b + 90)
def eqS (b A : Nat) (Z Z2 : mjZt) : Prop := Z2.2 = Z.2 ∧ (∀ a, ¬ sBad b A a → Z2.1 a = Z.1 a) ∧ (∀ f, f ≠ 7 → Z2.1 b f = Z.1 b f) ∧ ∀ a, b + 18 ≤ a → a < b + 48 → Z2.1 a 0 = Z.1 a 0
section SE
variable {b : Nat} {S : mjS} {Z : mjZt}
theorem eqS_rf {A : Nat} : eqS b A Z Z := ⟨rfl, fun _ _ => rfl, fun _ _ => rfl, fun _ _ _ => rfl⟩
theorem eqS_tr {A : Nat} {Z2 Z3 : mjZt} (h : eqS b A Z Z2) (g : eqS b A Z2 Z3) : eqS b A Z Z3 := ⟨g.1.trans h.1, fun a ha => (g.2.1 a ha).trans (h.2.1 a ha), fun f hf => (g.2.2.1 f hf).trans (h.2.2.1 f hf), fun a h1 h2 => (g.2.2.2 a h1 h2).trans (h.2.2.2 a h1 h2)⟩
theorem eqS_b {A : Nat} {v : Int32} : eqS b A Z (zSi Z b 7 v) := ⟨rfl, fun a ha => si_obj _ _ _ _ (by unfold sBad at ha; omega), fun f hf => si_fld _ _ _ _ (by omega), fun a h1 h2 => by rw [si_obj _ _ _ _ (by omega)]⟩
theorem eqS_t {A a k : Nat} {v : Int32} (h : b + 18 ≤ a ∧ a < b + 48 ∧ 3 ≤ (a - b - 18) % 5) (hk : 1 ≤ k) : eqS b A Z (zSi Z a k v) := ⟨rfl, fun a2 ha => si_obj _ _ _ _ (by intro g; subst g; exact ha (Or.inr (Or.inl h))), fun f hf => si_fld _ _ _ _ (by omega), fun a2 h1 h2 => by rw [si_fld _ _ _ _ (by omega)]⟩
theorem eqS_a {A a k : Nat} {v : Int32} (h : b + 48 + A ≤ a ∧ a < b + 90) : eqS b A Z (zSi Z a k v) := ⟨rfl, fun a2 ha => si_obj _ _ _ _ (by intro g; subst g; exact ha (Or.inr (Or.inr h))), fun f hf => si_fld _ _ _ _ (by omega), fun a2 h1 h2 => by rw [si_fld _ _ _ _ (by omega)]⟩
theorem cBk_s {Z2 : mjZt} (ho : sT S ≤ 6 ∧ sA S ≤ 12) (h : cBk Z b S) (e : eqS b (sA S) Z Z2) : cBk Z2 b S := by
  obtain ⟨e1, e2, e3, e4⟩ := e
  obtain ⟨h1, h2, h3, h4, h5, h6, h7, h8, h9, h10, h11, h12, h13, h14⟩ := h
  unfold cBk
  rw [e3 5 (by omega), e3 6 (by omega), e3 8 (by omega), e3 9 (by omega), e3 10 (by omega), e1, e2 (b + 11) (by unfold sBad; omega)]
  refine ⟨h1, fun k hk => by rw [e3 k (by omega)]; exact h2 k hk, h3, h4, h5, h6, h7, fun t ht => ?_, fun a ha => ?_, h10, h11, fun t ht => ?_, fun j k hj => ?_, h14⟩
  · have h := h8 t ht
    unfold tTold at h ⊢
    rw [e1, e2 (tmB b t) (by unfold tmB sBad; omega), e2 (tmB b t + 1) (by unfold tmB sBad; omega), e2 (tmB b t + 2) (by unfold tmB sBad; omega), e4 (tmB b t + 3) (by unfold tmB; omega) (by unfold tmB; omega), e4 (tmB b t + 4) (by unfold tmB; omega) (by unfold tmB; omega)]
    exact h
  · exact aRep_of (e2 (acB b a) (by unfold acB sBad; omega)) (h9 a ha)
  · rw [e4 (tmB b t + 3) (by unfold tmB; omega) (by unfold tmB; omega), e4 (tmB b t + 4) (by unfold tmB; omega) (by unfold tmB; omega)]
    exact h12 t ht
  · rw [e2 (b + 12 + j) (by unfold sBad; omega)]
    exact h13 j k hj
theorem cTr_s {Z2 : mjZt} {A : Nat} (h : cTr Z b S) (e : eqS b A Z Z2) : cTr Z2 b S := by
  intro r p hr hp
  have := h r p hr hp
  unfold cOne at this ⊢
  rw [e.2.1 (b + 1 + 1) (by unfold sBad; omega), e.2.1 (b + 1 + 2) (by unfold sBad; omega), e.2.1 (b + 1 + 3) (by unfold sBad; omega), e.2.1 (b + 1 + 4) (by unfold sBad; omega), e.2.1 (b + 1 + 5) (by unfold sBad; omega), e.2.1 (b + 1 + 6) (by unfold sBad; omega)]
  exact this
theorem e31h (ho : okS S) {t : Nat} (ht : t < sT S) : ∀ f i n (Z : mjZt), i + f = sTd S t + 1 → 1 ≤ i → f < n → cBk Z b S → (∀ l, l < i → Z.1 (tmB b t + 3) l = i3 (sEn S t l) ∧ Z.1 (tmB b t + 4) l = i3 (sPs S t l)) → ∃ Z1, f31_settle_h2 n (tmB b t) (i3 (S 0 1)) (i3 i) Z = some ((), Z1) ∧ eqS b (sA S) Z Z1 ∧ tRun Z1 (tmB b t) S t ∧ (∀ a, a ≠ tmB b t + 3 → a ≠ tmB b t + 4 → Z1.1 a = Z.1 a)
  | f, i, 0, _, _, _, hn, _, _ => by omega
  | 0, i, n + 1, Z, hf, _, _, h, hp => by
    obtain rfl : i = sTd S t + 1 := by omega
    have o1 := ok_sc ho
    have o2 := ok_tm ho ht
    exact ⟨Z, by rw [f31_settle_h2, if_pos (is_tm (b_b h) t (by omega)), b_td h ht, if_pos (by rw [c_gt (by omega)]; omega)], eqS_rf, fun l hl => hp l (by omega), fun _ _ _ => rfl⟩
  | f + 1, i, n + 1, Z, hf, h1, hn, h, hp => by
    have o1 := ok_sc ho
    have o2 := ok_tm ho ht
    have o3 := ok_tr ho
    have hb := b_b h
    obtain ⟨l, rfl⟩ : ∃ l, i = l + 1 := ⟨i - 1, by omega⟩
    have hl : l < sTd S t := by omega
    have g1 := en_bd ho ht l (by omega)
    have g2 := ok_leg ho ht hl
    have g3 := mul_bd (n := l + 1) (x := S 0 1) (by omega) (by omega) (by omega)
    have k1 := is_tmr hb t (by omega) 0 (by omega)
    have k2 := is_tmr hb t (by omega) 1 (by omega)
    have k3 := is_tmr hb t (by omega) 2 (by omega)
    have k4 := is_tmr hb t (by omega) 3 (by omega)
    have wr : eqS b (sA S) Z (zSi (zSi Z (tmB b t + 3) (l + 1) (i3 (sEn S t (l + 1)))) (tmB b t + 4) (l + 1) (i3 (sPs S t (l + 1)))) := eqS_tr (eqS_t (by unfold tmB; omega) (by omega)) (eqS_t (by unfold tmB; omega) (by omega))
    obtain ⟨Z1, r1, r2, r3, r4⟩ := e31h ho ht f (l + 1 + 1) n _ (by omega) (by omega) (by omega) (cBk_s ⟨o1.1, o1.2.1⟩ h wr) (fun l2 hl2 => by
      by_cases q : l2 = l + 1
      · subst q
        rw [si_obj _ _ _ _ (by omega), si_same, si_same]
        exact ⟨rfl, rfl⟩
      · rw [si_obj _ _ _ _ (by omega), si_fld _ _ _ _ (by omega), si_fld _ _ _ _ (by omega), si_obj _ _ _ _ (by omega)]
        exact hp l2 (by omega))
    refine ⟨Z1, ?_, eqS_tr wr r2, r3, fun a ha1 ha2 => by rw [r4 a ha1 ha2, si_obj _ _ _ _ ha2, si_obj _ _ _ _ ha1]⟩
    have e1 : i3 ((l + 1 : Nat) : Int) - 1 = i3 (l : Int) := by rw [i3_p]; exact congrArg i3 (by omega)
    rw [f31_settle_h2, if_pos (is_tm hb t (by omega)), b_td h ht, if_neg (by rw [c_gt (by omega)]; omega), show (6 : Int32) = i3 6 from rfl, if_neg (by rw [c_gt (by omega)]; omega), if_pos k3.1, e1, k3.2, if_pos (in_p (by omega)), if_pos k1.1, k1.2, if_pos (in_p (by omega)), if_pos (in_p (by omega)), ix_nat (by omega), ix_nat (by omega), (hp l (by omega)).1, b_tn h ht hl, i3_add, let_eq, if_pos k2.1, k2.2, if_pos (in_p (by omega)), if_pos k4.1, k4.2, if_pos (in_p (by omega)), si_obj _ _ _ _ (by omega), b_mt h ht hl, i3_mul, i3_add, show (10 : Int32) = i3 10 from rfl, i3_mul, let_eq, i3_s]
    rw [sEn, sPs, show 10 * (((l : Int) + 1) * S 0 1 + sMt S t l) = (((l + 1 : Nat) : Int) * S 0 1 + sMt S t l) * 10 by rw [Int.mul_comm]; rfl] at r1
    exact r1
theorem sBt_eq (ho : okS S) {t l : Nat} (ht : t < sT S) (hl : l < sBx S t) : sBt S (sBs S t + l) = t ∧ sBl S (sBs S t + l) = l ∧ sBs S t + l < sBs S (sT S) := by
  have m1 := bs_mono (S := S) (t := t + 1) (sT S - (t + 1))
  rw [show t + 1 + (sT S - (t + 1)) = sT S by omega, sBs] at m1
  have lt : sBs S t + l < sBs S (sT S) := by omega
  obtain ⟨g1, g2, g3⟩ := bt_spec ho lt
  have e : sBt S (sBs S t + l) = t := by
    generalize sBt S (sBs S t + l) = u at *
    rcases (by omega : u < t ∨ u = t ∨ t < u) with q | q | q
    · have m2 := bs_mono (S := S) (t := u + 1) (t - (u + 1))
      rw [show u + 1 + (t - (u + 1)) = t by omega, sBs] at m2
      omega
    · exact q
    · have m2 := bs_mono (S := S) (t := t + 1) (u - (t + 1))
      rw [show t + 1 + (u - (t + 1)) = u by omega, sBs] at m2
      omega
  refine ⟨e, ?_, lt⟩
  unfold sBl
  rw [e]
  omega
theorem out_max (ho : okS S) {m : Int} (hm : -20 ≤ m ∧ m ≤ 20) : mjMax (mjMax (-(i3 (S 0 2)) - i3 m) (i3 m - i3 (S 0 3))) 0 = i3 (sOut S m) := by
  have o3 := ok_tr ho
  rw [i3_neg, i3_sub, i3_sub, max_i3 (by omega), show (0 : Int32) = i3 0 from rfl, max_i3 (by omega)]
  congr 1
  unfold sOut
  split
  · omega
  · split <;> omega
/-- what the loop over the teams keeps: c acts are there, the first i teams have run -/
def sK (Z : mjZt) (b : Nat) (S : mjS) (i c : Nat) : Prop := Z.1 b 7 = i3 c ∧ (∀ t, t < i → tRun Z (tmB b t) S t) ∧ ∀ a, a < c → aRep Z (acB b a) S a
theorem e35b (ho : okS S) {t : Nat} (ht : t < sT S) (K : Nat → Int32 → mjZt → Option (Unit × mjZt)) : ∀ f l n (Z : mjZt), l + f = sBx S t → f < n → cBk Z b S → sK Z b S (t + 1) (sA S + sBs S t + l) → ∃ Z1, f35_settle_h34 K n b (i3 t) (tmB b t) (i3 ((l + 1 : Nat) : Int)) Z = K b (i3 t) Z1 ∧ eqS b (sA S) Z Z1 ∧ sK Z1 b S (t + 1) (sA S + sBs S (t + 1))
  | f, l, 0, _, _, hn, _, _ => by omega
  | 0, l, n + 1, Z, hf, _, h, hk => by
    obtain rfl : l = sBx S t := by omega
    have o1 := ok_sc ho
    have o2 := ok_tm ho ht
    have o4 := ok_lg ho
    refine ⟨Z, ?_, eqS_rf, by rw [sBs, ← Nat.add_assoc]; exact hk⟩
    rw [f35_settle_h34, if_pos (is_tm (b_b h) t (by omega)), b_td h ht]
    unfold sBx
    by_cases q : sTd S t < sLg S
    · rw [if_pos q, if_pos (by rw [c_gt (by omega)]; omega)]
    · have o5 := ok_pos ho (by omega)
      rw [if_neg q, if_neg (by rw [c_gt (by omega)]; omega), if_pos (is_b (b_b h)), b_tr0 h, o4, if_pos (by rw [c_ge (by omega)]; omega)]
  | f + 1, l, n + 1, Z, hf, hn, h, hk => by
    have o1 := ok_sc ho
    have o2 := ok_tm ho ht
    have o3 := ok_tr ho
    have o4 := ok_lg ho
    have oa := all_le ho
    have hb := b_b h
    have hl : l < sBx S t := by omega
    have hl2 : l < sTd S t ∧ l + 1 < sLg S := by unfold sBx at hl; split at hl <;> omega
    have g2 := ok_leg ho ht hl2.1
    obtain ⟨q1, q2, q3⟩ := sBt_eq ho ht hl
    obtain ⟨k1, k2, k3⟩ := hk
    have ab : acB b (sA S + sBs S t + l) = b + 48 + sA S + (sBs S t + l) := by unfold acB; omega
    have hal : sA S + sBs S t + l < sAll S := by unfold sAll; omega
    generalize hX : sA S + sBs S t + l = X at *
    have r2 := is_tmr hb t (by omega) 1 (by omega)
    have r3 := is_tmr hb t (by omega) 2 (by omega)
    have wr : eqS b (sA S) Z (zSi (zSi (zSi (zSi (zSi (zSi Z (acB b X) 0 4) (acB b X) 1 (i3 t)) (acB b X) 2 (-1)) (acB b X) 3 (i3 (sEn S t (l + 1)))) (acB b X) 4 (i3 (sOut S (sMt S t l)))) b 7 (i3 ((X + 1 : Nat) : Int))) :=
      eqS_tr (eqS_a (by omega)) (eqS_tr (eqS_a (by omega)) (eqS_tr (eqS_a (by omega)) (eqS_tr (eqS_a (by omega)) (eqS_tr (eqS_a (by omega)) eqS_b))))
    obtain ⟨Z1, s1, s2, s3⟩ := e35b ho ht K f (l + 1) n _ (by omega) (by omega) (cBk_s ⟨o1.1, o1.2.1⟩ h wr) (by
      rw [show sA S + sBs S t + (l + 1) = X + 1 by omega]
      refine ⟨si_same _ _ _ _, fun t2 ht2 => ?_, fun a ha => ?_⟩
      · have tb : ∀ j, j < 5 → ¬ (tmB b t2 + j = acB b X) ∧ ¬ (tmB b t2 + j = b) := by unfold tmB; omega
        unfold tRun
        rw [si_obj _ _ _ _ (tb 3 (by omega)).2, si_obj _ _ _ _ (tb 3 (by omega)).1, si_obj _ _ _ _ (tb 3 (by omega)).1, si_obj _ _ _ _ (tb 3 (by omega)).1, si_obj _ _ _ _ (tb 3 (by omega)).1, si_obj _ _ _ _ (tb 3 (by omega)).1, si_obj _ _ _ _ (tb 4 (by omega)).2, si_obj _ _ _ _ (tb 4 (by omega)).1, si_obj _ _ _ _ (tb 4 (by omega)).1, si_obj _ _ _ _ (tb 4 (by omega)).1, si_obj _ _ _ _ (tb 4 (by omega)).1, si_obj _ _ _ _ (tb 4 (by omega)).1]
        exact k2 t2 ht2
      · by_cases q : a = X
        · subst q
          have nb : ¬ (acB b a = b) := by omega
          unfold aRep
          rw [si_obj _ _ _ _ nb]
          unfold sKd sTmA sOt sTe sSz
          have na : ¬ a < sA S := by omega
          rw [if_neg na, if_neg na, if_neg na, if_neg na, if_neg na, show a - sA S = sBs S t + l by omega, q1, q2]
          refine ⟨?_, ?_, ?_, ?_, ?_⟩
          · rw [si_fld _ _ _ _ (by omega), si_fld _ _ _ _ (by omega), si_fld _ _ _ _ (by omega), si_fld _ _ _ _ (by omega), si_same]; rfl
          · rw [si_fld _ _ _ _ (by omega), si_fld _ _ _ _ (by omega), si_fld _ _ _ _ (by omega), si_same]
          · rw [si_fld _ _ _ _ (by omega), si_fld _ _ _ _ (by omega), si_same]; rfl
          · rw [si_fld _ _ _ _ (by omega), si_same]
          · rw [si_same]
        · have nb : ¬ (acB b a = b) ∧ ¬ (acB b a = acB b X) := by unfold acB; omega
          refine aRep_of ?_ (k3 a (by omega))
          rw [si_obj _ _ _ _ nb.1, si_obj _ _ _ _ nb.2, si_obj _ _ _ _ nb.2, si_obj _ _ _ _ nb.2, si_obj _ _ _ _ nb.2, si_obj _ _ _ _ nb.2])
    refine ⟨Z1, ?_, eqS_tr wr s2, s3⟩
    have e32 : f32_metresOf (tmB b t) (i3 ((l + 1 : Nat) : Int)) Z = some (i3 (sMt S t l)) := by
      unfold f32_metresOf
      rw [if_pos (is_tm hb t (by omega)), e5 r2.1 r2.2 (by omega) (by omega), mjBp_some, Int.toNat_natCast, b_mt h ht hl2.1]
    have e34 : f34_endOf (tmB b t) (i3 ((l + 1 : Nat) : Int)) Z = some (i3 (sEn S t (l + 1))) := by
      unfold f34_endOf
      rw [if_pos (is_tm hb t (by omega)), e5 r3.1 r3.2 (by omega) (by omega), mjBp_some, Int.toNat_natCast, (k2 t (by omega) (l + 1) (by omega)).1]
    have e33 : f33_metresOutside b (i3 (sMt S t l)) Z = some (i3 (sOut S (sMt S t l))) := by
      unfold f33_metresOutside
      rw [if_pos (is_b hb), b_tr2 h, b_tr3 h, out_max ho (by omega)]
    rw [f35_settle_h34, if_pos (is_tm hb t (by omega)), b_td h ht, if_neg (by rw [c_gt (by omega)]; omega), if_pos (is_b hb), b_tr0 h, o4, if_neg (by rw [c_ge (by omega)]; omega), e32, mjBp_some, e33, mjBp_some, k1, e6 hb (by omega), mjBp_some, e34, mjBp_some, if_pos (is_ac hb X (by omega))]
    unfold f1_tell
    rw [if_pos (is_ac hb X (by omega)), let_eq, let_eq, let_eq, let_eq, let_eq, mjBd_some]
    have nb : ¬ (b = acB b X) := by omega
    rw [si_obj _ _ _ _ nb, si_obj _ _ _ _ nb, si_obj _ _ _ _ nb, si_obj _ _ _ _ nb, si_obj _ _ _ _ nb, k1, i3_s, let_eq, i3_s]
    exact s1
theorem e35h (ho : okS S) : ∀ f i n (Z : mjZt), i + f = sT S → f < n → cBk Z b S → sK Z b S i (sA S + sBs S i) → ∃ Z1, f35_settle_h10 n b (i3 i) Z = some ((), Z1) ∧ eqS b (sA S) Z Z1 ∧ sK Z1 b S (sT S) (sA S + sBs S (sT S))
  | f, i, 0, _, _, hn, _, _ => by omega
  | 0, i, n + 1, Z, hf, _, h, hk => by
    obtain rfl : i = sT S := by omega
    have o1 := ok_sc ho
    exact ⟨Z, by rw [f35_settle_h10, if_pos (is_b (b_b h)), b_T h, if_pos (by rw [c_ge (by omega)]; omega)], eqS_rf, hk⟩
  | f + 1, i, n + 1, Z, hf, hn, h, hk => by
    have o1 := ok_sc ho
    have hb := b_b h
    have hi : i < sT S := by omega
    have o2 := ok_tm ho hi
    obtain ⟨Z1, r1, r2, r3, r4⟩ := e31h (b := b) ho hi (sTd S i) 1 mjF Z (by omega) (by omega) (by unfold mjF; omega) h (fun l hl => by
      obtain rfl : l = 0 := by omega
      have z := b_z3 h (t := i) (by omega)
      exact ⟨z.1, z.2⟩)
    have h1 := cBk_s ⟨o1.1, o1.2.1⟩ h r2
    obtain ⟨k1, k2, k3⟩ := hk
    have hk1 : sK Z1 b S (i + 1) (sA S + sBs S i + 0) := by
      refine ⟨by rw [r4 b (by unfold tmB; omega) (by unfold tmB; omega)]; exact k1, fun t ht => ?_, fun a ha => ?_⟩
      · by_cases q : t = i
        · subst q; exact r3
        · unfold tRun
          rw [r4 (tmB b t + 3) (by unfold tmB; omega) (by unfold tmB; omega), r4 (tmB b t + 4) (by unfold tmB; omega) (by unfold tmB; omega)]
          exact k2 t (by omega)
      · have := all_le ho
        exact aRep_of (r4 _ (by unfold acB tmB; omega) (by unfold acB tmB; omega)) (k3 a ha)
    obtain ⟨Z2, s1, s2, s3⟩ := e35b ho hi (fun x0_Z133 x1_Z133 Z133 => f35_settle_h10 n x0_Z133 (x1_Z133 + 1) Z133) (sBx S i) 0 mjF Z1 (by omega) (by have := bx_le ho (t := i); unfold mjF; omega) h1 hk1
    obtain ⟨Z3, t1, t2, t3⟩ := e35h ho f (i + 1) n Z2 (by omega) (by omega) (cBk_s ⟨o1.1, o1.2.1⟩ h1 s2) s3
    refine ⟨Z3, ?_, eqS_tr r2 (eqS_tr s2 t2), t3⟩
    rw [i3_s] at s1
    rw [f35_settle_h10, if_pos (is_b hb), b_T h, if_neg (by rw [c_ge (by omega)]; omega), e8 h ho hi, mjBp_some, if_pos (is_tm hb i (by omega)), b_tr1 h]
    unfold f31_settle
    rw [show i3 ((1 : Nat) : Int) = (1 : Int32) from rfl] at r1
    rw [r1, mjBd_some, show (1 : Int32) = i3 ((0 + 1 : Nat) : Int) from rfl]
    exact s1.trans t1
theorem e35 (ho : okS S) (h : cBk Z b S) : ∃ Z1, f35_settle b Z = some ((), Z1) ∧ eqS b (sA S) Z Z1 ∧ cBk Z1 b S ∧ cDr Z1 b S := by
  have o1 := ok_sc ho
  have hb := b_b h
  have w : eqS b (sA S) Z (zSi Z b 7 (i3 (sA S))) := eqS_b
  have h1 := cBk_s ⟨o1.1, o1.2.1⟩ h w
  obtain ⟨Z1, r1, r2, r3⟩ := e35h ho (sT S) 0 mjF _ (by omega) (by unfold mjF; omega) h1 ⟨si_same _ _ _ _, fun t ht => by omega, fun a ha => b_ac h1 (by simp only [sBs] at ha; omega)⟩
  have e := eqS_tr w r2
  refine ⟨Z1, ?_, e, cBk_s ⟨o1.1, o1.2.1⟩ h e, r3.1, r3.2.1, r3.2.2⟩
  unfold f35_settle
  rw [if_pos (is_b hb), b_A h, let_eq]
  exact r1
end SE
