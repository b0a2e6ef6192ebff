/-! WHAT A LINE CHANGES of what is read -/
def zuS (S : mjS) (f k : Nat) (v : Int) : mjS := fun f2 k2 => if f2 = f then (if k2 = k then v else S f k2) else S f2 k2
theorem zuS_e {S : mjS} {f k : Nat} {v : Int} : zuS S f k v f k = v := by unfold zuS; rw [if_pos rfl, if_pos rfl]
theorem zuS_n {S : mjS} {f k k2 : Nat} {v : Int} (h : k2 ≠ k) : zuS S f k v f k2 = S f k2 := by unfold zuS; rw [if_pos rfl, if_neg h]
theorem zuS_f {S : mjS} {f f2 k : Nat} {v : Int} (h : f2 ≠ f) : zuS S f k v f2 = S f2 := by funext k2; unfold zuS; rw [if_neg h]
def rwO (f : Nat) : Nat := if f = 9 then 215 else 218 + f
def rwR (Z : mjZt) (S : mjS) : Prop := (∀ f, f < 10 → ∀ k, Z.1 (rwO f) k = i3 (S f k)) ∧ (∀ k, Z.2.1 227 k = i6 (S 11 k)) ∧ ∀ k, Z.2.1 228 k = i6 (S 12 k)
def rsR (Z : mjZt) (S : mjS) (m : Nat) : Prop := Z.1 211 21 = i3 (sT S) ∧ Z.1 211 22 = i3 (sA S) ∧ Z.1 211 23 = i3 (sR S) ∧ Z.1 211 25 = i3 (S 10 3) ∧ Z.1 211 26 = i3 (S 10 4) ∧ Z.1 211 17 = i3 m
theorem rM_r {Z : mjZt} {S : mjS} {m : Nat} (h : rM Z S m) : rwR Z S ∧ rsR Z S m ∧ kfM Z := by
  obtain ⟨a0, a1, a2, a3, a4, a5, a6, a7, a8, a9, ⟨b1, b2, b3, b4, b5⟩, c1, c2, d, e⟩ := h
  refine ⟨⟨fun f hf => ?_, c1, c2⟩, ⟨b1, b2, b3, b4, b5, d⟩, e⟩
  rcases (by omega : f = 0 ∨ f = 1 ∨ f = 2 ∨ f = 3 ∨ f = 4 ∨ f = 5 ∨ f = 6 ∨ f = 7 ∨ f = 8 ∨ f = 9) with rfl | rfl | rfl | rfl | rfl | rfl | rfl | rfl | rfl | rfl
  · exact a0
  · exact a1
  · exact a2
  · exact a3
  · exact a4
  · exact a5
  · exact a6
  · exact a7
  · exact a8
  · exact a9
theorem r_rM {Z : mjZt} {S : mjS} {m : Nat} (h : rwR Z S) (g : rsR Z S m) (e : kfM Z) : rM Z S m := by
  obtain ⟨b1, b2, b3, b4, b5, d⟩ := g
  exact ⟨h.1 0 (by omega), h.1 1 (by omega), h.1 2 (by omega), h.1 3 (by omega), h.1 4 (by omega), h.1 5 (by omega), h.1 6 (by omega), h.1 7 (by omega), h.1 8 (by omega), h.1 9 (by omega), ⟨b1, b2, b3, b4, b5⟩, h.2.1, h.2.2, d, e⟩
theorem rwO_ne {f g : Nat} (hf : f < 10) (hg : g < 10) (h : f ≠ g) : rwO f ≠ rwO g := by
  unfold rwO
  split <;> split <;> omega
theorem rwO_bd {f : Nat} (hf : f < 10) : rwO f = 215 ∨ (218 ≤ rwO f ∧ rwO f ≤ 226) := by
  unfold rwO
  split <;> omega
theorem rwR_si {Z : mjZt} {S : mjS} {f k o : Nat} {v : Int} (hf : f < 10) (ho : o = rwO f) (h : rwR Z S) : rwR (zSi Z o k (i3 v)) (zuS S f k v) := by
  subst ho
  refine ⟨fun g hg j => ?_, fun j => ?_, fun j => ?_⟩
  · by_cases q : g = f
    · subst q
      by_cases q2 : j = k
      · subst q2; rw [si_same, zuS_e]
      · rw [si_fld _ _ _ _ (by omega), zuS_n q2]; exact h.1 g hg j
    · rw [si_obj _ _ _ _ (rwO_ne hg hf q), zuS_f q]; exact h.1 g hg j
  · rw [zuS_f (by omega)]; exact h.2.1 j
  · rw [zuS_f (by omega)]; exact h.2.2 j
theorem rwR_11 {Z : mjZt} {S : mjS} {k : Nat} {v : Int} (h : rwR Z S) : rwR (zSl Z 227 k (i6 v)) (zuS S 11 k v) := by
  refine ⟨fun g hg j => ?_, fun j => ?_, fun j => ?_⟩
  · rw [zuS_f (by omega)]; exact h.1 g hg j
  · by_cases q2 : j = k
    · subst q2; rw [sl_same, zuS_e]
    · rw [sl_fld _ _ _ _ (by omega), zuS_n q2]; exact h.2.1 j
  · rw [sl_obj _ _ _ _ (by omega), zuS_f (by omega)]; exact h.2.2 j
theorem rwR_12 {Z : mjZt} {S : mjS} {k : Nat} {v : Int} (h : rwR Z S) : rwR (zSl Z 228 k (i6 v)) (zuS S 12 k v) := by
  refine ⟨fun g hg j => ?_, fun j => ?_, fun j => ?_⟩
  · rw [zuS_f (by omega)]; exact h.1 g hg j
  · rw [sl_obj _ _ _ _ (by omega), zuS_f (by omega)]; exact h.2.1 j
  · by_cases q2 : j = k
    · subst q2; rw [sl_same, zuS_e]
    · rw [sl_fld _ _ _ _ (by omega), zuS_n q2]; exact h.2.2 j
theorem rwR_10 {Z : mjZt} {S : mjS} {k : Nat} {v : Int} (h : rwR Z S) : rwR Z (zuS S 10 k v) :=
  ⟨fun g hg j => by rw [zuS_f (by omega)]; exact h.1 g hg j, fun j => by rw [zuS_f (by omega)]; exact h.2.1 j, fun j => by rw [zuS_f (by omega)]; exact h.2.2 j⟩
theorem rwR_of {Z Z2 : mjZt} {S : mjS} (h : rwR Z S) (e : ∀ a, a = 215 ∨ (218 ≤ a ∧ a ≤ 228) → Z2.1 a = Z.1 a ∧ Z2.2.1 a = Z.2.1 a) : rwR Z2 S :=
  ⟨fun g hg j => by rw [(e _ (by have := rwO_bd hg; omega)).1]; exact h.1 g hg j, fun j => by rw [(e 227 (by omega)).2]; exact h.2.1 j, fun j => by rw [(e 228 (by omega)).2]; exact h.2.2 j⟩
/-- what comes of a line -/
def lnR (X : Nat → Nat) (n b : Nat) (rc : Option (Int32 × mjZt)) (rm : Option (Unit × mjZt)) (Zc Zm : mjZt) (p : Nat) : Prop :=
  (∃ Zc1 Zm1 S1 m1 p1 t1 w1, rc = some (1, Zc1) ∧ rm = some ((), Zm1) ∧ jR X n b Zc1 Zm1 S1 m1 p1 t1 w1 ∧ p < p1 ∧ eqRc b Zc Zc1 ∧ eqRd Zm Zm1) ∨
  (∃ Zc1 Zm1, rc = some (0, Zc1) ∧ rm = some ((), Zm1) ∧ bd Zc1 Zm1 ∧ eqRc b Zc Zc1 ∧ eqRd Zm Zm1)
section LN
variable {X : Nat → Nat} {n b : Nat} {Z Zc Zm : mjZt} {S : mjS} {m p : Nat} {t w : Bool}
theorem e8T (hb : b = 2 ∨ b = 92) {N u : Nat} (h : Z.1 b 5 = i3 N) (hu : u < N) (hN : N ≤ 6) : f8_runner b (i3 u) Z = some (tmB b u) := by
  have e7' : f7_hasTeam b (i3 u) Z = some (i3 1) := by
    unfold f7_hasTeam
    rw [show (0 : Int32) = i3 0 from rfl]
    simp (disch := omega) only [let_eq, mjBp_some, mjBd_some, n_0, n_1, n_2, n_3, n_4, n_5, n_6, n_7, n_8, n_9, n_10, n_11, n_12, n_13, n_16, n_20, n_21, n_22, n_23, n_30, n_31, n_32, n_40, n_41, n_42, n_43, n_45, n_48, n_50, n_51, n_52, n_57, n_59, n_60, n_61, n_62, n_63, n_72, n_97, n_99, n_100, n_108, n_120, n_122, n_123, n_125, n_127, n_180, n_255, n_400, n_700, n_999, n_9999, n_2000000, n_2147483647, i3_add, i3_sub, i3_mul, i3_neg, i3_div, max_i3, min_i3, i6_add, i6_sub, i6_mul, i6_neg, c_lt_t, c_lt_f, c_ge_t, c_ge_f, c_gt_t, c_gt_f, c_le_t, c_le_f, c_eq_t, c_eq_f, c_ne_t, c_ne_f, in_t, i3_ofNat, ↓reduceIte, or_true, true_or, or_false, false_or, and_true, true_and, and_false, false_and, decide_true, decide_false, Bool.false_eq_true, not_true_eq_false, not_false_eq_true, Bool.true_and, Bool.false_and, Bool.and_true, Bool.and_false, Bool.true_or, Bool.false_or, Bool.or_true, Bool.or_false, e3_t, e3_f, sw_t, sw_f, sj_t, sj_f, i36, lg6_lt, lg6_eq, lg6_gt, Int.add_sub_cancel, l_0, l_1, l_2, l_3, l_4, l_5, l_10, l_9999, is_b hb, h]
  unfold f8_runner
  simp (disch := omega) only [let_eq, mjBp_some, mjBd_some, n_0, n_1, n_2, n_3, n_4, n_5, n_6, n_7, n_8, n_9, n_10, n_11, n_12, n_13, n_16, n_20, n_21, n_22, n_23, n_30, n_31, n_32, n_40, n_41, n_42, n_43, n_45, n_48, n_50, n_51, n_52, n_57, n_59, n_60, n_61, n_62, n_63, n_72, n_97, n_99, n_100, n_108, n_120, n_122, n_123, n_125, n_127, n_180, n_255, n_400, n_700, n_999, n_9999, n_2000000, n_2147483647, i3_add, i3_sub, i3_mul, i3_neg, i3_div, max_i3, min_i3, i6_add, i6_sub, i6_mul, i6_neg, c_lt_t, c_lt_f, c_ge_t, c_ge_f, c_gt_t, c_gt_f, c_le_t, c_le_f, c_eq_t, c_eq_f, c_ne_t, c_ne_f, in_t, i3_ofNat, ↓reduceIte, or_true, true_or, or_false, false_or, and_true, true_and, and_false, false_and, decide_true, decide_false, Bool.false_eq_true, not_true_eq_false, not_false_eq_true, Bool.true_and, Bool.false_and, Bool.and_true, Bool.and_false, Bool.true_or, Bool.false_or, Bool.or_true, Bool.or_false, e3_t, e3_f, sw_t, sw_f, sj_t, sj_f, i36, lg6_lt, lg6_eq, lg6_gt, Int.add_sub_cancel, l_0, l_1, l_2, l_3, l_4, l_5, l_10, l_9999, is_b hb, e7', (is_b8 hb).1, (is_b8 hb).2, ix_nat]
  simp only [tmB, Option.some.injEq]
/-- the class's part alone -/
theorem c_num (h : tkC X n Z p) (hn : n ≤ 700) (hX : ∀ k, X k ≤ 255) (hp : p ≤ n) (q : jS X n p = 2) {lo hi : Int} (hl : 0 ≤ lo ∧ hi ≤ 9999 ∧ 0 ≤ hi ∧ lo ≤ 9999) (q2 : lo ≤ jV X n p ∧ (jV X n p : Int) ≤ hi) : ∃ Z1, f116_takeNumber (i3 lo) (i3 hi) Z = some (1, Z1) ∧ Z1.1 182 4 = i3 (jV X n p) ∧ tkC X n Z1 (jE X n p) ∧ eqT2 Z Z1 := by
  have h3 : Z.1 183 3 = i3 (kd X n p) := h.2.2.1
  have ks := kd_spec (X := X) (n := n) (p := p)
  have k5 := kd_255 (n := n) (p := p) hX
  have h5 := h.2.2.2.2.1 q
  have hc : tkC X n (zSi Z 182 4 (i3 (jV X n p))) p := tkC_182 h
  obtain ⟨Zc1, a1, a2, a3⟩ := adv hc hn hX hp
  have a182 := (a3.2 182 (by omega)).1
  refine ⟨Zc1, ?_, by rw [a182, si_same], a2, ⟨a3.1, fun a g1 g2 => ?_, fun f g => ?_⟩⟩
  · unfold f116_takeNumber
    rw [h3, show (2 : Int32) = i3 2 from rfl, if_pos (by rw [c_eq (by omega)]; omega), h5, if_neg (by rw [c_lt (by omega)]; omega), if_pos (by rw [c_le (by omega)]; omega), let_eq, a1, mjBd_some]
  · rw [(a3.2 a g2).1, (a3.2 a g2).2, si_obj _ _ _ _ g1]; exact ⟨rfl, rfl⟩
  · rw [a182, si_fld _ _ _ _ (by omega)]
/-- through, within -/
theorem okS_th (ho : okS S) {k : Nat} {v : Int} (h : (k = 3 ∧ 1 ≤ v ∧ v ≤ 6) ∨ (k = 4 ∧ 0 ≤ v ∧ v ≤ 99)) : okS (zuS S 10 k v) := by
  have e : ∀ f, f ≠ 10 → zuS S 10 k v f = S f := fun f hf => zuS_f hf
  have eT : sT (zuS S 10 k v) = sT S := by unfold sT; rw [zuS_n (by omega)]
  have eA : sA (zuS S 10 k v) = sA S := by unfold sA; rw [zuS_n (by omega)]
  have eR : sR (zuS S 10 k v) = sR S := by unfold sR; rw [zuS_n (by omega)]
  have e34 : 1 ≤ sTh (zuS S 10 k v) ∧ sTh (zuS S 10 k v) ≤ 6 ∧ 0 ≤ sWi (zuS S 10 k v) ∧ sWi (zuS S 10 k v) ≤ 99 := by
    have o3 := ok_tw ho
    unfold sTh sWi at *
    rcases h with ⟨rfl, h1, h2⟩ | ⟨rfl, h1, h2⟩
    · rw [zuS_e, zuS_n (by omega)]; omega
    · rw [zuS_e, zuS_n (by omega)]; omega
  obtain ⟨o1, o2, o3, o4, o5, o6, o7, o8, o9⟩ := ho
  generalize zuS S 10 k v = S2 at *
  have eL : sLg S2 = sLg S := by unfold sLg; rw [e 0 (by omega)]
  have eD : ∀ u, sTd S2 u = sTd S u := fun u => by unfold sTd; rw [e 2 (by omega)]
  unfold okS
  rw [eT, eA, eR, eL, e 0 (by omega), e 4 (by omega), e 5 (by omega), e 6 (by omega), e 7 (by omega), e 3 (by omega), e 2 (by omega)]
  unfold sLn sTn sMt
  rw [e 1 (by omega), e 3 (by omega)]
  simp only [eD]
  exact ⟨o1, o2, e34, o4, o5, o6, o7, o8, o9⟩
theorem okC_89 {S2 : mjS} (h : okC S) (e8 : S2 8 = S 8) (e9 : S2 9 = S 9) (eR : sR S2 = sR S) : okC S2 := fun r q hr hq =>
  (okCb_agr (m := 700) (h r q (by omega) hq) (h r q (by omega) hq).2.2.2.1 (fun k _ => by rw [e9]) (by rw [e8]) (by rw [e8])).1
theorem to_89 {S2 : mjS} (e8 : S2 8 = S 8) (r q : Nat) : sTo S2 r q = sTo S r q ∧ sFr S2 r q = sFr S r q := by
  unfold sTo sFr sCa; rw [e8]; exact ⟨rfl, rfl⟩
theorem cTr_89 {Z2 : mjZt} {S2 : mjS} (h : cTr Z b S) (e8 : S2 8 = S 8) (e9 : S2 9 = S 9) (eR : sR S2 = sR S) (z : ∀ a, b + 1 < a → a ≤ b + 7 → Z2.1 a = Z.1 a) : cTr Z2 b S2 := fun r q hr hq =>
  cTrb_agr (m := sTo S r q) (h r q (by omega) hq) (Nat.le_refl _) (fun k _ => by rw [e9]) (to_89 e8 r q).2 (to_89 e8 r q).1 (fun j hj k _ => by rw [z _ (by omega) (by omega)]) (fun j hj => by rw [z _ (by omega) (by omega)])
theorem cBk_10 {Z2 : mjZt} {S2 : mjS} (ho : okS S) (h : cBk Z b S) (e : ∀ f, f ≠ 10 → S2 f = S f) (eT : sT S2 = sT S) (eA : sA S2 = sA S) (eR : sR S2 = sR S) (z : ∀ a, b ≤ a → a < b + 90 → a ≠ b → Z2.1 a = Z.1 a) (zl : ∀ a, b ≤ a → a < b + 90 → Z2.2.1 a = Z.2.1 a) (zf : ∀ f, f ≠ 9 → f ≠ 10 → Z2.1 b f = Z.1 b f) (z9 : Z2.1 b 9 = i3 (S2 10 3)) (z10 : Z2.1 b 10 = i3 (S2 10 4)) : cBk Z2 b S2 := by
  have o1 := ok_sc ho
  obtain ⟨h1, h2, h3, h4, h5, h6, h7, h8, h9, h10, h11, h12, h13, h14⟩ := h
  have eD : ∀ u, sTd S2 u = sTd S u := fun u => by unfold sTd; rw [e 2 (by omega)]
  have eK : ∀ a, a < sA S → sKd S2 a = sKd S a ∧ sTmA S2 a = sTmA S a ∧ sOt S2 a = sOt S a ∧ sTe S2 a = sTe S a ∧ sSz S2 a = sSz S a := fun a ha => by
    unfold sKd sTmA sOt sTe sSz
    rw [eA, if_pos ha, if_pos ha, if_pos ha, if_pos ha, if_pos ha, if_pos ha, if_pos ha, if_pos ha, if_pos ha, if_pos ha, e 4 (by omega), e 5 (by omega), e 6 (by omega), e 3 (by omega)]
    exact ⟨rfl, rfl, rfl, rfl, rfl⟩
  refine ⟨h1, fun k hk => ?_, ?_, ?_, ?_, z9, z10, fun u hu => ?_, fun a ha => ?_, fun i hi => ?_, fun r hr => ?_, fun u hu => ?_, fun j k hj => ?_, ?_⟩
  · rw [zf k (by omega) (by omega), e 0 (by omega)]; exact h2 k hk
  · rw [zf 5 (by omega) (by omega), eT]; exact h3
  · rw [zf 6 (by omega) (by omega), eA]; exact h4
  · rw [zf 8 (by omega) (by omega), eR]; exact h5
  · have hT : tmB b u = b + 18 + 5 * u := rfl
    rw [eT] at hu
    have g := h8 u hu
    unfold tTold sTn sMt at g ⊢
    rw [z _ (by omega) (by omega) (by omega), z (tmB b u + 1) (by omega) (by omega) (by omega), z (tmB b u + 2) (by omega) (by omega) (by omega), z (tmB b u + 3) (by omega) (by omega) (by omega), z (tmB b u + 4) (by omega) (by omega) (by omega), zl _ (by omega) (by omega), eD, e 1 (by omega), e 11 (by omega), e 3 (by omega)]
    exact g
  · have hT : acB b a = b + 48 + a := rfl
    rw [eA] at ha
    have g := h9 a ha
    obtain ⟨k1, k2, k3, k4, k5⟩ := eK a ha
    unfold aRep at g ⊢
    rw [z _ (by omega) (by omega) (by omega), k1, k2, k3, k4, k5]
    exact g
  · rw [zl _ (by omega) (by omega), eA, e 3 (by omega)]; exact h10 i hi
  · rw [eR] at hr
    rw [z _ (by omega) (by omega) (by omega), zl _ (by omega) (by omega), e 7 (by omega), e 12 (by omega)]; exact h11 r hr
  · have hT : tmB b u = b + 18 + 5 * u := rfl
    rw [z _ (by omega) (by omega) (by omega), z _ (by omega) (by omega) (by omega)]; exact h12 u hu
  · rw [z _ (by omega) (by omega) (by omega)]; exact h13 j k hj
  · rw [zl _ (by omega) (by omega)]; exact h14
theorem wv_keep {S2 : mjS} (eA : sA S2 = sA S) (e3 : S2 3 = S 3) (h : ∀ a, a < sA S → S 3 (72 + 3 * a + 2) = 0) : ∀ a, a < sA S2 → S2 3 (72 + 3 * a + 2) = 0 := fun a ha => by rw [e3]; exact h a (by omega)
/-- a scalar told anew: k is 3 (through) or 4 (within) -/
theorem jR_sc (hg : gd X n Zc Zm p) (h2 : rC b Zc S m) (h3 : rM Zm S m) (h4 : okR S m p) {k : Nat} {v : Int} (hk : (k = 3 ∧ 1 ≤ v ∧ v ≤ 6) ∨ (k = 4 ∧ 0 ≤ v ∧ v ≤ 99)) : gd X n (zSi (zSi Zc 182 (k - 1) 1) b (k + 6) (i3 v)) (zSi Zm 211 (k + 22) (i3 v)) p ∧ rC b (zSi (zSi Zc 182 (k - 1) 1) b (k + 6) (i3 v)) (zuS S 10 k v) m ∧ rM (zSi Zm 211 (k + 22) (i3 v)) (zuS S 10 k v) m ∧ okR (zuS S 10 k v) m p := by
  have hb := rC_b h2
  obtain ⟨ho, hoc, hon, hmp, hto, hwv, hlg⟩ := h4
  have e : ∀ f, f ≠ 10 → zuS S 10 k v f = S f := fun f hf => zuS_f hf
  have e10 : ∀ j, j ≠ k → zuS S 10 k v 10 j = S 10 j := fun j hj => zuS_n hj
  have ee : zuS S 10 k v 10 k = v := zuS_e
  have o2 := okS_th ho hk
  generalize zuS S 10 k v = S2 at *
  have eT : sT S2 = sT S := by unfold sT; rw [e10 0 (by omega)]
  have eA : sA S2 = sA S := by unfold sA; rw [e10 1 (by omega)]
  have eR : sR S2 = sR S := by unfold sR; rw [e10 2 (by omega)]
  obtain ⟨c1, c2, c3, c4⟩ := h2
  obtain ⟨r1, ⟨s1, s2, s3, s4, s5, s6⟩, r3⟩ := rM_r h3
  refine ⟨gd_of hg rfl ?_ ?_ rfl ?_ (si_obj _ _ _ _ (by omega)) (fun f _ _ => si_fld _ _ _ _ (by omega)) rfl, ⟨cBk_10 ho c1 e eT eA eR (fun a g1 g2 g3 => ?_) (fun a _ _ => rfl) (fun f g1 g2 => ?_) ?_ ?_, cTr_89 c2 (e 8 (by omega)) (e 9 (by omega)) eR (fun a g1 g2 => ?_), ?_, ?_⟩, ?_, o2, okC_89 hoc (e 8 (by omega)) (e 9 (by omega)) eR, ?_, hmp, fun r q g1 g2 => ?_, wv_keep eA (e 3 (by omega)) hwv, ?_⟩
  · rw [si_obj _ _ _ _ (by omega), si_obj _ _ _ _ (by omega)]
  · rw [si_obj _ _ _ _ (by omega), si_obj _ _ _ _ (by omega)]
  · rw [si_obj _ _ _ _ (by omega), si_fld _ _ _ _ (by omega)]
  · rw [si_obj _ _ _ _ g3, si_obj _ _ _ _ (by omega)]
  · rw [si_fld _ _ _ _ (by omega), si_obj _ _ _ _ (by omega)]
  · rcases hk with ⟨rfl, _⟩ | ⟨rfl, _⟩
    · rw [si_same, ee]
    · rw [si_fld _ _ _ _ (by omega), si_obj _ _ _ _ (by omega), e10 3 (by omega)]; exact b_th c1
  · rcases hk with ⟨rfl, _⟩ | ⟨rfl, _⟩
    · rw [si_fld _ _ _ _ (by omega), si_obj _ _ _ _ (by omega), e10 4 (by omega)]; exact b_wi c1
    · rw [si_same, ee]
  · rw [si_obj _ _ _ _ (by omega), si_obj _ _ _ _ (by omega)]
  · rw [si_obj _ _ _ _ (by omega), si_obj _ _ _ _ (by omega)]; exact c3
  · intro j g1 g2
    rw [si_obj _ _ _ _ (by omega), si_obj _ _ _ _ (by omega), si_obj _ _ _ _ (by omega), si_obj _ _ _ _ (by omega)]
    exact c4 j (by omega) g2
  · refine r_rM ⟨fun f hf j => ?_, fun j => ?_, fun j => ?_⟩ ⟨?_, ?_, ?_, ?_, ?_, ?_⟩ ⟨r3.1, r3.2⟩
    · have := rwO_bd hf
      rw [si_obj _ _ _ _ (by omega), e f (by omega)]; exact r1.1 f hf j
    · rw [e 11 (by omega)]; exact r1.2.1 j
    · rw [e 12 (by omega)]; exact r1.2.2 j
    · rw [si_fld _ _ _ _ (by omega), eT]; exact s1
    · rw [si_fld _ _ _ _ (by omega), eA]; exact s2
    · rw [si_fld _ _ _ _ (by omega), eR]; exact s3
    · rcases hk with ⟨rfl, _⟩ | ⟨rfl, _⟩
      · rw [si_same, ee]
      · rw [si_fld _ _ _ _ (by omega), e10 3 (by omega)]; exact s4
    · rcases hk with ⟨rfl, _⟩ | ⟨rfl, _⟩
      · rw [si_fld _ _ _ _ (by omega), e10 4 (by omega)]; exact s5
      · rw [si_same, ee]
    · rw [si_fld _ _ _ _ (by omega)]; exact s6
  · unfold okN
    rw [eT, eR, e 11 (by omega), e 12 (by omega)]; exact hon
  · rw [(to_89 (e 8 (by omega)) r q).1]; exact hto r q (by omega) g2
  · unfold sLg at hlg ⊢; rw [e 0 (by omega)]; exact hlg
theorem p_through (h : jR X n b Zc Zm S m p t w) (hn : n ≤ 700) (hX : ∀ k, X k ≤ 255) (hs : jS X n p ≠ 0) : lnR X n b (f126_readThrough b Zc) (mjBd (f232_once 0 Zm) fun _ Z141 => mjBd (f213_number 1 6 Z141) fun v143 Z144 => mjLet (zSi Z144 211 25 v143) fun Z145 => some ((), Z145)) Zc Zm p := by
  have h0 := h
  obtain ⟨hg, h2, h3, h4, ⟨f1, f6⟩, f2, f3⟩ := h0
  have hb := rC_b h2
  have hp := jE_bd (X := X) hg.2.2.2.2
  unfold f126_readThrough f232_once
  rw [f1, gdM hg.2.2.2.1, mjBp_some, f3]
  cases t with
  | true =>
    right
    have hh : f197_holds1 (i3 ((if true = true then (1 : Int) else 0) + if w = true then 2 else 0)) 0 Zm = some 1 := by cases w <;> rfl
    obtain ⟨Zc1, Zm1, a1, a2, a3, a4, a5, k, q, k1, k2, k3⟩ := flt hg (k := 6) (by omega)
    have fl2 : fltM (zSi Zm1 211 24 (Zm1.1 211 24 ||| ((1 : Int32) <<< ((0 : Int32) &&& 31)))) k q := fltM_of k3 (si_fld _ _ _ _ (by omega)) (si_fld _ _ _ _ (by omega))
    obtain ⟨k', q', g1, g2, g3, g4⟩ := a3
    refine ⟨Zc1, zSi (zSi Zm1 211 24 (Zm1.1 211 24 ||| ((1 : Int32) <<< ((0 : Int32) &&& 31)))) 211 25 (Zm1.1 211 8), ?_, ?_, ⟨k', q', g1, g2, g3, fltM_of g4 (by rw [si_fld _ _ _ _ (by omega), si_fld _ _ _ _ (by omega)]) (by rw [si_fld _ _ _ _ (by omega), si_fld _ _ _ _ (by omega)])⟩, eqT3_R a4, eqRd_tr (eqGw_R a5) (eqRd_tr (eqRd_si (by omega)) (eqRd_si (by omega)))⟩
    · rw [if_neg (by decide), show (6 : Int32) = i3 6 from rfl, a1, mjBd_some, if_pos (Or.inl rfl)]
    · rw [if_neg (by decide), hh, mjBp_some, if_neg (by decide), show (6 : Int32) = i3 6 from rfl, a2, mjBd_some]
      unfold f232_once_j24
      rw [let_eq, bdM fl2 ⟨k1, k2⟩, mjBp_some, if_pos (by decide), mjBd_some, m213f fl2 ⟨k1, k2⟩, mjBd_some, let_eq, si_fld _ _ _ _ (by omega)]
  | false =>
    have hh : f197_holds1 (i3 ((if false = true then (1 : Int) else 0) + if w = true then 2 else 0)) 0 Zm = some 0 := by cases w <;> rfl
    have hor : Zm.1 211 24 ||| ((1 : Int32) <<< ((0 : Int32) &&& 31)) = i3 ((if true = true then (1 : Int) else 0) + if w = true then 2 else 0) := by rw [f3]; cases w <;> rfl
    generalize hv : (i3 ((if true = true then (1 : Int) else 0) + if w = true then 2 else 0)) = v24 at *
    generalize hZ' : zSi Zm 211 24 v24 = Zm'
    have hg' : gd X n Zc Zm' p := by rw [← hZ']; exact gd_of hg rfl rfl rfl rfl rfl (si_obj _ _ _ _ (by omega)) (fun f _ _ => si_fld _ _ _ _ (by omega)) rfl
    have hm' : rM Zm' S m := by rw [← hZ']; exact rM_of h3 (fun a _ _ _ => ⟨si_obj _ _ _ _ (by omega), rfl⟩) (fun f _ => si_fld _ _ _ _ (by omega))
    have h24 : Zm'.1 211 24 = v24 := by rw [← hZ', si_same]
    have e24 : eqRd Zm Zm' := by rw [← hZ']; exact eqRd_si (by omega)
    obtain ⟨Zc1, Zm1, a1, a2, a3, a4, a5⟩ := nxt hg' hn hX
    have cl : (if mjCmp .eq (bI false) 0 = true then mjBd (f68_advance Zc) fun _ Z104 => mjBd (f116_takeNumber 1 6 Z104) fun v106 Z107 => if mjCmp .ne v106 0 = true then mjLet (zSi Z107 182 2 1) fun Z109 => if mjIs b 211 2 = true then mjLet (zSi Z109 b 9 (Z109.1 182 4)) fun Z111 => some ((1 : Int32), Z111) else none else some (0, Z107) else mjBd (f114_fail 6 Zc) fun v113 Z114 => if v113 = 0 ∨ v113 = 1 then some (v113, Z114) else none) = mjBd (f116_takeNumber (i3 1) (i3 6) Zc1) fun v106 Z107 => if mjCmp .ne v106 0 = true then mjLet (zSi Z107 182 2 1) fun Z109 => if mjIs b 211 2 = true then mjLet (zSi Z109 b 9 (Z109.1 182 4)) fun Z111 => some (1, Z111) else none else some (0, Z107) := by
      rw [if_pos (by decide), a1, mjBd_some]; rfl
    rw [cl, if_neg (by decide), hh, mjBp_some, if_pos (by decide)]
    unfold f232_once_j24
    rw [let_eq, hor, hZ', gdM hg'.2.2.2.1, mjBp_some, if_neg (by decide), a2, mjBd_some, mjBd_some, show (1 : Int32) = i3 1 from rfl, show (6 : Int32) = i3 6 from rfl]
    have hp1 := jE_bd (X := X) a3.2.2.2.2
    rcases p_num a3 hn hX (lo := 1) (hi := 6) (by omega) with ⟨Zc2, Zm2, v, b1, b2, b3, b4, b5, b6, b7, b8, b9, _⟩ | ⟨Zc2, Zm2, v, b1, b2, b3, b4, b5⟩
    · left
      have c2 : rC b Zc2 S m := rC_of h4.1 (rC_of h4.1 h2 (eqT3_B hb (eqT2_3 (eqTk_2 a4)))) (eqT3_B hb (eqT2_3 b8))
      have d2 : rM Zm2 S m := rM_go (rM_go hm' a5) b9
      have ok2 : okR S m (jE X n (jE X n p)) := okR_p h4 (by omega)
      obtain ⟨x1, x2, x3, x4⟩ := jR_sc b6 c2 d2 ok2 (k := 3) (v := v) (by omega)
      have g182 : ∀ f, f ≠ 4 → Zc2.1 182 f = Zc.1 182 f := fun f hf => by rw [b8.2.2 f hf, (a4.2 182 (by omega)).1]
      refine ⟨_, _, _, m, _, true, w, ?_, ?_, ⟨x1, x2, x3, x4, ?_, ?_, ?_⟩, by omega, eqRc_tr (eqTk_R a4) (eqRc_tr (eqT2_R b8) (eqRc_tr (eqRc_si (Or.inl rfl)) (eqRc_si (by unfold rdw; omega)))), eqRd_tr e24 (eqRd_tr (eqGo_R a5) (eqRd_tr (eqGo_R b9) (eqRd_si (by omega))))⟩
      · rw [b1, mjBd_some, if_pos (by decide), let_eq, if_pos (is_b hb), si_fld _ _ _ _ (by omega), b5, let_eq] <;> rfl
      · rw [b2, mjBd_some, let_eq]
      · rw [si_obj _ _ _ _ (by omega)]
        exact ⟨si_same _ _ _ _, by rw [si_fld _ _ _ _ (by omega), g182 6 (by omega)]; exact f6⟩
      · rw [si_obj _ _ _ _ (by omega)]
        rw [si_fld _ _ _ _ (by omega), g182 3 (by omega)]; exact f2
      · rw [si_fld _ _ _ _ (by omega), b9.2.2 24 (by omega), a5.2.2 24 (by omega), h24, ← hv]
    · right
      obtain ⟨k', q', g1, g2, g3, g4⟩ := b3
      refine ⟨Zc2, zSi Zm2 211 25 v, ?_, ?_, ⟨k', q', g1, g2, g3, fltM_of g4 (by rw [si_fld _ _ _ _ (by omega)]) (by rw [si_fld _ _ _ _ (by omega)])⟩, eqRc_tr (eqTk_R a4) (eqT3_R b4), eqRd_tr e24 (eqRd_tr (eqGo_R a5) (eqRd_tr (eqGw_R b5) (eqRd_si (by omega))))⟩
      · rw [b1, mjBd_some, if_neg (by decide)] <;> rfl
      · rw [b2, mjBd_some, let_eq]
theorem p_within (h : jR X n b Zc Zm S m p t w) (hn : n ≤ 700) (hX : ∀ k, X k ≤ 255) (hs : jS X n p ≠ 0) : lnR X n b (f127_readWithin b Zc) (mjBd (f232_once 1 Zm) fun _ Z141 => mjBd (f213_number 0 99 Z141) fun v143 Z144 => mjLet (zSi Z144 211 26 v143) fun Z145 => some ((), Z145)) Zc Zm p := by
  have h0 := h
  obtain ⟨hg, h2, h3, h4, ⟨f1, f6⟩, f2, f3⟩ := h0
  have hb := rC_b h2
  have hp := jE_bd (X := X) hg.2.2.2.2
  unfold f127_readWithin f232_once
  rw [f2, gdM hg.2.2.2.1, mjBp_some, f3]
  cases w with
  | true =>
    right
    have hh : f197_holds1 (i3 ((if t = true then (1 : Int) else 0) + if true = true then 2 else 0)) 1 Zm = some 1 := by cases t <;> rfl
    obtain ⟨Zc1, Zm1, a1, a2, a3, a4, a5, k, q, k1, k2, k3⟩ := flt hg (k := 6) (by omega)
    have fl2 : fltM (zSi Zm1 211 24 (Zm1.1 211 24 ||| ((1 : Int32) <<< ((1 : Int32) &&& 31)))) k q := fltM_of k3 (si_fld _ _ _ _ (by omega)) (si_fld _ _ _ _ (by omega))
    obtain ⟨k', q', g1, g2, g3, g4⟩ := a3
    refine ⟨Zc1, zSi (zSi Zm1 211 24 (Zm1.1 211 24 ||| ((1 : Int32) <<< ((1 : Int32) &&& 31)))) 211 26 (Zm1.1 211 8), ?_, ?_, ⟨k', q', g1, g2, g3, fltM_of g4 (by rw [si_fld _ _ _ _ (by omega), si_fld _ _ _ _ (by omega)]) (by rw [si_fld _ _ _ _ (by omega), si_fld _ _ _ _ (by omega)])⟩, eqT3_R a4, eqRd_tr (eqGw_R a5) (eqRd_tr (eqRd_si (by omega)) (eqRd_si (by omega)))⟩
    · rw [if_neg (by decide), show (6 : Int32) = i3 6 from rfl, a1, mjBd_some, if_pos (Or.inl rfl)]
    · rw [if_neg (by decide), hh, mjBp_some, if_neg (by decide), show (6 : Int32) = i3 6 from rfl, a2, mjBd_some]
      unfold f232_once_j24
      rw [let_eq, bdM fl2 ⟨k1, k2⟩, mjBp_some, if_pos (by decide), mjBd_some, m213f fl2 ⟨k1, k2⟩, mjBd_some, let_eq, si_fld _ _ _ _ (by omega)]
  | false =>
    have hh : f197_holds1 (i3 ((if t = true then (1 : Int) else 0) + if false = true then 2 else 0)) 1 Zm = some 0 := by cases t <;> rfl
    have hor : Zm.1 211 24 ||| ((1 : Int32) <<< ((1 : Int32) &&& 31)) = i3 ((if t = true then (1 : Int) else 0) + if true = true then 2 else 0) := by rw [f3]; cases t <;> rfl
    generalize hv : (i3 ((if t = true then (1 : Int) else 0) + if true = true then 2 else 0)) = v24 at *
    generalize hZ' : zSi Zm 211 24 v24 = Zm'
    have hg' : gd X n Zc Zm' p := by rw [← hZ']; exact gd_of hg rfl rfl rfl rfl rfl (si_obj _ _ _ _ (by omega)) (fun f _ _ => si_fld _ _ _ _ (by omega)) rfl
    have hm' : rM Zm' S m := by rw [← hZ']; exact rM_of h3 (fun a _ _ _ => ⟨si_obj _ _ _ _ (by omega), rfl⟩) (fun f _ => si_fld _ _ _ _ (by omega))
    have h24 : Zm'.1 211 24 = v24 := by rw [← hZ', si_same]
    have e24 : eqRd Zm Zm' := by rw [← hZ']; exact eqRd_si (by omega)
    obtain ⟨Zc1, Zm1, a1, a2, a3, a4, a5⟩ := nxt hg' hn hX
    have cl : (if mjCmp .eq (bI false) 0 = true then mjBd (f68_advance Zc) fun _ Z104 => mjBd (f116_takeNumber 0 99 Z104) fun v106 Z107 => if mjCmp .ne v106 0 = true then mjLet (zSi Z107 182 3 1) fun Z109 => if mjIs b 211 2 = true then mjLet (zSi Z109 b 10 (Z109.1 182 4)) fun Z111 => some ((1 : Int32), Z111) else none else some (0, Z107) else mjBd (f114_fail 6 Zc) fun v113 Z114 => if v113 = 0 ∨ v113 = 1 then some (v113, Z114) else none) = mjBd (f116_takeNumber (i3 0) (i3 99) Zc1) fun v106 Z107 => if mjCmp .ne v106 0 = true then mjLet (zSi Z107 182 3 1) fun Z109 => if mjIs b 211 2 = true then mjLet (zSi Z109 b 10 (Z109.1 182 4)) fun Z111 => some (1, Z111) else none else some (0, Z107) := by
      rw [if_pos (by decide), a1, mjBd_some]; rfl
    rw [cl, if_neg (by decide), hh, mjBp_some, if_pos (by decide)]
    unfold f232_once_j24
    rw [let_eq, hor, hZ', gdM hg'.2.2.2.1, mjBp_some, if_neg (by decide), a2, mjBd_some, mjBd_some, show (0 : Int32) = i3 0 from rfl, show (99 : Int32) = i3 99 from rfl]
    have hp1 := jE_bd (X := X) a3.2.2.2.2
    rcases p_num a3 hn hX (lo := 0) (hi := 99) (by omega) with ⟨Zc2, Zm2, v, b1, b2, b3, b4, b5, b6, b7, b8, b9, _⟩ | ⟨Zc2, Zm2, v, b1, b2, b3, b4, b5⟩
    · left
      have c2 : rC b Zc2 S m := rC_of h4.1 (rC_of h4.1 h2 (eqT3_B hb (eqT2_3 (eqTk_2 a4)))) (eqT3_B hb (eqT2_3 b8))
      have d2 : rM Zm2 S m := rM_go (rM_go hm' a5) b9
      have ok2 : okR S m (jE X n (jE X n p)) := okR_p h4 (by omega)
      obtain ⟨x1, x2, x3, x4⟩ := jR_sc b6 c2 d2 ok2 (k := 4) (v := v) (by omega)
      have g182 : ∀ f, f ≠ 4 → Zc2.1 182 f = Zc.1 182 f := fun f hf => by rw [b8.2.2 f hf, (a4.2 182 (by omega)).1]
      refine ⟨_, _, _, m, _, t, true, ?_, ?_, ⟨x1, x2, x3, x4, ?_, ?_, ?_⟩, by omega, eqRc_tr (eqTk_R a4) (eqRc_tr (eqT2_R b8) (eqRc_tr (eqRc_si (Or.inl rfl)) (eqRc_si (by unfold rdw; omega)))), eqRd_tr e24 (eqRd_tr (eqGo_R a5) (eqRd_tr (eqGo_R b9) (eqRd_si (by omega))))⟩
      · rw [b1, mjBd_some, if_pos (by decide), let_eq, if_pos (is_b hb), si_fld _ _ _ _ (by omega), b5, let_eq] <;> rfl
      · rw [b2, mjBd_some, let_eq]
      · rw [si_obj _ _ _ _ (by omega)]
        exact ⟨by rw [si_fld _ _ _ _ (by omega), g182 2 (by omega)]; exact f1, by rw [si_fld _ _ _ _ (by omega), g182 6 (by omega)]; exact f6⟩
      · rw [si_obj _ _ _ _ (by omega)]
        exact si_same _ _ _ _
      · rw [si_fld _ _ _ _ (by omega), b9.2.2 24 (by omega), a5.2.2 24 (by omega), h24, ← hv]
    · right
      obtain ⟨k', q', g1, g2, g3, g4⟩ := b3
      refine ⟨Zc2, zSi Zm2 211 26 v, ?_, ?_, ⟨k', q', g1, g2, g3, fltM_of g4 (by rw [si_fld _ _ _ _ (by omega)]) (by rw [si_fld _ _ _ _ (by omega)])⟩, eqRc_tr (eqTk_R a4) (eqT3_R b4), eqRd_tr e24 (eqRd_tr (eqGo_R a5) (eqRd_tr (eqGw_R b5) (eqRd_si (by omega))))⟩
      · rw [b1, mjBd_some, if_neg (by decide)] <;> rfl
      · rw [b2, mjBd_some, let_eq]
end LN
