/-! LINES: act -/
section AC2
variable {X : Nat → Nat} {n b : Nat} {Z Zc Zm : mjZt} {S : mjS} {m p : Nat} {t w : Bool}
theorem gK_4 (W : Nat) : gX LK 4 W = if gX LK 5 W = 4 then -1 else gX LK 5 W := by
  unfold gX LK
  simp only [fI, List.getD_cons_zero, List.getD_cons_succ, decide_eq_true_eq]
  split
  · rw [if_neg (by decide)]
  · split
    · rw [if_neg (by decide)]
    · split
      · rw [if_neg (by decide)]
      · split
        · rw [if_neg (by decide)]
        · split
          · rw [if_pos (by decide)]
          · rw [if_neg (by decide)]
theorem kind_here (h : gd X n Zc Zm p) (hn : n ≤ 700) (hX : ∀ k, X k ≤ 255) (hm : rM Zm S m) {N : Nat} (hN : N ≤ 5) (h0 : 0 < N) :
    (∃ k : Nat, k < N ∧ ixT X n p LK N = k ∧ ∃ Zc1 Zm1, f68_advance Zc = some ((), Zc1) ∧ f229_kindHere (i3 N) Zm = some (i3 k, Zm1) ∧ gd X n Zc1 Zm1 (jE X n p) ∧ p < jE X n p ∧ eqTk Zc Zc1 ∧ eqGo Zm Zm1) ∨
    (ixT X n p LK N = -1 ∧ ∃ Zc1 Zm1 v, f114_fail (i3 2) Zc = some (0, Zc1) ∧ f229_kindHere (i3 N) Zm = some (v, Zm1) ∧ bd Zc1 Zm1 ∧ eqT3 Zc Zc1 ∧ eqGw Zm Zm1) := by
  have W := jN_nm (n := n) hX (p := p)
  have l63 := nm_63 W.1
  have h13 := h.2.1.2.2.2.2.2
  have h7 := h.2.1.2.2.2.1
  have sb : jS X n p ≤ 4 := by have := kd_spec (X := X) (n := n) (p := p); omega
  have kf := (rM_r hm).2.2
  have b1 := ixT_bd (X := X) (n := n) (p := p) (L := LK) (N := N)
  have e : f229_kindHere (i3 N) Zm = f229_kindHere_j24 (i3 (ixT X n p LK N)) Zm := by
    unfold f229_kindHere ixT
    rw [h7, show (1 : Int32) = i3 1 from rfl]
    by_cases g : jS X n p = 1
    · rw [if_neg (by rw [c_ne (by omega)]; omega), h13, m210K kf hN l63, mjBp_some, if_pos g]
    · rw [if_pos (by rw [c_ne (by omega)]; omega), if_neg g]; rfl
  rw [e]
  by_cases q : ixT X n p LK N = -1
  · right
    obtain ⟨Zc1, Zm1, a1, a2, a3, a4, a5, k, q2, k1, k2, k3⟩ := flt h (k := 2) (by omega)
    refine ⟨q, Zc1, Zm1, i3 (-1), a1, ?_, a3, a4, a5⟩
    unfold f229_kindHere_j24
    rw [gdM h.2.2.2.1, mjBp_some, if_neg (by decide), q, if_neg (by decide), show (2 : Int32) = i3 2 from rfl, a2, mjBd_some, bdM k3 ⟨k1, k2⟩, mjBp_some, if_pos (by decide)]
  · left
    obtain ⟨Zc1, Zm1, a1, a2, a3, a4, a5⟩ := nxt h hn hX
    have s1 : jS X n p = 1 := by
      by_cases g : jS X n p = 1
      · exact g
      · unfold ixT at q; rw [if_neg g] at q; exact absurd rfl q
    refine ⟨(ixT X n p LK N).toNat, by omega, by omega, Zc1, Zm1, a1, ?_, a3, (jE_bd h.2.2.2.2).2.2.2 (by omega), a4, a5⟩
    unfold f229_kindHere_j24
    rw [gdM h.2.2.2.1, mjBp_some, if_neg (by decide), show (-1 : Int32) = i3 (-1) from rfl, if_pos (by rw [c_ne (by omega)]; omega), if_neg (by decide), a2, mjBd_some, Int.toNat_of_nonneg (by omega)]
/-- an act more -/
theorem okS_act {kd tm : Nat} {ot te sz : Int} (ho : okS S) (hA : sA S < 12) (h4 : kd < 4) (h5 : tm < sT S) (h6 : (kd = 3 ∧ 0 ≤ ot ∧ ot.toNat < sT S ∧ ot ≠ tm) ∨ (kd ≠ 3 ∧ ot = -1)) (h7 : 0 ≤ te ∧ te ≤ 9999) (h8 : 0 ≤ sz ∧ sz ≤ 99) {S2 : mjS} (e : ∀ f, f ≠ 3 → f ≠ 4 → f ≠ 5 → f ≠ 6 → f ≠ 10 → S2 f = S f) (e4 : ∀ k, k ≠ sA S → S2 4 k = S 4 k ∧ S2 5 k = S 5 k ∧ S2 6 k = S 6 k) (f4 : S2 4 (sA S) = kd ∧ S2 5 (sA S) = tm ∧ S2 6 (sA S) = ot) (e3 : ∀ k, k ≠ 72 + 3 * sA S → k ≠ 72 + 3 * sA S + 1 → k ≠ 72 + 3 * sA S + 2 → S2 3 k = S 3 k) (f3 : S2 3 (72 + 3 * sA S) = te ∧ S2 3 (72 + 3 * sA S + 1) = sz ∧ S2 3 (72 + 3 * sA S + 2) = 0) (f10 : S2 10 1 = ((sA S + 1 : Nat) : Int)) (e10 : ∀ k, k ≠ 1 → S2 10 k = S 10 k) : okS S2 := by
  have eT : sT S2 = sT S := by unfold sT; rw [e10 0 (by omega)]
  have eA : sA S2 = sA S + 1 := by
    have : sA S2 = (S2 10 1).toNat := rfl
    rw [this, f10, Int.toNat_natCast]
  have eR : sR S2 = sR S := by unfold sR; rw [e10 2 (by omega)]
  have eL : sLg S2 = sLg S := by unfold sLg; rw [e 0 (by omega) (by omega) (by omega) (by omega) (by omega)]
  have eD : ∀ u, sTd S2 u = sTd S u := fun u => by unfold sTd; rw [e 2 (by omega) (by omega) (by omega) (by omega) (by omega)]
  obtain ⟨o1, o2, o3, o4, o5, o6, o7, o8, o9⟩ := ho
  unfold okS
  rw [eT, eA, eR, eL, e 0 (by omega) (by omega) (by omega) (by omega) (by omega), e 2 (by omega) (by omega) (by omega) (by omega) (by omega), e 7 (by omega) (by omega) (by omega) (by omega) (by omega)]
  unfold sTh sWi sLn at *
  rw [e10 3 (by omega), e10 4 (by omega), e 1 (by omega) (by omega) (by omega) (by omega) (by omega)]
  simp only [eD]
  refine ⟨⟨o1.1, by omega, o1.2.2⟩, o2, o3, o4, o5, o6, fun u l hu hl => ?_, fun a ha => ?_, o9⟩
  · have := (o5 u hu).2.2.1
    unfold sTn sMt at *
    rw [e3 _ (by omega) (by omega) (by omega), e3 _ (by omega) (by omega) (by omega)]; exact o7 u l hu hl
  · by_cases q : a = sA S
    · subst q
      rw [f4.1, f4.2.1, f4.2.2, f3.1, f3.2.1, f3.2.2]
      refine ⟨by omega, by omega, by omega, by rw [Int.toNat_natCast]; exact h5, fun g => ?_, fun g => ?_, h7.1, h7.2, h8.1, h8.2, Or.inl rfl⟩
      · rcases h6 with ⟨_, g1, g2, g3⟩ | ⟨g1, _⟩
        · exact ⟨g1, g2, g3⟩
        · omega
      · rcases h6 with ⟨g1, _⟩ | ⟨_, g1⟩
        · omega
        · exact g1
    · obtain ⟨x1, x2, x3⟩ := e4 a q
      rw [x1, x2, x3, e3 _ (by omega) (by omega) (by omega), e3 _ (by omega) (by omega) (by omega), e3 _ (by omega) (by omega) (by omega)]
      exact o8 a (by omega)
theorem cBk_act {kd tm : Nat} {ot te sz : Int} {Z2 : mjZt} (h : cBk Z b S) (ho : okS S) (hA : sA S < 12) {S2 : mjS} (e : ∀ f, f ≠ 3 → f ≠ 4 → f ≠ 5 → f ≠ 6 → f ≠ 10 → S2 f = S f) (e4 : ∀ k, k ≠ sA S → S2 4 k = S 4 k ∧ S2 5 k = S 5 k ∧ S2 6 k = S 6 k) (f4 : S2 4 (sA S) = kd ∧ S2 5 (sA S) = tm ∧ S2 6 (sA S) = ot) (e3 : ∀ k, k ≠ 72 + 3 * sA S → k ≠ 72 + 3 * sA S + 1 → k ≠ 72 + 3 * sA S + 2 → S2 3 k = S 3 k) (f3 : S2 3 (72 + 3 * sA S) = te ∧ S2 3 (72 + 3 * sA S + 1) = sz ∧ S2 3 (72 + 3 * sA S + 2) = 0) (f10 : S2 10 1 = ((sA S + 1 : Nat) : Int)) (e10 : ∀ k, k ≠ 1 → S2 10 k = S 10 k)
    (z : ∀ a, b ≤ a → a < b + 90 → a ≠ b → a ≠ acB b (sA S) → Z2.1 a = Z.1 a) (zl : ∀ a, b ≤ a → a < b + 90 → Z2.2.1 a = Z.2.1 a) (zf : ∀ f, f ≠ 6 → Z2.1 b f = Z.1 b f) (z6 : Z2.1 b 6 = i3 ((sA S + 1 : Nat) : Int)) (y0 : Z2.1 (acB b (sA S)) 0 = i3 kd) (y1 : Z2.1 (acB b (sA S)) 1 = i3 tm) (y2 : Z2.1 (acB b (sA S)) 2 = i3 ot) (y3 : Z2.1 (acB b (sA S)) 3 = i3 te) (y4 : Z2.1 (acB b (sA S)) 4 = i3 sz) : cBk Z2 b S2 := by
  have o1 := ok_sc ho
  have eT : sT S2 = sT S := by unfold sT; rw [e10 0 (by omega)]
  have eA : sA S2 = sA S + 1 := by
    have : sA S2 = (S2 10 1).toNat := rfl
    rw [this, f10, Int.toNat_natCast]
  have eR : sR S2 = sR S := by unfold sR; rw [e10 2 (by omega)]
  have eD : ∀ u, sTd S2 u = sTd S u := fun u => by unfold sTd; rw [e 2 (by omega) (by omega) (by omega) (by omega) (by omega)]
  have aB : ∀ a, acB b a = b + 48 + a := fun a => rfl
  have aBA := aB (sA S)
  have tdb := fun v (hv : v < sT S) => (ok_tm ho hv).2.2.1
  obtain ⟨h1, h2, h3, h4, h5, h6, h7, h8, h9, h10, h11, h12, h13, h14⟩ := h
  refine ⟨h1, fun k hk => ?_, ?_, by rw [z6, eA], ?_, ?_, ?_, fun v hv => ?_, fun a ha => ?_, fun i hi => ?_, fun r hr => ?_, fun v hv => ?_, fun j k hj => ?_, ?_⟩
  · rw [zf k (by omega), e 0 (by omega) (by omega) (by omega) (by omega) (by omega)]; exact h2 k hk
  · rw [zf 5 (by omega), eT]; exact h3
  · rw [zf 8 (by omega), eR]; exact h5
  · rw [zf 9 (by omega), e10 3 (by omega)]; exact h6
  · rw [zf 10 (by omega), e10 4 (by omega)]; exact h7
  · have tv : tmB b v = b + 18 + 5 * v := rfl
    rw [eT] at hv
    have g := h8 v hv
    have g2 := tdb v hv
    unfold tTold sTn sMt at g ⊢
    obtain ⟨k1, k2, k3, k4, k5, k6⟩ := g
    rw [z (tmB b v) (by omega) (by omega) (by omega) (by omega), z (tmB b v + 1) (by omega) (by omega) (by omega) (by omega), z (tmB b v + 2) (by omega) (by omega) (by omega) (by omega), z (tmB b v + 3) (by omega) (by omega) (by omega) (by omega), z (tmB b v + 4) (by omega) (by omega) (by omega) (by omega), zl _ (by omega) (by omega), eD v, e 1 (by omega) (by omega) (by omega) (by omega) (by omega), e 11 (by omega) (by omega) (by omega) (by omega) (by omega)]
    refine ⟨k1, k2, k3, fun l hl2 => ?_, k5, k6⟩
    rw [e3 _ (by omega) (by omega) (by omega), e3 _ (by omega) (by omega) (by omega)]; exact k4 l hl2
  · have aBa := aB a
    rw [eA] at ha
    unfold aRep sKd sTmA sOt sTe sSz
    rw [eA, if_pos ha, if_pos ha, if_pos ha, if_pos ha, if_pos ha]
    by_cases q : a = sA S
    · subst q
      rw [f4.1, f4.2.1, f4.2.2, f3.1, f3.2.1, Int.toNat_natCast]
      exact ⟨y0, y1, y2, y3, y4⟩
    · have ha2 : a < sA S := by omega
      have g := h9 a ha2
      unfold aRep sKd sTmA sOt sTe sSz at g
      rw [if_pos ha2, if_pos ha2, if_pos ha2, if_pos ha2, if_pos ha2] at g
      obtain ⟨x1, x2, x3⟩ := e4 a q
      rw [z _ (by omega) (by omega) (by omega) (by omega), x1, x2, x3, e3 _ (by omega) (by omega) (by omega), e3 _ (by omega) (by omega) (by omega)]
      exact g
  · rw [zl _ (by omega) (by omega), eA, h10 i hi]
    by_cases q : i = sA S
    · subst q
      rw [decide_eq_false (by omega), decide_eq_false (by omega)]
    · by_cases q2 : i < sA S
      · rw [e3 _ (by omega) (by omega) (by omega)]
        exact decide_eq_decide.mpr ⟨fun g => ⟨by omega, g.2⟩, fun g => ⟨q2, g.2⟩⟩
      · rw [decide_eq_false (by omega), decide_eq_false (by omega)]
  · rw [eR] at hr
    rw [z _ (by omega) (by omega) (by omega) (by omega), zl _ (by omega) (by omega), e 7 (by omega) (by omega) (by omega) (by omega) (by omega), e 12 (by omega) (by omega) (by omega) (by omega) (by omega)]; exact h11 r hr
  · have tv : tmB b v = b + 18 + 5 * v := rfl
    rw [z _ (by omega) (by omega) (by omega) (by omega), z _ (by omega) (by omega) (by omega) (by omega)]; exact h12 v hv
  · rw [z _ (by omega) (by omega) (by omega) (by omega)]; exact h13 j k hj
  · rw [zl _ (by omega) (by omega)]; exact h14
theorem e28 (hb : b = 2 ∨ b = 92) {A : Nat} (hA : A < 42) (h6 : Z.1 b 6 = i3 A) (k tm o te sz : Int32) : f28_addAct b k tm o te sz Z = some ((), zSi (zSi (zSi (zSi (zSi (zSi Z (acB b A) 0 k) (acB b A) 1 tm) (acB b A) 2 o) (acB b A) 3 te) (acB b A) 4 sz) b 6 (i3 ((A + 1 : Nat) : Int))) := by
  have aB : acB b A = b + 48 + A := rfl
  unfold f28_addAct f1_tell
  rw [if_pos (is_b hb), h6, e6 hb hA, mjBp_some, if_pos (is_ac hb A hA), if_pos (is_ac hb A hA), let_eq, let_eq, let_eq, let_eq, let_eq, mjBd_some, si_obj _ _ _ _ (by omega), si_obj _ _ _ _ (by omega), si_obj _ _ _ _ (by omega), si_obj _ _ _ _ (by omega), si_obj _ _ _ _ (by omega), h6, i3_s, let_eq]
theorem ac_end {Zc3 Zm3 : mjZt} {p3 kd tm : Nat} {ot te sz : Int} (hg : gd X n Zc3 Zm3 p3) (h2 : rC b Zc3 S m) (h3 : rM Zm3 S m) (h4 : okR S m p3) (hf : fgR Zc3 Zm3 t w) (hA : sA S < 12) (k4 : kd < 4) (k5 : tm < sT S) (k6 : (kd = 3 ∧ 0 ≤ ot ∧ ot.toNat < sT S ∧ ot ≠ tm) ∨ (kd ≠ 3 ∧ ot = -1)) (k7 : 0 ≤ te ∧ te ≤ 9999) (k8 : 0 ≤ sz ∧ sz ≤ 99) :
    ∃ S2, jR X n b (zSi (zSi (zSi (zSi (zSi (zSi Zc3 (acB b (sA S)) 0 (i3 kd)) (acB b (sA S)) 1 (i3 tm)) (acB b (sA S)) 2 (i3 ot)) (acB b (sA S)) 3 (i3 te)) (acB b (sA S)) 4 (i3 sz)) b 6 (i3 ((sA S + 1 : Nat) : Int)))
      (zSi (zSi (zSi (zSi (zSi (zSi (zSi Zm3 222 (sA S) (i3 kd)) 223 (sA S) (i3 tm)) 224 (sA S) (i3 ot)) 221 (72 + 3 * sA S) (i3 te)) 221 (72 + 3 * sA S + 1) (i3 sz)) 221 (72 + 3 * sA S + 2) (i3 0)) 211 22 (i3 ((sA S + 1 : Nat) : Int))) S2 m p3 t w := by
  have hb := rC_b h2
  obtain ⟨ho, hoc, hon, hmp, hto, hwv, hlg⟩ := h4
  obtain ⟨c31, c32, c33, c34⟩ := h2
  obtain ⟨r1, ⟨s1, s2, s3, s4, s5, s6⟩, r3⟩ := rM_r h3
  have o1 := ok_sc ho
  have aB : acB b (sA S) = b + 48 + sA S := rfl
  obtain ⟨S2, hS2⟩ : ∃ S2, S2 = zuS (zuS (zuS (zuS (zuS (zuS (zuS S 4 (sA S) kd) 5 (sA S) tm) 6 (sA S) ot) 3 (72 + 3 * sA S) te) 3 (72 + 3 * sA S + 1) sz) 3 (72 + 3 * sA S + 2) 0) 10 1 ((sA S + 1 : Nat) : Int) := ⟨_, rfl⟩
  have e : ∀ f, f ≠ 3 → f ≠ 4 → f ≠ 5 → f ≠ 6 → f ≠ 10 → S2 f = S f := fun f g1 g2 g3 g4 g5 => by rw [hS2, zuS_f g5, zuS_f g1, zuS_f g1, zuS_f g1, zuS_f g4, zuS_f g3, zuS_f g2]
  have e4 : ∀ k, k ≠ sA S → S2 4 k = S 4 k ∧ S2 5 k = S 5 k ∧ S2 6 k = S 6 k := fun k hk => by
    refine ⟨?_, ?_, ?_⟩
    · rw [hS2, zuS_f (by omega), zuS_f (by omega), zuS_f (by omega), zuS_f (by omega), zuS_f (by omega), zuS_f (by omega), zuS_n hk]
    · rw [hS2, zuS_f (by omega), zuS_f (by omega), zuS_f (by omega), zuS_f (by omega), zuS_f (by omega), zuS_n hk, zuS_f (by omega)]
    · rw [hS2, zuS_f (by omega), zuS_f (by omega), zuS_f (by omega), zuS_f (by omega), zuS_n hk, zuS_f (by omega), zuS_f (by omega)]
  have f4 : S2 4 (sA S) = kd ∧ S2 5 (sA S) = tm ∧ S2 6 (sA S) = ot := by
    refine ⟨?_, ?_, ?_⟩
    · rw [hS2, zuS_f (by omega), zuS_f (by omega), zuS_f (by omega), zuS_f (by omega), zuS_f (by omega), zuS_f (by omega), zuS_e]
    · rw [hS2, zuS_f (by omega), zuS_f (by omega), zuS_f (by omega), zuS_f (by omega), zuS_f (by omega), zuS_e]
    · rw [hS2, zuS_f (by omega), zuS_f (by omega), zuS_f (by omega), zuS_f (by omega), zuS_e]
  have e3 : ∀ k, k ≠ 72 + 3 * sA S → k ≠ 72 + 3 * sA S + 1 → k ≠ 72 + 3 * sA S + 2 → S2 3 k = S 3 k := fun k g1 g2 g3 => by rw [hS2, zuS_f (by omega), zuS_n g3, zuS_n g2, zuS_n g1, zuS_f (by omega), zuS_f (by omega), zuS_f (by omega)]
  have f3 : S2 3 (72 + 3 * sA S) = te ∧ S2 3 (72 + 3 * sA S + 1) = sz ∧ S2 3 (72 + 3 * sA S + 2) = 0 := by
    refine ⟨?_, ?_, ?_⟩
    · rw [hS2, zuS_f (by omega), zuS_n (by omega), zuS_n (by omega), zuS_e]
    · rw [hS2, zuS_f (by omega), zuS_n (by omega), zuS_e]
    · rw [hS2, zuS_f (by omega), zuS_e]
  have f10 : S2 10 1 = ((sA S + 1 : Nat) : Int) := by rw [hS2, zuS_e]
  have e10 : ∀ k, k ≠ 1 → S2 10 k = S 10 k := fun k hk => by rw [hS2, zuS_n hk, zuS_f (by omega), zuS_f (by omega), zuS_f (by omega), zuS_f (by omega), zuS_f (by omega), zuS_f (by omega)]
  have e8 := e 8 (by omega) (by omega) (by omega) (by omega) (by omega)
  have e9' := e 9 (by omega) (by omega) (by omega) (by omega) (by omega)
  have eT : sT S2 = sT S := by unfold sT; rw [e10 0 (by omega)]
  have eA : sA S2 = sA S + 1 := by
    have : sA S2 = (S2 10 1).toNat := rfl
    rw [this, f10, Int.toNat_natCast]
  have eR : sR S2 = sR S := by unfold sR; rw [e10 2 (by omega)]
  have rows : rwR (zSi (zSi (zSi (zSi (zSi (zSi (zSi Zm3 222 (sA S) (i3 kd)) 223 (sA S) (i3 tm)) 224 (sA S) (i3 ot)) 221 (72 + 3 * sA S) (i3 te)) 221 (72 + 3 * sA S + 1) (i3 sz)) 221 (72 + 3 * sA S + 2) (i3 0)) 211 22 (i3 ((sA S + 1 : Nat) : Int))) S2 := by
    rw [hS2]
    exact rwR_10 (rwR_of (rwR_si (f := 3) (by omega) rfl (rwR_si (f := 3) (by omega) rfl (rwR_si (f := 3) (by omega) rfl (rwR_si (f := 6) (by omega) rfl (rwR_si (f := 5) (by omega) rfl (rwR_si (f := 4) (by omega) rfl r1)))))) (fun a g => ⟨si_obj _ _ _ _ (by omega), rfl⟩))
  have cs : ∀ a, a ≠ acB b (sA S) → a ≠ b → (zSi (zSi (zSi (zSi (zSi (zSi Zc3 (acB b (sA S)) 0 (i3 kd)) (acB b (sA S)) 1 (i3 tm)) (acB b (sA S)) 2 (i3 ot)) (acB b (sA S)) 3 (i3 te)) (acB b (sA S)) 4 (i3 sz)) b 6 (i3 ((sA S + 1 : Nat) : Int))).1 a = Zc3.1 a := fun a g1 g2 => by rw [si_obj _ _ _ _ g2, si_obj _ _ _ _ g1, si_obj _ _ _ _ g1, si_obj _ _ _ _ g1, si_obj _ _ _ _ g1, si_obj _ _ _ _ g1]
  have ms : ∀ f, f ≠ 22 → (zSi (zSi (zSi (zSi (zSi (zSi (zSi Zm3 222 (sA S) (i3 kd)) 223 (sA S) (i3 tm)) 224 (sA S) (i3 ot)) 221 (72 + 3 * sA S) (i3 te)) 221 (72 + 3 * sA S + 1) (i3 sz)) 221 (72 + 3 * sA S + 2) (i3 0)) 211 22 (i3 ((sA S + 1 : Nat) : Int))).1 211 f = Zm3.1 211 f := fun f hf => by rw [si_fld _ _ _ _ (by omega), si_obj _ _ _ _ (by omega), si_obj _ _ _ _ (by omega), si_obj _ _ _ _ (by omega), si_obj _ _ _ _ (by omega), si_obj _ _ _ _ (by omega), si_obj _ _ _ _ (by omega)]
  refine ⟨S2, gd_of hg rfl (cs 1 (by omega) (by omega)) (cs 183 (by omega) (by omega)) rfl (by rw [cs 182 (by omega) (by omega)]) (by rw [si_obj _ _ _ _ (by omega), si_obj _ _ _ _ (by omega), si_obj _ _ _ _ (by omega), si_obj _ _ _ _ (by omega), si_obj _ _ _ _ (by omega), si_obj _ _ _ _ (by omega), si_obj _ _ _ _ (by omega)]) (fun f _ _ => ms f (by omega)) rfl, ⟨?_, cTr_89 c32 e8 e9' eR (fun a g1 g2 => cs a (by omega) (by omega)), by rw [cs (b + 1) (by omega) (by omega)]; exact c33, fun k g1 g2 => ?_⟩, r_rM rows ⟨by rw [ms _ (by omega), eT]; exact s1, by rw [si_same, eA], by rw [ms _ (by omega), eR]; exact s3, by rw [ms _ (by omega), e10 3 (by omega)]; exact s4, by rw [ms _ (by omega), e10 4 (by omega)]; exact s5, by rw [ms _ (by omega)]; exact s6⟩ ⟨r3.1, r3.2⟩, ⟨okS_act (kd := kd) (tm := tm) ho hA k4 k5 k6 k7 k8 e e4 f4 e3 f3 f10 e10, okC_89 hoc e8 e9' eR, ?_, hmp, fun r q g1 g2 => ?_, fun a ha => ?_, ?_⟩, by rw [cs 182 (by omega) (by omega)]; exact hf.1, by rw [cs 182 (by omega) (by omega)]; exact hf.2.1, by rw [ms _ (by omega)]; exact hf.2.2⟩
  · refine cBk_act (kd := kd) (tm := tm) (ot := ot) (te := te) (sz := sz) c31 ho hA e e4 f4 e3 f3 f10 e10 (fun a g1 g2 g3 g4 => cs a g4 g3) (fun a _ _ => rfl) (fun f g => ?_) ?_ ?_ ?_ ?_ ?_ ?_
    · rw [si_fld _ _ _ _ (by omega), si_obj _ _ _ _ (by omega), si_obj _ _ _ _ (by omega), si_obj _ _ _ _ (by omega), si_obj _ _ _ _ (by omega), si_obj _ _ _ _ (by omega)]
    · rw [si_same]
    · rw [si_obj _ _ _ _ (by omega), si_fld _ _ _ _ (by omega), si_fld _ _ _ _ (by omega), si_fld _ _ _ _ (by omega), si_fld _ _ _ _ (by omega), si_same]
    · rw [si_obj _ _ _ _ (by omega), si_fld _ _ _ _ (by omega), si_fld _ _ _ _ (by omega), si_fld _ _ _ _ (by omega), si_same]
    · rw [si_obj _ _ _ _ (by omega), si_fld _ _ _ _ (by omega), si_fld _ _ _ _ (by omega), si_same]
    · rw [si_obj _ _ _ _ (by omega), si_fld _ _ _ _ (by omega), si_same]
    · rw [si_obj _ _ _ _ (by omega), si_same]
  · rw [cs _ (by omega) (by omega), cs _ (by omega) (by omega)]
    exact c34 k (by omega) g2
  · unfold okN
    rw [eT, eR, e 11 (by omega) (by omega) (by omega) (by omega) (by omega), e 12 (by omega) (by omega) (by omega) (by omega) (by omega)]; exact hon
  · rw [(to_89 e8 r q).1]; exact hto r q (by omega) g2
  · rw [eA] at ha
    by_cases q : a = sA S
    · subst q; exact f3.2.2
    · rw [e3 _ (by omega) (by omega) (by omega)]; exact hwv a (by omega)
  · unfold sLg at hlg ⊢; rw [e 0 (by omega) (by omega) (by omega) (by omega) (by omega)]; exact hlg
end AC2
