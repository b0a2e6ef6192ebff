/-! LINES: a team that must be there; runs -/
section RU2
variable {X : Nat → Nat} {n b : Nat} {Z Zc Zm : mjZt} {S : mjS} {m p : Nat} {t w : Bool}
/-- the model's look at a team -/
theorem tm_here (h : gd X n Zc Zm p) (hX : ∀ k, X k ≤ 255) (hm : rM Zm S m) (ho : okS S) (hon : okN S) :
    (∃ u : Nat, u < sT S ∧ isNm X n p = true ∧ tmN S (jN X n p) = u ∧ f226_teamHere Zm = some (i3 u, Zm)) ∨
    (∃ j : Int, ((j = 2 ∧ isNm X n p = false) ∨ (j = 3 ∧ isNm X n p = true ∧ tmN S (jN X n p) = -1)) ∧ ∃ Zc1 Zm1 v, f114_fail (i3 j) Zc = some (0, Zc1) ∧ f226_teamHere Zm = some (v, Zm1) ∧ bd Zc1 Zm1 ∧ eqT3 Zc Zc1 ∧ eqGw Zm Zm1) := by
  have W := jN_nm (n := n) hX (p := p)
  have l63 := nm_63 W.1
  have h13 := h.2.1.2.2.2.2.2
  have h7 := h.2.1.2.2.2.1
  have sb : jS X n p ≤ 4 := by have := kd_spec (X := X) (n := n) (p := p); omega
  have kf := (rM_r hm).2.2
  have bT := fI_bd (fun k => decide ((S 11 k).toNat = jN X n p)) (sT S) 0
  have o1 := ok_sc ho
  cases q : isNm X n p with
  | false =>
    right
    obtain ⟨Zc1, Zm1, a1, a2, a3, a4, a5, k2, q2, k3, k4, k5⟩ := flt h (k := 2) (by omega)
    obtain ⟨v, hv⟩ := amT (rM_gw hm a5) ho (Zm1.2.1 211 13)
    refine ⟨2, Or.inl ⟨rfl, rfl⟩, Zc1, Zm1, v, a1, ?_, a3, a4, a5⟩
    have fin : f226_teamHere_j22 Zm = some (v, Zm1) := by
      unfold f226_teamHere_j22 f226_teamHere_j27
      rw [show (2 : Int32) = i3 2 from rfl, a2, mjBd_some, hv, mjBp_some, bdM k5 ⟨k3, k4⟩, mjBp_some, if_pos (by decide)]
    unfold f226_teamHere
    rw [gdM h.2.2.2.1, mjBp_some, if_neg (by decide), h7, show (1 : Int32) = i3 1 from rfl, m211 kf l63 h13, mjBp_some]
    unfold isNm at q
    by_cases g : jS X n p = 1
    · rw [decide_eq_true g, Bool.true_and] at q
      have g2 : kpB (jN X n p) = true := by
        cases e : kpB (jN X n p) with
        | true => rfl
        | false => rw [e] at q; cases q
      rw [if_neg (by rw [c_ne (by omega)]; omega), g2, if_neg (by decide)]; exact fin
    · rw [if_pos (by rw [c_ne (by omega)]; omega)]; exact fin
  | true =>
    obtain ⟨g1, g2⟩ := c_name h.1 q
    have g3 : kpB (jN X n p) = false := by
      unfold isNm at q
      rw [decide_eq_true g1, Bool.true_and] at q
      cases e : kpB (jN X n p) with
      | false => rfl
      | true => rw [e] at q; cases q
    have e1 : f226_teamHere Zm = f226_teamHere_j27 Zm := by
      unfold f226_teamHere
      rw [gdM h.2.2.2.1, mjBp_some, if_neg (by decide), h7, show (1 : Int32) = i3 1 from rfl, if_neg (by rw [c_ne (by omega)]; omega), m211 kf l63 h13, mjBp_some, g3, if_pos (by decide)]
    have e2 : f226_teamHere Zm = if mjCmp .ne (i3 (tmN S (jN X n p))) (i3 (-1)) = true then some (i3 (tmN S (jN X n p)), Zm) else mjBd (f206_wrong (i3 3) Zm) fun _ Z115 => some (i3 (tmN S (jN X n p)), Z115) := by
      rw [e1]
      unfold f226_teamHere_j27
      rw [h13, m210T hm ho hon l63, mjBp_some, gdM h.2.2.2.1, mjBp_some, if_neg (by decide)]
      rfl
    rw [e2]
    by_cases q1 : tmN S (jN X n p) = -1
    · right
      obtain ⟨Zc1, Zm1, a1, a2, a3, a4, a5, k2, q2, k3, k4, k5⟩ := flt h (k := 3) (by omega)
      refine ⟨3, Or.inr ⟨rfl, rfl, q1⟩, Zc1, Zm1, i3 (tmN S (jN X n p)), a1, ?_, a3, a4, a5⟩
      rw [if_neg (by unfold tmN at *; rw [c_ne (by omega)]; omega), a2, mjBd_some]
    · left
      unfold tmN at *
      refine ⟨(fI (fun k => decide ((S 11 k).toNat = jN X n p)) (sT S) 0).toNat, by omega, rfl, by omega, ?_⟩
      rw [if_pos (by rw [c_ne (by omega)]; omega), Int.toNat_of_nonneg (by omega)]
/-- the class's takeTeam -/
theorem e121 (h : tkC X n Zc p) (hX : ∀ k, X k ≤ 255) (hc : cBk Zc b S) (ho : okS S) (hon : okN S) (nt : Int32) : f121_takeTeam b nt Zc = if isNm X n p = true then (if tmN S (jN X n p) = -1 then mjBd (f114_fail (i3 3) Zc) fun _ Z112 => some (i3 (-1), Z112) else if mjCmp .ne (i3 (tmN S (jN X n p))) nt = true then mjBd (f68_advance Zc) fun _ Z116 => some (i3 (tmN S (jN X n p)), Z116) else mjBd (f114_fail (i3 3) Zc) fun _ Z119 => some (i3 (-1), Z119)) else mjBd (f114_fail (i3 2) Zc) fun _ Z122 => some (i3 (-1), Z122) := by
  have o1 := ok_sc ho
  have bT := fI_bd (fun k => decide ((S 11 k).toNat = jN X n p)) (sT S) 0
  unfold f121_takeTeam
  rw [e119 h hX, mjBp_some]
  cases q : isNm X n p with
  | false => rw [if_neg (by decide), if_neg (by decide)]; rfl
  | true =>
    obtain ⟨g1, g2⟩ := c_name h q
    rw [if_pos (by decide), if_pos (is_b (b_b hc)), g2, e25 hc ho hon (jN_nm (n := n) hX).1, mjBp_some, if_pos rfl, show (-1 : Int32) = i3 (-1) from rfl]
    by_cases q1 : tmN S (jN X n p) = -1
    · rw [if_pos (by unfold tmN at *; rw [c_eq (by omega)]; omega), if_pos q1]; rfl
    · rw [if_neg (by unfold tmN at *; rw [c_eq (by omega)]; omega), if_neg q1]; rfl
/-- a leg more -/
theorem okS_leg {u : Nat} {x y : Int} (ho : okS S) (hu : u < sT S) (hl : sTd S u < sLg S) (hx : 20 ≤ x ∧ x ≤ 999) (hy : -20 ≤ y ∧ y ≤ 20) (hz : sTd S u + 1 = sLg S → y = 0) {S2 : mjS} (e : ∀ f, f ≠ 2 → f ≠ 3 → S2 f = S f) (e2 : ∀ k, k ≠ u → S2 2 k = S 2 k) (f2 : S2 2 u = ((sTd S u + 1 : Nat) : Int)) (e3 : ∀ k, k ≠ 12 * u + 2 * sTd S u → k ≠ 12 * u + 2 * sTd S u + 1 → S2 3 k = S 3 k) (f3 : S2 3 (12 * u + 2 * sTd S u) = x) (g3 : S2 3 (12 * u + 2 * sTd S u + 1) = y) : okS S2 := by
  have eT : sT S2 = sT S := by unfold sT; rw [e 10 (by omega) (by omega)]
  have eA : sA S2 = sA S := by unfold sA; rw [e 10 (by omega) (by omega)]
  have eR : sR S2 = sR S := by unfold sR; rw [e 10 (by omega) (by omega)]
  have eL : sLg S2 = sLg S := by unfold sLg; rw [e 0 (by omega) (by omega)]
  have eD : ∀ v, v ≠ u → sTd S2 v = sTd S v := fun v hv => by unfold sTd; rw [e2 v hv]
  have eDu : sTd S2 u = sTd S u + 1 := by
    have : sTd S2 u = (S2 2 u).toNat := rfl
    rw [this, f2, Int.toNat_natCast]
  obtain ⟨o1, o2, o3, o4, o5, o6, o7, o8, o9⟩ := ho
  unfold okS
  rw [eT, eA, eR, eL, e 0 (by omega) (by omega), e 4 (by omega) (by omega), e 5 (by omega) (by omega), e 6 (by omega) (by omega), e 7 (by omega) (by omega)]
  unfold sTh sWi sLn at *
  rw [e 10 (by omega) (by omega), e 1 (by omega) (by omega)]
  refine ⟨o1, o2, o3, o4, fun v hv => ?_, o6, fun v l hv hl2 => ?_, fun a ha => ?_, o9⟩
  · have := o5 v hv
    by_cases q : v = u
    · subst q; rw [f2, eDu]; omega
    · rw [e2 v q, eD v q]; exact this
  · unfold sTn sMt at *
    have g1 := (o5 u hu).2.2.1
    have g2 := (o5 v hv).2.2.1
    by_cases q : v = u
    · subst q
      rw [eDu] at hl2
      by_cases q2 : l = sTd S v
      · subst q2; rw [f3, g3]; exact ⟨hx.1, hx.2, hy.1, hy.2, hz⟩
      · rw [e3 _ (by omega) (by omega), e3 _ (by omega) (by omega)]; exact o7 v l hv (by omega)
    · rw [eD v q] at hl2
      rw [e3 _ (by omega) (by omega), e3 _ (by omega) (by omega)]; exact o7 v l hv hl2
  · have g1 := (o5 u hu).2.2.1
    rw [e3 _ (by omega) (by omega), e3 _ (by omega) (by omega), e3 _ (by omega) (by omega)]
    exact o8 a ha
theorem cBk_leg {u : Nat} {x y : Int} {Z2 : mjZt} (h : cBk Z b S) (ho : okS S) (hu : u < sT S) (hl : sTd S u < sLg S) {S2 : mjS} (e : ∀ f, f ≠ 2 → f ≠ 3 → S2 f = S f) (e2 : ∀ k, k ≠ u → S2 2 k = S 2 k) (f2 : S2 2 u = ((sTd S u + 1 : Nat) : Int)) (e3 : ∀ k, k ≠ 12 * u + 2 * sTd S u → k ≠ 12 * u + 2 * sTd S u + 1 → S2 3 k = S 3 k) (f3 : S2 3 (12 * u + 2 * sTd S u) = x) (g3 : S2 3 (12 * u + 2 * sTd S u + 1) = y)
    (z : ∀ a, b ≤ a → a < b + 90 → a ≠ tmB b u → a ≠ tmB b u + 1 → a ≠ tmB b u + 2 → Z2.1 a = Z.1 a) (zl : ∀ a, b ≤ a → a < b + 90 → Z2.2.1 a = Z.2.1 a) (zf : ∀ f, f ≠ 6 → Z2.1 (tmB b u) f = Z.1 (tmB b u) f) (t6 : Z2.1 (tmB b u) 6 = i3 ((sTd S u + 1 : Nat) : Int)) (z1 : ∀ f, f ≠ sTd S u + 1 → Z2.1 (tmB b u + 1) f = Z.1 (tmB b u + 1) f) (t1 : Z2.1 (tmB b u + 1) (sTd S u + 1) = i3 x) (z2 : ∀ f, f ≠ sTd S u + 1 → Z2.1 (tmB b u + 2) f = Z.1 (tmB b u + 2) f) (t2 : Z2.1 (tmB b u + 2) (sTd S u + 1) = i3 y) : cBk Z2 b S2 := by
  have o1 := ok_sc ho
  have o5u := ok_tm ho hu
  have eT : sT S2 = sT S := by unfold sT; rw [e 10 (by omega) (by omega)]
  have eA : sA S2 = sA S := by unfold sA; rw [e 10 (by omega) (by omega)]
  have eR : sR S2 = sR S := by unfold sR; rw [e 10 (by omega) (by omega)]
  have eD : ∀ v, v ≠ u → sTd S2 v = sTd S v := fun v hv => by unfold sTd; rw [e2 v hv]
  have eDu : sTd S2 u = sTd S u + 1 := by
    have : sTd S2 u = (S2 2 u).toNat := rfl
    rw [this, f2, Int.toNat_natCast]
  have tB : ∀ v, tmB b v = b + 18 + 5 * v := fun v => rfl
  have tBu := tB u
  have big : ∀ k, 72 ≤ k → S2 3 k = S 3 k := fun k hk => e3 k (by omega) (by omega)
  have eK : ∀ a, a < sA S → sKd S2 a = sKd S a ∧ sTmA S2 a = sTmA S a ∧ sOt S2 a = sOt S a ∧ sTe S2 a = sTe S a ∧ sSz S2 a = sSz S a := fun a ha => by
    unfold sKd sTmA sOt sTe sSz
    rw [eA, if_pos ha, if_pos ha, if_pos ha, if_pos ha, if_pos ha, if_pos ha, if_pos ha, if_pos ha, if_pos ha, if_pos ha, e 4 (by omega) (by omega), e 5 (by omega) (by omega), e 6 (by omega) (by omega), big _ (by omega), big _ (by omega)]
    exact ⟨rfl, rfl, rfl, rfl, rfl⟩
  have tdb := fun v (hv : v < sT S) => (ok_tm ho hv).2.2.1
  obtain ⟨h1, h2, h3, h4, h5, h6, h7, h8, h9, h10, h11, h12, h13, h14⟩ := h
  refine ⟨h1, fun k hk => ?_, ?_, ?_, ?_, ?_, ?_, fun v hv => ?_, fun a ha => ?_, fun i hi => ?_, fun r hr => ?_, fun v hv => ?_, fun j k hj => ?_, ?_⟩
  · rw [z b (by omega) (by omega) (by omega) (by omega) (by omega), e 0 (by omega) (by omega)]; exact h2 k hk
  · rw [z b (by omega) (by omega) (by omega) (by omega) (by omega), eT]; exact h3
  · rw [z b (by omega) (by omega) (by omega) (by omega) (by omega), eA]; exact h4
  · rw [z b (by omega) (by omega) (by omega) (by omega) (by omega), eR]; exact h5
  · rw [z b (by omega) (by omega) (by omega) (by omega) (by omega), e 10 (by omega) (by omega)]; exact h6
  · rw [z b (by omega) (by omega) (by omega) (by omega) (by omega), e 10 (by omega) (by omega)]; exact h7
  · have tv := tB v
    rw [eT] at hv
    have g := h8 v hv
    have g2 := tdb v hv
    unfold tTold sTn sMt at g ⊢
    obtain ⟨k1, k2, k3, k4, k5, k6⟩ := g
    by_cases q : v = u
    · subst q
      rw [zf 5 (by omega), t6, eDu, zl _ (by omega) (by omega), e 1 (by omega) (by omega), e 11 (by omega) (by omega), z (tmB b v + 3) (by omega) (by omega) (by omega) (by omega) (by omega), z (tmB b v + 4) (by omega) (by omega) (by omega) (by omega) (by omega)]
      refine ⟨k1, rfl, k3, fun l hl2 => ?_, k5, k6⟩
      by_cases q2 : l = sTd S v
      · subst q2; rw [t1, t2, f3, g3]; exact ⟨rfl, rfl⟩
      · rw [z1 _ (by omega), z2 _ (by omega), e3 _ (by omega) (by omega), e3 _ (by omega) (by omega)]; exact k4 l (by omega)
    · rw [z _ (by omega) (by omega) (by omega) (by omega) (by omega), z (tmB b v + 1) (by omega) (by omega) (by omega) (by omega) (by omega), z (tmB b v + 2) (by omega) (by omega) (by omega) (by omega) (by omega), z (tmB b v + 3) (by omega) (by omega) (by omega) (by omega) (by omega), z (tmB b v + 4) (by omega) (by omega) (by omega) (by omega) (by omega), zl _ (by omega) (by omega), eD v q, e 1 (by omega) (by omega), e 11 (by omega) (by omega)]
      refine ⟨k1, k2, k3, fun l hl2 => ?_, k5, k6⟩
      rw [e3 _ (by omega) (by omega), e3 _ (by omega) (by omega)]; exact k4 l hl2
  · have hT2 : acB b a = b + 48 + a := rfl
    rw [eA] at ha
    have g := h9 a ha
    obtain ⟨k1, k2, k3, k4, k5⟩ := eK a ha
    unfold aRep at g ⊢
    rw [z _ (by omega) (by omega) (by omega) (by omega) (by omega), k1, k2, k3, k4, k5]
    exact g
  · rw [zl _ (by omega) (by omega), eA, h10 i hi]
    by_cases q : i < sA S
    · rw [big _ (by omega)]
    · rw [decide_eq_false (by omega), decide_eq_false (by omega)]
  · rw [eR] at hr
    rw [z _ (by omega) (by omega) (by omega) (by omega) (by omega), zl _ (by omega) (by omega), e 7 (by omega) (by omega), e 12 (by omega) (by omega)]; exact h11 r hr
  · have tv := tB v
    rw [z _ (by omega) (by omega) (by omega) (by omega) (by omega), z _ (by omega) (by omega) (by omega) (by omega) (by omega)]; exact h12 v hv
  · rw [z _ (by omega) (by omega) (by omega) (by omega) (by omega)]; exact h13 j k hj
  · rw [zl _ (by omega) (by omega)]; exact h14
theorem e122 (hb : b = 2 ∨ b = 92) {u l : Nat} (hu : u < 6) (hl : l < 6) (h6 : Z.1 (tmB b u) 6 = i3 l) (x y : Int32) : f122_addLeg (tmB b u) x y Z = some ((), zSi (zSi (zSi Z (tmB b u) 6 (i3 ((l + 1 : Nat) : Int))) (tmB b u + 1) (l + 1) x) (tmB b u + 2) (l + 1) y) := by
  unfold f122_addLeg
  rw [if_pos (is_tm hb u hu), h6, show (6 : Int32) = i3 6 from rfl, if_neg (by rw [c_ge (by omega)]; omega), i3_s, let_eq, si_same, e9 hb hu hl, mjBd_some]
/-- the model behind a fault in runs -/
theorem m228f {k : Int} {q : Nat} (h : fltM Z k q) (hk : 1 ≤ k ∧ k ≤ 7) (x : Int32) : f228_runsLine_j47 x Z = some ((), Z) := by
  unfold f228_runsLine_j47
  rw [m213f h hk, mjBd_some, m209f h hk, mjBp_some, if_pos (by decide)]
  unfold f228_runsLine_j72
  rw [if_neg (bdL h hk)]
/-- the state behind a leg's line -/
theorem rn_end {Zc3 Zm3 : mjZt} {p3 u : Nat} {x y : Int} (hg : gd X n Zc3 Zm3 p3) (h2 : rC b Zc3 S m) (h3 : rM Zm3 S m) (h4 : okR S m p3) (hf : fgR Zc3 Zm3 t w) (hu : u < sT S) (hl : sTd S u < sLg S) (hx : 20 ≤ x ∧ x ≤ 999) (hy : -20 ≤ y ∧ y ≤ 20) (hz : sTd S u + 1 = sLg S → y = 0) :
    ∃ S2, jR X n b (zSi (zSi (zSi Zc3 (tmB b u) 6 (i3 ((sTd S u + 1 : Nat) : Int))) (tmB b u + 1) (sTd S u + 1) (i3 x)) (tmB b u + 2) (sTd S u + 1) (i3 y)) (zSi (zSi (zSi Zm3 221 (12 * u + 2 * sTd S u) (i3 x)) 221 (12 * u + 2 * sTd S u + 1) (i3 y)) 220 u (i3 ((sTd S u + 1 : Nat) : Int))) S2 m p3 t w := by
  have hb := rC_b h2
  obtain ⟨ho, hoc, hon, hmp, hto, hwv, hlg⟩ := h4
  obtain ⟨c31, c32, c33, c34⟩ := h2
  obtain ⟨r1, ⟨s1, s2, s3, s4, s5, s6⟩, r3⟩ := rM_r h3
  have o1 := ok_sc ho
  have tB : tmB b u = b + 18 + 5 * u := rfl
  obtain ⟨S2, hS2⟩ : ∃ S2, S2 = zuS (zuS (zuS S 3 (12 * u + 2 * sTd S u) x) 3 (12 * u + 2 * sTd S u + 1) y) 2 u ((sTd S u + 1 : Nat) : Int) := ⟨_, rfl⟩
  have e : ∀ f, f ≠ 2 → f ≠ 3 → S2 f = S f := fun f g1 g2 => by rw [hS2, zuS_f g1, zuS_f g2, zuS_f g2]
  have e2 : ∀ k, k ≠ u → S2 2 k = S 2 k := fun k hk => by rw [hS2, zuS_n hk, zuS_f (by omega), zuS_f (by omega)]
  have f2 : S2 2 u = ((sTd S u + 1 : Nat) : Int) := by rw [hS2, zuS_e]
  have e3 : ∀ k, k ≠ 12 * u + 2 * sTd S u → k ≠ 12 * u + 2 * sTd S u + 1 → S2 3 k = S 3 k := fun k g1 g2 => by rw [hS2, zuS_f (by omega), zuS_n g2, zuS_n g1]
  have f3 : S2 3 (12 * u + 2 * sTd S u) = x := by rw [hS2, zuS_f (by omega), zuS_n (by omega), zuS_e]
  have g3 : S2 3 (12 * u + 2 * sTd S u + 1) = y := by rw [hS2, zuS_f (by omega), zuS_e]
  have e8 := e 8 (by omega) (by omega)
  have e9' := e 9 (by omega) (by omega)
  have eT : sT S2 = sT S := by unfold sT; rw [e 10 (by omega) (by omega)]
  have eA : sA S2 = sA S := by unfold sA; rw [e 10 (by omega) (by omega)]
  have eR : sR S2 = sR S := by unfold sR; rw [e 10 (by omega) (by omega)]
  have rows : rwR (zSi (zSi (zSi Zm3 221 (12 * u + 2 * sTd S u) (i3 x)) 221 (12 * u + 2 * sTd S u + 1) (i3 y)) 220 u (i3 ((sTd S u + 1 : Nat) : Int))) S2 := by
    rw [hS2]
    exact rwR_si (f := 2) (by omega) rfl (rwR_si (f := 3) (by omega) rfl (rwR_si (f := 3) (by omega) rfl r1))
  have cs : ∀ a, a ≠ tmB b u → a ≠ tmB b u + 1 → a ≠ tmB b u + 2 → (zSi (zSi (zSi Zc3 (tmB b u) 6 (i3 ((sTd S u + 1 : Nat) : Int))) (tmB b u + 1) (sTd S u + 1) (i3 x)) (tmB b u + 2) (sTd S u + 1) (i3 y)).1 a = Zc3.1 a := fun a g1 g2 g3 => by rw [si_obj _ _ _ _ g3, si_obj _ _ _ _ g2, si_obj _ _ _ _ g1]
  have ms : ∀ f, (zSi (zSi (zSi Zm3 221 (12 * u + 2 * sTd S u) (i3 x)) 221 (12 * u + 2 * sTd S u + 1) (i3 y)) 220 u (i3 ((sTd S u + 1 : Nat) : Int))).1 211 f = Zm3.1 211 f := fun f => by rw [si_obj _ _ _ _ (by omega), si_obj _ _ _ _ (by omega), si_obj _ _ _ _ (by omega)]
  refine ⟨S2, gd_of hg rfl (cs 1 (by omega) (by omega) (by omega)) (cs 183 (by omega) (by omega) (by omega)) rfl (by rw [cs 182 (by omega) (by omega) (by omega)]) (by rw [si_obj _ _ _ _ (by omega), si_obj _ _ _ _ (by omega), si_obj _ _ _ _ (by omega)]) (fun f _ _ => ms f) rfl, ⟨?_, cTr_89 c32 e8 e9' eR (fun a g1 g2 => cs a (by omega) (by omega) (by omega)), by rw [cs (b + 1) (by omega) (by omega) (by omega)]; exact c33, fun k g1 g2 => ?_⟩, r_rM rows ⟨by rw [ms, eT]; exact s1, by rw [ms, eA]; exact s2, by rw [ms, eR]; exact s3, by rw [ms, e 10 (by omega) (by omega)]; exact s4, by rw [ms, e 10 (by omega) (by omega)]; exact s5, by rw [ms]; exact s6⟩ ⟨r3.1, r3.2⟩, ⟨okS_leg ho hu hl hx hy hz e e2 f2 e3 f3 g3, okC_89 hoc e8 e9' eR, ?_, hmp, fun r q g1 g2 => ?_, fun a ha => ?_, ?_⟩, by rw [cs 182 (by omega) (by omega) (by omega)]; exact hf.1, by rw [cs 182 (by omega) (by omega) (by omega)]; exact hf.2.1, by rw [ms]; exact hf.2.2⟩
  · refine cBk_leg (u := u) (x := x) (y := y) c31 ho hu hl e e2 f2 e3 f3 g3 (fun a g1 g2 g3 g4 g5 => cs a g3 g4 g5) (fun a _ _ => rfl) (fun f g => ?_) ?_ (fun f g => ?_) ?_ (fun f g => ?_) ?_
    · rw [si_obj _ _ _ _ (by omega), si_obj _ _ _ _ (by omega), si_fld _ _ _ _ (by omega)]
    · rw [si_obj _ _ _ _ (by omega), si_obj _ _ _ _ (by omega), si_same]
    · rw [si_obj _ _ _ _ (by omega), si_fld _ _ _ _ (by omega), si_obj _ _ _ _ (by omega)]
    · rw [si_obj _ _ _ _ (by omega), si_same]
    · rw [si_fld _ _ _ _ (by omega), si_obj _ _ _ _ (by omega), si_obj _ _ _ _ (by omega)]
    · rw [si_same]
  · rw [cs _ (by omega) (by omega) (by omega), cs _ (by omega) (by omega) (by omega)]
    exact c34 k (by omega) g2
  · unfold okN
    rw [eT, eR, e 11 (by omega) (by omega), e 12 (by omega) (by omega)]; exact hon
  · rw [(to_89 e8 r q).1]; exact hto r q (by omega) g2
  · rw [eA] at ha
    have := (ok_tm ho hu).2.2.1
    rw [e3 _ (by omega) (by omega)]; exact hwv a ha
  · unfold sLg at hlg ⊢; rw [e 0 (by omega) (by omega)]; exact hlg
end RU2
