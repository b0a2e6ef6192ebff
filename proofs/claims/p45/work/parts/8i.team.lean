/-! LINES: team -/
section TE
variable {X : Nat → Nat} {n b : Nat} {Z Zc Zm : mjZt} {S : mjS} {m p : Nat} {t w : Bool}
theorem m210a {o N M : Nat} (h1 : mjIs o 251 14 = true) (h2 : (mjLay o).2 = M) (hN : N ≤ M) (hM : M ≤ 100) (W : Int64) : ∀ f s k, s + f = N → f < k → ∃ v, f210_among_h3 k o (i3 N) W (i3 s) Z = some v
  | f, s, 0, _, hm => by omega
  | 0, s, k + 1, hf, _ => by
    rw [f210_among_h3, if_pos (by rw [c_ge (by omega)]; omega)]; exact ⟨_, rfl⟩
  | f + 1, s, k + 1, hf, hm => by
    have ih := m210a h1 h2 hN hM W f (s + 1) k (by omega) (by omega)
    rw [f210_among_h3, if_neg (by rw [c_ge (by omega)]; omega), if_pos h1, h2, if_pos (in_p (by omega)), i3_s]
    split
    · exact ih
    · exact ⟨_, rfl⟩
theorem amT (h : rM Z S m) (ho : okS S) (W : Int64) : ∃ v, f210_among 227 (Z.1 211 21) W Z = some v := by
  have o1 := ok_sc ho
  rw [h.2.2.2.2.2.2.2.2.2.2.1.1]
  exact m210a (o := 227) (M := 6) (by decide) (by decide) (by omega) (by omega) W (sT S) 0 mjF (by omega) (by unfold mjF; omega)
theorem amK {N : Nat} (hN : N ≤ 5) (W : Int64) : ∃ v, f210_among 213 (i3 N) W Z = some v :=
  m210a (o := 213) (M := 5) (by decide) (by decide) hN (by omega) W N 0 mjF (by omega) (by unfold mjF; omega)
/-- what a name's word is, in the class -/
theorem c_name (h : tkC X n Z p) (q : isNm X n p = true) : jS X n p = 1 ∧ Z.2.1 183 6 = i6 (cvN 8 (jN X n p)) := by
  unfold isNm at q
  have : jS X n p = 1 := by
    by_cases g : jS X n p = 1
    · exact g
    · rw [decide_eq_false g, Bool.false_and] at q; cases q
  exact ⟨this, h.2.2.2.2.2 this⟩
theorem flt_wr {k : Int} {Zm1 Zm2 : mjZt} (h1 : f206_wrong (i3 k) Zm = some ((), Zm1)) (h2 : f206_wrong (i3 k) Zm = some ((), Zm2)) : Zm1 = Zm2 := by
  rw [h1] at h2
  exact (Prod.mk.inj (Option.some.inj h2)).2
/-- a new name: row o, place k -/
theorem p_name (h : gd X n Zc Zm p) (hn : n ≤ 700) (hX : ∀ k, X k ≤ 255) (hm : rM Zm S m) (ho : okS S) (hon : okN S) {o k : Nat} (hk : (o = 227 ∧ k < 6) ∨ (o = 228 ∧ k < 8)) :
    (isNm X n p = true ∧ tmN S (jN X n p) = -1 ∧ rlN S (jN X n p) = -1 ∧ ∃ Zc1 Zm1, f68_advance Zc = some ((), Zc1) ∧ f225_freshName o (i3 k) Zm = some ((), Zm1) ∧ gd X n Zc1 Zm1 (jE X n p) ∧ p < jE X n p ∧ eqTk Zc Zc1 ∧ eqGo (zSl Zm o k (i6 (jN X n p))) Zm1) ∨
    (∃ j : Int, ∃ Zc1 Zm1, ((j = 2 ∧ isNm X n p = false) ∨ (j = 3 ∧ isNm X n p = true ∧ (tmN S (jN X n p) ≠ -1 ∨ rlN S (jN X n p) ≠ -1))) ∧ f114_fail (i3 j) Zc = some (0, Zc1) ∧ f225_freshName o (i3 k) Zm = some ((), Zm1) ∧ bd Zc1 Zm1 ∧ eqT3 Zc Zc1 ∧ eqGw Zm Zm1) := by
  have W := jN_nm (n := n) hX (p := p)
  have l63 := nm_63 W.1
  have h13 := h.2.1.2.2.2.2.2
  have h7 := h.2.1.2.2.2.1
  have sb : jS X n p ≤ 4 := by have := kd_spec (X := X) (n := n) (p := p); omega
  have kf := (rM_r hm).2.2
  have bT := fI_bd (fun k => decide ((S 11 k).toNat = jN X n p)) (sT S) 0
  have bR := fI_bd (fun k => decide ((S 12 k).toNat = jN X n p)) (sR S) 0
  have o1 := ok_sc ho
  have tail : ∀ {Z2 : mjZt} {k2 : Int} {q2 : Nat}, fltM Z2 k2 q2 → 1 ≤ k2 ∧ k2 ≤ 7 → f225_freshName_j77 o (i3 k) Z2 = some ((), Z2) := fun g1 g2 => by
    unfold f225_freshName_j77
    rw [if_neg (bdL g1 g2)]
  cases q : isNm X n p with
  | false =>
    right
    obtain ⟨Zc1, Zm1, a1, a2, a3, a4, a5, k2, q2, k3, k4, k5⟩ := flt h (k := 2) (by omega)
    refine ⟨2, Zc1, Zm1, Or.inl ⟨rfl, rfl⟩, a1, ?_, a3, a4, a5⟩
    have fin : f225_freshName_j22 o (i3 k) Zm = some ((), Zm1) := by
      unfold f225_freshName_j22 f225_freshName_j27
      rw [show (2 : Int32) = i3 2 from rfl, a2, mjBd_some, bdM k5 ⟨k3, k4⟩, mjBp_some, if_pos (by decide), tail k5 ⟨k3, k4⟩]
    unfold f225_freshName
    rw [gdM h.2.2.2.1, mjBp_some, if_neg (by decide), h7, show (1 : Int32) = i3 1 from rfl, m211 kf l63 h13, mjBp_some]
    unfold isNm at q
    by_cases g : jS X n p = 1
    · rw [decide_eq_true g, Bool.true_and] at q
      have g2 : kpB (jN X n p) = true := by
        cases e : kpB (jN X n p) with
        | true => rfl
        | false => rw [e] at q; cases q
      rw [if_neg (by rw [c_ne (by omega)]; omega), g2, if_neg (by decide)]; exact fin
    · rw [if_pos (by rw [c_ne (by omega)]; omega)]; exact fin
  | true =>
    obtain ⟨g1, g2⟩ := c_name h.1 q
    have g3 : kpB (jN X n p) = false := by
      unfold isNm at q
      rw [decide_eq_true g1, Bool.true_and] at q
      cases e : kpB (jN X n p) with
      | false => rfl
      | true => rw [e] at q; cases q
    have e1 : f225_freshName o (i3 k) Zm = f225_freshName_j27 o (i3 k) Zm := by
      unfold f225_freshName
      rw [gdM h.2.2.2.1, mjBp_some, if_neg (by decide), h7, show (1 : Int32) = i3 1 from rfl, if_neg (by rw [c_ne (by omega)]; omega), m211 kf l63 h13, mjBp_some, g3, if_pos (by decide)]
    rw [e1]
    unfold f225_freshName_j27
    rw [gdM h.2.2.2.1, mjBp_some, if_neg (by decide), h13, m210T hm ho hon l63, mjBp_some, m210R hm ho hon l63, mjBp_some, show (-1 : Int32) = i3 (-1) from rfl]
    by_cases q1 : tmN S (jN X n p) = -1 ∧ rlN S (jN X n p) = -1
    · left
      rw [if_neg (by unfold tmN at *; rw [c_ne (by omega)]; omega), if_pos (by unfold rlN at *; rw [c_eq (by omega)]; omega)]
      have g0 : gd X n Zc (zSl Zm o k (i6 (jN X n p))) p := gd_of h rfl rfl rfl rfl rfl rfl (fun _ _ _ => rfl) (by rw [sl_obj _ _ _ _ (by omega)])
      obtain ⟨Zc1, Zm1, a1, a2, a3, a4, a5⟩ := nxt g0 hn hX
      refine ⟨rfl, q1.1, q1.2, Zc1, Zm1, a1, ?_, a3, (jE_bd h.2.2.2.2).2.2.2 (by omega), a4, a5⟩
      unfold f225_freshName_j77
      have oo : mjIs o 251 14 = true ∧ (mjLay o).2 ≤ 8 ∧ k < (mjLay o).2 := by
        rcases hk with ⟨rfl, hk⟩ | ⟨rfl, hk⟩
        · exact ⟨by decide, by decide, by show k < 6; omega⟩
        · exact ⟨by decide, by decide, by show k < 8; omega⟩
      rw [if_pos (gdL h.2.2.2.1), if_pos oo.1, if_pos (in_p (by omega)), ix_nat (by omega), h13, let_eq, a2, mjBd_some]
    · right
      obtain ⟨Zc1, Zm1, a1, a2, a3, a4, a5, k2, q2, k3, k4, k5⟩ := flt h (k := 3) (by omega)
      have fin : f225_freshName_j72 o (i3 k) Zm = some ((), Zm1) := by
        unfold f225_freshName_j72
        rw [show (3 : Int32) = i3 3 from rfl, a2, mjBd_some, tail k5 ⟨k3, k4⟩]
      refine ⟨3, Zc1, Zm1, Or.inr ⟨rfl, rfl, by omega⟩, a1, ?_, a3, a4, a5⟩
      by_cases q2 : tmN S (jN X n p) = -1
      · rw [if_neg (by unfold tmN at *; rw [c_ne (by omega)]; omega), if_neg (by unfold rlN tmN at *; rw [c_eq (by omega)]; omega)]; exact fin
      · rw [if_pos (by unfold tmN at *; rw [c_ne (by omega)]; omega)]; exact fin
/-- lanes, of the model -/
theorem m227f {k : Int} {q : Nat} (h : fltM Z k q) (hk : 1 ≤ k ∧ k ≤ 7) (h21 : Z.1 211 21 = i3 (sT S)) (h19 : ∀ k, Z.1 219 k = i3 (S 1 k)) (ho : okS S) : ∀ f i N (x : Int32), x = 0 ∨ x = 1 → i + f = sT S → f < N → f227_teamLine_h69 N x (i3 i) Z = some ((), Z)
  | f, i, 0, x, _, _, hN => by omega
  | 0, i, N + 1, x, _, hf, _ => by
    have o1 := ok_sc ho
    rw [f227_teamLine_h69, h21, if_pos (by rw [c_ge (by omega)]; omega), bdM h hk, mjBp_some, if_pos (by decide)]
    unfold f227_teamLine_j137
    rw [if_neg (bdL h hk)]
  | f + 1, i, N + 1, x, hx, hf, hN => by
    have o1 := ok_sc ho
    have ih := fun y hy => m227f h hk h21 h19 ho f (i + 1) N y hy (by omega) (by omega)
    rw [f227_teamLine_h69, h21, if_neg (by rw [c_ge (by omega)]; omega), i3_s]
    split
    · exact ih 1 (Or.inr rfl)
    · rw [if_pos (in_p (by omega))]
      split
      · exact ih 0 (Or.inl rfl)
      · exact ih 1 (Or.inr rfl)
theorem m227g (h21 : Z.1 211 21 = i3 (sT S)) (h19 : ∀ k, Z.1 219 k = i3 (S 1 k)) (ho : okS S) {V : Nat} (hV : V ≤ 9999) (h8 : Z.1 211 8 = i3 V) : ∀ f i N (x : Bool), i + f = sT S → f < N → f227_teamLine_h69 N (bI x) (i3 i) Z = f227_teamLine_h69 1 (bI (x || decide (fI (fun u => decide (S 1 u = V)) f i ≠ -1))) (i3 (sT S)) Z
  | f, i, 0, x, _, hN => by omega
  | 0, i, N + 1, x, hf, _ => by
    obtain rfl : i = sT S := by omega
    have o1 := ok_sc ho
    have hge : mjCmp .ge (i3 (sT S)) (i3 (sT S)) = true := by rw [c_ge (by omega)]; omega
    rw [fI, decide_eq_false (by omega), Bool.or_false, f227_teamLine_h69, f227_teamLine_h69, h21, if_pos hge, if_pos hge]
  | f + 1, i, N + 1, x, hf, hN => by
    have o1 := ok_sc ho
    have o2 := ok_tm ho (t := i) (by omega)
    have ih := fun y => m227g h21 h19 ho hV h8 f (i + 1) N y (by omega) (by omega)
    unfold sLn at o2
    rw [f227_teamLine_h69, h21, if_neg (by rw [c_ge (by omega)]; omega), i3_s, fI]
    cases x with
    | true =>
      rw [if_pos (by decide), Bool.true_or]
      have := ih true
      rw [Bool.true_or] at this
      exact this
    | false =>
      rw [if_neg (by decide), if_pos (in_p (by omega)), ix_nat (by omega), h19 i, h8, Bool.false_or]
      by_cases q : S 1 i = V
      · have := ih true
        rw [Bool.true_or] at this
        rw [if_neg (by rw [c_ne (by omega)]; omega), if_pos (show decide (S 1 i = (V : Int)) = true from decide_eq_true q), decide_eq_true (by omega)]
        exact this
      · have := ih false
        rw [Bool.false_or] at this
        rw [if_pos (by rw [c_ne (by omega)]; omega), if_neg (show ¬ decide (S 1 i = (V : Int)) = true by simpa using q)]
        exact this
/-- a team more -/
theorem okS_team {V : Nat} {W : Int} (ho : okS S) (hT : sT S < 6) (hV : 1 ≤ V ∧ V ≤ 9) (hn : fI (fun u => decide (S 1 u = V)) (sT S) 0 = -1) (hlg : 2 ≤ sLg S ∧ 50 ≤ S 0 1) {S2 : mjS} (e : ∀ f, f ≠ 1 → f ≠ 2 → f ≠ 10 → f ≠ 11 → S2 f = S f) (e1 : ∀ k, k ≠ sT S → S2 1 k = S 1 k) (e2 : ∀ k, k ≠ sT S → S2 2 k = S 2 k) (f1 : S2 1 (sT S) = V) (f2 : S2 2 (sT S) = 0) (f10 : S2 10 0 = ((sT S + 1 : Nat) : Int)) (e10 : ∀ k, k ≠ 0 → S2 10 k = S 10 k) : okS S2 := by
  have eT : sT S2 = sT S + 1 := by unfold sT at *; rw [f10, Int.toNat_natCast]
  have eA : sA S2 = sA S := by unfold sA; rw [e10 1 (by omega)]
  have eR : sR S2 = sR S := by unfold sR; rw [e10 2 (by omega)]
  have eL : sLg S2 = sLg S := by unfold sLg; rw [e 0 (by omega) (by omega) (by omega) (by omega)]
  have eD : ∀ u, u ≠ sT S → sTd S2 u = sTd S u := fun u hu => by unfold sTd; rw [e2 u hu]
  have eDT : sTd S2 (sT S) = 0 := by unfold sTd; rw [f2]; rfl
  have e3 := e 3 (by omega) (by omega) (by omega) (by omega)
  obtain ⟨o1, o2, o3, o4, o5, o6, o7, o8, o9⟩ := ho
  have nl : ∀ u, u < sT S → S 1 u ≠ V := fun u hu g => by
    have := fI_neg (p := fun u => decide (S 1 u = V)) (sT S) 0 u hn (by omega) (by omega)
    simp [g] at this
  unfold okS
  rw [eT, eA, eR, eL, e 0 (by omega) (by omega) (by omega) (by omega), e 4 (by omega) (by omega) (by omega) (by omega), e 5 (by omega) (by omega) (by omega) (by omega), e 6 (by omega) (by omega) (by omega) (by omega), e 7 (by omega) (by omega) (by omega) (by omega), e3]
  unfold sTh sWi at *
  rw [e10 3 (by omega), e10 4 (by omega)]
  refine ⟨⟨by omega, o1.2⟩, o2, o3, fun _ => hlg, fun u hu => ?_, fun u v hu hv g => ?_, fun u l hu hl => ?_, fun a ha => ?_, o9⟩
  · unfold sLn at *
    by_cases q : u = sT S
    · subst q; rw [f1, f2, eDT]; omega
    · rw [e1 u q, e2 u q, eD u q]; exact o5 u (by omega)
  · unfold sLn at *
    by_cases q : u = sT S
    · by_cases q2 : v = sT S
      · omega
      · subst q
        rw [f1, e1 v q2] at g
        exact absurd g.symm (nl v (by omega))
    · by_cases q2 : v = sT S
      · subst q2
        rw [f1, e1 u q] at g
        exact absurd g (nl u (by omega))
      · rw [e1 u q, e1 v q2] at g
        exact o6 u v (by omega) (by omega) g
  · unfold sTn sMt at *
    by_cases q : u = sT S
    · subst q; rw [eDT] at hl; omega
    · rw [eD u q] at hl
      rw [e3]; exact o7 u l (by omega) hl
  · obtain ⟨k1, k2, k3, k4, k5, k6⟩ := o8 a ha
    exact ⟨k1, k2, k3, by omega, fun g => by have := k5 g; exact ⟨this.1, by omega, this.2.2⟩, k6⟩
theorem cBk_team {V : Nat} {W : Nat} {Z2 : mjZt} (hT : sT S < 6) (h : cBk Z b S) (ho : okS S) {S2 : mjS} (e : ∀ f, f ≠ 1 → f ≠ 2 → f ≠ 10 → f ≠ 11 → S2 f = S f) (e1 : ∀ k, k ≠ sT S → S2 1 k = S 1 k) (e2 : ∀ k, k ≠ sT S → S2 2 k = S 2 k) (e11 : ∀ k, k ≠ sT S → S2 11 k = S 11 k) (f1 : S2 1 (sT S) = V) (f2 : S2 2 (sT S) = 0) (f11 : S2 11 (sT S) = W) (hW : nmF 8 W) (f10 : S2 10 0 = ((sT S + 1 : Nat) : Int)) (e10 : ∀ k, k ≠ 0 → S2 10 k = S 10 k)
    (z : ∀ a, b ≤ a → a < b + 90 → a ≠ b → a ≠ tmB b (sT S) → Z2.1 a = Z.1 a) (zl : ∀ a, b ≤ a → a < b + 90 → a ≠ tmB b (sT S) → Z2.2.1 a = Z.2.1 a) (zf : ∀ f, f ≠ 5 → Z2.1 b f = Z.1 b f) (z5 : Z2.1 b 5 = i3 ((sT S + 1 : Nat) : Int)) (t5 : Z2.1 (tmB b (sT S)) 5 = i3 V) (t6 : Z2.1 (tmB b (sT S)) 6 = i3 0) (tl : Z2.2.1 (tmB b (sT S)) 4 = i6 (cvN 8 W)) : cBk Z2 b S2 := by
  have o1 := ok_sc ho
  have eT : sT S2 = sT S + 1 := by unfold sT at *; rw [f10, Int.toNat_natCast]
  have eA : sA S2 = sA S := by unfold sA; rw [e10 1 (by omega)]
  have eR : sR S2 = sR S := by unfold sR; rw [e10 2 (by omega)]
  have eD : ∀ u, u ≠ sT S → sTd S2 u = sTd S u := fun u hu => by unfold sTd; rw [e2 u hu]
  have eDT : sTd S2 (sT S) = 0 := by unfold sTd; rw [f2]; rfl
  have e3 := e 3 (by omega) (by omega) (by omega) (by omega)
  have tB : ∀ u, tmB b u = b + 18 + 5 * u := fun u => rfl
  have tBT := tB (sT S)
  have z3 : ∀ u, u < 6 → Z2.1 (tmB b u + 3) 0 = 0 ∧ Z2.1 (tmB b u + 4) 0 = 0 := fun u hu => by
    have := tB u
    rw [z _ (by omega) (by omega) (by omega) (by omega), z _ (by omega) (by omega) (by omega) (by omega)]
    exact b_z3 h hu
  have eK : ∀ a, a < sA S → sKd S2 a = sKd S a ∧ sTmA S2 a = sTmA S a ∧ sOt S2 a = sOt S a ∧ sTe S2 a = sTe S a ∧ sSz S2 a = sSz S a := fun a ha => by
    unfold sKd sTmA sOt sTe sSz
    rw [eA, if_pos ha, if_pos ha, if_pos ha, if_pos ha, if_pos ha, if_pos ha, if_pos ha, if_pos ha, if_pos ha, if_pos ha, e 4 (by omega) (by omega) (by omega) (by omega), e 5 (by omega) (by omega) (by omega) (by omega), e 6 (by omega) (by omega) (by omega) (by omega), e3]
    exact ⟨rfl, rfl, rfl, rfl, rfl⟩
  obtain ⟨h1, h2, h3, h4, h5, h6, h7, h8, h9, h10, h11, h12, h13, h14⟩ := h
  refine ⟨h1, fun k hk => ?_, by rw [z5, eT], ?_, ?_, ?_, ?_, fun u hu => ?_, fun a ha => ?_, fun i hi => ?_, fun r hr => ?_, z3, fun j k hj => ?_, ?_⟩
  · rw [zf k (by omega), e 0 (by omega) (by omega) (by omega) (by omega)]; exact h2 k hk
  · rw [zf 6 (by omega), eA]; exact h4
  · rw [zf 8 (by omega), eR]; exact h5
  · rw [zf 9 (by omega), e10 3 (by omega)]; exact h6
  · rw [zf 10 (by omega), e10 4 (by omega)]; exact h7
  · have tu := tB u
    rw [eT] at hu
    unfold tTold sTn sMt
    by_cases q : u = sT S
    · subst q
      rw [t5, t6, tl, f1, eDT, f11, show sCv (W : Int) = (cvN 8 W : Int) from sCv_c 8 W hW]
      exact ⟨rfl, rfl, rfl, fun l hl => by omega, z3 _ hT⟩
    · have g := h8 u (by omega)
      unfold tTold sTn sMt at g
      rw [z _ (by omega) (by omega) (by omega) (by omega), z (tmB b u + 1) (by omega) (by omega) (by omega) (by omega), z (tmB b u + 2) (by omega) (by omega) (by omega) (by omega), z (tmB b u + 3) (by omega) (by omega) (by omega) (by omega), z (tmB b u + 4) (by omega) (by omega) (by omega) (by omega), zl _ (by omega) (by omega) (by omega), eD u q, e1 u q, e11 u q, e3]
      exact g
  · have hT2 : acB b a = b + 48 + a := rfl
    rw [eA] at ha
    have g := h9 a ha
    obtain ⟨k1, k2, k3, k4, k5⟩ := eK a ha
    unfold aRep at g ⊢
    rw [z _ (by omega) (by omega) (by omega) (by omega), k1, k2, k3, k4, k5]
    exact g
  · rw [zl _ (by omega) (by omega) (by omega), eA, e3]; exact h10 i hi
  · rw [eR] at hr
    rw [z _ (by omega) (by omega) (by omega) (by omega), zl _ (by omega) (by omega) (by omega), e 7 (by omega) (by omega) (by omega) (by omega), e 12 (by omega) (by omega) (by omega) (by omega)]; exact h11 r hr
  · rw [z _ (by omega) (by omega) (by omega) (by omega)]; exact h13 j k hj
  · rw [zl _ (by omega) (by omega) (by omega)]; exact h14
end TE
