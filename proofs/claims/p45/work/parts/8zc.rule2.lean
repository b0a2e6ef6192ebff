/-! LINES: a rule's end -/
section RU2
variable {X : Nat → Nat} {n b : Nat} {Z Z2 Z3 Zc Zm : mjZt} {S S2 : mjS} {m m1 m2 p W kd r wr : Nat} {t w : Bool}
theorem eqCc_R (h : eqCc b wr m Z Z2) : eqRc b Z Z2 := ⟨h.1, fun a q => ⟨h.2.2.1 a (by unfold rdw at q; omega) (by unfold rdw at q; omega) (by unfold rdw at q; omega) (by unfold rdw at q; omega) (by unfold rdw at q; omega), h.2.1 a (by unfold rdw at q; omega)⟩⟩
theorem eqCd_R (h : eqCd Z Z2) : eqRd Z Z2 := ⟨h.1, fun a q1 q2 q3 _ => ⟨h.2.2.1 a q1 q2 q3, h.2.1 a q1⟩, fun f g => h.2.2.2 f (by omega)⟩
theorem ruZ_c (hb : b = 2 ∨ b = 92) (h : eqCc b wr m1 Z Z2) (hm : m ≤ m1) (hw : wr = 2 * r ∨ wr = 2 * r + 1) : ruZ b r m Z Z2 :=
  ⟨fun a g1 g2 _ => by
    by_cases q : a = 183 ∨ a = 185 ∨ a = 186 ∨ a = 187
    · omega
    · exact h.2.2.1 a (by omega) (by omega) (by omega) (by omega) (by omega), fun f _ => by rw [h.2.2.1 b (by omega) (by omega) (by omega) (by omega) (by omega)], fun a g1 g2 _ => h.2.1 a (by omega), fun k _ => ⟨by rw [h.2.1 (b + 10) (by omega)], by rw [h.2.2.1 (b + 11) (by omega) (by omega) (by omega) (by omega) (by omega)]⟩, fun j k g1 g2 => h.2.2.2.1 j k g1 (by omega), fun j k g1 g2 g3 => h.2.2.2.2 j k g1 (by omega)⟩
theorem ruZ_tk (hb : b = 2 ∨ b = 92) (h : eqTk Z Z2) : ruZ b r m Z Z2 :=
  ⟨fun a g1 g2 _ => (h.2 a (by omega)).1, fun f _ => by rw [(h.2 b (by omega)).1], fun a g1 g2 _ => (h.2 a (by omega)).2, fun k _ => ⟨by rw [(h.2 (b + 10) (by omega)).2], by rw [(h.2 (b + 11) (by omega)).1]⟩, fun j k g1 g2 => by rw [(h.2 (b + 1 + (j + 1)) (by omega)).1], fun j k g1 g2 g3 => by rw [(h.2 (b + 1 + (j + 4)) (by omega)).1]⟩
theorem ruZ_tr (h : ruZ b r m Z Z2) (g : ruZ b r m Z2 Z3) : ruZ b r m Z Z3 :=
  ⟨fun a g1 g2 g3 => (g.1 a g1 g2 g3).trans (h.1 a g1 g2 g3), fun f q => (g.2.1 f q).trans (h.2.1 f q), fun a g1 g2 g3 => (g.2.2.1 a g1 g2 g3).trans (h.2.2.1 a g1 g2 g3), fun k q => ⟨((g.2.2.2.1 k q).1).trans (h.2.2.2.1 k q).1, ((g.2.2.2.1 k q).2).trans (h.2.2.2.1 k q).2⟩, fun j k g1 g2 => (g.2.2.2.2.1 j k g1 g2).trans (h.2.2.2.2.1 j k g1 g2), fun j k g1 g2 g3 => (g.2.2.2.2.2 j k g1 g2 g3).trans (h.2.2.2.2.2 j k g1 g2 g3)⟩
theorem cOne_agr {fr to : Nat} (h : cOne Z b S fr to) (hm : to ≤ m) (e9 : ∀ k, k < m → S2 9 k = S 9 k) (z : ∀ j k, j < 3 → k < m → Z2.1 (b + 1 + (j + 1)) k = Z.1 (b + 1 + (j + 1)) k) : cOne Z2 b S2 fr to := fun i g1 g2 => by
  obtain ⟨b1, b2, b3⟩ := h i g1 g2
  have x1 : Z2.1 (b + 1 + 1) i = Z.1 (b + 1 + 1) i := z 0 i (by omega) (by omega)
  have x2 : Z2.1 (b + 1 + 2) i = Z.1 (b + 1 + 2) i := z 1 i (by omega) (by omega)
  have x3 : Z2.1 (b + 1 + 3) i = Z.1 (b + 1 + 3) i := z 2 i (by omega) (by omega)
  have n1 : nuC S2 fr i = nuC S fr i := by
    unfold nuC
    rw [e9 i (by omega), ci_agr (fun j hj => e9 j (by omega))]
  rw [x1, x2, x3, n1, e9 i (by omega), lf_agr (fun k hk => e9 k (by omega))]
  exact ⟨b1, b2, b3⟩
/-- in fault -/
theorem j190f {nm : Int64} {kx : Int32} {k : Int} {p1 : Nat} (h : tkC X n Z p1) (hk : 1 ≤ k ∧ k ≤ 7) : ∃ Z1, f125_readRule_j190 b nm kx (i3 k) Z = some (0, Z1) ∧ fltC Z1 (fK X n p1 k) (jQ X n p1) ∧ eqT3 Z Z1 := by
  obtain ⟨Z1, a1, a2, a3⟩ := flC h k
  refine ⟨Z1, ?_, a2, a3⟩
  unfold f125_readRule_j190
  rw [show (0 : Int32) = i3 0 from rfl, if_neg (by rw [c_eq (by omega)]; omega)]
  have a1' : f114_fail (i3 k) Z = some (i3 0, Z1) := a1
  rw [a1', mjBd_some, if_pos (Or.inl rfl)]
theorem m163f {k : Int} {q : Nat} (h : fltM Z k q) (hk : 1 ≤ k ∧ k ≤ 7) (h23 : Z.1 211 23 = i3 r) (hr : r < 8) (x : Int32) : ∃ Z1, f231_ruleLine_j163 x Z = some ((), Z1) ∧ fltM Z1 k q ∧ eqRd Z Z1 := by
  unfold f231_ruleLine_j163
  rw [h23, show (4 : Int32) = i3 4 from rfl, show (3 : Int32) = i3 3 from rfl, i3_mul, i3_add, show (4 : Int) * (r : Int) + 3 = ((4 * r + 3 : Nat) : Int) by omega, if_pos (in_p (by omega)), ix_nat (by omega), let_eq]
  have f := flt_w (j := 4 * r + 3) (v := Z.1 211 17) h (a := 226) (by omega)
  exact ⟨_, if_neg (bdL f hk), f, eqRd_si (by omega)⟩
theorem m84f {k : Int} {q : Nat} (h : fltM Z k q) (hk : 1 ≤ k ∧ k ≤ 7) (x : Int32) : f231_ruleLine_j84 x Z = some ((), Z) := by
  unfold f231_ruleLine_j84
  exact if_neg (bdL h hk)
theorem m73f {k : Int} {q : Nat} (h : fltM Z k q) (hk : 1 ≤ k ∧ k ≤ 7) (x : Int32) : f231_ruleLine_j73 x Z = some ((), Z) := by
  unfold f231_ruleLine_j73
  rw [bdM h hk, mjBp_some, if_pos (by decide), m84f h hk]
/-- the rule is written down -/
theorem ru_fin {Zc4 Zc9 Zm9 : mjZt} {S9 : mjS} {p4 p9 : Nat} (h2 : rC b Zc4 S m) (h4 : okR S m p4) (hR : sR S < 8) (hk : kd ≤ 4) (hW : nmF 8 W) (hg : gd X n Zc9 Zm9 p9) (hn : n ≤ 700)
    (z : ruZ b (sR S) m Zc4 Zc9) (z8 : Zc9.1 b 8 = i3 (sR S)) (z7 : Zc9.1 (b + 1) 7 = i3 m2) (c1 : cOne Zc9 b S9 m m1) (c2 : cOne Zc9 b S9 m1 m2)
    (y1 : Zc9.1 (b + 1 + 4) (2 * sR S) = i3 m ∧ Zc9.1 (b + 1 + 5) (2 * sR S) = i3 m1 ∧ Zc9.1 (b + 1 + 6) (2 * sR S) = i3 (ciS S9 m m1)) (y2 : if m1 < m2 then Zc9.1 (b + 1 + 4) (2 * sR S + 1) = i3 m1 ∧ Zc9.1 (b + 1 + 5) (2 * sR S + 1) = i3 m2 ∧ Zc9.1 (b + 1 + 6) (2 * sR S + 1) = i3 (ciS S9 m1 m2) else Zc9.1 (b + 1 + 4) (2 * sR S + 1) = i3 0 ∧ Zc9.1 (b + 1 + 5) (2 * sR S + 1) = i3 0)
    (w1 : WF S9 m m1) (w12 : m1 ≤ m2) (w2 : m1 < m2 → WF S9 m1 m2) (hm2 : m2 ≤ p9)
    (e : ∀ f, f ≠ 8 → f ≠ 9 → f ≠ 12 → S9 f = S f) (e12 : ∀ k, k ≠ sR S → S9 12 k = S 12 k) (f12 : S9 12 (sR S) = W) (e8 : ∀ k, k < 4 * sR S → S9 8 k = S 8 k) (f80 : S9 8 (4 * sR S) = m) (f81 : S9 8 (4 * sR S + 1) = m1) (f82 : S9 8 (4 * sR S + 2) = m1) (e9 : ∀ k, k < m → S9 9 k = S 9 k)
    (rw1 : rwR Zm9 S9) (s1 : Zm9.1 211 21 = i3 (sT S)) (s2 : Zm9.1 211 22 = i3 (sA S)) (s3 : Zm9.1 211 23 = i3 (sR S)) (s4 : Zm9.1 211 25 = i3 (S 10 3)) (s5 : Zm9.1 211 26 = i3 (S 10 4)) (s6 : Zm9.1 211 17 = i3 m2) (kf : kfM Zm9) (hf : fgR Zc9 Zm9 t w) :
    ∃ Zf Zg S2, f125_readRule_j190 b (i6 (cvN 8 W)) (i3 kd) (i3 0) Zc9 = some (1, Zf) ∧ f231_ruleLine_j163 (i3 kd) Zm9 = some ((), Zg) ∧ jR X n b Zf Zg S2 m2 p9 t w ∧ eqRc b Zc9 Zf ∧ eqRd Zm9 Zg := by
  have hb := rC_b h2
  obtain ⟨ho, hoc, hon, hmp, hto, hwv, hlg⟩ := h4
  obtain ⟨k1, k2, k3, k4⟩ := h2
  have hp9 := hg.2.2.2.2
  generalize hZf : zSi (zSi (zSl Zc9 (b + 10) (sR S) (i6 (cvN 8 W))) (b + 11) (sR S) (i3 kd)) b 8 (i3 ((sR S + 1 : Nat) : Int)) = Zf
  generalize hZg : zSi (zSi (zSi Zm9 226 (4 * sR S + 3) (i3 m2)) 225 (sR S) (i3 kd)) 211 23 (i3 ((sR S + 1 : Nat) : Int)) = Zg
  obtain ⟨S2, hS2⟩ : ∃ S2, S2 = zuS (zuS (zuS S9 8 (4 * sR S + 3) m2) 7 (sR S) kd) 10 2 ((sR S + 1 : Nat) : Int) := ⟨_, rfl⟩
  have g9 : S2 9 = S9 9 := by rw [hS2, zuS_f (by omega), zuS_f (by omega), zuS_f (by omega)]
  have ru : ruS S S2 m m1 m2 W kd := by
    refine ⟨fun f q1 q2 q3 q4 q5 => ?_, fun k hk => ⟨?_, ?_⟩, fun k hk => ?_, fun k hk => ?_, fun k hk => ?_, ?_, ?_, ?_, ?_, ?_, ?_, ?_⟩
    · rw [hS2, zuS_f q4, zuS_f q1, zuS_f q2, e f q2 q3 q5]
    · rw [hS2, zuS_f (by omega), zuS_n hk, zuS_f (by omega), e 7 (by omega) (by omega) (by omega)]
    · rw [hS2, zuS_f (by omega), zuS_f (by omega), zuS_f (by omega), e12 k hk]
    · rw [hS2, zuS_f (by omega), zuS_f (by omega), zuS_n (by omega), e8 k hk]
    · rw [g9, e9 k hk]
    · rw [hS2, zuS_n hk, zuS_f (by omega), zuS_f (by omega), e 10 (by omega) (by omega) (by omega)]
    · rw [hS2, zuS_e]
    · rw [hS2, zuS_f (by omega), zuS_e]
    · rw [hS2, zuS_f (by omega), zuS_f (by omega), zuS_f (by omega), f12]
    · rw [hS2, zuS_f (by omega), zuS_f (by omega), zuS_n (by omega), f80]
    · rw [hS2, zuS_f (by omega), zuS_f (by omega), zuS_n (by omega), f81]
    · rw [hS2, zuS_f (by omega), zuS_f (by omega), zuS_n (by omega), f82]
    · rw [hS2, zuS_f (by omega), zuS_f (by omega), zuS_e]
  have fo : ∀ a, a ≠ b → a ≠ b + 11 → Zf.1 a = Zc9.1 a := fun a q1 q2 => by rw [← hZf, si_obj _ _ _ _ q1, si_obj _ _ _ _ q2, sl_int]
  have fl : ∀ a, a ≠ b + 10 → Zf.2.1 a = Zc9.2.1 a := fun a q1 => by rw [← hZf, si_lng, si_lng, sl_obj _ _ _ _ q1]
  have zf : ruZ b (sR S) m Zc4 Zf := ruZ_tr z ⟨fun a q1 q2 q3 => fo a (by omega) q3, fun f q => by rw [← hZf, si_fld _ _ _ _ (by omega), si_obj _ _ _ _ (by omega), sl_int], fun a q1 q2 q3 => fl a q3, fun k q => ⟨by rw [← hZf, si_lng, si_lng, sl_fld _ _ _ _ (by omega)], by rw [← hZf, si_obj _ _ _ _ (by omega), si_fld _ _ _ _ (by omega), sl_int]⟩, fun j k q1 q2 => by rw [fo _ (by omega) (by omega)], fun j k q1 q2 q3 => by rw [fo _ (by omega) (by omega)]⟩
  have x4 := fo (b + 1 + 4) (by omega) (by omega)
  have x5 := fo (b + 1 + 5) (by omega) (by omega)
  have x6 := fo (b + 1 + 6) (by omega) (by omega)
  have c1' : cOne Zf b S2 m m1 := cOne_agr c1 (Nat.le_refl _) (fun k _ => by rw [g9]) (fun j k q1 _ => by rw [fo _ (by omega) (by omega)])
  have c2' : cOne Zf b S2 m1 m2 := cOne_agr c2 (Nat.le_refl _) (fun k _ => by rw [g9]) (fun j k q1 _ => by rw [fo _ (by omega) (by omega)])
  have ci1 : ciS S2 m m1 = ciS S9 m m1 := ci_agr (fun k _ => by rw [g9])
  have ci2 : ciS S2 m1 m2 = ciS S9 m1 m2 := ci_agr (fun k _ => by rw [g9])
  obtain ⟨okc, hto2⟩ := okC_rule ru hoc hto (WF_agr (fun k _ => by rw [g9]) w1) w12 (fun q => WF_agr (fun k _ => by rw [g9]) (w2 q)) (by omega)
  obtain ⟨eT, eA, eR, eL, eTh, eW⟩ := ru_sc ru
  have ru' := ru
  obtain ⟨re, _, _, _, re10, _⟩ := ru'
  have w1l := w1.1
  have mo : ∀ a, a ≠ 211 → a ≠ 225 → a ≠ 226 → Zg.1 a = Zm9.1 a := fun a q1 q2 q3 => by rw [← hZg, si_obj _ _ _ _ q1, si_obj _ _ _ _ q2, si_obj _ _ _ _ q3]
  have mf : ∀ f, f ≠ 23 → Zg.1 211 f = Zm9.1 211 f := fun f q => by rw [← hZg, si_fld _ _ _ _ (by omega), si_obj _ _ _ _ (by omega), si_obj _ _ _ _ (by omega)]
  have ml : Zg.2 = Zm9.2 := by rw [← hZg]; rfl
  refine ⟨Zf, Zg, S2, ?_, ?_, ⟨gd_of hg (by rw [← hZf]; rfl) (fo 1 (by omega) (by omega)) (fo 183 (by omega) (by omega)) (fl 183 (by omega)) (by rw [fo 182 (by omega) (by omega)]) (mo 212 (by omega) (by omega) (by omega)) (fun f q1 q2 => mf f (by omega)) (by rw [ml]), ⟨?_, ?_, ?_, fun k q1 q2 => ?_⟩, r_rM ?_ ⟨?_, ?_, ?_, ?_, ?_, ?_⟩ ?_, ⟨okS_rule ru ho hR hk, okc, okN_rule ru hon hW, hm2, hto2, ?_, ?_⟩, ?_, ?_, ?_⟩, ?_, ?_⟩
  · unfold f125_readRule_j190
    rw [if_pos (by decide), if_pos (is_b hb), e29 hb hR z8, hZf, mjBd_some]
  · unfold f231_ruleLine_j163
    have e17 : (zSi Zm9 226 (4 * sR S + 3) (i3 m2)).1 211 = Zm9.1 211 := si_obj _ _ _ _ (by omega)
    rw [s3, s6, show (4 : Int32) = i3 4 from rfl, show (3 : Int32) = i3 3 from rfl, i3_mul, i3_add, show (4 : Int) * (sR S : Int) + 3 = ((4 * sR S + 3 : Nat) : Int) by omega, if_pos (in_p (by omega)), ix_nat (by omega), let_eq, e17, if_pos (gdL hg.2.2.2.1), s3, if_pos (in_p (by omega)), ix_nat (by omega), let_eq, si_obj _ _ _ _ (by omega), e17, s3, i3_s, hZg, let_eq]
  · exact cBk_rule ru zf k1 ho hR hW (by rw [← hZf, si_same]) (by rw [← hZf, si_lng, si_lng, sl_same]) (by rw [← hZf, si_obj _ _ _ _ (by omega), si_same])
  · exact cTr_rule ru zf k2 hto w1l c1' c2' (by rw [x4, x5, x6, ci1]; exact y1) (by rw [x4, x5, x6, ci2]; exact y2)
  · rw [fo (b + 1) (by omega) (by omega)]; exact z7
  · rw [eR] at q1
    have a4 : Zf.1 (b + 1 + 4) k = Zc4.1 (b + 1 + 4) k := zf.2.2.2.2.2 0 k (by omega) (by omega) (by omega)
    have a5 : Zf.1 (b + 1 + 5) k = Zc4.1 (b + 1 + 5) k := zf.2.2.2.2.2 1 k (by omega) (by omega) (by omega)
    rw [a4, a5]
    exact k4 k (by omega) q2
  · rw [hS2, ← hZg]
    exact rwR_10 (rwR_of (rwR_si (f := 7) (by omega) rfl (rwR_si (f := 8) (by omega) rfl rw1)) (fun a q => ⟨si_obj _ _ _ _ (by omega), rfl⟩))
  · rw [mf 21 (by omega), eT]; exact s1
  · rw [mf 22 (by omega), eA]; exact s2
  · rw [← hZg, si_same, eR]
  · rw [mf 25 (by omega), re10 3 (by omega)]; exact s4
  · rw [mf 26 (by omega), re10 4 (by omega)]; exact s5
  · rw [mf 17 (by omega)]; exact s6
  · exact ⟨fun j hj => by rw [ml]; exact kf.1 j hj, fun j hj => by rw [ml]; exact kf.2 j hj⟩
  · exact wv_keep eA (re 3 (by omega) (by omega) (by omega) (by omega) (by omega)) hwv
  · rw [eL, re 0 (by omega) (by omega) (by omega) (by omega) (by omega)]; exact hlg
  · rw [fo 182 (by omega) (by omega)]; exact hf.1
  · rw [fo 182 (by omega) (by omega)]; exact hf.2.1
  · rw [mf 24 (by omega)]; exact hf.2.2
  · rw [← hZf]
    exact eqRc_tr (eqRc_sl (by unfold rdw; omega)) (eqRc_tr (eqRc_si (by unfold rdw; omega)) (eqRc_si (by unfold rdw; omega)))
  · rw [← hZg]
    exact eqRd_tr (eqRd_si (by omega)) (eqRd_tr (eqRd_si (by omega)) (eqRd_si (by omega)))
end RU2
