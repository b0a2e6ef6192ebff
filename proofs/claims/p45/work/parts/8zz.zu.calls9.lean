/-! appeals of the class, by what is told after them-/
def cI9 (Z : mjZt) (b : Nat) (S : mjS) (N U : Nat) (E : Nat → Nat → Int) : Prop := Z.2.2.1 = b ∧ cBk Z b S ∧ cDr Z b S ∧ cTr Z b S ∧ vRep Z 199 S (sW S) ∧ okS S ∧ okC S ∧ lgR Z N U E
def hS9 : Nat → mjS → (Nat → Nat → Int) → mjS → Prop
  | 0, S, _, S0 => S = S0
  | U + 1, S, E, S0 => vE S (E 0) ∧ hS9 U (tkS (E 0) S) (fun k => E (k + 1)) S0
/-- after an appeal-/
def oneC (Z Z1 : mjZt) (b : Nat) (S : mjS) (U : Nat) (E : Nat → Nat → Int) : Prop := ∃ (S2 : mjS) (N2 : Nat) (e : Nat → Int), cI9 Z1 b S2 N2 (lgU U) (lgE E e) ∧ vE S2 e ∧ tkS e S2 = S ∧ eqY b Z Z1
def enW (a : Nat) : Nat → Int := fun j => if j = 0 then (2 : Int) else if j = 1 then (a : Int) else 0
section CL9
variable {Z : mjZt} {b N U : Nat} {S S0 : mjS} {E : Nat → Nat → Int}
theorem hS_push {S2 : mjS} {e : Nat → Int} (hv : vE S2 e) (ht : tkS e S2 = S) (h : hS9 U S E S0) : hS9 (U + 1) S2 (lgE E e) S0 := by
  have eE : (fun k => lgE E e (k + 1)) = E := by funext k; unfold lgE; rw [if_neg (by omega)]; rfl
  have e0 : lgE E e 0 = e := by unfold lgE; rw [if_pos rfl]
  refine ⟨by rw [e0]; exact hv, ?_⟩
  rw [e0, ht, eE]
  exact h
theorem y_waive (hi : cI9 Z b S N U E) {a : Nat} (ha : a < sA S) : ∃ Z1, f191_waive (i3 (a : Nat)) Z = some (i3 (1 - S 3 (72 + 3 * a + 2)), Z1) ∧ cI9 Z1 b (updS S (72 + 3 * a + 2) (1 - S 3 (72 + 3 * a + 2))) (lgN N) (lgU U) (lgE E (enW a)) ∧ vE (updS S (72 + 3 * a + 2) (1 - S 3 (72 + 3 * a + 2))) (enW a) ∧ tkS (enW a) (updS S (72 + 3 * a + 2) (1 - S 3 (72 + 3 * a + 2))) = S ∧ eqY b Z Z1 := by
  obtain ⟨hb, h, hd, htr, hv, ho, hoc, hl⟩ := hi
  have hb2 := b_b h
  have o1 := ok_sc ho
  have oa := (ok_act ho ha).2.2.2.2.2.2.2.2.2.2
  unfold f191_waive
  rw [hb]
  generalize hS : updS S (72 + 3 * a + 2) (1 - S 3 (72 + 3 * a + 2)) = S2
  have ef : ∀ f, f ≠ 3 → S2 f = S f := fun f hf => by rw [← hS, updS_f hf]
  have ho2 : okS S2 := by rw [← hS]; exact okS_upW ho ha (by omega)
  have hoc2 : okC S2 := okC_of hoc ef
  generalize he : enW a = e
  have e0 : e 0 = 2 := by rw [← he]; rfl
  have e1 : e 1 = a := by rw [← he]; rfl
  have e2 : e 2 = 0 ∧ e 3 = 0 ∧ e 4 = 0 := by rw [← he]; exact ⟨rfl, rfl, rfl⟩
  obtain ⟨Za, k1, k2, k3⟩ := e4 hl e
  rw [e0, e1, e2.1, e2.2.1, e2.2.2] at k1
  have wz : Za.2.1 b 11 = Z.2.1 b 11 := by rw [k2.1]
  generalize hZb : zSl Za b 11 (Za.2.1 b 11 ^^^ (i6 1 <<< ((i3 a).toInt64 &&& 63))) = Zb
  have hBb : cBk Zb b S2 := by rw [← hZb, ← hS]; exact cBk_upW ho (cBk_l ho h k2) ha
  have hTb : cTr Zb b S2 := cTr_e htr ef (fun c c1 c2 => by rw [← hZb, sl_int]; exact k2.2 c (by omega) (by omega))
  have hbb : Zb.2.2.1 = b := by rw [← hZb, sl_ref, k2.1]; exact hb
  obtain ⟨Z1, r1, r2, r3, r4, r5, r6, r7⟩ := e151 hbb hBb hTb ho2 hoc2
  have hb1 : Z1.2.2.1 = b := by rw [r2]; exact hbb
  have hlg : lgR Z1 (lgN N) (lgU U) (lgE E e) := by
    unfold lgR at k3 ⊢
    rw [(r3 209 (by omega) (by omega) (by omega) (by omega)).1, (r3 210 (by omega) (by omega) (by omega) (by omega)).1, ← hZb, sl_int]
    exact k3
  refine ⟨Z1, ?_, ⟨hb1, r4, r5, r6, r7, ho2, hoc2, hlg⟩, Or.inr (Or.inr (Or.inl ⟨e0, by omega, ?_⟩)), ?_, ?_⟩
  · rw [if_pos (is_b hb2), e18t h ho ha, mjBp_some, if_pos (by decide), show (2 : Int32) = i3 2 from rfl, show (0 : Int32) = i3 0 from rfl, k1, mjBd_some, k2.1, hb, if_pos (is_b hb2), show (1 : Int64) = i6 1 from rfl, ← k2.1, hZb, let_eq, r1, mjBd_some, hb1, if_pos (is_b hb2), b6_test (by omega), b_wv r4 (by omega), ← hS, updS_e, show sA (updS S (72 + 3 * a + 2) (1 - S 3 (72 + 3 * a + 2))) = sA S by unfold sA; rw [updS_f (by omega)]]
    rcases oa with g | g
    · rw [g]; simp [ha]; rw [if_neg (by decide)]; rfl
    · rw [g]; simp; decide
  · unfold sA; rw [ef 10 (by omega)]; unfold sA at ha; omega
  · rw [← hS]; exact tk_waive e e0 e1
  · refine ⟨by rw [r2, ← hZb, sl_ref, k2.1], fun c c1 c2 c3 c4 c5 c6 => ⟨?_, ?_⟩⟩
    · rw [(r3 c c1 c2 c3 c4).1, ← hZb, sl_int]; exact k2.2 c c5 c6
    · rw [(r3 c c1 c2 c3 c4).2, ← hZb, sl_obj _ _ _ _ (by omega), k2.1]
theorem y_waive0 (hi : cI9 Z b S N U E) {a : Nat} (ha : sA S ≤ a) (h2 : a < 100) : f191_waive (i3 (a : Nat)) Z = some (i3 (-1), Z) := by
  obtain ⟨hb, h, hd, htr, hv, ho, hoc, hl⟩ := hi
  unfold f191_waive
  rw [hb, if_pos (is_b (b_b h)), e18f h ho (by omega), mjBp_some, if_neg (by decide)]; rfl
theorem y_undo (hi : cI9 Z b S N (U + 1) E) (hvE : vE S (E 0)) : ∃ Z1 N1, f193_undo Z = some (i3 (U : Nat), Z1) ∧ cI9 Z1 b (tkS (E 0) S) N1 U (fun k => E (k + 1)) ∧ eqY b Z Z1 := by
  obtain ⟨hb, h, hd, htr, hv, ho, hoc, hl⟩ := hi
  have hb2 := b_b h
  have hU := hl.2.1
  unfold f193_undo
  have ef : ∀ f, f ≠ 3 → tkS (E 0) S f = S f := fun f hf => tk_f hf
  have ho2 := tk_ok ho hvE
  have hoc2 : okC (tkS (E 0) S) := okC_of hoc ef
  obtain ⟨Za, N1, k1, k2, k3, k4⟩ := e10 h ho hl hvE
  generalize hS : tkS (E 0) S = S2 at *
  have hTa : cTr Za b S2 := cTr_e htr ef (fun c c1 c2 => (k2.2 c (by omega) (by omega) (by omega) (by omega)).1)
  have hba : Za.2.2.1 = b := by rw [k2.1]; exact hb
  obtain ⟨Z1, r1, r2, r3, r4, r5, r6, r7⟩ := e151 hba k4 hTa ho2 hoc2
  have hb1 : Z1.2.2.1 = b := by rw [r2]; exact hba
  have hlg : lgR Z1 N1 U (fun k => E (k + 1)) := by
    unfold lgR at k3 ⊢
    rw [(r3 209 (by omega) (by omega) (by omega) (by omega)).1, (r3 210 (by omega) (by omega) (by omega) (by omega)).1]
    exact k3
  refine ⟨Z1, N1, ?_, ⟨hb1, r4, r5, r6, r7, ho2, hoc2, hlg⟩, ?_⟩
  · rw [hl.2.2.2.1, show (0 : Int32) = i3 0 from rfl, if_pos (by rw [c_ne (by omega)]; omega), hb, k1, mjBd_some, r1, mjBd_some, hlg.2.2.2.1]
  · refine ⟨by rw [r2, k2.1], fun c c1 c2 c3 c4 c5 c6 => ⟨?_, ?_⟩⟩
    · rw [(r3 c c1 c2 c3 c4).1]; exact (k2.2 c (by omega) (by omega) c5 c6).1
    · rw [(r3 c c1 c2 c3 c4).2]; exact (k2.2 c (by omega) (by omega) c5 c6).2
theorem y_undo0 (hi : cI9 Z b S N 0 E) : f193_undo Z = some (-1, Z) := by
  obtain ⟨hb, h, hd, htr, hv, ho, hoc, hl⟩ := hi
  unfold f193_undo
  rw [hl.2.2.2.1, if_neg (by decide)]
theorem y_ap1 (hi : cI9 Z b S N U E) {a m : Nat} (ha : a < sA S) (hm2 : m < 2) {v : Int} (hv2 : m = 0 ∧ 0 ≤ v ∧ v ≤ 9999 ∨ m = 1 ∧ 0 ≤ v ∧ v ≤ 99) : ∃ Z1, f190_appeal_j92 (i3 a) (i3 m) (i3 v) (acB b a) (i3 (S 3 (72 + 3 * a + m))) (i3 m) Z = some (i3 (S 3 (72 + 3 * a + m)), Z1) ∧ oneC Z Z1 b S U E := by
  obtain ⟨hb, h, hd, htr, hv, ho, hoc, hl⟩ := hi
  have hb2 := b_b h
  have o1 := ok_sc ho
  have oa := ok_act ho ha
  have ob : 0 ≤ S 3 (72 + 3 * a + m) ∧ S 3 (72 + 3 * a + m) ≤ 9999 ∧ (m = 1 → S 3 (72 + 3 * a + m) ≤ 99) := by
    rcases (by omega : m = 0 ∨ m = 1) with rfl | rfl
    · rw [Nat.add_zero]; omega
    · omega
  have hA : acB b a = b + 48 + a := rfl
  generalize hS : updS S (72 + 3 * a + m) v = S2
  have ef : ∀ f, f ≠ 3 → S2 f = S f := fun f hf => by rw [← hS, updS_f hf]
  have ho2 : okS S2 := by rw [← hS]; exact okS_upd ho ha hv2
  have hoc2 : okC S2 := okC_of hoc ef
  generalize he : (fun j => if j = 0 then (m : Int) else if j = 1 then (a : Int) else if j = 2 then S 3 (72 + 3 * a + m) else 0) = e
  have e0 : e 0 = m := by rw [← he]; rfl
  have e1 : e 1 = a := by rw [← he]; rfl
  have e2 : e 2 = S 3 (72 + 3 * a + m) := by rw [← he]; rfl
  have e3 : e 3 = 0 ∧ e 4 = 0 := by rw [← he]; exact ⟨rfl, rfl⟩
  obtain ⟨Za, k1, k2, k3⟩ := e4 hl e
  rw [e0, e1, e2, e3.1, e3.2] at k1
  generalize hZb : zSi Za (acB b a) (3 + m) (i3 v) = Zb
  have hBb : cBk Zb b S2 := by rw [← hZb, ← hS]; exact cBk_upA ho (cBk_l ho h k2) ha hm2
  have hTb : cTr Zb b S2 := cTr_e htr ef (fun c c1 c2 => by rw [← hZb, si_obj _ _ _ _ (by omega)]; exact k2.2 c (by omega) (by omega))
  have hbb : Zb.2.2.1 = b := by rw [← hZb, si_lng, k2.1]; exact hb
  obtain ⟨Z1, r1, r2, r3, r4, r5, r6, r7⟩ := e151 hbb hBb hTb ho2 hoc2
  have hb1 : Z1.2.2.1 = b := by rw [r2]; exact hbb
  have hlg : lgR Z1 (lgN N) (lgU U) (lgE E e) := by
    unfold lgR at k3 ⊢
    rw [(r3 209 (by omega) (by omega) (by omega) (by omega)).1, (r3 210 (by omega) (by omega) (by omega) (by omega)).1, ← hZb, si_obj _ _ _ _ (by omega), si_obj _ _ _ _ (by omega)]
    exact k3
  refine ⟨Z1, ?_, S2, lgN N, e, ⟨hb1, r4, r5, r6, r7, ho2, hoc2, hlg⟩, ?_, by rw [← hS]; exact tk_appeal hm2 e e0 e1 e2, ?_⟩
  · unfold f190_appeal_j92
    rw [show (0 : Int32) = i3 0 from rfl, k1, mjBd_some]
    rcases (by omega : m = 0 ∨ m = 1) with rfl | rfl
    · rw [if_neg (by decide), if_pos (is_ac hb2 a (by omega)), show (3 : Nat) = 3 + 0 from rfl, hZb, let_eq, r1, mjBd_some]
    · rw [if_pos (by decide), if_pos (is_ac hb2 a (by omega)), show (4 : Nat) = 3 + 1 from rfl, hZb, let_eq, r1, mjBd_some]
  · have eA : sA S2 = sA S := by unfold sA; rw [ef 10 (by omega)]
    unfold vE
    rw [e0, e1, e2, eA]
    rcases (by omega : m = 0 ∨ m = 1) with rfl | rfl
    · exact Or.inl (by omega)
    · exact Or.inr (Or.inl (by omega))
  · refine ⟨by rw [r2, ← hZb, si_lng, k2.1], fun c c1 c2 c3 c4 c5 c6 => ⟨?_, ?_⟩⟩
    · rw [(r3 c c1 c2 c3 c4).1, ← hZb, si_obj _ _ _ _ (by omega)]; exact k2.2 c c5 c6
    · rw [(r3 c c1 c2 c3 c4).2, ← hZb, si_lng, k2.1]
theorem y_appeal (hi : cI9 Z b S N U E) {a m : Nat} (ha : a < 100) (hm2 : m < 2) {v : Int} (hv0 : 0 ≤ v ∧ v ≤ 20000) : (f190_appeal (i3 (a : Nat)) (i3 (m : Nat)) (i3 v) Z = some (-1, Z)) ∨ (a < sA S ∧ (m = 0 → v ≤ 9999) ∧ ∃ (x : Int) (Z1 : mjZt), 0 ≤ x ∧ x ≤ 9999 ∧ f190_appeal (i3 (a : Nat)) (i3 (m : Nat)) (i3 v) Z = some (i3 x, Z1) ∧ oneC Z Z1 b S U E) := by
  have hi0 := hi
  obtain ⟨hb, h, hd, htr, hv, ho, hoc, hl⟩ := hi
  have hb2 := b_b h
  have o1 := ok_sc ho
  by_cases q : a < sA S
  · have oa := ok_act ho q
    have ob : 0 ≤ S 3 (72 + 3 * a + m) ∧ S 3 (72 + 3 * a + m) ≤ 9999 := by
      rcases (by omega : m = 0 ∨ m = 1) with rfl | rfl
      · rw [Nat.add_zero]; omega
      · omega
    have rd : Z.1 (acB b a) (3 + m) = i3 (S 3 (72 + 3 * a + m)) := by
      obtain ⟨_, _, _, g4, g5⟩ := b_ac h q
      unfold sTe at g4
      unfold sSz at g5
      rw [if_pos q] at g4 g5
      rcases (by omega : m = 0 ∨ m = 1) with rfl | rfl
      · exact g4
      · exact g5
    have cl : f190_appeal (i3 a) (i3 m) (i3 v) Z = if mjCmp .gt (i3 v) (i3 (if m = 0 then 9999 else 99)) = true then some ((-1), Z) else if mjCmp .ne (i3 v) (i3 (S 3 (72 + 3 * a + m))) = true then f190_appeal_j92 (i3 a) (i3 m) (i3 v) (acB b a) (i3 (S 3 (72 + 3 * a + m))) (i3 m) Z else some ((-1), Z) := by
      unfold f190_appeal f190_appeal_j53 f190_appeal_j68
      have q0 : mjCmp .ge (i3 v) 0 = true := by rw [show (0 : Int32) = i3 0 from rfl, c_ge (by omega)]; omega
      rw [hb, if_pos (is_b hb2), e18t h ho q, mjBp_some, if_neg (by decide), e6 hb2 (by omega)]
      rcases (by omega : m = 0 ∨ m = 1) with rfl | rfl
      · have rd0 : Z.1 (acB b a) 3 = i3 (S 3 (72 + 3 * a + 0)) := rd
        have c0 : ¬ (mjCmp .ne (i3 ((0 : Nat) : Int)) 0 = true) := by decide
        rw [if_neg (by decide), if_neg (by decide), if_pos q0, mjBp_some, if_neg c0, if_pos (is_ac hb2 a (by omega)), rd0, if_neg c0, if_neg c0]
        rfl
      · have rd0 : Z.1 (acB b a) 4 = i3 (S 3 (72 + 3 * a + 1)) := rd
        have c0 : mjCmp .ne (i3 ((1 : Nat) : Int)) 0 = true := by decide
        rw [if_neg (by decide), if_neg (by decide), if_pos q0, mjBp_some, if_pos c0, if_pos (is_ac hb2 a (by omega)), rd0, if_pos c0, if_pos c0]
        rfl
    by_cases g : v ≤ (if m = 0 then (9999 : Int) else 99)
    · by_cases g2 : v = S 3 (72 + 3 * a + m)
      · left
        rw [cl, if_neg (by rw [c_gt (by split <;> omega)]; omega), if_neg (by rw [c_ne (by omega)]; omega)]
      · right
        obtain ⟨Z1, r1, r2⟩ := y_ap1 hi0 q hm2 (v := v) (by split at g <;> omega)
        refine ⟨q, fun e => by rw [if_pos e] at g; exact g, _, Z1, ob.1, ob.2, ?_, r2⟩
        rw [cl, if_neg (by rw [c_gt (by split <;> omega)]; omega), if_pos (by rw [c_ne (by omega)]; omega), r1]
    · left
      rw [cl, if_pos (by rw [c_gt (by split <;> omega)]; omega)]
  · left
    unfold f190_appeal
    rw [hb, if_pos (is_b hb2), e18f h ho (by omega), mjBp_some, if_pos (by decide)]
theorem y_me1 (hi : cI9 Z b S N U E) {t l : Nat} (ht : t < sT S) (hl2 : l < sTd S t) {x y : Int} (hx : 20 ≤ x ∧ x ≤ 999) (hy : -20 ≤ y ∧ y ≤ 20) (hz : l + 1 = sLg S → y = 0) : ∃ (v : Int) (Z1 : mjZt), 0 ≤ v ∧ v ≤ 9999 ∧ (mjBp (f108_tenthsOf (tmB b t) (i3 ((l + 1 : Nat) : Int)) Z) fun v124 => mjBp (f32_metresOf (tmB b t) (i3 ((l + 1 : Nat) : Int)) Z) fun v127 => mjBd (f4_keep 3 (i3 t) (i3 ((l + 1 : Nat) : Int)) v124 v127 Z) fun _ Z131 => mjBd (f9_setLeg (tmB b t) (i3 ((l + 1 : Nat) : Int)) (i3 x) (i3 y) Z131) fun _ Z134 => mjBd (f151_settleAll Z134) fun _ Z137 => mjBp (f99_time (tmB b t) Z137) fun v139 => some (v139, Z137)) = some (i3 v, Z1) ∧ oneC Z Z1 b S U E := by
  obtain ⟨hb, h, hd, htr, hv, ho, hoc, hl⟩ := hi
  have hb2 := b_b h
  have o1 := ok_sc ho
  have o2 := ok_tm ho ht
  have og := ok_leg ho ht hl2
  have hT : tmB b t = b + 18 + 5 * t := rfl
  have r0 := is_tmr hb2 t (by omega) 0 (by omega)
  have r1' := is_tmr hb2 t (by omega) 1 (by omega)
  have f108 : f108_tenthsOf (tmB b t) (i3 ((l + 1 : Nat) : Int)) Z = some (i3 (sTn S t l)) := by
    unfold f108_tenthsOf
    rw [if_pos (is_tm hb2 t (by omega)), e5 r0.1 r0.2 (by omega) (by omega), mjBp_some, Int.toNat_natCast, b_tn h ht hl2]
  have f32 : f32_metresOf (tmB b t) (i3 ((l + 1 : Nat) : Int)) Z = some (i3 (sMt S t l)) := by
    unfold f32_metresOf
    rw [if_pos (is_tm hb2 t (by omega)), e5 r1'.1 r1'.2 (by omega) (by omega), mjBp_some, Int.toNat_natCast, b_mt h ht hl2]
  generalize hS : updS (updS S (12 * t + 2 * l) x) (12 * t + 2 * l + 1) y = S2
  have ef : ∀ f, f ≠ 3 → S2 f = S f := fun f hf => by rw [← hS, updS_f hf, updS_f hf]
  have ho2 : okS S2 := by rw [← hS]; exact okS_upL ho ht hl2 hx hy hz
  have hoc2 : okC S2 := okC_of hoc ef
  have eT : sT S2 = sT S := by unfold sT; rw [ef 10 (by omega)]
  have eD : ∀ u, sTd S2 u = sTd S u := fun u => by unfold sTd; rw [ef 2 (by omega)]
  have eL : sLg S2 = sLg S := by unfold sLg; rw [ef 0 (by omega)]
  generalize he : (fun j => if j = 0 then (3 : Int) else if j = 1 then (t : Int) else if j = 2 then ((l + 1 : Nat) : Int) else if j = 3 then sTn S t l else sMt S t l) = e
  have e0 : e 0 = 3 := by rw [← he]; rfl
  have e1 : e 1 = t := by rw [← he]; rfl
  have e2 : e 2 = ((l + 1 : Nat) : Int) := by rw [← he]; rfl
  have e3 : e 3 = sTn S t l := by rw [← he]; rfl
  have e4' : e 4 = sMt S t l := by rw [← he]; rfl
  obtain ⟨Za, k1, k2, k3⟩ := e4 hl e
  rw [e0, e1, e2, e3, e4'] at k1
  generalize hZb : zSi (zSi Za (tmB b t + 1) (l + 1) (i3 x)) (tmB b t + 2) (l + 1) (i3 y) = Zb
  have hBb : cBk Zb b S2 := by rw [← hZb, ← hS]; exact cBk_upL ho (cBk_l ho h k2) ht hl2
  have hTb : cTr Zb b S2 := cTr_e htr ef (fun c c1 c2 => by rw [← hZb, si_obj _ _ _ _ (by omega), si_obj _ _ _ _ (by omega)]; exact k2.2 c (by omega) (by omega))
  have hbb : Zb.2.2.1 = b := by rw [← hZb, si_lng, si_lng, k2.1]; exact hb
  obtain ⟨Z1, r1, r2, r3, r4, r5, r6, r7⟩ := e151 hbb hBb hTb ho2 hoc2
  have hb1 : Z1.2.2.1 = b := by rw [r2]; exact hbb
  have hlg : lgR Z1 (lgN N) (lgU U) (lgE E e) := by
    unfold lgR at k3 ⊢
    rw [(r3 209 (by omega) (by omega) (by omega) (by omega)).1, (r3 210 (by omega) (by omega) (by omega) (by omega)).1, ← hZb, si_obj _ _ _ _ (by omega), si_obj _ _ _ _ (by omega), si_obj _ _ _ _ (by omega), si_obj _ _ _ _ (by omega)]
    exact k3
  have tb := tm_bd ho2 (t := t) (by omega)
  refine ⟨sTm S2 t, Z1, by omega, by omega, ?_, S2, lgN N, e, ⟨hb1, r4, r5, r6, r7, ho2, hoc2, hlg⟩, ?_, by rw [← hS]; exact tk_measure e e0 e1 e2 e3 e4', ?_⟩
  · rw [f108, mjBp_some, f32, mjBp_some, show (3 : Int32) = i3 3 from rfl, k1, mjBd_some, e9 hb2 (by omega) (by omega), mjBd_some, hZb, r1, mjBd_some, e99 r4 r5 ho2 (by omega), mjBp_some]
  · refine Or.inr (Or.inr (Or.inr ⟨e0, by omega, by omega, by omega, ?_, by omega, by omega, by omega, by omega, ?_⟩))
    · rw [e1, Int.toNat_natCast, eD]; omega
    · rw [e2, eL, e4']; intro g; exact og.2.2.2.2 (by omega)
  · refine ⟨by rw [r2, ← hZb, si_lng, si_lng, k2.1], fun c c1 c2 c3 c4 c5 c6 => ⟨?_, ?_⟩⟩
    · rw [(r3 c c1 c2 c3 c4).1, ← hZb, si_obj _ _ _ _ (by omega), si_obj _ _ _ _ (by omega)]; exact k2.2 c c5 c6
    · rw [(r3 c c1 c2 c3 c4).2, ← hZb, si_lng, si_lng, k2.1]
theorem y_measure (hi : cI9 Z b S N U E) {t : Nat} (ht9 : t < 100) {v : Int} (hv2 : 20 ≤ v ∧ v ≤ 999) : (f192_measure (i3 (t : Nat)) 1 (i3 v) 0 Z = some (-1, Z)) ∨ ∃ (x : Int) (Z1 : mjZt), 0 ≤ x ∧ x ≤ 9999 ∧ f192_measure (i3 (t : Nat)) 1 (i3 v) 0 Z = some (i3 x, Z1) ∧ oneC Z Z1 b S U E := by
  have hi0 := hi
  obtain ⟨hb, h, hd, htr, hv, ho, hoc, hl⟩ := hi
  have hb2 := b_b h
  have o1 := ok_sc ho
  by_cases ht : t < sT S
  · have o2 := ok_tm ho ht
    by_cases q : 1 ≤ sTd S t
    · have hl2 : 0 < sTd S t := by omega
      have og := ok_leg ho ht hl2
      have op := ok_pos ho (by omega)
      have e30' : f30_mostMetres b (i3 ((0 + 1 : Nat) : Int)) Z = some (i3 20) := by
        rw [e30 h ho (l := 0) (by omega), if_neg (by omega)]
      have x108 : f108_tenthsOf (tmB b t) (i3 ((0 + 1 : Nat) : Int)) Z = some (i3 (sTn S t 0)) := e108 h ho ht hl2
      have x32 : f32_metresOf (tmB b t) (i3 ((0 + 1 : Nat) : Int)) Z = some (i3 (sMt S t 0)) := e32 h ho ht hl2
      have cl : f192_measure (i3 (t : Nat)) (i3 ((0 + 1 : Nat) : Int)) (i3 v) (i3 0) Z = f192_measure_j73 (i3 (t : Nat)) (i3 ((0 + 1 : Nat) : Int)) (i3 v) (i3 0) (i3 20) (tmB b t) (i3 (if v = sTn S t 0 ∧ 0 = sMt S t 0 then 1 else 0)) Z := by
        unfold f192_measure
        rw [hb, if_pos (is_b hb2), e19t h ho ht (by omega), mjBp_some, if_neg (by decide), show (20 : Int32) = i3 20 from rfl, if_neg (by rw [c_lt (by omega)]; omega), show (999 : Int32) = i3 999 from rfl, if_pos (by rw [c_le (by omega)]; omega), e30', mjBp_some, e8 h ho ht, mjBp_some, if_pos (is_tm hb2 t (by omega)), x108, mjBp_some]
        by_cases q3 : v = sTn S t 0
        · rw [if_neg (by rw [c_ne (by omega)]; omega), x32, mjBp_some]
          by_cases q4 : 0 = sMt S t 0
          · rw [if_neg (by rw [c_ne (by omega)]; omega), if_pos ⟨q3, q4⟩]; rfl
          · rw [if_pos (by rw [c_ne (by omega)]; omega), if_neg (fun g => q4 g.2)]; rfl
        · rw [if_pos (by rw [c_ne (by omega)]; omega), if_neg (fun g => q3 g.1)]; rfl
      have cl' : f192_measure (i3 (t : Nat)) 1 (i3 v) 0 Z = f192_measure_j73 (i3 (t : Nat)) (i3 ((0 + 1 : Nat) : Int)) (i3 v) (i3 0) (i3 20) (tmB b t) (i3 (if v = sTn S t 0 ∧ 0 = sMt S t 0 then 1 else 0)) Z := cl
      by_cases q4 : v = sTn S t 0 ∧ 0 = sMt S t 0
      · left
        rw [cl', if_pos q4]
        unfold f192_measure_j73
        rw [if_neg (by decide), if_neg (by decide), if_neg (by decide)]
      · right
        obtain ⟨x, Z1, r1, r2, r3, r4⟩ := y_me1 hi0 ht hl2 hv2 (y := 0) (by omega) (fun _ => rfl)
        refine ⟨x, Z1, r1, r2, ?_, r4⟩
        rw [cl', if_neg q4]
        unfold f192_measure_j73
        rw [if_neg (by decide), if_neg (by decide), if_pos (by decide), if_pos (is_tm hb2 t (by omega))]
        exact r3
    · left
      unfold f192_measure
      have e19' : f19_hasLeg b (i3 (t : Nat)) 1 Z = some (i3 0) := e19f h ho ht (l := 1) (by omega)
      rw [hb, if_pos (is_b hb2), e19', mjBp_some, if_pos (by decide)]
  · left
    unfold f192_measure
    have e19' : f19_hasLeg b (i3 (t : Nat)) 1 Z = some (i3 0) := e19n h ho (by omega) 1
    rw [hb, if_pos (is_b hb2), e19', mjBp_some, if_pos (by decide)]
theorem y_measure7 (hi : cI9 Z b S N U E) (x y : Int32) : f192_measure 0 7 x y Z = some (-1, Z) := by
  obtain ⟨hb, h, hd, htr, hv, ho, hoc, hl⟩ := hi
  have hb2 := b_b h
  have o1 := ok_sc ho
  have e19' : f19_hasLeg b 0 7 Z = some (i3 0) := by
    by_cases ht : 0 < sT S
    · have o2 := ok_tm ho ht
      exact e19f h ho (t := 0) ht (l := 7) (by omega)
    · exact e19n h ho (t := 0) (by omega) 7
  unfold f192_measure
  rw [hb, if_pos (is_b hb2), e19', mjBp_some, if_pos (by decide)]
end CL9
