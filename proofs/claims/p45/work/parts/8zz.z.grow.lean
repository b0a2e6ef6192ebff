/-! a builder out of a string constant; a test grown behind a text-/
theorem q_initC {Z : mjQ} {sb s : Nat} (hk : Z.2.2.2.2 sb = (19, 0)) (hsb : sb < 1000 + Z.1.1) (h2 : Z.2.1 sb 2 = i3 0) (h3 : Z.2.1 sb 3 = i3 0) (hw : wokQ Z) (hs : 1000000 ≤ s ∧ s < 1000059) (hn : Z.1.1 < 80000) : ∃ Z2 v2 cap2, g228_init sg0 sb s Z = some ((), Z2) ∧ bS Z2 sb v2 cap2 (txS s) ∧ frm Z Z2 (fun b => b = sb) ∧ 1000 + Z.1.1 ≤ v2 ∧ Z2.1.1 ≤ Z.1.1 + 2 ∧ Z2.1.2 ≤ Z.1.2 + 2 * cap2 ∧ cap2 ≤ 3000 := by
  have hsn : ¬ sb = 1000 + Z.1.1 := by omega
  have hu : (txS s).length ≤ 1000 := by have := (txS_fit hs).2; omega
  have c0 : qNewA sg0 (Z.1, mjSi Z.2 sb 1 (i3 0)) 118 (i3 (((txS s).length + 16 : Nat) : Int)) = _ := qNewA_0 (t := 118) (n := (txS s).length + 16) (by show Z.1.1 < 100000; omega) (by omega)
  have f0 : frm Z ((Z.1.1 + 1, Z.1.2 + ((txS s).length + 16)), mjZr (mjSi Z.2 sb 1 (i3 0)) (1000 + Z.1.1) (118, (txS s).length + 16)) (fun b => b = sb) := frm_tr2 (frm_si (P := fun b => b = sb) rfl) (frm_zr (Z := (Z.1, mjSi Z.2 sb 1 (i3 0))) (m := Z.1.2 + ((txS s).length + 16)) (q := (118, (txS s).length + 16)) (by show Z.1.1 < 100000; omega)) (fun _ _ q => q)
  have hkB : (mjZr (mjSi Z.2 sb 1 (i3 0)) (1000 + Z.1.1) (118, (txS s).length + 16)).2.2.2 sb = (19, 0) := (if_neg hsn).trans hk
  have f1 : frm Z ((Z.1.1 + 1, Z.1.2 + ((txS s).length + 16)), mjSr (mjZr (mjSi Z.2 sb 1 (i3 0)) (1000 + Z.1.1) (118, (txS s).length + 16)) sb 0 (some (1000 + Z.1.1))) (fun b => b = sb) := frm_tr2 f0 (frm_sr (Z := ((Z.1.1 + 1, Z.1.2 + ((txS s).length + 16)), mjZr (mjSi Z.2 sb 1 (i3 0)) (1000 + Z.1.1) (118, (txS s).length + 16))) (P := fun b => b = sb) rfl) (fun _ _ q => q)
  have bC : bS ((Z.1.1 + 1, Z.1.2 + ((txS s).length + 16)), mjSr (mjZr (mjSi Z.2 sb 1 (i3 0)) (1000 + Z.1.1) (118, (txS s).length + 16)) sb 0 (some (1000 + Z.1.1))) sb (1000 + Z.1.1) ((txS s).length + 16) [] := by
    refine ⟨hkB, (if_pos rfl).trans (if_pos rfl), ?_, ?_, if_pos rfl, Nat.zero_le _, by omega, fun i hi => absurd hi (Nat.not_lt_zero _), ?_, by show sb < 1000 + (Z.1.1 + 1); omega, by show 1000 + Z.1.1 < 1000 + (Z.1.1 + 1); omega, ?_⟩
    · exact (if_neg hsn).trans ((if_pos rfl).trans (if_pos rfl))
    · exact ((if_neg hsn).trans ((if_pos rfl).trans (if_neg (by decide)))).trans h3
    · intro j
      show fits .byte (.int (if 1000 + Z.1.1 = 1000 + Z.1.1 then 0 else _)) = true
      rw [if_pos rfl]
      rfl
    · exact ((if_neg hsn).trans ((if_pos rfl).trans (if_neg (by decide)))).trans h2
  have sC := wok_frm hw f1
  obtain ⟨Z2, v2, cap2, e1, r1, r2, r3, r4, r5, r6, r7⟩ := q_apS bC sC (by show Z.1.1 + 1 < 90000; omega) hs (by show 0 + (txS s).length ≤ 19000; omega)
  rw [ap_nl] at r1 r7
  refine ⟨Z2, v2, cap2, ?_, r1, ?_, ?_, ?_, ?_, ?_⟩
  · unfold g228_init g203_init
    rw [if_pos (ro_sid hs), q_slen hw hs, mjBp_some, show (2147483631 : Int32) = i3 2147483631 from rfl, if_neg (by rw [c_ge (by omega)]; omega), show (16 : Int32) = i3 16 from rfl, i3_add, show ((txS s).length : Int) + 16 = (((txS s).length + 16 : Nat) : Int) from by omega]
    unfold g203_init_j24
    rw [if_pos (ro_sid hs), q_coder hw hs, mjBp_some, qSi_of (Z := Z) hk rfl, mjBp_some, if_neg (by decide), c0, mjBq_some, qSr_of (Z := ((Z.1.1 + 1, Z.1.2 + mjSzK (118, (txS s).length + 16)), mjZr (mjSi Z.2 sb 1 (i3 0)) (1000 + Z.1.1) (118, (txS s).length + 16))) hkB rfl, mjBp_some, if_pos (ro_of (M := mjSr (mjZr (mjSi Z.2 sb 1 (i3 0)) (1000 + Z.1.1) (118, (txS s).length + 16)) sb 0 (some (1000 + Z.1.1))) hkB)]
    unfold g232_append
    rw [if_pos (ro_of (M := mjSr (mjZr (mjSi Z.2 sb 1 (i3 0)) (1000 + Z.1.1) (118, (txS s).length + 16)) sb 0 (some (1000 + Z.1.1))) hkB), show mjSzK (118, (txS s).length + 16) = (txS s).length + 16 from rfl, e1, mjBq_some, mjBq_some, mjBq_some]
  · refine frm_tr2 f1 r3 ?_
    intro b hb q
    rcases q with q | q
    · exact q
    · exact absurd q (old_new (by omega) hb)
  · rcases r4 with q | q
    · rw [q]; exact Nat.le_refl _
    · rw [q]; show 1000 + Z.1.1 ≤ 1000 + (Z.1.1 + 1); omega
  · exact r5
  · have : Z2.1.2 + 2 * ((txS s).length + 16) ≤ (Z.1.2 + ((txS s).length + 16)) + 2 * cap2 := r6
    omega
  · rcases r7 with q | q
    · omega
    · have : cap2 ≤ 2 * (txS s).length + 2 := q
      omega
section WGR
variable {x own L n : Nat} {xs : Nat → Int32} {Z : mjQ} {bo : mjBb} {q : mjV}
theorem w_grow {at0 : Nat} (h : wS x own L xs n Z bo q) (hm : rmW 7600 Z bo q) (h5 : 5 ≤ bo.2.2.length) (hat : at0 ≤ 1000) : ∃ pt g Z1 Z2 Z3 bo3 u cm, qNew sg0 Z (13, 0) = some (g, Z1) ∧ g183_init sg0 g 2000000 (i3 (at0 : Nat)) Z1 = some ((), Z2) ∧ mjRo Z2.2 g 13 = true ∧ g192_tc sg0 g own 0 Z2 = some (pt, Z3) ∧ wX x own L xs n 7600 Z bo q n Z3 bo3 q u ∧ grT (grB 2) u ∧ Z3.2.2.2.2 g = (13, 0) ∧ Z3.2.1 g 3 = cm ∧ 1000 + Z.1.1 ≤ g ∧ g < 1000 + Z3.1.1 := by
  obtain ⟨m1, m2, m3⟩ := hm
  obtain ⟨hb, hA⟩ := h
  obtain ⟨Z1, a1, a2, a3, a4, a5, a6⟩ := w_new (Z := Z) (c := (13, 0)) (by omega)
  have gb : 1000 + Z.1.1 < 1000 + Z1.1.1 := by rw [a3]; show 1000 + Z.1.1 < 1000 + (Z.1.1 + 1); omega
  obtain ⟨Z2, b1, b2, b3, b4⟩ := q_initG (at9 := at0) a4 (a5 3) gb
  have f2 : frm Z Z2 (fun _ => False) := frm_tr2 a2 b3 (fun a ha e => by
    have e9 : a = 1000 + Z.1.1 := e
    exact absurd e9 (old_new (by omega) ha))
  have hA2 := wA_frm hA (by omega) f2 (fun a e => e.elim)
  have hB2 := bS_frm hb f2 (fun e => e) (fun e => e)
  have c2 : Z2.1.1 = Z.1.1 + 1 := by rw [b4, a3]
  have s2 : Z2.1.2 = Z.1.2 + mjSzK (13, 0) := by rw [b4, a3]
  have hz : mjSzK (13, 0) ≤ 16 := by decide
  have hg : gS (1000 + Z.1.1) own L xs Z2 (bo.1, bo.2.1, bo.2.2, at0, 4, 0) := ⟨hB2, b2, hA2.2.1, hA2.2.2.1⟩
  obtain ⟨pt, Z3, q3, u, N, d1, d2, d3, d4, d5⟩ := g_tc Z2 _ hg (show (1 : Int) ≤ 4 by omega) (show (4 : Int) ≤ 4 by omega) (⟨by show Z2.1.1 + (1900 * (4 : Int).toNat - 72) ≤ 80000; have : (4 : Int).toNat = 4 := rfl; omega, by show bo.2.2.length + (1900 * (4 : Int).toNat - 72) ≤ 18000; have : (4 : Int).toNat = 4 := rfl; omega, by show at0 + (1900 * (4 : Int).toNat - 72) ≤ 90000; have : (4 : Int).toNat = 4 := rfl; omega⟩) h5
  have hN : N ≤ 7528 := by
    have : (N : Int) + 72 ≤ 1900 * (4 - q3.2.2.2.2.1) := d3
    omega
  obtain ⟨e1, e2, e3, e4, e5, e6, e7, e8, e9⟩ := d2
  obtain ⟨n1, n2, n3, n4, n5, n6⟩ := gS_ne hg
  have k1 : (Z2.2.2.2.2 own).1 = 19 := by rw [hB2.1]
  have k2 : (Z2.2.2.2.2 bo.1).1 = 118 := by rw [hB2.2.2.2.2.1]
  have k3 : (Z2.2.2.2.2 (1000 + Z.1.1)).1 = 13 := by rw [b2.1]
  have mn := e3.1
  have gk3 : Z3.2.2.2.2 (1000 + Z.1.1) = (13, 0) := (e3.2 _ (Or.inl n5)).1.trans b2.1
  refine ⟨pt, _, Z1, Z2, Z3, (q3.1, q3.2.1, q3.2.2.1), u, _, a1, b1, ro_of b2.1, d1, ⟨⟨e1.1, wA_frm hA2 (by omega) e3 (fun a e => ?_)⟩, e2, by omega, by omega, ?_, e7, by omega, by omega, fun a ha hk => ?_, fun s0 v0 c0 t0 g1 g2 g3 => ?_, fun a ha => ?_⟩, d5, gk3, rfl, Nat.le_refl _, by omega⟩
  · rcases e with e | e | e
    · rw [e, k1]; decide
    · rw [e, k3]; decide
    · rw [show a = bo.1 from e, k2]; decide
  · have : Z3.1.2 + 2 * bo.2.1 ≤ Z2.1.2 + 2 * q3.2.1 + 8 * N := e6
    show Z3.1.2 + 2 * bo.2.1 ≤ Z.1.2 + 2 * q3.2.1 + 16 * 7600
    omega
  · obtain ⟨y1, y2, y3⟩ := (f2.2 a (Or.inl ha)).2 (fun e => e)
    have hk2 : kpO (Z2.2.2.2.2 a).1 := by rw [y3]; exact hk
    obtain ⟨z1, z2, z3⟩ := (e3.2 a (Or.inl (by omega))).2 (fun e => by
      rcases e with e | e | e
      · rw [e, k1] at hk2; exact kpO_no (by omega) hk2
      · rw [e, k3] at hk2; exact kpO_no (by omega) hk2
      · rw [show a = bo.1 from e, k2] at hk2; exact kpO_no (by omega) hk2)
    exact ⟨z1.trans y1, z2.trans y2, z3.trans y3⟩
  · have g2' := bS_frm g1 f2 (fun e => e) (fun e => e)
    have g0 := g1.2.2.2.2.2.2.2.2.2.1
    have g0' := g1.2.2.2.2.2.2.2.2.2.2.1
    refine ⟨bS_frm g2' e3 (fun e => ?_) (fun e => ?_), fun e => ?_⟩
    · rcases e with e | e | e
      · exact g2 e
      · omega
      · have := g2'.1
        rw [show s0 = bo.1 from e, hB2.2.2.2.2.1] at this
        exact absurd (congrArg Prod.fst this) (by simp)
    · rcases e with e | e | e
      · have := g2'.2.2.2.2.1
        rw [e, hB2.1] at this
        exact absurd (congrArg Prod.fst this) (by simp)
      · omega
      · exact g3 e
    · have w : v0 = q3.1 := e
      rcases e4 with g | g
      · exact g3 (w.trans g)
      · omega
  · exact ((e3.2 a (Or.inl (by omega))).1).trans ((f2.2 a (Or.inl ha)).1)
/-- the rule's own builder begins -/
theorem w_own {sb s : Nat} {b : mjBb} (h : wS x sb L xs n Z b q) (hm : rmW 10 Z b q) (hs : 1000000 ≤ s ∧ s < 1000059) : ∃ own Z1 Z2 bo, qNew sg0 Z (19, 0) = some (own, Z1) ∧ g228_init sg0 own s Z1 = some ((), Z2) ∧ wS x sb L xs n Z2 b q ∧ wS x own L xs n Z2 bo q ∧ bo.2.2 = txS s ∧ sb ≠ own ∧ b.1 ≠ bo.1 ∧ Z2.1.1 ≤ Z.1.1 + 3 ∧ Z.1.1 ≤ Z2.1.1 ∧ Z2.1.2 ≤ Z.1.2 + 6010 ∧ keepO Z Z2 ∧ (∀ a, a < 1000 + Z.1.1 → Z2.2.2.2.2 a = Z.2.2.2.2 a) ∧ bo.2.1 ≤ 3000 := by
  obtain ⟨m1, m2, m3⟩ := hm
  obtain ⟨Z1, a1, a2, a3, a4, a5, a6⟩ := w_new (Z := Z) (c := (19, 0)) (by omega)
  have c1 : Z1.1.1 = Z.1.1 + 1 := by rw [a3]
  have s1 : Z1.1.2 = Z.1.2 + mjSzK (19, 0) := by rw [a3]
  have hz : mjSzK (19, 0) ≤ 10 := by decide
  obtain ⟨Z2, v2, cap2, b1, b2, b3, b4, b5, b6, b7⟩ := q_initC a4 (by omega) (a5 2) (a5 3) (wok_frm h.2.2.1 a2) hs (by omega)
  have f2 : frm Z Z2 (fun _ => False) := frm_tr2 a2 b3 (fun a ha e => by
    have e9 : a = 1000 + Z.1.1 := e
    exact absurd e9 (old_new (by omega) ha))
  have hA2 := wA_frm h.2 (by omega) f2 (fun a e => e.elim)
  have hB2 := bS_frm h.1 f2 (fun e => e) (fun e => e)
  have l1 := h.1.2.2.2.2.2.2.2.2.2.1
  have l2 := h.1.2.2.2.2.2.2.2.2.2.2.1
  have mn := b3.1
  obtain ⟨tt, htt⟩ : ∃ tt, tt = txS s := ⟨_, rfl⟩
  rw [← htt] at b2
  refine ⟨1000 + Z.1.1, Z1, Z2, (v2, cap2, tt), a1, b1, ⟨hB2, hA2⟩, ⟨b2, hA2⟩, htt, by omega, by show b.1 ≠ v2; omega, by omega, by omega, by omega, fun a ha hk => (f2.2 a (Or.inl ha)).2 (fun e => e), fun a ha => (f2.2 a (Or.inl ha)).1, b7⟩
end WGR
