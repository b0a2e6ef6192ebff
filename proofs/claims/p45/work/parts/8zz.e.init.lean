/-! new StringBuilder(String), of a made string -/
theorem q_initM {Z : mjQ} {sb s a : Nat} {u : List Int32} (hk : Z.2.2.2.2 sb = (19, 0)) (hsb : sb < 1000 + Z.1.1) (h2 : Z.2.1 sb 2 = i3 0) (h3 : Z.2.1 sb 3 = i3 0) (hS : sS Z s a u) (hu : u.length ≤ 1000) (hn : Z.1.1 < 80000) : ∃ Z2 v2 cap2, g228_init sg0 sb s Z = some ((), Z2) ∧ bS Z2 sb v2 cap2 u ∧ frm Z Z2 (fun b => b = sb) ∧ 1000 + Z.1.1 ≤ v2 ∧ Z2.1.1 ≤ Z.1.1 + 2 ∧ Z2.1.2 ≤ Z.1.2 + 2 * cap2 ∧ cap2 ≤ 3000 := by
  have hsn : ¬ sb = 1000 + Z.1.1 := by omega
  have hssb : ¬ s = sb := fun q => by have h9 := hS.1; rw [q, hk] at h9; exact absurd (show (19 : Nat) = 18 from congrArg Prod.fst h9) (by decide)
  have hasb : ¬ a = sb := fun q => by have h9 := hS.2.2.2.1; rw [q, hk] at h9; exact absurd (show (19 : Nat) = 118 from congrArg Prod.fst h9) (by decide)
  have c0 : qNewA sg0 (Z.1, mjSi Z.2 sb 1 (i3 0)) 118 (i3 ((u.length + 16 : Nat) : Int)) = _ := qNewA_0 (t := 118) (n := u.length + 16) (by show Z.1.1 < 100000; omega) (by omega)
  have f0 : frm Z ((Z.1.1 + 1, Z.1.2 + (u.length + 16)), mjZr (mjSi Z.2 sb 1 (i3 0)) (1000 + Z.1.1) (118, u.length + 16)) (fun b => b = sb) := frm_tr2 (frm_si (P := fun b => b = sb) rfl) (frm_zr (Z := (Z.1, mjSi Z.2 sb 1 (i3 0))) (m := Z.1.2 + (u.length + 16)) (q := (118, u.length + 16)) (by show Z.1.1 < 100000; omega)) (fun _ _ q => q)
  have hkB : (mjZr (mjSi Z.2 sb 1 (i3 0)) (1000 + Z.1.1) (118, u.length + 16)).2.2.2 sb = (19, 0) := (if_neg hsn).trans hk
  have f1 : frm Z ((Z.1.1 + 1, Z.1.2 + (u.length + 16)), mjSr (mjZr (mjSi Z.2 sb 1 (i3 0)) (1000 + Z.1.1) (118, u.length + 16)) sb 0 (some (1000 + Z.1.1))) (fun b => b = sb) := frm_tr2 f0 (frm_sr (Z := ((Z.1.1 + 1, Z.1.2 + (u.length + 16)), mjZr (mjSi Z.2 sb 1 (i3 0)) (1000 + Z.1.1) (118, u.length + 16))) (P := fun b => b = sb) rfl) (fun _ _ q => q)
  have bC : bS ((Z.1.1 + 1, Z.1.2 + (u.length + 16)), mjSr (mjZr (mjSi Z.2 sb 1 (i3 0)) (1000 + Z.1.1) (118, u.length + 16)) sb 0 (some (1000 + Z.1.1))) sb (1000 + Z.1.1) (u.length + 16) [] := by
    refine ⟨hkB, (if_pos rfl).trans (if_pos rfl), ?_, ?_, if_pos rfl, Nat.zero_le _, by omega, fun i hi => absurd hi (Nat.not_lt_zero _), ?_, by show sb < 1000 + (Z.1.1 + 1); omega, by show 1000 + Z.1.1 < 1000 + (Z.1.1 + 1); omega, ?_⟩
    · exact (if_neg hsn).trans ((if_pos rfl).trans (if_pos rfl))
    · exact ((if_neg hsn).trans ((if_pos rfl).trans (if_neg (by decide)))).trans h3
    · intro j
      show fits .byte (.int (if 1000 + Z.1.1 = 1000 + Z.1.1 then 0 else _)) = true
      rw [if_pos rfl]
      rfl
    · exact ((if_neg hsn).trans ((if_pos rfl).trans (if_neg (by decide)))).trans h2
  have sC := sS_frm hS f1 hssb hasb
  have hav : ¬ a = 1000 + Z.1.1 := by have := hS.2.2.2.2.2.2.2.2; omega
  obtain ⟨Z2, v2, cap2, e1, r1, r2, r3, r4, r5, r6, r7⟩ := q_apM bC sC hav (by show Z.1.1 + 1 < 90000; omega) (by show 0 + u.length ≤ 19000; omega)
  refine ⟨Z2, v2, cap2, ?_, r1, ?_, ?_, ?_, ?_, ?_⟩
  · unfold g228_init g203_init
    rw [if_pos (ro_of hS.1), q_mlen hS (by omega), mjBp_some, show (2147483631 : Int32) = i3 2147483631 from rfl, if_neg (by rw [c_ge (by omega)]; omega), show (16 : Int32) = i3 16 from rfl, i3_add, show (u.length : Int) + 16 = ((u.length + 16 : Nat) : Int) from by omega]
    unfold g203_init_j24
    rw [if_pos (ro_of hS.1), q_mcod hS, mjBp_some, qSi_of (Z := Z) hk rfl, mjBp_some, if_neg (by decide), c0, mjBq_some, qSr_of (Z := ((Z.1.1 + 1, Z.1.2 + mjSzK (118, u.length + 16)), mjZr (mjSi Z.2 sb 1 (i3 0)) (1000 + Z.1.1) (118, u.length + 16))) hkB rfl, mjBp_some, if_pos (ro_of (M := mjSr (mjZr (mjSi Z.2 sb 1 (i3 0)) (1000 + Z.1.1) (118, u.length + 16)) sb 0 (some (1000 + Z.1.1))) hkB)]
    unfold g232_append
    rw [if_pos (ro_of (M := mjSr (mjZr (mjSi Z.2 sb 1 (i3 0)) (1000 + Z.1.1) (118, u.length + 16)) sb 0 (some (1000 + Z.1.1))) hkB), show mjSzK (118, u.length + 16) = u.length + 16 from rfl, e1, mjBq_some, mjBq_some, mjBq_some]
  · refine frm_tr2 f1 r3 ?_
    intro b hb q
    rcases q with q | q
    · exact q
    · exact absurd q (old_new (by omega) hb)
  · rcases r4 with q | q
    · rw [q]; exact Nat.le_refl _
    · rw [q]; show 1000 + Z.1.1 ≤ 1000 + (Z.1.1 + 1); omega
  · exact r5
  · have : Z2.1.2 + 2 * (u.length + 16) ≤ (Z.1.2 + (u.length + 16)) + 2 * cap2 := r6
    omega
  · rcases r7 with q | q
    · omega
    · have : cap2 ≤ 2 * u.length + 2 := q
      omega
