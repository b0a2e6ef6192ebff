/-! new builders; the text taken out -/
theorem q_init0 {Z : mjQ} {sb : Nat} (hk : Z.2.2.2.2 sb = (19, 0)) (hs : sb < 1000 + Z.1.1) (h2 : Z.2.1 sb 2 = i3 0) (h3 : Z.2.1 sb 3 = i3 0) (hn : Z.1.1 < 90000) : ∃ Z2, g227_init sg0 sb Z = some ((), Z2) ∧ bS Z2 sb (1000 + Z.1.1) 16 [] ∧ frm Z Z2 (fun a => a = sb) ∧ Z2.1 = (Z.1.1 + 1, Z.1.2 + 16) := by
  have hsn : ¬ sb = 1000 + Z.1.1 := by omega
  have c0 : qNewA sg0 Z 118 (i3 (16 : Nat)) = _ := qNewA_0 (t := 118) (n := 16) (by omega) (by omega)
  have hz : ∀ a, ¬ a = 1000 + Z.1.1 → (mjZr Z.2 (1000 + Z.1.1) (118, 16)).2.2.2 a = Z.2.2.2.2 a ∧ (mjZr Z.2 (1000 + Z.1.1) (118, 16)).1 a = Z.2.1 a := fun a ha => ⟨if_neg ha, funext fun j => if_neg ha⟩
  have hk1 : (mjZr Z.2 (1000 + Z.1.1) (118, 16)).2.2.2 sb = (19, 0) := by rw [(hz sb hsn).1]; exact hk
  refine ⟨((Z.1.1 + 1, Z.1.2 + 16), mjSi (mjSr (mjZr Z.2 (1000 + Z.1.1) (118, 16)) sb 0 (some (1000 + Z.1.1))) sb 1 (i3 0)), ?_, ?_, ?_, rfl⟩
  · unfold g227_init g202_init
    rw [if_neg (by decide), show (16 : Int32) = i3 (16 : Nat) from rfl, c0, mjBq_some, qSr_of (Z := ((Z.1.1 + 1, Z.1.2 + mjSzK (118, 16)), mjZr Z.2 (1000 + Z.1.1) (118, 16))) hk1 rfl, mjBp_some, show (0 : Int32) = i3 0 from rfl, qSi_of (Z := ((Z.1.1 + 1, Z.1.2 + mjSzK (118, 16)), mjSr (mjZr Z.2 (1000 + Z.1.1) (118, 16)) sb 0 (some (1000 + Z.1.1)))) hk1 rfl, mjBp_some, mjBq_some]
    rfl
  · have i1 : ∀ a j, ¬ a = sb → (mjSi (mjSr (mjZr Z.2 (1000 + Z.1.1) (118, 16)) sb 0 (some (1000 + Z.1.1))) sb 1 (i3 0)).1 a j = (mjZr Z.2 (1000 + Z.1.1) (118, 16)).1 a j := fun a j ha => if_neg ha
    have hns : ¬ 1000 + Z.1.1 = sb := fun q => hsn q.symm
    refine ⟨hk1, (if_pos rfl).trans (if_pos rfl), (if_pos rfl).trans (if_pos rfl), ?_, if_pos rfl, Nat.zero_le _, by omega, fun i hi => absurd hi (Nat.not_lt_zero _), ?_, by show sb < 1000 + (Z.1.1 + 1); omega, by show 1000 + Z.1.1 < 1000 + (Z.1.1 + 1); omega, ?_⟩
    · exact ((if_pos rfl).trans (if_neg (by decide))).trans ((congrFun (hz sb hsn).2 3).trans h3)
    · intro j
      show fits .byte (.int ((mjSi (mjSr (mjZr Z.2 (1000 + Z.1.1) (118, 16)) sb 0 (some (1000 + Z.1.1))) sb 1 (i3 0)).1 (1000 + Z.1.1) j)) = true
      rw [i1 _ _ hns]
      show fits .byte (.int (if 1000 + Z.1.1 = 1000 + Z.1.1 then 0 else _)) = true
      rw [if_pos rfl]
      rfl
    · exact ((if_pos rfl).trans (if_neg (by decide))).trans ((congrFun (hz sb hsn).2 2).trans h2)
  · refine frm_tr2 (frm_tr2 (frm_zr (m := Z.1.2 + 16) (q := (118, 16)) (by omega)) (frm_sr (Z := ((Z.1.1 + 1, Z.1.2 + 16), mjZr Z.2 (1000 + Z.1.1) (118, 16))) (P := fun a => a = sb) rfl) (fun a _ q => q)) (frm_si (Z := ((Z.1.1 + 1, Z.1.2 + 16), mjSr (mjZr Z.2 (1000 + Z.1.1) (118, 16)) sb 0 (some (1000 + Z.1.1)))) (P := fun a => a = sb) rfl) (fun a _ q => q)
/-- copyOfRange of a builder's bytes, from 0 to the text's length: by copy or by clone -/
theorem q_cor {Z : mjQ} {sb v cap : Nat} {t : List Int32} (h : bS Z sb v cap t) (hn : Z.1.1 < 90000) : ∃ Zc, g252_copyOfRange sg0 v (i3 0) (i3 t.length) Z = some (1000 + Z.1.1, Zc) ∧ Zc.2.2.2.2 (1000 + Z.1.1) = (118, t.length) ∧ (∀ i, i < t.length → Zc.2.1 (1000 + Z.1.1) i = t.getD i 0) ∧ fitB (Zc.2.1 (1000 + Z.1.1)) ∧ frm Z Zc (fun _ => False) ∧ Zc.1 = (Z.1.1 + 1, Z.1.2 + t.length) := by
  obtain ⟨hk, hr, hc1, h3, hv, hl, hc, ht, hf, hs1, hs2, hm2⟩ := h
  have a2 : qLn Z.2 v = some (i3 cap) := qLn_of hv (by omega) (by omega)
  have hvn : ¬ v = 1000 + Z.1.1 := by omega
  have hal : mjAl Z.2 v = cap := by rw [mjAl, hv]
  unfold g252_copyOfRange
  rw [show (0 : Int32) = i3 0 from rfl, if_neg (by decide), a2, mjBp_some]
  by_cases q : t.length = cap
  · rw [if_pos (by rw [c_eq (by omega)]; omega)]
    have e1 : qCln sg0 252 v Z = some (1000 + Z.1.1, ((Z.1.1 + 1, Z.1.2 + cap), mjCl9 Z.2 v (1000 + Z.1.1))) := by
      have e2 : mjCln 252 [.ref v] Z.2 (sg0 Z.1.1) = some (mjCl9 Z.2 v (1000 + Z.1.1), cap) := by
        unfold mjCln
        dsimp only
        rw [if_pos ⟨ks_of hv, decide_eq_true (Or.inl (by decide)), mjFit_of hf _ _⟩, hal]
        rfl
      unfold qCln
      rw [if_pos (by omega), e2]
      rfl
    have e3 : (mjCl9 Z.2 v (1000 + Z.1.1)).2.2.2 (1000 + Z.1.1) = (118, cap) := (if_pos rfl).trans (by rw [hal])
    have e4 : (mjCl9 Z.2 v (1000 + Z.1.1)).1 (1000 + Z.1.1) = Z.2.1 v := funext fun j => if_pos rfl
    rw [e1, mjBq_some, if_pos (ks_of (M := mjCl9 Z.2 v (1000 + Z.1.1)) e3)]
    refine ⟨_, rfl, by rw [q]; exact e3, ?_, ?_, ?_, by rw [q]⟩
    · intro i hi
      show (mjCl9 Z.2 v (1000 + Z.1.1)).1 (1000 + Z.1.1) i = _
      rw [e4]; exact ht i hi
    · show fitB ((mjCl9 Z.2 v (1000 + Z.1.1)).1 (1000 + Z.1.1))
      rw [e4]; exact hf
    · refine ⟨Nat.le_succ _, fun b hb => ?_⟩
      have hb2 : ¬ b = 1000 + Z.1.1 := old_new hn hb
      have hkk : (mjCl9 Z.2 v (1000 + Z.1.1)).2.2.2 b = Z.2.2.2.2 b := if_neg hb2
      exact ⟨hkk, fun _ => ⟨funext fun j => if_neg hb2, funext fun j => if_neg hb2, hkk⟩⟩
  · rw [if_neg (by rw [c_eq (by omega)]; omega)]
    have c0 : qNewA sg0 Z 118 (i3 t.length) = _ := qNewA_0 (t := 118) (n := t.length) (by omega) (by omega)
    have hz : ∀ a, ¬ a = 1000 + Z.1.1 → (mjZr Z.2 (1000 + Z.1.1) (118, t.length)).2.2.2 a = Z.2.2.2.2 a ∧ (mjZr Z.2 (1000 + Z.1.1) (118, t.length)).1 a = Z.2.1 a := fun a ha => ⟨if_neg ha, funext fun j => if_neg ha⟩
    have hzn : (mjZr Z.2 (1000 + Z.1.1) (118, t.length)).2.2.2 (1000 + Z.1.1) = (118, t.length) := if_pos rfl
    have d0 : g253_copyOfRangeByte sg0 v (i3 0) (i3 t.length) Z = some (1000 + Z.1.1, ((Z.1.1 + 1, Z.1.2 + t.length), mjCp (mjZr Z.2 (1000 + Z.1.1) (118, t.length)) (Z.2.1 v) (1000 + Z.1.1) 0 0 t.length)) := by
      unfold g253_copyOfRangeByte g250_checkLength
      rw [if_pos (by rw [c_ge (by omega)]; omega), mjBq_some, i3_sub, Int.sub_zero, c0, mjBq_some]
      have d1 : qLn (mjZr Z.2 (1000 + Z.1.1) (118, t.length)) v = some (i3 cap) := qLn_of (n := cap) (c := 118) (by rw [(hz v hvn).1]; exact hv) (by omega) (by omega)
      show mjBp (qLn (mjZr Z.2 (1000 + Z.1.1) (118, t.length)) v) _ = _
      rw [d1, mjBp_some, i3_sub, Int.sub_zero, min_i3 (by omega), show min (cap : Int) (t.length : Int) = (t.length : Int) from by omega]
      have d2 := qCp_0 (Z := ((Z.1.1 + 1, Z.1.2 + mjSzK (118, t.length)), mjZr Z.2 (1000 + Z.1.1) (118, t.length))) (k := 253) (s := v) (d := 1000 + Z.1.1) (cap := cap) (capd := t.length) (sp := 0) (dp := 0) (w := t.length) (by decide) (by show (mjZr Z.2 (1000 + Z.1.1) (118, t.length)).2.2.2 v = _; rw [(hz v hvn).1]; exact hv) (by omega) hzn (by omega) (by omega) (by omega) (by show fitB ((mjZr Z.2 (1000 + Z.1.1) (118, t.length)).1 v); rw [(hz v hvn).2]; exact hf)
      show mjBp (qCp 253 [.ref v, .int (i3 ((0 : Nat) : Int)), .ref (1000 + Z.1.1), .int (i3 ((0 : Nat) : Int)), .int (i3 t.length)] _) _ = _
      rw [d2, mjBp_some]
      show some (1000 + Z.1.1, ((Z.1.1 + 1, Z.1.2 + t.length), mjCp (mjZr Z.2 (1000 + Z.1.1) (118, t.length)) ((mjZr Z.2 (1000 + Z.1.1) (118, t.length)).1 v) (1000 + Z.1.1) 0 0 t.length)) = _
      rw [(hz v hvn).2]
    have i2 : ∀ j, (mjCp (mjZr Z.2 (1000 + Z.1.1) (118, t.length)) (Z.2.1 v) (1000 + Z.1.1) 0 0 t.length).1 (1000 + Z.1.1) j = if 0 ≤ j ∧ j < 0 + t.length then Z.2.1 v (0 + (j - 0)) else 0 := by
      intro j
      refine (if_pos rfl).trans ?_
      show (if 0 ≤ j ∧ j < 0 + t.length then Z.2.1 v (0 + (j - 0)) else (mjZr Z.2 (1000 + Z.1.1) (118, t.length)).1 (1000 + Z.1.1) j) = _
      rw [show (mjZr Z.2 (1000 + Z.1.1) (118, t.length)).1 (1000 + Z.1.1) j = 0 from if_pos rfl]
    rw [d0, mjBq_some]
    refine ⟨_, rfl, hzn, ?_, ?_, ?_, rfl⟩
    · intro i hi
      show (mjCp (mjZr Z.2 (1000 + Z.1.1) (118, t.length)) (Z.2.1 v) (1000 + Z.1.1) 0 0 t.length).1 (1000 + Z.1.1) i = _
      rw [i2, if_pos (by omega), show 0 + (i - 0) = i from by omega]
      exact ht i hi
    · intro j
      show fits .byte (.int ((mjCp (mjZr Z.2 (1000 + Z.1.1) (118, t.length)) (Z.2.1 v) (1000 + Z.1.1) 0 0 t.length).1 (1000 + Z.1.1) j)) = true
      rw [i2]
      split
      · exact hf _
      · rfl
    · exact frm_tr2 (frm_zr (m := Z.1.2 + t.length) (q := (118, t.length)) (by omega)) (frm_cp (Z := ((Z.1.1 + 1, Z.1.2 + t.length), mjZr Z.2 (1000 + Z.1.1) (118, t.length))) (P := fun a => a = 1000 + Z.1.1) rfl) (fun a ha q => absurd q (old_new hn ha))
/-- a string that was made: its bytes in a, its text t -/
def sS (Z : mjQ) (s a : Nat) (t : List Int32) : Prop := Z.2.2.2.2 s = (18, 0) ∧ Z.2.2.2.1 s 0 = some a ∧ Z.2.1 s 1 = i3 0 ∧ Z.2.2.2.2 a = (118, t.length) ∧ t.length ≤ 40000 ∧ (∀ i, i < t.length → Z.2.1 a i = t.getD i 0) ∧ fitB (Z.2.1 a) ∧ s < 1000 + Z.1.1 ∧ a < 1000 + Z.1.1
theorem q_toS {Z : mjQ} {sb v cap : Nat} {t : List Int32} (h : bS Z sb v cap t) (hn : Z.1.1 < 80000) : ∃ Z2, g235_toString sg0 sb Z = some (1000 + Z.1.1, Z2) ∧ sS Z2 (1000 + Z.1.1) (1000 + Z.1.1 + 1) t ∧ frm Z Z2 (fun _ => False) ∧ Z2.1 = (Z.1.1 + 2, Z.1.2 + 4 + t.length) := by
  have e0 : qNew sg0 Z (18, 0) = some (1000 + Z.1.1, ((Z.1.1 + 1, Z.1.2 + 4), mjZr Z.2 (1000 + Z.1.1) (18, 0))) := qNew_0 (by omega)
  have f0 : frm Z ((Z.1.1 + 1, Z.1.2 + 4), mjZr Z.2 (1000 + Z.1.1) (18, 0)) (fun _ => False) := frm_zr (by omega)
  have hk0 : (mjZr Z.2 (1000 + Z.1.1) (18, 0)).2.2.2 (1000 + Z.1.1) = (18, 0) := if_pos rfl
  generalize hA : (((Z.1.1 + 1, Z.1.2 + 4), mjZr Z.2 (1000 + Z.1.1) (18, 0)) : mjQ) = Za at e0 f0
  have hA1 : Za.1 = (Z.1.1 + 1, Z.1.2 + 4) := by rw [← hA]
  have hkA : Za.2.2.2.2 (1000 + Z.1.1) = (18, 0) := by rw [← hA]; exact hk0
  have bA := bS_frm h f0 (fun q => q) (fun q => q)
  have hsn : ¬ sb = 1000 + Z.1.1 := by have := h.2.2.2.2.2.2.2.2.2.1; omega
  have hvn : ¬ v = 1000 + Z.1.1 := by have := h.2.2.2.2.2.2.2.2.2.2.1; omega
  have fB : frm Za (Za.1, mjSi Za.2 (1000 + Z.1.1) 1 (i3 0)) (fun a => a = 1000 + Z.1.1) := frm_si rfl
  have bB := bS_frm bA fB hsn hvn
  obtain ⟨Zc, c1, c2, c3, c4, c5, c6⟩ := q_cor bB (by rw [hA1]; show Z.1.1 + 1 < 90000; omega)
  have hA11 : (((Za.1, mjSi Za.2 (1000 + Z.1.1) 1 (i3 0)) : mjQ)).1.1 = Z.1.1 + 1 := by show Za.1.1 = _; rw [hA1]
  rw [hA11] at c1 c2 c3 c4
  have hkB : (((Za.1, mjSi Za.2 (1000 + Z.1.1) 1 (i3 0)) : mjQ)).2.2.2.2 (1000 + Z.1.1) = (18, 0) := hkA
  obtain ⟨g1, g2⟩ := c5.2 (1000 + Z.1.1) (Or.inl (by rw [hA11]; omega))
  obtain ⟨g3, g4, g5⟩ := g2 (fun q => q)
  have hkC : Zc.2.2.2.2 (1000 + Z.1.1) = (18, 0) := g1.trans hkB
  have e1 : g224_init sg0 (1000 + Z.1.1) sb none Za = some ((), (Zc.1, mjSr Zc.2 (1000 + Z.1.1) 0 (some (1000 + Z.1.1 + 1)))) := by
    unfold g224_init g212_getValue
    rw [if_pos (ro_of bA.1), qR_of bA.1 rfl bA.2.1, mjBp_some, mjBp_some, q_blen bA, mjBp_some, q_lat bA.1 bA.2.2.1, mjBp_some, if_neg (by decide), show (0 : Int32) = i3 0 from rfl, qSi_of (Z := Za) hkA rfl, mjBp_some, c1, mjBq_some, show 1000 + (Z.1.1 + 1) = 1000 + Z.1.1 + 1 from by omega, qSr_of (Z := Zc) hkC rfl, mjBp_some]
  refine ⟨(Zc.1, mjSr Zc.2 (1000 + Z.1.1) 0 (some (1000 + Z.1.1 + 1))), ?_, ?_, ?_, ?_⟩
  · unfold g235_toString g225_init
    rw [e0, mjBq_some, e1, mjBq_some, mjBq_some]
  · have hC1 : Zc.1.1 = Z.1.1 + 2 := by rw [c6]; show Za.1.1 + 1 = _; rw [hA1]
    refine ⟨hkC, (if_pos rfl).trans (if_pos rfl), ?_, c2, by have := h.2.2.2.2.2.1; have := h.2.2.2.2.2.2.1; omega, c3, c4, by show 1000 + Z.1.1 < 1000 + Zc.1.1; omega, by show 1000 + Z.1.1 + 1 < 1000 + Zc.1.1; omega⟩
    show Zc.2.1 (1000 + Z.1.1) 1 = i3 0
    rw [g3]
    exact (if_pos rfl).trans (if_pos rfl)
  · refine frm_tr2 (frm_tr2 (frm_tr2 f0 fB (fun a ha q => absurd q (old_new (by omega) ha))) c5 (fun a _ q => q)) (frm_sr (P := fun a => a = 1000 + Z.1.1) rfl) (fun a ha q => absurd q (old_new (by omega) ha))
  · show Zc.1 = _
    rw [c6]
    show (Za.1.1 + 1, Za.1.2 + t.length) = _
    rw [hA1]
