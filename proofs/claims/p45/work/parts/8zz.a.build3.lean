/-! a builder put behind another; new builders; the text taken out -/
theorem q_blen {Z : mjQ} {sb v cap : Nat} {t : List Int32} (h : bS Z sb v cap t) : g234_length sb Z = some (i3 t.length) := by
  unfold g234_length g216_length
  rw [if_pos (ro_of h.1), qI_of (x := i3 t.length) h.1 (by decide) h.2.2.2.1, mjBp_some, mjBp_some]
theorem q_bcod {Z : mjQ} {sb v cap : Nat} {t : List Int32} (h : bS Z sb v cap t) : g211_getCoder sb Z = some (i3 0) := by
  unfold g211_getCoder
  rw [if_neg (by decide), qI_of (x := i3 0) h.1 (by decide) h.2.2.1, mjBp_some, if_pos (by decide)]
theorem q_apB {Z : mjQ} {sb v cap so vo co : Nat} {t u : List Int32} (h : bS Z sb v cap t) (ho : bS Z so vo co u) (hd1 : ¬ so = sb) (hd2 : ¬ vo = v) (hn : Z.1.1 < 90000) (hl : t.length + u.length ≤ 19000) : ∃ Z2 v2 cap2, g231_append sg0 sb so Z = some (sb, Z2) ∧ apR Z sb v cap Z2 v2 cap2 (t ++ u) := by
  obtain ⟨Z1, v1, cap1, e1, hB, g2, g3, g4, g5, g6, g7, g8⟩ := q_ens (need := t.length + u.length) h hn hl
  have hvs : ¬ vo = sb := fun q => by have h9 := ho.2.2.2.2.1; rw [q, h.1] at h9; exact absurd (show (19 : Nat) = 118 from congrArg Prod.fst h9) (by decide)
  have hO : bS Z1 so vo co u := bS_frm ho g4 hd1 hvs
  have hk := h.1
  have hk1 := hB.1
  have hsv : ¬ sb = v1 := fun q => by have h9 := hB.2.2.2.2.1; rw [← q, hk1] at h9; exact absurd (show (19 : Nat) = 118 from congrArg Prod.fst h9) (by decide)
  have hso : ¬ so = v1 := fun q => by have h9 := hB.2.2.2.2.1; rw [← q, hO.1] at h9; exact absurd (show (19 : Nat) = 118 from congrArg Prod.fst h9) (by decide)
  have hvo : ¬ vo = v1 := by
    rcases g5 with q | q
    · rw [q]; exact hd2
    · have := ho.2.2.2.2.2.2.2.2.2.2.1
      omega
  have hfu : fitB (fun j => u.getD j 0) := by
    intro j
    show fits .byte (.int (u.getD j 0)) = true
    by_cases hj : j < u.length
    · rw [← ho.2.2.2.2.2.2.2.1 j hj]; exact ho.2.2.2.2.2.2.2.2.1 j
    · rw [List.getD_eq_getElem?_getD, List.getElem?_eq_none (by omega)]; rfl
  obtain ⟨r1, -⟩ := ap_end hn hB g2 g3 g4 g5 g6 g7 g8 hfu
  -- the copy
  have hcp : mjCp Z1.2 (Z1.2.1 vo) v1 0 t.length u.length = wrL Z1.2 v1 t.length u := by
    refine Prod.ext ?_ rfl
    funext i j
    show (if i = v1 then (if t.length ≤ j ∧ j < t.length + u.length then Z1.2.1 vo (0 + (j - t.length)) else Z1.2.1 v1 j) else Z1.2.1 i j) = (if i = v1 then (if t.length ≤ j ∧ j < t.length + u.length then u.getD (j - t.length) 0 else Z1.2.1 i j) else Z1.2.1 i j)
    by_cases q : i = v1
    · rw [if_pos q, if_pos q]
      by_cases q2 : t.length ≤ j ∧ j < t.length + u.length
      · rw [if_pos q2, if_pos q2, Nat.zero_add]
        exact hO.2.2.2.2.2.2.2.1 _ (by omega)
      · rw [if_neg q2, if_neg q2, q]
    · rw [if_neg q, if_neg q]
  have c1 : g210_getBytes sg0 so v1 (i3 t.length) (i3 0) Z1 = some ((), (Z1.1, wrL Z1.2 v1 t.length u)) := by
    unfold g210_getBytes
    have q3 := qCp_0 (Z := Z1) (k := 210) (s := vo) (d := v1) (cap := co) (capd := cap1) (sp := 0) (dp := t.length) (w := u.length) (by decide) hO.2.2.2.2.1 (by have := hO.2.2.2.2.2.2.2.2.2.2.1; omega) hB.2.2.2.2.1 (by have := hO.2.2.2.2.2.1; omega) g2 ⟨by have := hO.2.2.2.2.2.2.1; omega, by have := hB.2.2.2.2.2.2.1; omega⟩ hO.2.2.2.2.2.2.2.2.1
    rw [qI_of (x := i3 0) hO.1 (by decide) hO.2.2.1, mjBp_some, if_neg (by decide), qR_of hO.1 rfl hO.2.1, mjBp_some, qI_of (x := i3 u.length) hO.1 (by decide) hO.2.2.2.1, mjBp_some, sh_0, sh_0]
    show mjBp (qCp 210 [.ref vo, .int (i3 ((0 : Nat) : Int)), .ref v1, .int (i3 t.length), .int (i3 u.length)] Z1) _ = _
    rw [q3, mjBp_some, hcp]
  have c0 : g213_inflateIfNeededFor sg0 sb so Z1 = some ((), Z1) := by
    unfold g213_inflateIfNeededFor
    rw [if_neg (by decide), qI_of (x := i3 0) hk1 (by decide) hB.2.2.1, mjBp_some, if_pos (ro_of hO.1), q_bcod hO, mjBp_some, if_pos (by decide)]
  have p2 : g206_append sg0 sb so Z = some (sb, (Z1.1, mjSi (mjSi (wrL Z1.2 v1 t.length u) sb 3 (i3 ((t.length + u.length : Nat) : Int))) sb 2 (i3 0))) := by
    unfold g206_append
    rw [if_pos (ro_of ho.1), q_blen ho, mjBp_some, qI_of (x := i3 t.length) hk (by decide) h.2.2.2.1, mjBp_some, if_pos (ro_of hk), i3_add, ← Int.natCast_add, e1, mjBq_some, if_pos (ro_of hk1), c0, mjBq_some, qR_of hk1 rfl hB.2.1, mjBp_some, qI_of (x := i3 t.length) hk1 (by decide) hB.2.2.2.1, mjBp_some, qI_of (x := i3 0) hk1 (by decide) hB.2.2.1, mjBp_some, if_pos (ro_of hO.1), c1, mjBq_some]
    have d1 : (wrL Z1.2 v1 t.length u).1 sb 3 = i3 t.length := (if_neg hsv).trans hB.2.2.2.1
    rw [qI_of (M := wrL Z1.2 v1 t.length u) (x := i3 t.length) hk1 (by decide) d1, mjBp_some, i3_add, ← Int.natCast_add, qSi_of (Z := (Z1.1, wrL Z1.2 v1 t.length u)) hk1 rfl, mjBp_some]
    have d2 : (mjSi (wrL Z1.2 v1 t.length u) sb 3 (i3 ((t.length + u.length : Nat) : Int))).1 sb 2 = i3 0 := ((if_pos rfl).trans (if_neg (by decide))).trans ((if_neg hsv).trans hB.2.2.2.2.2.2.2.2.2.2.2)
    have d3 : (mjSi (wrL Z1.2 v1 t.length u) sb 3 (i3 ((t.length + u.length : Nat) : Int))).1 so 2 = i3 0 := (if_neg hd1).trans ((if_neg hso).trans hO.2.2.2.2.2.2.2.2.2.2.2)
    rw [qI_of (M := mjSi (wrL Z1.2 v1 t.length u) sb 3 (i3 ((t.length + u.length : Nat) : Int))) (x := i3 0) hk1 (by decide) d2, mjBp_some, qI_of (M := mjSi (wrL Z1.2 v1 t.length u) sb 3 (i3 ((t.length + u.length : Nat) : Int))) (x := i3 0) hO.1 (by decide) d3, mjBp_some, show (i3 0 ||| i3 0 : Int32) = i3 0 from by decide, qSi_of (Z := (Z1.1, mjSi (wrL Z1.2 v1 t.length u) sb 3 (i3 ((t.length + u.length : Nat) : Int)))) hk1 rfl, mjBp_some]
  refine ⟨(Z1.1, mjSi (mjSi (wrL Z1.2 v1 t.length u) sb 3 (i3 ((t.length + u.length : Nat) : Int))) sb 2 (i3 0)), v1, cap1, ?_, ?_⟩
  · unfold g231_append g207_append
    rw [if_pos (ro_of hk), if_pos (ks_of ho.1), if_pos (by decide), if_neg (by decide), if_pos (ro_of hk), p2, mjBq_some, mjBq_some]
  · have e : mjSi (mjSi (wrL Z1.2 v1 t.length u) sb 3 (i3 ((t.length + u.length : Nat) : Int))) sb 2 (i3 0) = mjSi (wrL Z1.2 v1 t.length u) sb 3 (i3 ((t.length + u.length : Nat) : Int)) := by
      refine Prod.ext ?_ rfl
      funext i j
      show (if i = sb then (if j = 2 then i3 0 else (mjSi (wrL Z1.2 v1 t.length u) sb 3 _).1 i j) else (mjSi (wrL Z1.2 v1 t.length u) sb 3 _).1 i j) = _
      by_cases q : i = sb
      · by_cases q2 : j = 2
        · rw [if_pos q, if_pos q2, q, q2]
          exact (((if_pos rfl).trans (if_neg (by decide))).trans ((if_neg hsv).trans hB.2.2.2.2.2.2.2.2.2.2.2)).symm
        · rw [if_pos q, if_neg q2]
      · rw [if_neg q]
    rw [e]
    exact r1
