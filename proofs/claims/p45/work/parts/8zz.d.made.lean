/-! a made string put behind a builder's text; a builder made of it -/
theorem sS_frm {Z Z2 : mjQ} {s a : Nat} {u : List Int32} {P : Nat → Prop} (h : sS Z s a u) (g : frm Z Z2 P) (h1 : ¬ P s) (h2 : ¬ P a) : sS Z2 s a u := by
  obtain ⟨k1, r1, c1, k2, l1, t1, f1, n1, n2⟩ := h
  obtain ⟨x1, x2, x3⟩ := (g.2 s (Or.inl n1)).2 h1
  obtain ⟨y1, y2, y3⟩ := (g.2 a (Or.inl n2)).2 h2
  have := g.1
  exact ⟨by rw [x3]; exact k1, by rw [x2]; exact r1, by rw [x1]; exact c1, by rw [y3]; exact k2, l1, by rw [y1]; exact t1, by rw [y1]; exact f1, by omega, by omega⟩
theorem q_mcod {Z : mjQ} {s a : Nat} {u : List Int32} (h : sS Z s a u) : g171_coder s Z = some (i3 0) := by
  unfold g171_coder
  rw [if_neg (by decide), qI_of (x := i3 0) h.1 (by decide) h.2.2.1, mjBp_some, if_pos (by decide)]
theorem q_mlen {Z : mjQ} {s a : Nat} {u : List Int32} (h : sS Z s a u) (hn : Z.1.1 < 90000) : g170_length s Z = some (i3 u.length) := by
  unfold g170_length
  have ha := h.2.2.2.2.2.2.2.2
  rw [qR_of h.1 rfl h.2.1, mjBp_some, qLn_of h.2.2.2.1 (by omega) (by omega), mjBp_some, if_pos (ro_of h.1), q_mcod h, mjBp_some, shr_0]
theorem q_apM {Z : mjQ} {sb v cap s a : Nat} {t u : List Int32} (h : bS Z sb v cap t) (hs : sS Z s a u) (hd : ¬ a = v) (hn : Z.1.1 < 90000) (hl : t.length + u.length ≤ 19000) : ∃ Z2 v2 cap2, g233_append sg0 sb s Z = some (sb, Z2) ∧ apR Z sb v cap Z2 v2 cap2 (t ++ u) := by
  obtain ⟨Z1, v1, cap1, e1, hB, g2, g3, g4, g5, g6, g7, g8⟩ := q_ens (need := t.length + u.length) h hn hl
  have hk := h.1
  have hk1 := hB.1
  have hssb : ¬ s = sb := fun q => by have h9 := hs.1; rw [q, hk] at h9; exact absurd (show (19 : Nat) = 18 from congrArg Prod.fst h9) (by decide)
  have hasb : ¬ a = sb := fun q => by have h9 := hs.2.2.2.1; rw [q, hk] at h9; exact absurd (show (19 : Nat) = 118 from congrArg Prod.fst h9) (by decide)
  have hS : sS Z1 s a u := sS_frm hs g4 hssb hasb
  have hfu : fitB (fun j => u.getD j 0) := by
    intro j
    show fits .byte (.int (u.getD j 0)) = true
    by_cases hj : j < u.length
    · rw [← hs.2.2.2.2.2.1 j hj]; exact hs.2.2.2.2.2.2.1 j
    · rw [List.getD_eq_getElem?_getD, List.getElem?_eq_none (by omega)]; rfl
  obtain ⟨r1, -⟩ := ap_end hn hB g2 g3 g4 g5 g6 g7 g8 hfu
  have hsv : ¬ sb = v1 := fun q => by have h9 := hB.2.2.2.2.1; rw [← q, hk1] at h9; exact absurd (show (19 : Nat) = 118 from congrArg Prod.fst h9) (by decide)
  have hcp : mjCp Z1.2 (Z1.2.1 a) v1 0 t.length u.length = wrL Z1.2 v1 t.length u := by
    refine Prod.ext ?_ rfl
    funext i j
    show (if i = v1 then (if t.length ≤ j ∧ j < t.length + u.length then Z1.2.1 a (0 + (j - t.length)) else Z1.2.1 v1 j) else Z1.2.1 i j) = (if i = v1 then (if t.length ≤ j ∧ j < t.length + u.length then u.getD (j - t.length) 0 else Z1.2.1 i j) else Z1.2.1 i j)
    by_cases q : i = v1
    · rw [if_pos q, if_pos q]
      by_cases q2 : t.length ≤ j ∧ j < t.length + u.length
      · rw [if_pos q2, if_pos q2, Nat.zero_add]
        exact hS.2.2.2.2.2.1 _ (by omega)
      · rw [if_neg q2, if_neg q2, q]
    · rw [if_neg q, if_neg q]
  have p1 : g218_putStringAt sg0 sb (i3 t.length) s Z1 = some ((), (Z1.1, wrL Z1.2 v1 t.length u)) := by
    unfold g218_putStringAt
    have q1 : g214_inflateIfNeededFor sg0 sb s Z1 = some ((), Z1) := by
      unfold g214_inflateIfNeededFor
      rw [if_neg (by decide), qI_of (x := i3 0) hk1 (by decide) hB.2.2.1, mjBp_some, if_pos (ro_of hS.1), q_mcod hS, mjBp_some, if_pos (by decide)]
    have q2 : g226_getBytes sg0 s v1 (i3 t.length) (i3 0) Z1 = some ((), (Z1.1, wrL Z1.2 v1 t.length u)) := by
      unfold g226_getBytes
      have ha := hS.2.2.2.2.2.2.2.2
      have q3 := qCp_0 (Z := Z1) (k := 226) (s := a) (d := v1) (cap := u.length) (capd := cap1) (sp := 0) (dp := t.length) (w := u.length) (by decide) hS.2.2.2.1 (by omega) hB.2.2.2.2.1 (by omega) g2 ⟨by omega, by have := hB.2.2.2.2.2.2.1; omega⟩ hS.2.2.2.2.2.2.1
      rw [if_pos (ro_of hS.1), q_mcod hS, mjBp_some, if_neg (by decide), qR_of hS.1 rfl hS.2.1, mjBp_some, qLn_of hS.2.2.2.1 (by omega) (by omega), mjBp_some, sh_0]
      show mjBp (qCp 226 [.ref a, .int (i3 ((0 : Nat) : Int)), .ref v1, .int (i3 t.length), .int (i3 u.length)] Z1) _ = _
      rw [q3, mjBp_some, hcp]
    rw [if_pos (ro_of hk1), q1, mjBq_some, qR_of hk1 rfl hB.2.1, mjBp_some, qI_of (x := i3 0) hk1 (by decide) hB.2.2.1, mjBp_some, if_pos (ro_of hS.1), q2, mjBq_some]
  have p2 : g208_append sg0 sb s Z = some (sb, (Z1.1, mjSi (wrL Z1.2 v1 t.length u) sb 3 (i3 ((t.length + u.length : Nat) : Int)))) := by
    unfold g208_append
    rw [if_pos (ro_of hs.1), q_mlen hs hn, mjBp_some, qI_of (x := i3 t.length) hk (by decide) h.2.2.2.1, mjBp_some, if_pos (ro_of hk), i3_add, ← Int.natCast_add, e1, mjBq_some, qI_of (x := i3 t.length) hk1 (by decide) hB.2.2.2.1, mjBp_some, if_pos (ro_of hk1), p1, mjBq_some]
    have d1 : (wrL Z1.2 v1 t.length u).1 sb 3 = i3 t.length := (if_neg hsv).trans hB.2.2.2.1
    rw [qI_of (M := wrL Z1.2 v1 t.length u) (x := i3 t.length) hk1 (by decide) d1, mjBp_some, i3_add, ← Int.natCast_add, qSi_of (Z := (Z1.1, wrL Z1.2 v1 t.length u)) hk1 rfl, mjBp_some]
  refine ⟨_, v1, cap1, ?_, r1⟩
  unfold g233_append
  rw [if_pos (ro_of hk), p2, mjBq_some]
