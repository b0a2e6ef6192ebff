/-! WHY: the class weighs and chooses -/
section WY
variable {S : mjS} {fk : Nat → Int} {fr to : Nat} {b : Nat}
theorem yw_bd (hw : WF S fr to) : ∀ n e, e < n → fr ≤ e → e < to → 0 ≤ (ywS S fk e).2 ∧ (ywS S fk e).2 ≤ (e + 1 - spS S e : Nat)
  | 0, e, hn, _, _ => by omega
  | n + 1, e, hn, h1, h2 => by
    obtain ⟨g1, g2, g3⟩ := hw.2.2.2 e h1 h2
    have s0 := sp_le S e
    cases q : isLf (S 9 e) with
    | true => rw [show ywS S fk e = (fun _ => false, 0) from tS_leaf q]; simp
    | false =>
      by_cases q2 : S 9 e = 40
      · obtain ⟨g4, g5, g6⟩ := g2 q2
        rw [show ywS S fk e = ywS S fk (e - 1) from tS_not q2 (by omega), sp_not q2 (by omega)]
        have ih := yw_bd hw n (e - 1) (by omega) (by omega) (by omega)
        have := sp_le S (e - 1)
        omega
      · obtain ⟨g4, g5, g6, _⟩ := g3 q q2
        have s1 := sp_le S (e - 1)
        have s2 := sp_le S (lfS S e)
        have e1 : lfS S e = spS S (e - 1) - 1 := rfl
        have il := yw_bd hw n (lfS S e) (by omega) (by omega) (by omega)
        have ir := yw_bd hw n (e - 1) (by omega) (by omega) (by omega)
        rw [show ywS S fk e = ywB S fk e (ywS S fk (lfS S e)) (ywS S fk (e - 1)) from tS_bin q q2 (by omega), sp_bin q q2 (by omega)]
        unfold ywB
        split
        · split
          · split <;> omega
          · show 0 ≤ (ywS S fk (lfS S e)).2 + (ywS S fk (e - 1)).2 ∧ (ywS S fk (lfS S e)).2 + (ywS S fk (e - 1)).2 ≤ _
            omega
        · split
          · show (0 : Int) ≤ 1 ∧ (1 : Int) ≤ _
            omega
          · show (0 : Int) ≤ 0 ∧ (0 : Int) ≤ _
            omega
/-- whether both sides tell it; whether the left one does -/
def bothS (S : mjS) (fk : Nat → Int) (i : Nat) : Bool := !(decide (vS S fk (lfS S i) = oneS S i) || decide (vS S fk (i - 1) = oneS S i))
def leftS (S : mjS) (fk : Nat → Int) (i : Nat) : Bool := decide (vS S fk (lfS S i) = oneS S i) && !(decide (vS S fk (i - 1) = oneS S i) && decide ((ywS S fk (i - 1)).2 < (ywS S fk (lfS S i)).2))
theorem yw_join (hw : WF S fr to) {i : Nat} (h1 : fr ≤ i) (h2 : i < to) (q : S 9 i = 41 ∨ S 9 i = 42) : ywS S fk i = if bothS S fk i = true then (fun k => (ywS S fk (lfS S i)).1 k || (ywS S fk (i - 1)).1 k, (ywS S fk (lfS S i)).2 + (ywS S fk (i - 1)).2) else if leftS S fk i = true then ywS S fk (lfS S i) else ywS S fk (i - 1) := by
  obtain ⟨g1, g2, g3⟩ := hw.2.2.2 i h1 h2
  have qa : isLf (S 9 i) = false := by simp only [isLf, decide_eq_false_iff_not]; omega
  obtain ⟨g4, _⟩ := g3 qa (by omega)
  rw [show ywS S fk i = ywB S fk i (ywS S fk (lfS S i)) (ywS S fk (i - 1)) from tS_bin qa (by omega) (by omega)]
  unfold ywB bothS leftS
  rw [if_pos (show 40 < S 9 i by omega)]
  by_cases a1 : vS S fk (lfS S i) = oneS S i <;> by_cases a2 : vS S fk (i - 1) = oneS S i <;> by_cases a3 : (ywS S fk (i - 1)).2 < (ywS S fk (lfS S i)).2 <;> simp [a1, a2, a3]
/-- the value of a joined one: the telling one unless both are needed -/
theorem v_join (hf : ∀ k, k ≤ 10 → -2147483648 ≤ fk k ∧ fk k ≤ 2147483647) (hw : WF S fr to) {i : Nat} (h1 : fr ≤ i) (h2 : i < to) (q : S 9 i = 41 ∨ S 9 i = 42) : (vS S fk i = oneS S i ↔ bothS S fk i = false) ∧ (vS S fk i = 1 - oneS S i ↔ bothS S fk i = true) := by
  obtain ⟨g1, g2, g3⟩ := hw.2.2.2 i h1 h2
  have qa : isLf (S 9 i) = false := by simp only [isLf, decide_eq_false_iff_not]; omega
  obtain ⟨g4, g5, g6, g7, g8, g9⟩ := g3 qa (by omega)
  obtain ⟨n1, n2⟩ := g9 (by omega)
  have s1 := sp_le S (i - 1)
  have el : lfS S i = spS S (i - 1) - 1 := rfl
  have bl := (vS_bd hf hw (lfS S i + 1) (lfS S i) (by omega) (by omega) (by omega)).1 n2
  have br := (vS_bd hf hw (i - 1 + 1) (i - 1) (by omega) (by omega) (by omega)).1 n1
  have e : vS S fk i = vB S i (vS S fk (lfS S i)) (vS S fk (i - 1)) := tS_bin qa (by omega) (by omega)
  unfold bothS
  rw [e]; unfold vB
  rcases q with q | q
  · have o : oneS S i = 0 := by unfold oneS; rw [q]; rfl
    rw [o, if_pos q]
    rcases bl with h | h <;> rcases br with h3 | h3 <;> rw [h, h3] <;> simp
  · have o : oneS S i = 1 := by unfold oneS; rw [q]; rfl
    rw [o, if_neg (by omega), if_pos q]
    rcases bl with h | h <;> rcases br with h3 | h3 <;> rw [h, h3] <;> simp
/-- what the class has when it weighs: the terms, the values -/
def wIn (Z : mjZt) (b : Nat) (S : mjS) (fk : Nat → Int) (fr to : Nat) : Prop := cOne Z b S fr to ∧ ∀ j, fr ≤ j → j < to → Z.2.1 192 j = i6 (vS S fk j)
theorem wIn_si {Z : mjZt} {a k : Nat} {v : Int32} (hb : b = 2 ∨ b = 92) (h : wIn Z b S fk fr to) (ha : 182 ≤ a) : wIn (zSi Z a k v) b S fk fr to := ⟨cOne_of h.1 (eqB_si (by omega)), h.2⟩
theorem opC_and {c : Int} (h : c = 41 ∨ c = 42) : opC c = (if c = 42 then 4 else 5) := by rcases h with rfl | rfl <;> rfl
theorem e86 {Z : mjZt} (hf : ∀ k, k ≤ 10 → -2147483648 ≤ fk k ∧ fk k ≤ 2147483647) (hw : WF S fr to) (hto : to ≤ 700) (hi : wIn Z b S fk fr to) {i : Nat} (h1 : fr ≤ i) (h2 : i < to) (q : S 9 i = 41 ∨ S 9 i = 42) : f86_isOfBoth (i3 (opC (S 9 i))) (i3 i) Z = some (i3 (if bothS S fk i = true then 1 else 0)) := by
  obtain ⟨a1, a2⟩ := v_join hf hw h1 h2 q
  have tt := (vS_bd hf hw (i + 1) i (by omega) h1 h2).1 (by simp only [isTt, decide_eq_true_eq]; omega)
  unfold f86_isOfBoth
  rw [e21v (by omega), mjBp_some, hi.2 i h1 h2, opC_and q]
  rcases q with q | q
  · have o : oneS S i = 0 := by unfold oneS; rw [q]; rfl
    rw [o] at a1 a2
    rw [if_neg (show ¬ S 9 i = 42 by omega), if_neg (by decide), show Int32.toInt64 1 = i6 1 from rfl]
    rcases tt with h | h
    · rw [h, if_pos (by decide), a1.mp h]; rfl
    · rw [h, if_neg (by decide), a2.mp (by omega)]; rfl
  · have o : oneS S i = 1 := by unfold oneS; rw [q]; rfl
    rw [o] at a1 a2
    rw [if_pos q, if_pos (by decide), show Int32.toInt64 0 = i6 0 from rfl]
    rcases tt with h | h
    · rw [h, if_neg (by decide), a2.mp (by omega)]; rfl
    · rw [h, if_pos (by decide), a1.mp h]; rfl
theorem e87 {Z : mjZt} (hb : b = 2 ∨ b = 92) (hf : ∀ k, k ≤ 10 → -2147483648 ≤ fk k ∧ fk k ≤ 2147483647) (hw : WF S fr to) (hto : to ≤ 700) (hi : wIn Z b S fk fr to) {i : Nat} (h1 : fr ≤ i) (h2 : i < to) (q : S 9 i = 41 ∨ S 9 i = 42) (hWt : ∀ j, fr ≤ j → j < i → Z.1 193 j = i3 ((ywS S fk j).2)) (hnb : bothS S fk i = false) : f87_isLeftEnough (b + 1) (i3 i) Z = some (i3 (if leftS S fk i = true then 1 else 0)) := by
  obtain ⟨g1, g2, g3⟩ := hw.2.2.2 i h1 h2
  have qa : isLf (S 9 i) = false := by simp only [isLf, decide_eq_false_iff_not]; omega
  obtain ⟨g4, g5, g6, g7, g8, g9⟩ := g3 qa (by omega)
  obtain ⟨n1, n2⟩ := g9 (by omega)
  have s1 := sp_le S (i - 1)
  have el : lfS S i = spS S (i - 1) - 1 := rfl
  have bl := (vS_bd hf hw (lfS S i + 1) (lfS S i) (by omega) (by omega) (by omega)).1 n2
  have br := (vS_bd hf hw (i - 1 + 1) (i - 1) (by omega) (by omega) (by omega)).1 n1
  have wl := yw_bd (fk := fk) hw (lfS S i + 1) (lfS S i) (by omega) (by omega) (by omega)
  have wr := yw_bd (fk := fk) hw (i - 1 + 1) (i - 1) (by omega) (by omega) (by omega)
  have a1 := (v_join hf hw h1 h2 q).1.mpr hnb
  have o01 : oneS S i = 0 ∨ oneS S i = 1 := by unfold oneS; split <;> simp
  have c3 := (hi.1 i h1 h2).2.2 qa (by omega)
  unfold f87_isLeftEnough leftS
  rw [if_pos (is_b1 hb), e81 hb (by omega), mjBp_some, c3, e21v (by omega), mjBp_some, e21v (by omega), mjBp_some, hi.2 i h1 h2, hi.2 (lfS S i) (by omega) (by omega), a1]
  by_cases q1 : vS S fk (lfS S i) = oneS S i
  · rw [q1, lg6_eq rfl, if_pos (by decide), i3_p, e21p (by omega) (by omega), mjBp_some, hi.2 (i - 1) (by omega) (by omega)]
    by_cases q2 : vS S fk (i - 1) = oneS S i
    · rw [q2, lg6_eq rfl, if_neg (by decide), e5 (n := 700) rfl rfl (by omega) (by omega), mjBp_some, e5 (n := 700) rfl rfl (by omega) (by omega), mjBp_some, Int.toNat_natCast, show ((i : Int) - 1).toNat = i - 1 by omega, hWt _ (by omega) (by omega), hWt _ (by omega) (by omega)]
      by_cases q3 : (ywS S fk (i - 1)).2 < (ywS S fk (lfS S i)).2
      · rw [if_pos (by rw [c_gt (by omega)]; exact q3)]; simp [q3]; rfl
      · rw [if_neg (by rw [c_gt (by omega)]; exact q3)]; simp [q3]; rfl
    · have : mjCmp .ne (lg_cmp (i6 (vS S fk (i - 1))) (i6 (oneS S i))) 0 = true := by
        rcases br with h | h <;> rcases o01 with h3 | h3 <;> rw [h, h3] at q2 ⊢ <;> first | decide | (exact absurd rfl q2)
      rw [if_pos this]; simp [q2]; rfl
  · have : ¬ mjCmp .eq (lg_cmp (i6 (vS S fk (lfS S i))) (i6 (oneS S i))) 0 = true := by
      rcases bl with h | h <;> rcases o01 with h3 | h3 <;> rw [h, h3] at q1 ⊢ <;> first | decide | (exact absurd rfl q1)
    rw [if_neg this]; simp [q1]; rfl
theorem e88 {Z : mjZt} (hb : b = 2 ∨ b = 92) (hf : ∀ k, k ≤ 10 → -2147483648 ≤ fk k ∧ fk k ≤ 2147483647) (hw : WF S fr to) (hto : to ≤ 700) (hi : wIn Z b S fk fr to) {i : Nat} (h1 : fr ≤ i) (h2 : i < to) (hWt : ∀ j, fr ≤ j → j < i → Z.1 193 j = i3 ((ywS S fk j).2)) : f88_weigh (b + 1) (i3 i) Z = some (i3 ((ywS S fk i).2)) := by
  obtain ⟨g1, g2, g3⟩ := hw.2.2.2 i h1 h2
  obtain ⟨c1, c2, c3⟩ := hi.1 i h1 h2
  have o13 : 0 ≤ opC (S 9 i) ∧ opC (S 9 i) ≤ 12 := by
    unfold cdv at g1
    rcases (by omega : 100 ≤ S 9 i ∨ (1 ≤ S 9 i ∧ S 9 i ≤ 11) ∨ S 9 i = 21 ∨ S 9 i = 22 ∨ S 9 i = 23 ∨ S 9 i = 30 ∨ S 9 i = 31 ∨ S 9 i = 32 ∨ S 9 i = 40 ∨ S 9 i = 41 ∨ S 9 i = 42) with c | c | c | c | c | c | c | c | c | c | c
    · rw [show opC (S 9 i) = 0 from if_pos c]; omega
    · rw [show opC (S 9 i) = 1 from (if_neg (by omega)).trans (if_pos (by omega))]; omega
    all_goals (rw [c]; decide)
  have right : ∃ x, f5_at 193 (i3 ((i : Int) - 1)) Z = some x ∧ (fr < i → x = i3 ((ywS S fk (i - 1)).2)) := by
    by_cases q : i = 0
    · subst q
      exact ⟨0, e5_lo (by omega), fun h => by omega⟩
    · refine ⟨Z.1 193 (i - 1), ?_, fun h => hWt _ (by omega) (by omega)⟩
      rw [e5 (n := 700) rfl rfl (by omega) (by omega), show ((i : Int) - 1).toNat = i - 1 by omega]
  obtain ⟨x, hx, hx2⟩ := right
  unfold f88_weigh
  rw [if_pos (is_b1 hb), e79 hb (by omega), mjBp_some, c1, e58 (by omega), mjBp_some, i3_p, hx, mjBp_some]
  cases qc : isCm (S 9 i) with
  | true =>
    have qc' := qc
    simp only [isCm, decide_eq_true_eq] at qc'
    have qa : isLf (S 9 i) = false := by simp only [isLf, decide_eq_false_iff_not]; omega
    obtain ⟨g4, _⟩ := g3 qa (by omega)
    have ey : ywS S fk i = (fun k => decide (k = i), 1) := by
      rw [show ywS S fk i = ywB S fk i (ywS S fk (lfS S i)) (ywS S fk (i - 1)) from tS_bin qa (by omega) (by omega)]
      unfold ywB
      rw [if_neg (by omega), if_pos qc]
    rw [ey]
    rcases (by omega : S 9 i = 30 ∨ S 9 i = 31 ∨ S 9 i = 32) with c | c | c <;> rw [c] <;> rfl
  | false =>
    have qc' := qc
    simp only [isCm, decide_eq_false_iff_not] at qc'
    unfold cdv at g1
    have n7 : ¬ (7 ≤ opC (S 9 i) ∧ opC (S 9 i) ≤ 9) := by
      rcases (by omega : 100 ≤ S 9 i ∨ (1 ≤ S 9 i ∧ S 9 i ≤ 11) ∨ S 9 i = 21 ∨ S 9 i = 22 ∨ S 9 i = 23 ∨ S 9 i = 40 ∨ S 9 i = 41 ∨ S 9 i = 42) with c | c | c | c | c | c | c | c
      · rw [show opC (S 9 i) = 0 from if_pos c]; omega
      · rw [show opC (S 9 i) = 1 from (if_neg (by omega)).trans (if_pos (by omega))]; omega
      all_goals (rw [c]; decide)
    rw [if_neg n7, if_pos (by decide), show (6 : Int32) = i3 6 from rfl, show (5 : Int32) = i3 5 from rfl, show (4 : Int32) = i3 4 from rfl]
    rcases (by omega : 100 ≤ S 9 i ∨ (1 ≤ S 9 i ∧ S 9 i ≤ 11) ∨ (S 9 i = 21 ∨ S 9 i = 22 ∨ S 9 i = 23) ∨ S 9 i = 40 ∨ (S 9 i = 41 ∨ S 9 i = 42)) with c | c | c | c | c
    · rw [show opC (S 9 i) = 0 from if_pos c, show ywS S fk i = (fun _ => false, 0) from tS_leaf (by simp only [isLf, decide_eq_true_eq]; omega)]; rfl
    · rw [show opC (S 9 i) = 1 from (if_neg (by omega)).trans (if_pos (by omega)), show ywS S fk i = (fun _ => false, 0) from tS_leaf (by simp only [isLf, decide_eq_true_eq]; omega)]; rfl
    · have qa : isLf (S 9 i) = false := by simp only [isLf, decide_eq_false_iff_not]; omega
      obtain ⟨g4, _⟩ := g3 qa (by omega)
      have ey : ywS S fk i = (fun _ => false, 0) := by
        rw [show ywS S fk i = ywB S fk i (ywS S fk (lfS S i)) (ywS S fk (i - 1)) from tS_bin qa (by omega) (by omega)]
        unfold ywB
        rw [if_neg (by omega), qc, if_neg (by decide)]
      rw [ey]
      rcases c with c | c | c <;> rw [c] <;> rfl
    · obtain ⟨g4, _⟩ := g2 c
      rw [show ywS S fk i = ywS S fk (i - 1) from tS_not c (by omega), c, hx2 g4]; rfl
    · have qa : isLf (S 9 i) = false := by simp only [isLf, decide_eq_false_iff_not]; omega
      obtain ⟨g4, g5, g6, g7, g8, g9⟩ := g3 qa (by omega)
      have s1 := sp_le S (i - 1)
      have el : lfS S i = spS S (i - 1) - 1 := rfl
      have j48 : f88_weigh_j48 (b + 1) (i3 i) (i3 (opC (S 9 i))) x Z = some (i3 ((ywS S fk i).2)) := by
        unfold f88_weigh_j48
        rw [if_pos (is_b1 hb), e81 hb (by omega), mjBp_some, c3 qa (by omega), e5 (n := 700) rfl rfl (by omega) (by omega), mjBp_some, Int.toNat_natCast, hWt _ (by omega) (by omega), e86 hf hw hto hi h1 h2 c, mjBp_some, yw_join hw h1 h2 c]
        cases q1 : bothS S fk i with
        | true =>
          rw [if_pos rfl, if_neg (by decide), if_pos rfl, hx2 g4, i3_add]
        | false =>
          rw [if_pos (show mjCmp .eq (i3 (if false = true then 1 else 0)) 0 = true by decide), e87 hb hf hw hto hi h1 h2 c hWt q1, mjBp_some]
          cases q2 : leftS S fk i with
          | true => rw [if_neg (by decide)]; rfl
          | false => rw [if_pos (by decide), hx2 g4]; rfl
      rw [j48]
      rcases c with c | c <;> rw [c] <;> rfl
end WY
