/-! THE MODEL's pile: not, and, or; the whole condition -/
section PK
variable {S : mjS} {fk : Nat → Int} {fr to : Nat}
theorem tt_all {l : List Nat} {e : Nat} (h : tyS S (e :: l)) (he : isTt (S 9 e) = true) : ∀ x, x ∈ e :: l → isTt (S 9 x) = true := by
  intro x hx
  rcases List.mem_cons.mp hx with rfl | hx
  · exact he
  · exact h.1 he x hx
theorem fl_tt {l : List Nat} {fl : Bool} (h : flR S fk l fl) (ht : ∀ x, x ∈ l → isTt (S 9 x) = true) : fl = false := by
  cases q : fl with
  | false => rfl
  | true =>
    obtain ⟨x, hx, hx2, _⟩ := Iff.mp h q
    rw [ht x hx] at hx2; cases hx2
theorem fl_tt2 {l : List Nat} (ht : ∀ x, x ∈ l → isTt (S 9 x) = true) : flR S fk l false := by
  constructor
  · intro q; cases q
  · rintro ⟨x, hx, hx2, _⟩
    rw [ht x hx] at hx2; cases hx2
theorem st_not {Z : mjZt} (hf : ∀ k, k ≤ 10 → -2147483648 ≤ fk k ∧ fk k ≤ 2147483647) (hw : WF S fr to) (hto : to ≤ 700) {l : List Nat} {fl : Bool} {i : Nat} (h1 : fr ≤ i) (h2 : i < to) (hv : Iv Z S fr fk l fl i) (q : S 9 i = 40) : ∃ rest, l = (i - 1) :: rest ∧ rest.length < 700 ∧ Z.1 211 65 = i3 ((rest.length + 1 : Nat) : Int) ∧ Z.2.1 243 rest.length = i6 (vS S fk (i - 1)) ∧ Iv (zSl Z 243 rest.length (i6 (1 - vS S fk (i - 1)))) S fr fk (i :: rest) fl (i + 1) := by
  obtain ⟨v1, v2, v3, v4, v5, v6, v7⟩ := hv
  obtain ⟨g1, g2, g3⟩ := hw.2.2.2 i h1 h2
  obtain ⟨g4, g5, g6⟩ := g2 q
  obtain ⟨rest, rfl, hs⟩ := shape1 v1 g4
  have len := isSt_ge _ _ v1
  simp only [List.length_cons] at len v5
  have qt : isTt (S 9 i) = true := by rw [q]; rfl
  have qc : isCm (S 9 i) = false := by rw [q]; rfl
  have al := tt_all v2 g5
  have fl0 := fl_tt v4 al
  obtain ⟨p1, _, p5⟩ := v3
  obtain ⟨p2, w1, w2, w3⟩ := p1 g5
  have e : vS S fk i = 1 - vS S fk (i - 1) := tS_not q (by omega)
  have ey : ywS S fk i = ywS S fk (i - 1) := tS_not q (by omega)
  refine ⟨rest, rfl, by omega, v5, p2, ⟨rfl, by rw [sp_not q (by omega)]; exact hs⟩, ⟨fun _ x hx => al x (List.mem_cons_of_mem _ hx), v2.2⟩, ⟨fun _ => ⟨?_, w1, ?_, ?_⟩, fun q2 => (by rw [qt] at q2; cases q2), ?_⟩, ?_, ?_, ?_, ?_⟩
  · rw [sl_same, e]
  · intro x hx
    rw [ey, sp_not q (by omega)]
    refine Iff.trans (w2 x hx) ?_
    constructor
    · rintro ⟨k, k1, k2, k3, k4⟩
      exact ⟨k, k1, by omega, k3, k4⟩
    · rintro ⟨k, k1, k2, k3, k4⟩
      refine ⟨k, k1, ?_, k3, k4⟩
      by_cases q5 : k = i
      · subst q5; rw [qc] at k3; cases k3
      · omega
  · rw [ey, ← w3]; rfl
  · refine plR_of (fun h => h) rest (fun a h q1 q2 q3 => ?_) p5
    rw [sl_fld _ _ _ _ (by omega)]
  · rw [fl0]
    exact fl_tt2 (fun x hx => by
      rcases List.mem_cons.mp hx with rfl | hx
      · exact qt
      · exact al x (List.mem_cons_of_mem _ hx))
  · rw [sl_int, v5]; rfl
  · rw [sl_int, v6, ci_s S h1, qc]; simp
  · rw [sl_int, v7]
theorem st_jn {Z : mjZt} (hf : ∀ k, k ≤ 10 → -2147483648 ≤ fk k ∧ fk k ≤ 2147483647) (hw : WF S fr to) (hto : to ≤ 700) (hnc : ciS S fr to ≤ 180) {l : List Nat} {fl : Bool} {i : Nat} (h1 : fr ≤ i) (h2 : i < to) (hv : Iv Z S fr fk l fl i) (q : S 9 i = 41 ∨ S 9 i = 42) (x1 x3 : Int32) : ∃ Z3 l3 fl3, (∀ R, f288_worked_j263 R x1 x3 (i3 i) (i3 (S 9 i)) Z = R x1 x3 (i3 ((i + 1 : Nat) : Int)) Z3) ∧ Iv Z3 S fr fk l3 fl3 (i + 1) ∧ eqP Z Z3 := by
  obtain ⟨v1, v2, v3, v4, v5, v6, v7⟩ := hv
  obtain ⟨g1, g2, g3⟩ := hw.2.2.2 i h1 h2
  have qa : isLf (S 9 i) = false := by simp only [isLf, decide_eq_false_iff_not]; omega
  have qt : isTt (S 9 i) = true := by simp only [isTt, decide_eq_true_eq]; omega
  have qc : isCm (S 9 i) = false := by simp only [isCm, decide_eq_false_iff_not]; omega
  obtain ⟨g4, g5, g6, g7, g8, g9⟩ := g3 qa (by omega)
  obtain ⟨n1, n2⟩ := g9 (by omega)
  obtain ⟨rest, rfl, hs⟩ := shape2 v1 g4 g5
  have len := isSt_ge _ _ v1
  simp only [List.length_cons] at len v5
  have e : vS S fk i = vB S i (vS S fk (lfS S i)) (vS S fk (i - 1)) := tS_bin qa (by omega) (by omega)
  have ey : ywS S fk i = ywB S fk i (ywS S fk (lfS S i)) (ywS S fk (i - 1)) := tS_bin qa (by omega) (by omega)
  have s1 := sp_le S (i - 1)
  have s2 := sp_le S (lfS S i)
  have el : lfS S i = spS S (i - 1) - 1 := rfl
  have esp : spS S i = spS S (lfS S i) := sp_bin qa (by omega) (by omega)
  have bl := (vS_bd hf hw (lfS S i + 1) (lfS S i) (by omega) (by omega) (by omega)).1 n2
  have br := (vS_bd hf hw (i - 1 + 1) (i - 1) (by omega) (by omega) (by omega)).1 n1
  have al := tt_all v2 n1
  have fl0 := fl_tt v4 al
  obtain ⟨p1, _, p3, _, p5⟩ := v3
  obtain ⟨c1, wr1, wr2, wr3⟩ := p1 n1
  obtain ⟨c2, wl1, wl2, wl3⟩ := p3 n2
  simp only [List.length_cons] at c1 wr1 wr2 wr3
  have one01 : oneS S i = 0 ∨ oneS S i = 1 := by unfold oneS; split <;> simp
  have wty : tyS S (i :: rest) := ⟨fun _ x hx => al x (by simp [hx]), v2.2.2⟩
  have wfl : flR S fk (i :: rest) fl := by
    rw [fl0]
    exact fl_tt2 (fun x hx => by
      rcases List.mem_cons.mp hx with rfl | hx
      · exact qt
      · exact al x (by simp [hx]))
  have e1 : i3 ((rest.length + 1 + 1 : Nat) : Int) - 1 = i3 ((rest.length + 1 : Nat) : Int) := by rw [i3_p]; congr 1; omega
  have e2 : i3 ((rest.length + 1 : Nat) : Int) - 1 = i3 (rest.length : Int) := by rw [i3_p]; congr 1; omega
  generalize hZ1 : zSi Z 211 65 (i3 ((rest.length + 1 : Nat) : Int)) = Z1
  have z65 : Z1.1 211 65 = i3 ((rest.length + 1 : Nat) : Int) := by rw [← hZ1, si_same]
  have zl : Z1.2 = Z.2 := by rw [← hZ1]; rfl
  have z66 : Z1.1 211 66 = Z.1 211 66 := by rw [← hZ1, si_fld _ _ _ _ (by omega)]
  have z67 : Z1.1 211 67 = Z.1 211 67 := by rw [← hZ1, si_fld _ _ _ _ (by omega)]
  have zq : eqP Z Z1 := by rw [← hZ1]; exact eqP_si (by omega)
  -- the run, up to the size
  have run : f287_joins (i3 (oneS S i)) Z = f287_joins_j69 (i3 rest.length) (i3 ((rest.length + 1 : Nat) : Int)) (i6 (oneS S i)) (i3 (if vS S fk (lfS S i) = oneS S i then 1 else 0)) (i3 (if vS S fk (i - 1) = oneS S i then 1 else 0)) Z1 := by
    have cmp : ∀ x : Int, x = 0 ∨ x = 1 → ∀ {α : Type} (A B : α), (if mjCmp .ne (lg_cmp (i6 x) (i6 (oneS S i))) 0 = true then A else B) = if x = oneS S i then B else A := by
      intro x hx α A B
      rcases hx with rfl | rfl <;> rcases one01 with h | h <;> rw [h] <;> rfl
    have j31 : f287_joins_j31 (i3 rest.length) (i3 ((rest.length + 1 : Nat) : Int)) (i6 (oneS S i)) Z1 = f287_joins_j69 (i3 rest.length) (i3 ((rest.length + 1 : Nat) : Int)) (i6 (oneS S i)) (i3 (if vS S fk (lfS S i) = oneS S i then 1 else 0)) (i3 (if vS S fk (i - 1) = oneS S i then 1 else 0)) Z1 := by
      unfold f287_joins_j31 f287_joins_j50
      rw [if_pos (in_p (by omega)), ix_nat (by omega), zl, c2, cmp _ bl, if_pos (in_p (by omega)), ix_nat (by omega), c1]
      simp only [cmp _ br]
      by_cases qa1 : vS S fk (lfS S i) = oneS S i
      · rw [if_pos qa1, if_pos qa1]
        by_cases qa2 : vS S fk (i - 1) = oneS S i
        · rw [if_pos qa2, if_pos qa2]; rfl
        · rw [if_neg qa2, if_neg qa2]; rfl
      · rw [if_neg qa1, if_neg qa1]
        by_cases qa2 : vS S fk (i - 1) = oneS S i
        · rw [if_pos qa2, if_pos qa2, if_pos (in_p (by omega))]; rfl
        · rw [if_neg qa2, if_neg qa2, if_pos (in_p (by omega))]; rfl
    rw [← j31]
    unfold f287_joins
    rw [v5, e1, let_eq, hZ1, z65, e2]
    rcases q with q | q
    · rw [show oneS S i = 0 by unfold oneS; rw [q]; rfl]; rfl
    · rw [show oneS S i = 1 by unfold oneS; rw [q]; rfl]; rfl
  have run2 : ∀ R, f288_worked_j263 R x1 x3 (i3 i) (i3 (S 9 i)) Z = mjBd (f287_joins (i3 (oneS S i)) Z) fun _ Z3 => R x1 x3 (i3 ((i + 1 : Nat) : Int)) Z3 := by
    intro R
    unfold f288_worked_j263
    rw [i3_s]
    rcases q with q | q
    · rw [show oneS S i = 0 by unfold oneS; rw [q]; rfl, q]; rfl
    · rw [show oneS S i = 1 by unfold oneS; rw [q]; rfl, q]; rfl
  -- the state behind, in general
  have build : ∀ Z3 : mjZt, Z3.1 = Z1.1 → (∀ a h, 243 ≤ a → a ≤ 246 → h < rest.length → Z3.2.1 a h = Z.2.1 a h) → Z3.2.1 243 rest.length = i6 (vS S fk i) → whR Z3 S fr fk i rest.length → Iv Z3 S fr fk (i :: rest) fl (i + 1) := by
    intro Z3 k1 k2 k3 k4
    refine ⟨⟨rfl, by rw [esp]; exact hs⟩, wty, ⟨fun _ => ⟨k3, k4⟩, fun q2 => (by rw [qt] at q2; cases q2), plR_of (fun h => h) rest k2 p5⟩, wfl, ?_, ?_, ?_⟩
    · rw [k1, z65]; rfl
    · rw [k1, z66, v6, ci_s S h1, qc]; simp
    · rw [k1, z67, v7]
  -- what a side tells alone
  have side : ∀ (e0 : Nat), (e0 = lfS S i ∨ e0 = i - 1) → (ywS S fk i = ywS S fk e0) → ∀ j : Nat, (∃ k, spS S e0 ≤ k ∧ k ≤ e0 ∧ isCm (S 9 k) = true ∧ ciS S fr k = j ∧ (ywS S fk e0).1 k = true) ↔ ∃ k, spS S i ≤ k ∧ k ≤ i ∧ isCm (S 9 k) = true ∧ ciS S fr k = j ∧ (ywS S fk i).1 k = true := by
    intro e0 he hy j
    rw [hy]
    constructor
    · rintro ⟨k, k1, k2, k3, k4⟩
      refine ⟨k, ?_, ?_, k3, k4⟩
      · rw [esp]; rcases he with rfl | rfl <;> omega
      · rcases he with rfl | rfl <;> omega
    · rintro ⟨k, k1, k2, k3, k4, k5⟩
      have := yw_sup hw (e0 + 1) e0 (by omega) (by rcases he with rfl | rfl <;> omega) (by rcases he with rfl | rfl <;> omega) k5
      exact ⟨k, this.1, this.2.1, k3, k4, k5⟩
  have j104 : ywS S fk i = ywS S fk (i - 1) → vS S fk i = oneS S i → ∃ Z3, f287_joins_j104 (i3 rest.length) (i3 ((rest.length + 1 : Nat) : Int)) (i6 (oneS S i)) Z1 = some ((), Z3) ∧ Iv Z3 S fr fk (i :: rest) fl (i + 1) ∧ eqP Z Z3 := by
    intro hy hv1
    refine ⟨zSl (zSl (zSl (zSl Z1 244 rest.length (Z.2.1 244 (rest.length + 1))) 245 rest.length (Z.2.1 245 (rest.length + 1))) 246 rest.length (Z.2.1 246 (rest.length + 1))) 243 rest.length (i6 (oneS S i)), ?_, build _ rfl (fun a h q1 q2 q3 => ?_) ?_ ⟨?_, ?_, ?_⟩, eqP_tr (eqP_tr (eqP_tr (eqP_tr zq (eqP_sl (by omega))) (eqP_sl (by omega))) (eqP_sl (by omega))) (eqP_sl (by omega))⟩
    · unfold f287_joins_j104
      rw [if_pos (in_p (by omega)), if_pos (in_p (by omega)), ix_nat (by omega), ix_nat (by omega), let_eq, let_eq, let_eq, let_eq, sl_obj _ _ _ _ (by omega), sl_obj _ _ _ _ (by omega), sl_obj _ _ _ _ (by omega), zl]
    · rw [sl_fld _ _ _ _ (by omega), sl_fld _ _ _ _ (by omega), sl_fld _ _ _ _ (by omega), sl_fld _ _ _ _ (by omega), zl]
    · rw [sl_same, hv1]
    · intro x hx hx2
      rw [sl_obj _ _ _ _ (by omega), sl_obj _ _ _ _ (by omega), sl_obj _ _ _ _ (by omega), sl_same, sl_obj _ _ _ _ (by omega), sl_obj _ _ _ _ (by omega), sl_same, sl_obj _ _ _ _ (by omega), sl_same]
      exact wr1 x hx hx2
    · intro x hx
      refine Iff.trans ?_ (side (i - 1) (Or.inr rfl) hy x)
      refine Iff.trans ?_ (wr2 x hx)
      unfold whB
      rw [sl_obj _ _ _ _ (by omega), sl_obj _ _ _ _ (by omega), sl_obj _ _ _ _ (by omega), sl_same, sl_obj _ _ _ _ (by omega), sl_obj _ _ _ _ (by omega), sl_same, sl_obj _ _ _ _ (by omega), sl_same]
    · rw [sl_obj _ _ _ _ (by omega), sl_obj _ _ _ _ (by omega), sl_obj _ _ _ _ (by omega), sl_same, sl_obj _ _ _ _ (by omega), sl_obj _ _ _ _ (by omega), sl_same, sl_obj _ _ _ _ (by omega), sl_same, hy]
      exact wr3
  have keepL : ywS S fk i = ywS S fk (lfS S i) → vS S fk i = oneS S i → Iv (zSl Z1 243 rest.length (i6 (oneS S i))) S fr fk (i :: rest) fl (i + 1) ∧ eqP Z (zSl Z1 243 rest.length (i6 (oneS S i))) := by
    intro hy hv1
    refine ⟨build _ rfl (fun a h q1 q2 q3 => ?_) ?_ ⟨?_, ?_, ?_⟩, eqP_tr zq (eqP_sl (by omega))⟩
    · rw [sl_fld _ _ _ _ (by omega), zl]
    · rw [sl_same, hv1]
    · intro x hx hx2
      rw [sl_obj _ _ _ _ (by omega), sl_obj _ _ _ _ (by omega), sl_obj _ _ _ _ (by omega), zl]
      exact wl1 x hx hx2
    · intro x hx
      refine Iff.trans ?_ (side (lfS S i) (Or.inl rfl) hy x)
      refine Iff.trans ?_ (wl2 x hx)
      unfold whB
      rw [sl_obj _ _ _ _ (by omega), sl_obj _ _ _ _ (by omega), sl_obj _ _ _ _ (by omega), zl]
    · rw [sl_obj _ _ _ _ (by omega), sl_obj _ _ _ _ (by omega), sl_obj _ _ _ _ (by omega), zl, hy]
      exact wl3
  have one_v : vS S fk (lfS S i) = oneS S i ∨ vS S fk (i - 1) = oneS S i → vS S fk i = oneS S i := by
    intro h3
    rw [e]; unfold vB
    rcases q with q | q
    · have o : oneS S i = 0 := by unfold oneS; rw [q]; rfl
      rw [o] at h3 ⊢
      rw [if_pos q, if_neg (by omega)]
    · have o : oneS S i = 1 := by unfold oneS; rw [q]; rfl
      rw [o] at h3 ⊢
      rw [if_neg (by omega), if_pos q, if_pos h3]
  have hgt : 40 < S 9 i := by omega
  by_cases a1 : vS S fk (lfS S i) = oneS S i
  · by_cases a2 : vS S fk (i - 1) = oneS S i
    · -- both tell it: the smaller one
      have sz1 := m284 (Z := Z1) (h := rest.length + 1) (by omega)
      have sz2 := m284 (Z := Z1) (h := rest.length) (by omega)
      rw [zl] at sz1 sz2
      rw [wr3] at sz1
      rw [wl3] at sz2
      have bd1 := cN_bd (b6 (Z.2.1 244 (rest.length + 1))) 64
      have bd2 := cN_bd (b6 (Z.2.1 245 (rest.length + 1))) 64
      have bd3 := cN_bd (b6 (Z.2.1 246 (rest.length + 1))) 64
      have bd4 := cN_bd (b6 (Z.2.1 244 rest.length)) 64
      have bd5 := cN_bd (b6 (Z.2.1 245 rest.length)) 64
      have bd6 := cN_bd (b6 (Z.2.1 246 rest.length)) 64
      by_cases a3 : (ywS S fk (i - 1)).2 < (ywS S fk (lfS S i)).2
      · have hy : ywS S fk i = ywS S fk (i - 1) := by
          rw [ey]; unfold ywB
          rw [if_pos hgt, if_pos (Or.inl a1), if_pos (Or.inr ⟨a2, a3⟩)]
        obtain ⟨Z3, r1, r2, r3⟩ := j104 hy (one_v (Or.inl a1))
        refine ⟨Z3, _, fl, fun R => ?_, r2, r3⟩
        rw [run2, run, if_pos a1, if_pos a2]
        unfold f287_joins_j69 f287_joins_j81
        rw [if_pos (by decide), if_neg (by decide), if_neg (by decide), sz1, mjBp_some, sz2, mjBp_some, if_neg (by rw [c_ge (by omega)]; omega), r1, mjBd_some]
      · have hy : ywS S fk i = ywS S fk (lfS S i) := by
          rw [ey]; unfold ywB
          rw [if_pos hgt, if_pos (Or.inl a1), if_neg (fun h3 => h3.elim (fun h4 => h4 a1) (fun h4 => a3 h4.2))]
        obtain ⟨r2, r3⟩ := keepL hy (one_v (Or.inl a1))
        refine ⟨_, _, fl, fun R => ?_, r2, r3⟩
        rw [run2, run, if_pos a1, if_pos a2]
        unfold f287_joins_j69 f287_joins_j81
        rw [if_pos (by decide), if_neg (by decide), if_neg (by decide), sz1, mjBp_some, sz2, mjBp_some, if_pos (by rw [c_ge (by omega)]; omega), if_pos (in_p (by omega)), let_eq, ix_nat (by omega), mjBd_some]
    · have hy : ywS S fk i = ywS S fk (lfS S i) := by
        rw [ey]; unfold ywB
        rw [if_pos hgt, if_pos (Or.inl a1), if_neg (fun h3 => h3.elim (fun h4 => h4 a1) (fun h4 => a2 h4.1))]
      obtain ⟨r2, r3⟩ := keepL hy (one_v (Or.inl a1))
      refine ⟨_, _, fl, fun R => ?_, r2, r3⟩
      rw [run2, run, if_pos a1, if_neg a2]
      unfold f287_joins_j69 f287_joins_j81
      rw [if_pos (by decide), if_neg (by decide), if_pos (by decide), if_pos (in_p (by omega)), let_eq, ix_nat (by omega), mjBd_some]
  · by_cases a2 : vS S fk (i - 1) = oneS S i
    · have hy : ywS S fk i = ywS S fk (i - 1) := by
        rw [ey]; unfold ywB
        rw [if_pos hgt, if_pos (Or.inr a2), if_pos (Or.inl a1)]
      obtain ⟨Z3, r1, r2, r3⟩ := j104 hy (one_v (Or.inr a2))
      refine ⟨Z3, _, fl, fun R => ?_, r2, r3⟩
      rw [run2, run, if_neg a1, if_pos a2]
      unfold f287_joins_j69 f287_joins_j81
      rw [if_neg (by decide), if_neg (by decide), if_pos (by decide), r1, mjBd_some]
    · -- neither: both together
      have hy : ywS S fk i = (fun k => (ywS S fk (lfS S i)).1 k || (ywS S fk (i - 1)).1 k, (ywS S fk (lfS S i)).2 + (ywS S fk (i - 1)).2) := by
        rw [ey]; unfold ywB
        rw [if_pos hgt, if_neg (fun h3 => h3.elim a1 a2)]
      have hv1 : vS S fk i = vS S fk (lfS S i) := by
        rw [e]; unfold vB
        rcases q with q | q
        · have o : oneS S i = 0 := by unfold oneS; rw [q]; rfl
          rw [o] at a1 a2
          rw [if_pos q, if_pos (by omega)]; omega
        · have o : oneS S i = 1 := by unfold oneS; rw [q]; rfl
          rw [o] at a1 a2
          rw [if_neg (by omega), if_pos q, if_neg (by omega)]; omega
      -- no bit in both
      have dis : ∀ j, j < 180 → ¬ (whB Z rest.length j = true ∧ whB Z (rest.length + 1) j = true) := by
        rintro j hj ⟨d1, d2⟩
        obtain ⟨k, k1, k2, k3, k4, _⟩ := (wl2 j hj).mp d1
        obtain ⟨k', k1', k2', k3', k4', _⟩ := (wr2 j hj).mp d2
        have m1 := ci_s S (show fr ≤ k by omega)
        rw [if_pos k3] at m1
        have m2 := ci_le S (show fr ≤ k + 1 by omega) (show k + 1 ≤ k' by omega)
        omega
      have d244 : ∀ x, x < 64 → ¬ (b6 (Z.2.1 244 rest.length) x = true ∧ b6 (Z.2.1 244 (rest.length + 1)) x = true) := by
        intro x hx
        by_cases q5 : x < 60
        · have := dis x (by omega)
          unfold whB at this
          rw [if_pos q5, if_pos q5] at this
          exact this
        · rw [(wl1 x (by omega) hx).1]; simp
      have d245 : ∀ x, x < 64 → ¬ (b6 (Z.2.1 245 rest.length) x = true ∧ b6 (Z.2.1 245 (rest.length + 1)) x = true) := by
        intro x hx
        by_cases q5 : x < 60
        · have := dis (x + 60) (by omega)
          unfold whB at this
          rw [if_neg (by omega), if_pos (by omega), if_neg (by omega), if_pos (by omega), show x + 60 - 60 = x by omega] at this
          exact this
        · rw [(wl1 x (by omega) hx).2.1]; simp
      have d246 : ∀ x, x < 64 → ¬ (b6 (Z.2.1 246 rest.length) x = true ∧ b6 (Z.2.1 246 (rest.length + 1)) x = true) := by
        intro x hx
        by_cases q5 : x < 60
        · have := dis (x + 120) (by omega)
          unfold whB at this
          rw [if_neg (by omega), if_neg (by omega), if_neg (by omega), if_neg (by omega), show x + 120 - 120 = x by omega] at this
          exact this
        · rw [(wl1 x (by omega) hx).2.2]; simp
      refine ⟨zSl (zSl (zSl Z1 244 rest.length (Z.2.1 244 rest.length ||| Z.2.1 244 (rest.length + 1))) 245 rest.length (Z.2.1 245 rest.length ||| Z.2.1 245 (rest.length + 1))) 246 rest.length (Z.2.1 246 rest.length ||| Z.2.1 246 (rest.length + 1)), i :: rest, fl, fun R => ?_, build _ rfl (fun a h q1 q2 q3 => ?_) ?_ ⟨?_, ?_, ?_⟩, eqP_tr (eqP_tr (eqP_tr zq (eqP_sl (by omega))) (eqP_sl (by omega))) (eqP_sl (by omega))⟩
      · rw [run2, run, if_neg a1, if_neg a2]
        unfold f287_joins_j69
        rw [if_neg (by decide), if_pos (by decide), if_pos (in_p (by omega)), if_pos (in_p (by omega)), ix_nat (by omega), ix_nat (by omega), let_eq, let_eq, let_eq, sl_obj _ _ _ _ (by omega), sl_obj _ _ _ _ (by omega), sl_obj _ _ _ _ (by omega), zl, mjBd_some]
      · rw [sl_fld _ _ _ _ (by omega), sl_fld _ _ _ _ (by omega), sl_fld _ _ _ _ (by omega), zl]
      · rw [sl_obj _ _ _ _ (by omega), sl_obj _ _ _ _ (by omega), sl_obj _ _ _ _ (by omega), zl, c2, hv1]
      · intro x hx hx2
        rw [sl_obj _ _ _ _ (by omega), sl_obj _ _ _ _ (by omega), sl_same, sl_obj _ _ _ _ (by omega), sl_same, sl_same, b6_or, b6_or, b6_or, (wl1 x hx hx2).1, (wl1 x hx hx2).2.1, (wl1 x hx hx2).2.2, (wr1 x hx hx2).1, (wr1 x hx hx2).2.1, (wr1 x hx hx2).2.2]
        simp
      · intro x hx
        have ew : whB (zSl (zSl (zSl Z1 244 rest.length (Z.2.1 244 rest.length ||| Z.2.1 244 (rest.length + 1))) 245 rest.length (Z.2.1 245 rest.length ||| Z.2.1 245 (rest.length + 1))) 246 rest.length (Z.2.1 246 rest.length ||| Z.2.1 246 (rest.length + 1))) rest.length x = (whB Z rest.length x || whB Z (rest.length + 1) x) := by
          unfold whB
          rw [sl_obj _ _ _ _ (by omega), sl_obj _ _ _ _ (by omega), sl_same, sl_obj _ _ _ _ (by omega), sl_same, sl_same, b6_or, b6_or, b6_or]
          split
          · rfl
          · split <;> rfl
        rw [ew, hy, esp]
        simp only [Bool.or_eq_true]
        rw [wl2 x hx, wr2 x hx]
        constructor
        · rintro (⟨k, k1, k2, k3, k4, k5⟩ | ⟨k, k1, k2, k3, k4, k5⟩)
          · exact ⟨k, k1, by omega, k3, k4, Or.inl k5⟩
          · exact ⟨k, by omega, by omega, k3, k4, Or.inr k5⟩
        · rintro ⟨k, k1, k2, k3, k4, k5 | k5⟩
          · have := yw_sup hw (lfS S i + 1) (lfS S i) (by omega) (by omega) (by omega) k5
            exact Or.inl ⟨k, this.1, this.2.1, k3, k4, k5⟩
          · have := yw_sup hw (i - 1 + 1) (i - 1) (by omega) (by omega) (by omega) k5
            exact Or.inr ⟨k, this.1, this.2.1, k3, k4, k5⟩
      · rw [sl_obj _ _ _ _ (by omega), sl_obj _ _ _ _ (by omega), sl_same, sl_obj _ _ _ _ (by omega), sl_same, sl_same, hy, cN_congr (q := fun x => b6 (Z.2.1 244 rest.length) x || b6 (Z.2.1 244 (rest.length + 1)) x) 64 (fun x _ => b6_or _ _ _), cN_congr (p := b6 (Z.2.1 245 rest.length ||| Z.2.1 245 (rest.length + 1))) (q := fun x => b6 (Z.2.1 245 rest.length) x || b6 (Z.2.1 245 (rest.length + 1)) x) 64 (fun x _ => b6_or _ _ _), cN_congr (p := b6 (Z.2.1 246 rest.length ||| Z.2.1 246 (rest.length + 1))) (q := fun x => b6 (Z.2.1 246 rest.length) x || b6 (Z.2.1 246 (rest.length + 1)) x) 64 (fun x _ => b6_or _ _ _), cN_or 64 d244, cN_or 64 d245, cN_or 64 d246]
        show _ = (ywS S fk (lfS S i)).2 + (ywS S fk (i - 1)).2
        omega
end PK
