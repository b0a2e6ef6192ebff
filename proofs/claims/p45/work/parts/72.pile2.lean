/-! THE MODEL's pile: comparisons, not, and, or; the whole condition -/
theorem cN_one (n : Nat) : ∀ m, cN (fun x => decide (x = n)) m = if n < m then 1 else 0
  | 0 => rfl
  | m + 1 => by
    rw [cN, cN_one n m]
    by_cases q : m = n
    · subst q; simp
    · rw [show decide (m = n) = false by simp [q]]
      by_cases q2 : n < m
      · rw [if_pos q2, if_neg (by decide), if_pos (by omega)]; rfl
      · rw [if_neg q2, if_neg (by decide), if_neg (by omega)]; rfl
/-- one bit or none -/
def sgl (c : Bool) (n : Nat) : Int64 := if c = true then i6 1 <<< ((i3 n).toInt64 &&& 63) else i6 0
theorem sgl_bit {c : Bool} {n : Nat} (hn : n < 64) {x : Nat} (hx : x < 64) : b6 (sgl c n) x = (c && decide (x = n)) := by
  unfold sgl
  cases c with
  | true => rw [if_pos rfl, b6_single hn hx]; rfl
  | false => rw [if_neg (by decide), b6_0]; rfl
theorem sgl_f0 {n x : Nat} : b6 (sgl false n) x = false := b6_0 x
theorem sgl_f1 {n : Nat} : cN (b6 (sgl false n)) 64 = 0 := cN_zero 64 (fun i _ => sgl_f0)
theorem sgl_cnt {c : Bool} {n : Nat} (hn : n < 64) : cN (b6 (sgl c n)) 64 = if c = true then 1 else 0 := by
  rw [cN_congr (q := fun x => (c && decide (x = n))) 64 (fun i hi => sgl_bit hn hi)]
  cases c with
  | true =>
    have := cN_one n 64
    rw [if_pos hn] at this
    simp only [Bool.true_and, if_true]; exact this
  | false => exact cN_zero 64 (fun i _ => rfl)
theorem cN_or {p q : Nat → Bool} : ∀ n, (∀ i, i < n → ¬ (p i = true ∧ q i = true)) → cN (fun i => p i || q i) n = cN p n + cN q n
  | 0, _ => rfl
  | n + 1, h => by
    have := h n (by omega)
    rw [cN, cN, cN, cN_or n (fun i hi => h i (by omega))]
    cases h1 : p n <;> cases h2 : q n <;> simp_all <;> omega
section PJ
variable {S : mjS} {fk : Nat → Int} {fr to : Nat}
theorem st_cm {Z : mjZt} (hf : ∀ k, k ≤ 10 → -2147483648 ≤ fk k ∧ fk k ≤ 2147483647) (hw : WF S fr to) (hto : to ≤ 700) (hnc : ciS S fr to ≤ 180) {l : List Nat} {fl : Bool} {i : Nat} (h1 : fr ≤ i) (h2 : i < to) (hv : Iv Z S fr fk l fl i) (q : S 9 i = 30 ∨ S 9 i = 31 ∨ S 9 i = 32) : ∃ Z3 l3 fl3, f286_compares (i3 (S 9 i)) Z = some ((), Z3) ∧ Iv Z3 S fr fk l3 fl3 (i + 1) ∧ eqP Z Z3 := by
  obtain ⟨v1, v2, v3, v4, v5, v6, v7⟩ := hv
  obtain ⟨g1, g2, g3⟩ := hw.2.2.2 i h1 h2
  have qa : isLf (S 9 i) = false := by simp only [isLf, decide_eq_false_iff_not]; omega
  have qt : isTt (S 9 i) = true := by simp only [isTt, decide_eq_true_eq]; omega
  have qc : isCm (S 9 i) = true := by simp only [isCm, decide_eq_true_eq]; omega
  obtain ⟨g4, g5, g6, g7, g8, g9⟩ := g3 qa (by omega)
  obtain ⟨n1, n2⟩ := g7 (by omega)
  obtain ⟨rest, rfl, hs⟩ := shape2 v1 g4 g5
  have len := isSt_ge _ _ v1
  simp only [List.length_cons] at len v5
  have e : vS S fk i = vB S i (vS S fk (lfS S i)) (vS S fk (i - 1)) := tS_bin qa (by omega) (by omega)
  have ey : ywS S fk i = (fun k => decide (k = i), 1) := by
    rw [show ywS S fk i = ywB S fk i (ywS S fk (lfS S i)) (ywS S fk (i - 1)) from tS_bin qa (by omega) (by omega)]
    unfold ywB
    rw [if_neg (by omega), if_pos qc]
  have s1 := sp_le S (i - 1)
  have bl := (vS_bd hf hw (lfS S i + 1) (lfS S i) (by omega) (by unfold lfS; omega) (by unfold lfS; omega)).2 n2
  have br := (vS_bd hf hw (i - 1 + 1) (i - 1) (by omega) (by omega) (by omega)).2 n1
  have bi := (vS_bd hf hw (i + 1) i (by omega) h1 h2).1 qt
  obtain ⟨_, p2, _, p4, p5⟩ := v3
  simp only [List.length_cons] at p2
  have c0 := ci_bd S fr i
  have c1 := ci_s S h1
  rw [if_pos qc] at c1
  have c2 := ci_le S (show fr ≤ i + 1 by omega) (show i + 1 ≤ to by omega)
  obtain ⟨j, hj⟩ : ∃ j : Nat, ciS S fr i = j := ⟨(ciS S fr i).toNat, by omega⟩
  have hj2 : j < 180 := by omega
  -- below are truths alone
  have rt : ∀ x, x ∈ rest → isTt (S 9 x) = true := by
    cases rest with
    | nil => intro x hx; cases hx
    | cons a r2 =>
      obtain ⟨h3, h4⟩ := hs
      have ha : a = spS S (lfS S i) - 1 := by omega
      rcases g8 qc with g8 | g8
      · have := isSt_ge _ _ h4
        have := sp_le S a
        omega
      · rw [← ha] at g8
        intro x hx
        rcases List.mem_cons.mp hx with rfl | hx
        · exact g8
        · exact v2.2.2.1 g8 x hx
  have e1 : i3 ((rest.length + 1 + 1 : Nat) : Int) - 1 = i3 ((rest.length + 1 : Nat) : Int) := by rw [i3_p]; congr 1; omega
  have e2 : i3 ((rest.length + 1 : Nat) : Int) - 1 = i3 (rest.length : Int) := by rw [i3_p]; congr 1; omega
  -- which truth
  have head : f286_compares (i3 (S 9 i)) Z = f286_compares_j84 (i3 (vS S fk i)) (zSi Z 211 65 (i3 ((rest.length + 1 : Nat) : Int))) := by
    unfold f286_compares
    rw [v5, e1, let_eq, si_same, e2, if_pos (in_p (by omega)), if_pos (in_p (by omega)), si_fld _ _ _ _ (by omega), v7, si_lng, ix_nat (by omega), ix_nat (by omega)]
    cases q1 : fl with
    | true =>
      have z : vS S fk i = 0 := by
        obtain ⟨x, hx, hx2, hx3⟩ := Iff.mp v4 q1
        rw [e]; unfold vB
        have : vS S fk (lfS S i) = BEY ∨ vS S fk (i - 1) = BEY := by
          rcases List.mem_cons.mp hx with rfl | hx
          · exact Or.inr hx3
          · rcases List.mem_cons.mp hx with rfl | hx
            · exact Or.inl hx3
            · rw [rt x hx] at hx2; cases hx2
        rw [if_neg (by omega), if_neg (by omega), if_pos this, if_pos qc]
      rw [z, if_pos (by decide)]
      rfl
    | false =>
      have nb : ∀ x, x ∈ (i - 1) :: lfS S i :: rest → isTt (S 9 x) = false → vS S fk x ≠ BEY := fun x hx hx2 hx3 => by
        have := Iff.mpr v4 ⟨x, hx, hx2, hx3⟩
        rw [q1] at this; cases this
      have nl := nb (lfS S i) (by simp) n2
      have nr := nb (i - 1) (by simp) n1
      have cl := p4 n2 q1
      have cr := p2 n1 q1
      have rl : -2147483648 ≤ vS S fk (lfS S i) ∧ vS S fk (lfS S i) ≤ 2147483647 := bl.resolve_left nl
      have rr : -2147483648 ≤ vS S fk (i - 1) ∧ vS S fk (i - 1) ≤ 2147483647 := br.resolve_left nr
      rw [if_neg (by decide), cl, cr, e]
      unfold vB
      have nn : ¬ (vS S fk (lfS S i) = BEY ∨ vS S fk (i - 1) = BEY) := fun q2 => q2.elim nl nr
      generalize vS S fk (lfS S i) = x at nn rl ⊢
      generalize vS S fk (i - 1) = y at nn rr ⊢
      rcases q with q | q | q
      · rw [q]
        refine Eq.trans ?_ (show f286_compares_j84 (i3 (if x = BEY ∨ y = BEY then 0 else if x < y then 1 else 0)) _ = _ from rfl)
        rw [if_neg nn, if_neg (by decide)]
        rcases Int.lt_trichotomy x y with q2 | q2 | q2
        · rw [lg6_lt (by omega), if_neg (by decide), if_pos q2]; rfl
        · rw [lg6_eq q2, if_pos (by decide), if_neg (by omega)]; rfl
        · rw [lg6_gt (by omega), if_pos (by decide), if_neg (by omega)]; rfl
      · rw [q]
        refine Eq.trans ?_ (show f286_compares_j84 (i3 (if x = BEY ∨ y = BEY then 0 else if y < x then 1 else 0)) _ = _ from rfl)
        rw [if_neg nn, if_pos (by decide), if_neg (by decide)]
        rcases Int.lt_trichotomy x y with q2 | q2 | q2
        · rw [lg6_lt (by omega), if_pos (by decide), if_neg (by omega)]; rfl
        · rw [lg6_eq q2, if_pos (by decide), if_neg (by omega)]; rfl
        · rw [lg6_gt (by omega), if_neg (by decide), if_pos q2]; rfl
      · rw [q]
        refine Eq.trans ?_ (show f286_compares_j84 (i3 (if x = BEY ∨ y = BEY then 0 else if x = y then 1 else 0)) _ = _ from rfl)
        rw [if_neg nn, if_pos (by decide), if_pos (by decide)]
        rcases Int.lt_trichotomy x y with q2 | q2 | q2
        · rw [lg6_lt (by omega), if_pos (by decide), if_neg (by omega)]; rfl
        · rw [lg6_eq q2, if_neg (by decide), if_pos q2]; rfl
        · rw [lg6_gt (by omega), if_pos (by decide), if_neg (by omega)]; rfl
  -- the rows of bits
  have tail : f286_compares_j84 (i3 (vS S fk i)) (zSi Z 211 65 (i3 ((rest.length + 1 : Nat) : Int))) = some ((), zSi (zSl (zSl (zSl (zSl (zSi (zSi Z 211 65 (i3 ((rest.length + 1 : Nat) : Int))) 211 67 (i3 0)) 243 rest.length (i6 (vS S fk i))) 244 rest.length (sgl (decide (j < 60)) j)) 245 rest.length (sgl (decide (60 ≤ j ∧ j < 120)) (j - 60))) 246 rest.length (sgl (decide (120 ≤ j)) (j - 120))) 211 66 (i3 ((j : Int) + 1))) := by
    have tr : ∀ Z', f196_truth (i3 (vS S fk i)) Z' = some (i3 (vS S fk i)) := fun Z' => by
      rcases bi with b | b <;> rw [b]
      · exact m196_0
      · exact m196_1
    unfold f286_compares_j84
    rw [let_eq, show (0 : Int32) = i3 0 from rfl, tr, mjBp_some, si_fld _ _ _ _ (by omega), si_same, e2, if_pos (in_p (by omega)), let_eq, ix_nat (by omega), i36 (by omega)]
    rw [show (zSl (zSi (zSi Z 211 65 (i3 ((rest.length + 1 : Nat) : Int))) 211 67 (i3 0)) 243 rest.length (i6 (vS S fk i))).1 211 66 = i3 (j : Int) by rw [sl_int, si_fld _ _ _ _ (by omega), si_fld _ _ _ _ (by omega), v6, hj], show (zSl (zSi (zSi Z 211 65 (i3 ((rest.length + 1 : Nat) : Int))) 211 67 (i3 0)) 243 rest.length (i6 (vS S fk i))).1 211 65 = i3 ((rest.length + 1 : Nat) : Int) by rw [sl_int, si_fld _ _ _ _ (by omega), si_same], e2, show (60 : Int32) = i3 60 from rfl, show (1 : Int64) = i6 1 from rfl]
    generalize hA : zSl (zSi (zSi Z 211 65 (i3 ((rest.length + 1 : Nat) : Int))) 211 67 (i3 0)) 243 rest.length (i6 (vS S fk i)) = A
    have a65 : A.1 211 65 = i3 ((rest.length + 1 : Nat) : Int) := by rw [← hA, sl_int, si_fld _ _ _ _ (by omega), si_same]
    have a66 : A.1 211 66 = i3 (j : Int) := by rw [← hA, sl_int, si_fld _ _ _ _ (by omega), si_fld _ _ _ _ (by omega), v6, hj]
    have j179 : ∀ (B : mjZt) (s2 : Int64), B.1 = A.1 → f286_compares_j179 (i3 rest.length) s2 B = some ((), zSi (zSl (zSl B 245 rest.length s2) 246 rest.length (sgl (decide (120 ≤ j)) (j - 120))) 211 66 (i3 ((j : Int) + 1))) := by
      intro B s2 hB
      unfold f286_compares_j179
      rw [if_pos (in_p (by omega)), let_eq, ix_nat (by omega), sl_int, hB, a65, a66, e2, show (120 : Int32) = i3 120 from rfl]
      by_cases q3 : j < 120
      · rw [if_pos (by rw [c_lt (by omega)]; omega), if_pos (in_p (by omega)), let_eq, ix_nat (by omega), sl_int, sl_int, hB, a66, let_eq, i3_s, decide_eq_false (by omega)]
        rfl
      · rw [if_neg (by rw [c_lt (by omega)]; omega), if_pos (in_p (by omega)), let_eq, ix_nat (by omega), sl_int, sl_int, hB, a66, let_eq, i3_s, decide_eq_true (by omega), i3_sub, show (j : Int) - 120 = ((j - 120 : Nat) : Int) by omega]
        rfl
    have j137 : ∀ s2 : Int64, f286_compares_j137 (i3 rest.length) s2 A = some ((), zSi (zSl (zSl (zSl A 244 rest.length s2) 245 rest.length (sgl (decide (60 ≤ j ∧ j < 120)) (j - 60))) 246 rest.length (sgl (decide (120 ≤ j)) (j - 120))) 211 66 (i3 ((j : Int) + 1))) := by
      intro s2
      unfold f286_compares_j137 f286_compares_j178
      rw [if_pos (in_p (by omega)), let_eq, ix_nat (by omega), sl_int, a65, a66, e2, show (120 : Int32) = i3 120 from rfl, show (60 : Int32) = i3 60 from rfl]
      by_cases q3 : j < 60
      · rw [if_pos (by rw [c_lt (by omega)]; omega), j179 (zSl A 244 rest.length s2) _ rfl, decide_eq_false (p := 60 ≤ j ∧ j < 120) (by omega)]
        rfl
      · by_cases q4 : j < 120
        · rw [if_neg (by rw [c_lt (by omega)]; omega), if_neg (by rw [c_ge (by omega)]; omega), j179 (zSl A 244 rest.length s2) _ rfl, decide_eq_true (p := 60 ≤ j ∧ j < 120) (by omega), i3_sub, show (j : Int) - 60 = ((j - 60 : Nat) : Int) by omega]
          rfl
        · rw [if_neg (by rw [c_lt (by omega)]; omega), if_pos (by rw [c_ge (by omega)]; omega), j179 (zSl A 244 rest.length s2) _ rfl, decide_eq_false (p := 60 ≤ j ∧ j < 120) (by omega)]
          rfl
    by_cases q3 : j < 60
    · rw [if_neg (by rw [c_ge (by omega)]; omega), j137, decide_eq_true q3]
      rfl
    · rw [if_pos (by rw [c_ge (by omega)]; omega), j137, decide_eq_false q3]
      rfl
  refine ⟨_, i :: rest, false, head.trans tail, ⟨⟨rfl, by rw [sp_bin qa (by omega) (by omega)]; exact hs⟩, ⟨fun _ => rt, v2.2.2⟩, ⟨fun _ => ⟨?_, ?_, ?_, ?_⟩, fun q2 => (by rw [qt] at q2; cases q2), ?_⟩, ?_, ?_, ?_, ?_⟩, ?_⟩
  · rw [si_lng, sl_obj _ _ _ _ (by omega), sl_obj _ _ _ _ (by omega), sl_obj _ _ _ _ (by omega), sl_same]
  · intro x hx hx2
    rw [si_lng, sl_obj _ _ _ _ (by omega), sl_obj _ _ _ _ (by omega), sl_same, sl_obj _ _ _ _ (by omega), sl_same, sl_same]
    by_cases q3 : j < 60
    · rw [decide_eq_false (p := 60 ≤ j ∧ j < 120) (by omega), decide_eq_false (p := 120 ≤ j) (by omega), sgl_f0, sgl_f0, sgl_bit (by omega) hx2, decide_eq_false (p := x = j) (by omega)]
      simp
    · rw [decide_eq_false q3]
      by_cases q4 : j < 120
      · rw [decide_eq_false (p := 120 ≤ j) (by omega), sgl_f0, sgl_f0, sgl_bit (by omega) hx2, decide_eq_false (p := x = j - 60) (by omega)]
        simp
      · rw [decide_eq_false (p := 60 ≤ j ∧ j < 120) (by omega), sgl_f0, sgl_f0, sgl_bit (by omega) hx2, decide_eq_false (p := x = j - 120) (by omega)]
        simp
  · intro x hx
    have key : whB (zSi (zSl (zSl (zSl (zSl (zSi (zSi Z 211 65 (i3 ((rest.length + 1 : Nat) : Int))) 211 67 (i3 0)) 243 rest.length (i6 (vS S fk i))) 244 rest.length (sgl (decide (j < 60)) j)) 245 rest.length (sgl (decide (60 ≤ j ∧ j < 120)) (j - 60))) 246 rest.length (sgl (decide (120 ≤ j)) (j - 120))) 211 66 (i3 ((j : Int) + 1))) rest.length x = decide (x = j) := by
      unfold whB
      rw [si_lng, sl_obj _ _ _ _ (by omega), sl_obj _ _ _ _ (by omega), sl_same, sl_obj _ _ _ _ (by omega), sl_same, sl_same]
      by_cases q3 : j < 60
      · rw [decide_eq_true q3, decide_eq_false (p := 60 ≤ j ∧ j < 120) (by omega), decide_eq_false (p := 120 ≤ j) (by omega)]
        by_cases q5 : x < 60
        · rw [if_pos q5, sgl_bit (by omega) (by omega), Bool.true_and]
        · rw [if_neg q5, decide_eq_false (p := x = j) (by omega)]
          split
          · exact sgl_f0
          · exact sgl_f0
      · by_cases q4 : j < 120
        · rw [decide_eq_false q3, decide_eq_true (p := 60 ≤ j ∧ j < 120) (by omega), decide_eq_false (p := 120 ≤ j) (by omega)]
          by_cases q5 : x < 60
          · rw [if_pos q5, decide_eq_false (p := x = j) (by omega)]; exact sgl_f0
          · rw [if_neg q5]
            by_cases q6 : x < 120
            · rw [if_pos q6, sgl_bit (by omega) (by omega), Bool.true_and]
              exact decide_eq_decide.mpr (by omega)
            · rw [if_neg q6, decide_eq_false (p := x = j) (by omega)]; exact sgl_f0
        · rw [decide_eq_false q3, decide_eq_false (p := 60 ≤ j ∧ j < 120) (by omega), decide_eq_true (p := 120 ≤ j) (by omega)]
          by_cases q5 : x < 60
          · rw [if_pos q5, decide_eq_false (p := x = j) (by omega)]; exact sgl_f0
          · rw [if_neg q5]
            by_cases q6 : x < 120
            · rw [if_pos q6, decide_eq_false (p := x = j) (by omega)]; exact sgl_f0
            · rw [if_neg q6, sgl_bit (by omega) (by omega), Bool.true_and]
              exact decide_eq_decide.mpr (by omega)
    rw [key, ey, decide_eq_true_eq]
    have si := sp_le S i
    constructor
    · intro q5
      exact ⟨i, si, Nat.le_refl _, qc, by rw [hj, q5], by simp⟩
    · rintro ⟨k, _, _, _, hk, hk2⟩
      simp only [decide_eq_true_eq] at hk2
      subst hk2
      omega
  · rw [si_lng, sl_obj _ _ _ _ (by omega), sl_obj _ _ _ _ (by omega), sl_same, sl_obj _ _ _ _ (by omega), sl_same, sl_same, ey]
    by_cases q3 : j < 60
    · rw [decide_eq_true q3, decide_eq_false (p := 60 ≤ j ∧ j < 120) (by omega), decide_eq_false (p := 120 ≤ j) (by omega), sgl_f1, sgl_f1, sgl_cnt (by omega)]; rfl
    · by_cases q4 : j < 120
      · rw [decide_eq_false q3, decide_eq_true (p := 60 ≤ j ∧ j < 120) (by omega), decide_eq_false (p := 120 ≤ j) (by omega), sgl_f1, sgl_f1, sgl_cnt (by omega)]; rfl
      · rw [decide_eq_false q3, decide_eq_false (p := 60 ≤ j ∧ j < 120) (by omega), decide_eq_true (p := 120 ≤ j) (by omega), sgl_f1, sgl_f1, sgl_cnt (by omega)]; rfl
  · refine plR_tt rest rt (fun a h q1 q2 q3 => ?_) p5
    rw [si_lng, sl_fld _ _ _ _ (by omega), sl_fld _ _ _ _ (by omega), sl_fld _ _ _ _ (by omega), sl_fld _ _ _ _ (by omega)]
    rfl
  · constructor
    · intro q2; cases q2
    · rintro ⟨x, hx, hx2, _⟩
      rcases List.mem_cons.mp hx with rfl | hx
      · rw [qt] at hx2; cases hx2
      · rw [rt x hx] at hx2; cases hx2
  · rw [si_fld _ _ _ _ (by omega), sl_int, sl_int, sl_int, sl_int, si_fld _ _ _ _ (by omega), si_same]; rfl
  · rw [si_same, c1, hj]
  · rw [si_fld _ _ _ _ (by omega), sl_int, sl_int, sl_int, sl_int, si_same]; rfl
  · exact eqP_tr (eqP_tr (eqP_tr (eqP_tr (eqP_tr (eqP_tr (eqP_si (by omega)) (eqP_si (by omega))) (eqP_sl (by omega))) (eqP_sl (by omega))) (eqP_sl (by omega))) (eqP_sl (by omega))) (eqP_si (by omega))
end PJ
