/-! THE MODEL READS A TOKEN -/
def hrI (X : Nat → Nat) (n q : Nat) : Int := if n ≤ q then -1 else X q
section GO
variable {X : Nat → Nat} {n : Nat} {Z : mjZt}
theorem m201 (h : bsM X n Z) (hn : n ≤ 700) {p k : Nat} (h5 : Z.1 211 5 = i3 p) (hk : p + k ≤ 2000) : f201_here (i3 k) Z = some (i3 (hrI X n (p + k))) := by
  unfold f201_here hrI
  rw [h5, i3_add, h.2.1]
  by_cases q : n ≤ p + k
  · rw [if_pos (by rw [c_ge (by omega)]; omega), if_pos q]; rfl
  · rw [if_neg (by rw [c_ge (by omega)]; omega), if_neg q, if_pos (in_p (by omega)), ix_i3 (by omega), show ((p : Int) + (k : Int)).toNat = p + k by omega, h.1]
theorem m202 (hX : ∀ k, X k ≤ 255) (q : Nat) : f202_isLetter (i3 (hrI X n q)) Z = some (bI (decide (q < n) && isLe (X q))) := by
  have x := hX q
  unfold f202_isLetter hrI isLe
  rw [show (97 : Int32) = i3 97 from rfl, show (122 : Int32) = i3 122 from rfl]
  by_cases q0 : n ≤ q
  · rw [if_pos q0, if_pos (by decide), decide_eq_false (p := q < n) (by omega)]; rfl
  · rw [if_neg q0, decide_eq_true (p := q < n) (by omega), Bool.true_and]
    by_cases q1 : X q < 97
    · rw [if_pos (by rw [c_lt (by omega)]; omega), decide_eq_false (by omega)]; rfl
    · rw [if_neg (by rw [c_lt (by omega)]; omega)]
      by_cases q2 : 122 < X q
      · rw [if_pos (by rw [c_gt (by omega)]; omega), decide_eq_false (by omega)]; rfl
      · rw [if_neg (by rw [c_gt (by omega)]; omega), decide_eq_true (by omega)]; rfl
theorem m203 (hX : ∀ k, X k ≤ 255) (q : Nat) : f203_isDigit (i3 (hrI X n q)) Z = some (bI (decide (q < n) && isDi (X q))) := by
  have x := hX q
  unfold f203_isDigit hrI isDi
  rw [show (48 : Int32) = i3 48 from rfl, show (57 : Int32) = i3 57 from rfl]
  by_cases q0 : n ≤ q
  · rw [if_pos q0, if_pos (by decide), decide_eq_false (p := q < n) (by omega)]; rfl
  · rw [if_neg q0, decide_eq_true (p := q < n) (by omega), Bool.true_and]
    by_cases q1 : X q < 48
    · rw [if_pos (by rw [c_lt (by omega)]; omega), decide_eq_false (by omega)]; rfl
    · rw [if_neg (by rw [c_lt (by omega)]; omega)]
      by_cases q2 : 57 < X q
      · rw [if_pos (by rw [c_gt (by omega)]; omega), decide_eq_false (by omega)]; rfl
      · rw [if_neg (by rw [c_gt (by omega)]; omega), decide_eq_true (by omega)]; rfl
theorem m204 : ∀ c : Nat, c < 256 → f204_isSign (i3 c) zO = some (bI (isSg c)) := by decide +kernel
theorem m204z {c : Nat} (hc : c ≤ 255) : f204_isSign (i3 c) Z = some (bI (isSg c)) := m204 c (by omega)
theorem bsM_5 (h : bsM X n Z) {k : Nat} {v : Int32} (hk : k ≠ 4 ∧ k ≠ 10) : bsM X n (zSi Z 211 k v) :=
  ⟨fun j => by rw [si_obj _ _ _ _ (by omega)]; exact h.1 j, by rw [si_fld _ _ _ _ (by omega)]; exact h.2.1, by rw [si_fld _ _ _ _ (by omega)]; exact h.2.2⟩
theorem bsM_l (h : bsM X n Z) {k : Nat} {v : Int64} : bsM X n (zSl Z 211 k v) := h
theorem go_h0 (hn : n ≤ 700) (hX : ∀ k, X k ≤ 255) : ∀ f p N (Z : mjZt), p + f = n → f < N → bsM X n Z → Z.1 211 5 = i3 p → f205_goOn_h0 N Z = f205_goOn_h0 1 (zSi Z 211 5 (i3 (wsF X n f p)))
  | f, p, 0, Z, _, hN, _, _ => by omega
  | 0, p, N + 1, Z, hf, _, h, hp => by
    rw [wsF, ← hp, zs_self, f205_goOn_h0, f205_goOn_h0, show (0 : Int32) = i3 ((0 : Nat) : Int) from rfl, m201 h hn hp (by omega), mjBp_some, mjBp_some, Nat.add_zero, show hrI X n p = -1 by unfold hrI; rw [if_pos (by omega)], show (32 : Int32) = i3 32 from rfl, show (10 : Int32) = i3 10 from rfl, if_neg (by decide), if_pos (by decide), if_neg (by decide), if_pos (by decide)]
  | f + 1, p, N + 1, Z, hf, hN, h, hp => by
    have x := hX p
    have ih := go_h0 hn hX f (p + 1) N (zSi Z 211 5 (i3 ((p + 1 : Nat) : Int))) (by omega) (by omega) (bsM_5 h (by omega)) (si_same _ _ _ _)
    rw [zs_si] at ih
    rw [f205_goOn_h0, show (0 : Int32) = i3 ((0 : Nat) : Int) from rfl, m201 h hn hp (by omega), mjBp_some, Nat.add_zero, wsF]
    have e : hrI X n p = X p := by unfold hrI; rw [if_neg (by omega)]
    by_cases q : X p = 32
    · rw [e, show (32 : Int32) = i3 32 from rfl, if_pos (by rw [c_eq (by omega)]; omega), let_eq, hp, i3_s, if_pos (show p < n ∧ (X p = 32 ∨ X p = 10) from ⟨by omega, Or.inl q⟩)]; exact ih
    · by_cases q2 : X p = 10
      · rw [e, show (32 : Int32) = i3 32 from rfl, show (10 : Int32) = i3 10 from rfl, if_neg (by rw [c_eq (by omega)]; omega), if_neg (by rw [c_ne (by omega)]; omega), let_eq, hp, i3_s, if_pos (show p < n ∧ (X p = 32 ∨ X p = 10) from ⟨by omega, Or.inr q2⟩)]; exact ih
      · rw [if_neg (show ¬ (p < n ∧ (X p = 32 ∨ X p = 10)) by omega), ← hp, zs_self, f205_goOn_h0, show (0 : Int32) = i3 ((0 : Nat) : Int) from rfl, m201 h hn hp (by omega), mjBp_some, Nat.add_zero, e, show (32 : Int32) = i3 32 from rfl, show (10 : Int32) = i3 10 from rfl, if_neg (by rw [c_eq (by omega)]; omega), if_pos (by rw [c_ne (by omega)]; omega), if_neg (by rw [c_eq (by omega)]; omega), if_pos (by rw [c_ne (by omega)]; omega)]
theorem go_w (hn : n ≤ 700) (hX : ∀ k, X k ≤ 255) {q : Nat} : ∀ f j N (Z : mjZt), q + j + f = n → f < N → bsM X n Z → Z.1 211 5 = i3 q → (∀ i, i < j → 97 ≤ X (q + i) ∧ X (q + i) ≤ 122) → f205_goOn_h76 N (i3 j) (zSl Z 211 13 (i6 (wdF X q (min j 8)))) = f205_goOn_j129 (i3 ((j + runF X n 97 122 f (q + j) : Nat) : Int)) (if 8 < j + runF X n 97 122 f (q + j) then 4 else 1) (zSl Z 211 13 (i6 (wdF X q (min (j + runF X n 97 122 f (q + j)) 8))))
  | f, j, 0, Z, _, hN, _, _, _ => by omega
  | 0, j, N + 1, Z, hf, _, h, hp, hl => by
    have h5 : (zSl Z 211 13 (i6 (wdF X q (min j 8)))).1 211 5 = i3 q := hp
    rw [f205_goOn_h76, m201 (bsM_l h) hn h5 (by omega), mjBp_some, m202 hX, mjBp_some, decide_eq_false (p := q + j < n) (by omega), Bool.false_and, if_pos (by decide), runF, Nat.add_zero, show (8 : Int32) = i3 8 from rfl]
    by_cases q2 : 8 < j
    · rw [if_neg (by rw [c_le (by omega)]; omega), if_pos q2]
    · rw [if_pos (by rw [c_le (by omega)]; omega), if_neg q2]
  | f + 1, j, N + 1, Z, hf, hN, h, hp, hl => by
    have x := hX (q + j)
    have h5 : (zSl Z 211 13 (i6 (wdF X q (min j 8)))).1 211 5 = i3 q := hp
    have e : hrI X n (q + j) = X (q + j) := by unfold hrI; rw [if_neg (by omega)]
    rw [f205_goOn_h76, m201 (bsM_l h) hn h5 (by omega), mjBp_some, m202 hX, mjBp_some, decide_eq_true (p := q + j < n) (by omega), Bool.true_and, runF]
    by_cases q1 : 97 ≤ X (q + j) ∧ X (q + j) ≤ 122
    · have ih := go_w hn hX (q := q) f (j + 1) N Z (by omega) (by omega) h hp (fun i hi => by
        by_cases g : i = j
        · subst g; exact q1
        · exact hl i (by omega))
      rw [show isLe (X (q + j)) = true from decide_eq_true q1, if_neg (by decide), if_pos (show q + j < n ∧ 97 ≤ X (q + j) ∧ X (q + j) ≤ 122 from ⟨by omega, q1⟩), show j + (runF X n 97 122 f (q + j + 1) + 1) = j + 1 + runF X n 97 122 f (q + j + 1) by omega]
      rw [show q + (j + 1) = q + j + 1 by omega] at ih
      by_cases q2 : 8 ≤ j
      · rw [show (8 : Int32) = i3 8 from rfl, if_pos (by rw [c_ge (by omega)]; omega), i3_s, ← ih, show min j 8 = 8 by omega, show min (j + 1) 8 = 8 by omega]
      · rw [if_neg (by rw [show (8 : Int32) = i3 8 from rfl, c_ge (by omega)]; omega), let_eq, sl_same, e, i36 (by omega), show (8 : Int32) = i3 ((8 : Nat) : Int) from rfl, Int64.or_comm, or_shl (by omega) (by omega), zl_zl, i3_s, ← ih, show min j 8 = j by omega, show min (j + 1) 8 = j + 1 by omega, wdF, Nat.add_comm (X (q + j))]
    · rw [show isLe (X (q + j)) = false from decide_eq_false q1, if_pos (by decide), if_neg (show ¬ (q + j < n ∧ 97 ≤ X (q + j) ∧ X (q + j) ≤ 122) from fun g => q1 g.2), Nat.add_zero, show (8 : Int32) = i3 8 from rfl]
      by_cases q2 : 8 < j
      · rw [if_neg (by rw [c_le (by omega)]; omega), if_pos q2]
      · rw [if_pos (by rw [c_le (by omega)]; omega), if_neg q2]
theorem go_d (hn : n ≤ 700) (hX : ∀ k, X k ≤ 255) {q : Nat} : ∀ f j N (Z : mjZt), q + j + f = n → f < N → bsM X n Z → Z.1 211 5 = i3 q → (∀ i, i < j → 48 ≤ X (q + i) ∧ X (q + i) ≤ 57) → f205_goOn_h142 N (i3 j) (zSi Z 211 8 (i3 (nuF X q (min j 4)))) = f205_goOn_j195 (i3 ((j + runF X n 48 57 f (q + j) : Nat) : Int)) (if 4 < j + runF X n 48 57 f (q + j) then i3 4 else i3 2) (zSi Z 211 8 (i3 (nuF X q (min (j + runF X n 48 57 f (q + j)) 4))))
  | f, j, 0, Z, _, hN, _, _, _ => by omega
  | 0, j, N + 1, Z, hf, _, h, hp, hl => by
    have h5 : (zSi Z 211 8 (i3 (nuF X q (min j 4)))).1 211 5 = i3 q := by rw [si_fld _ _ _ _ (by omega)]; exact hp
    rw [f205_goOn_h142, m201 (bsM_5 h (by omega)) hn h5 (by omega), mjBp_some, m203 hX, mjBp_some, decide_eq_false (p := q + j < n) (by omega), Bool.false_and, if_pos (by decide), runF, Nat.add_zero, show (4 : Int32) = i3 4 from rfl, show (2 : Int32) = i3 2 from rfl]
    by_cases q2 : 4 < j
    · rw [if_neg (by rw [c_le (by omega)]; omega), if_pos q2]
    · rw [if_pos (by rw [c_le (by omega)]; omega), if_neg q2]
  | f + 1, j, N + 1, Z, hf, hN, h, hp, hl => by
    have x := hX (q + j)
    have h5 : (zSi Z 211 8 (i3 (nuF X q (min j 4)))).1 211 5 = i3 q := by rw [si_fld _ _ _ _ (by omega)]; exact hp
    have e : hrI X n (q + j) = X (q + j) := by unfold hrI; rw [if_neg (by omega)]
    rw [f205_goOn_h142, m201 (bsM_5 h (by omega)) hn h5 (by omega), mjBp_some, m203 hX, mjBp_some, decide_eq_true (p := q + j < n) (by omega), Bool.true_and, runF]
    by_cases q1 : 48 ≤ X (q + j) ∧ X (q + j) ≤ 57
    · have ih := go_d hn hX (q := q) f (j + 1) N Z (by omega) (by omega) h hp (fun i hi => by
        by_cases g : i = j
        · subst g; exact q1
        · exact hl i (by omega))
      rw [show isDi (X (q + j)) = true from decide_eq_true q1, if_neg (by decide), if_pos (show q + j < n ∧ 48 ≤ X (q + j) ∧ X (q + j) ≤ 57 from ⟨by omega, q1⟩), show j + (runF X n 48 57 f (q + j + 1) + 1) = j + 1 + runF X n 48 57 f (q + j + 1) by omega]
      rw [show q + (j + 1) = q + j + 1 by omega] at ih
      by_cases q2 : 4 ≤ j
      · rw [show (4 : Int32) = i3 4 from rfl, if_pos (by rw [c_ge (by omega)]; omega), i3_s, ← ih, show min j 4 = 4 by omega, show min (j + 1) 4 = 4 by omega]
      · have lt := nu_bd (X := X) (p := q) j (fun i hi => (hl i hi).2)
        have l4 : 10 ^ j ≤ 10 ^ 4 := Nat.pow_le_pow_right (by decide) (by omega)
        have ev : (10 * i3 (nuF X q (min j 4)) + i3 (X (q + j))) - 48 = i3 (nuF X q (min (j + 1) 4)) := by
          rw [show min j 4 = j by omega, show min (j + 1) 4 = j + 1 by omega, show (10 : Int32) = i3 10 from rfl, show (48 : Int32) = i3 48 from rfl, i3_mul, i3_add, i3_sub, nuF]
          exact congrArg i3 (by omega)
        rw [if_neg (by rw [show (4 : Int32) = i3 4 from rfl, c_ge (by omega)]; omega), let_eq, si_same, e, ev, zs_si, i3_s, ← ih]
    · rw [show isDi (X (q + j)) = false from decide_eq_false q1, if_pos (by decide), if_neg (show ¬ (q + j < n ∧ 48 ≤ X (q + j) ∧ X (q + j) ≤ 57) from fun g => q1 g.2), Nat.add_zero, show (4 : Int32) = i3 4 from rfl, show (2 : Int32) = i3 2 from rfl]
      by_cases q2 : 4 < j
      · rw [if_neg (by rw [c_le (by omega)]; omega), if_pos q2]
      · rw [if_pos (by rw [c_le (by omega)]; omega), if_neg q2]
/-- the model reads a token -/
theorem m205 (h : bsM X n Z) (hn : n ≤ 700) (hX : ∀ k, X k ≤ 255) {p : Nat} (hp : p ≤ n) (h5 : Z.1 211 5 = i3 p) : ∃ Z1, f205_goOn Z = some ((), Z1) ∧ tkM X n Z1 p ∧ eqGo Z Z1 := by
  have hq := jQ_bd (X := X) hp
  have step : f205_goOn Z = f205_goOn_h0 1 (zSi Z 211 5 (i3 (jQ X n p))) := go_h0 hn hX (n - p) p mjF Z (by omega) (by unfold mjF; omega) h h5
  have hw : jQ X n p < n → X (jQ X n p) ≠ 32 ∧ X (jQ X n p) ≠ 10 := fun g => ws_no (n - p) p (by omega) g
  rw [step]
  unfold tkM jE jS jV jN
  generalize jQ X n p = q at *
  have b0 : bsM X n (zSi Z 211 5 (i3 q)) := bsM_5 h (by omega)
  have s0 : (zSi Z 211 5 (i3 q)).1 211 5 = i3 q := si_same _ _ _ _
  have x := hX q
  have es : ∀ (Y : mjZt) k v, 5 ≤ k ∧ k ≤ 8 → eqGo Y (zSi Y 211 k v) := fun Y k v g => ⟨rfl, fun a ha => ⟨si_obj _ _ _ _ ha, rfl⟩, fun f hf => si_fld _ _ _ _ (by omega)⟩
  have el : ∀ (Y : mjZt) k v, eqGo Y (zSl Y 211 k v) := fun Y k v => ⟨rfl, fun a ha => ⟨rfl, sl_obj _ _ _ _ ha⟩, fun f hf => rfl⟩
  generalize hZ0 : zSi Z 211 5 (i3 q) = Z0 at *
  have e0 : eqGo Z Z0 := by rw [← hZ0]; exact es _ _ _ (by omega)
  generalize hZ1 : zSi (zSl (zSi Z0 211 6 (i3 q)) 211 13 0) 211 8 0 = Z1
  have b1 : bsM X n Z1 := by rw [← hZ1]; exact bsM_5 (bsM_l (bsM_5 b0 (by omega))) (by omega)
  have r5 : Z1.1 211 5 = i3 q := by rw [← hZ1, si_fld _ _ _ _ (by omega), sl_int, si_fld _ _ _ _ (by omega), s0]
  have r6 : Z1.1 211 6 = i3 q := by rw [← hZ1, si_fld _ _ _ _ (by omega), sl_int, si_same]
  have r8 : Z1.1 211 8 = 0 := by rw [← hZ1, si_same]
  have r13 : Z1.2.1 211 13 = 0 := by rw [← hZ1, si_lng, sl_same]
  have e1 : eqGo Z Z1 := by rw [← hZ1]; exact eqGo_tr e0 (eqGo_tr (es _ _ _ (by omega)) (eqGo_tr (el _ _ _) (es _ _ _ (by omega))))
  have hr : hrI X n q ≠ 32 ∧ hrI X n q ≠ 10 ∧ -1 ≤ hrI X n q ∧ hrI X n q ≤ 255 := by
    unfold hrI
    split
    · omega
    · rename_i g; have := hw (by omega); omega
  have h0 : f201_here 0 Z0 = some (i3 (hrI X n q)) := m201 (k := 0) b0 hn s0 (by omega)
  have h1 : f201_here 0 Z1 = some (i3 (hrI X n q)) := m201 (k := 0) b1 hn r5 (by omega)
  rw [f205_goOn_h0, h0, mjBp_some, show (32 : Int32) = i3 32 from rfl, show (10 : Int32) = i3 10 from rfl, if_neg (by rw [c_eq (by omega)]; omega), if_pos (by rw [c_ne (by omega)]; omega), s0, let_eq, let_eq, let_eq, hZ1, h1, mjBp_some]
  by_cases q0 : n ≤ q
  · have hv : hrI X n q = -1 := by unfold hrI; rw [if_pos q0]
    rw [hv, if_neg (by decide), let_eq]
    refine ⟨_, rfl, ⟨bsM_5 b1 (by omega), ?_, ?_, ?_, ?_, ?_⟩, eqGo_tr e1 (es _ _ _ (by omega))⟩
    · unfold uE; rw [if_pos q0, si_fld _ _ _ _ (by omega), r5]
    · rw [si_fld _ _ _ _ (by omega), r6]
    · unfold uS; rw [if_pos q0, si_same]; rfl
    · unfold uV; rw [if_pos q0, si_fld _ _ _ _ (by omega), r8]; rfl
    · unfold uN; rw [if_pos q0, si_lng, r13]; rfl
  · have hv : hrI X n q = X q := by unfold hrI; rw [if_neg q0]
    have m2 : f202_isLetter (i3 (hrI X n q)) Z1 = some (bI (isLe (X q))) := by rw [m202 hX, decide_eq_true (p := q < n) (by omega), Bool.true_and]
    have m3 : f203_isDigit (i3 (hrI X n q)) Z1 = some (bI (isDi (X q))) := by rw [m203 hX, decide_eq_true (p := q < n) (by omega), Bool.true_and]
    rw [if_pos (by rw [show (0 : Int32) = i3 0 from rfl, c_ge (by omega)]; omega), m2, mjBp_some]
    cases q1 : isLe (X q) with
    | true =>
      rw [if_neg (by decide)]
      have g := go_w hn hX (q := q) (n - q) 0 mjF Z1 (by omega) (by unfold mjF; omega) b1 r5 (fun i hi => by omega)
      rw [Nat.add_zero, Nat.zero_add, show min 0 8 = 0 from rfl] at g
      have z13' : zSl Z1 211 13 (i6 (wdF X q 0)) = Z1 := by
        refine Prod.ext rfl (Prod.ext ?_ rfl)
        funext i j
        show (if i = 211 then (if j = 13 then i6 (wdF X q 0) else Z1.2.1 i j) else Z1.2.1 i j) = Z1.2.1 i j
        split
        · rename_i c; subst c; split
          · rename_i d; subst d; exact r13.symm
          · rfl
        · rfl
      rw [z13'] at g
      rw [show (0 : Int32) = i3 ((0 : Nat) : Int) from rfl, g]
      unfold uS uE uV uN f205_goOn_j129
      simp only [q1, if_neg q0, if_true]
      unfold jLr
      have rb := run_bd X n 97 122 (n - q) q
      generalize runF X n 97 122 (n - q) q = m at *
      rw [let_eq, let_eq, si_fld _ _ _ _ (by omega), sl_int, r5, i3_add, show (q : Int) + (m : Int) = ((q + m : Nat) : Int) by omega]
      refine ⟨_, rfl, ⟨bsM_5 (bsM_5 (bsM_l b1) (by omega)) (by omega), ?_, ?_, ?_, ?_, ?_⟩, eqGo_tr e1 (eqGo_tr (el _ _ _) (eqGo_tr (es _ _ _ (by omega)) (es _ _ _ (by omega))))⟩
      · rw [si_same]
      · rw [si_fld _ _ _ _ (by omega), si_fld _ _ _ _ (by omega), sl_int, r6]
      · rw [si_fld _ _ _ _ (by omega), si_same]; split <;> rfl
      · rw [si_fld _ _ _ _ (by omega), si_fld _ _ _ _ (by omega), sl_int, r8]; rfl
      · rw [si_lng, si_lng, sl_same]
    | false =>
      rw [if_pos (by decide), m3, mjBp_some]
      cases q3 : isDi (X q) with
      | true =>
        rw [if_neg (by decide)]
        have g := go_d hn hX (q := q) (n - q) 0 mjF Z1 (by omega) (by unfold mjF; omega) b1 r5 (fun i hi => by omega)
        rw [Nat.add_zero, Nat.zero_add, show min 0 4 = 0 from rfl, show i3 (nuF X q 0) = Z1.1 211 8 from r8.symm, zs_self] at g
        rw [show (0 : Int32) = i3 ((0 : Nat) : Int) from rfl, g]
        unfold uS uE uV uN f205_goOn_j195
        simp only [q1, q3, if_neg q0, if_true, Bool.false_eq_true, if_false]
        unfold jDr
        have rb := run_bd X n 48 57 (n - q) q
        generalize runF X n 48 57 (n - q) q = m at *
        rw [let_eq, let_eq, si_fld _ _ _ _ (by omega), si_fld _ _ _ _ (by omega), r5, i3_add, show (q : Int) + (m : Int) = ((q + m : Nat) : Int) by omega]
        refine ⟨_, rfl, ⟨bsM_5 (bsM_5 (bsM_5 b1 (by omega)) (by omega)) (by omega), ?_, ?_, ?_, ?_, ?_⟩, eqGo_tr e1 (eqGo_tr (es _ _ _ (by omega)) (eqGo_tr (es _ _ _ (by omega)) (es _ _ _ (by omega))))⟩
        · rw [si_same]
        · rw [si_fld _ _ _ _ (by omega), si_fld _ _ _ _ (by omega), si_fld _ _ _ _ (by omega), r6]
        · rw [si_fld _ _ _ _ (by omega), si_same]; split <;> rfl
        · rw [si_fld _ _ _ _ (by omega), si_fld _ _ _ _ (by omega), si_same]
        · rw [si_lng, si_lng, si_lng, r13]; rfl
      | false =>
        rw [if_pos (by decide), hv, m204z x, mjBp_some]
        unfold uS uE uV uN
        simp only [q1, q3, if_neg q0, Bool.false_eq_true, if_false]
        have fin : ∀ sg : Nat, ∃ Z2, f205_goOn_j214 (i3 (X q)) (i3 sg) Z1 = some ((), Z2) ∧ (bsM X n Z2 ∧ Z2.1 211 5 = i3 ((q + 1 : Nat) : Int) ∧ Z2.1 211 6 = i3 q ∧ Z2.1 211 7 = i3 sg ∧ Z2.1 211 8 = i3 (X q) ∧ Z2.2.1 211 13 = i6 ((0 : Nat) : Int)) ∧ eqGo Z Z2 := fun sg => by
          unfold f205_goOn_j214
          rw [let_eq, let_eq, si_fld _ _ _ _ (by omega), si_fld _ _ _ _ (by omega), r5, i3_s, let_eq]
          refine ⟨_, rfl, ⟨bsM_5 (bsM_5 (bsM_5 b1 (by omega)) (by omega)) (by omega), ?_, ?_, ?_, ?_, ?_⟩, eqGo_tr e1 (eqGo_tr (es _ _ _ (by omega)) (eqGo_tr (es _ _ _ (by omega)) (es _ _ _ (by omega))))⟩
          · rw [si_same]
          · rw [si_fld _ _ _ _ (by omega), si_fld _ _ _ _ (by omega), si_fld _ _ _ _ (by omega), r6]
          · rw [si_fld _ _ _ _ (by omega), si_fld _ _ _ _ (by omega), si_same]
          · rw [si_fld _ _ _ _ (by omega), si_same]
          · rw [si_lng, si_lng, si_lng, r13]; rfl
        cases q4 : isSg (X q) with
        | true => rw [if_neg (by decide)]; exact fin 3
        | false => rw [if_pos (by decide)]; exact fin 4
/-- the model goes on from a token -/
theorem goOn {p : Nat} (h : tkM X n Z p) (hn : n ≤ 700) (hX : ∀ k, X k ≤ 255) (hp : p ≤ n) : ∃ Z1, f205_goOn Z = some ((), Z1) ∧ tkM X n Z1 (jE X n p) ∧ eqGo Z Z1 := m205 h.1 hn hX (jE_bd hp).2.2.1 h.2.1
end GO
