/-! THE CLASS'S TOKENS, THE MODEL'S -/
def cK (s v : Nat) : Nat := if s = 3 then v else if s = 4 then 3 else s
def bsC (X : Nat → Nat) (n : Nat) (Z : mjZt) : Prop := Z.2.2.2 = 1 ∧ (∀ k, Z.1 1 k = i3 (X k)) ∧ Z.1 183 1 = i3 n
def tkC (X : Nat → Nat) (n : Nat) (Z : mjZt) (p : Nat) : Prop := bsC X n Z ∧ Z.1 183 2 = i3 (jE X n p) ∧ Z.1 183 3 = i3 (cK (jS X n p) (jV X n p)) ∧ Z.1 183 4 = i3 (jQ X n p) ∧ (jS X n p = 2 → Z.1 183 5 = i3 (jV X n p)) ∧ (jS X n p = 1 → Z.2.1 183 6 = i6 (cvN 8 (jN X n p)))
def bsM (X : Nat → Nat) (n : Nat) (Z : mjZt) : Prop := (∀ k, Z.1 212 k = i3 (X k)) ∧ Z.1 211 4 = i3 n ∧ Z.1 211 10 = -1
def tkM (X : Nat → Nat) (n : Nat) (Z : mjZt) (p : Nat) : Prop := bsM X n Z ∧ Z.1 211 5 = i3 (jE X n p) ∧ Z.1 211 6 = i3 (jQ X n p) ∧ Z.1 211 7 = i3 (jS X n p) ∧ Z.1 211 8 = i3 (jV X n p) ∧ Z.2.1 211 13 = i6 (jN X n p)
/-- what reading a token leaves as it is -/
def eqTk (Z Z2 : mjZt) : Prop := Z2.2.2 = Z.2.2 ∧ ∀ a, a ≠ 183 → Z2.1 a = Z.1 a ∧ Z2.2.1 a = Z.2.1 a
def eqGo (Z Z2 : mjZt) : Prop := Z2.2.2 = Z.2.2 ∧ (∀ a, a ≠ 211 → Z2.1 a = Z.1 a ∧ Z2.2.1 a = Z.2.1 a) ∧ ∀ f, (f < 5 ∨ 8 < f) → Z2.1 211 f = Z.1 211 f
theorem eqTk_rf {Z : mjZt} : eqTk Z Z := ⟨rfl, fun _ _ => ⟨rfl, rfl⟩⟩
theorem eqTk_tr {Z Z2 Z3 : mjZt} (h : eqTk Z Z2) (g : eqTk Z2 Z3) : eqTk Z Z3 := ⟨g.1.trans h.1, fun a q => ⟨(g.2 a q).1.trans (h.2 a q).1, (g.2 a q).2.trans (h.2 a q).2⟩⟩
theorem eqGo_rf {Z : mjZt} : eqGo Z Z := ⟨rfl, fun _ _ => ⟨rfl, rfl⟩, fun _ _ => rfl⟩
theorem eqGo_tr {Z Z2 Z3 : mjZt} (h : eqGo Z Z2) (g : eqGo Z2 Z3) : eqGo Z Z3 := ⟨g.1.trans h.1, fun a q => ⟨(g.2.1 a q).1.trans (h.2.1 a q).1, (g.2.1 a q).2.trans (h.2.1 a q).2⟩, fun f q => (g.2.2 f q).trans (h.2.2 f q)⟩
section AD
variable {X : Nat → Nat} {n : Nat} {Z : mjZt}
theorem e63 (h : bsC X n Z) (hn : n ≤ 700) {p : Nat} (hp : p < n) : f63_byteAt (i3 p) Z = some (i3 (X p)) := by
  obtain ⟨h1, h2, h3⟩ := h
  unfold f63_byteAt
  rw [show (0 : Int32) = i3 0 from rfl, if_neg (by rw [c_lt (by omega)]; omega), h3, if_neg (by rw [c_ge (by omega)]; omega), h1, if_pos (by decide), i3_ofNat, show (mjLay 1).2 = 700 from rfl, if_neg (by rw [c_ge (by omega)]; omega), if_pos (in_p (by omega)), ix_nat (by omega), h2]
theorem e64 {c : Nat} (hc : c ≤ 255) : f64_isLetter (i3 c) Z = some (bI (isLe c)) := by
  unfold f64_isLetter isLe
  rw [show (97 : Int32) = i3 97 from rfl, show (122 : Int32) = i3 122 from rfl]
  by_cases q : c < 97
  · rw [if_pos (by rw [c_lt (by omega)]; omega), decide_eq_false (by omega)]; rfl
  · rw [if_neg (by rw [c_lt (by omega)]; omega)]
    by_cases q2 : 122 < c
    · rw [if_pos (by rw [c_gt (by omega)]; omega), decide_eq_false (by omega)]; rfl
    · rw [if_neg (by rw [c_gt (by omega)]; omega), decide_eq_true (by omega)]; rfl
theorem e66 {c : Nat} (hc : c ≤ 255) : f66_isDigit (i3 c) Z = some (bI (isDi c)) := by
  unfold f66_isDigit isDi
  rw [show (48 : Int32) = i3 48 from rfl, show (57 : Int32) = i3 57 from rfl]
  by_cases q : c < 48
  · rw [if_pos (by rw [c_lt (by omega)]; omega), decide_eq_false (by omega)]; rfl
  · rw [if_neg (by rw [c_lt (by omega)]; omega)]
    by_cases q2 : 57 < c
    · rw [if_pos (by rw [c_gt (by omega)]; omega), decide_eq_false (by omega)]; rfl
    · rw [if_neg (by rw [c_gt (by omega)]; omega), decide_eq_true (by omega)]; rfl
theorem bsC_183 (h : bsC X n Z) {k : Nat} {v : Int32} (hk : k ≠ 1) : bsC X n (zSi Z 183 k v) := by
  obtain ⟨h1, h2, h3⟩ := h
  exact ⟨h1, fun j => by rw [si_obj _ _ _ _ (by omega)]; exact h2 j, by rw [si_fld _ _ _ _ (by omega)]; exact h3⟩
theorem bsC_l (h : bsC X n Z) {k : Nat} {v : Int64} : bsC X n (zSl Z 183 k v) := h
/-- blanks -/
theorem ad_h0 (hn : n ≤ 700) (hX : ∀ k, X k ≤ 255) : ∀ f p N (Z : mjZt), p + f = n → f < N → bsC X n Z → Z.1 183 2 = i3 p → f68_advance_h0 N Z = f68_advance_j50 (zSi Z 183 2 (i3 (wsF X n f p)))
  | f, p, 0, Z, _, hN, _, _ => by omega
  | 0, p, N + 1, Z, hf, _, h, hp => by
    rw [f68_advance_h0, hp, h.2.2, if_pos (by rw [c_ge (by omega)]; omega), wsF, ← hp, zs_self]
  | f + 1, p, N + 1, Z, hf, hN, h, hp => by
    have x := hX p
    have ih := ad_h0 hn hX f (p + 1) N (zSi Z 183 2 (i3 ((p + 1 : Nat) : Int))) (by omega) (by omega) (bsC_183 h (by omega)) (si_same _ _ _ _)
    rw [zs_si] at ih
    rw [f68_advance_h0, hp, h.2.2, if_neg (by rw [c_ge (by omega)]; omega), e63 h hn (by omega), mjBp_some, show (32 : Int32) = i3 32 from rfl, show (10 : Int32) = i3 10 from rfl, i3_s, wsF]
    by_cases q : X p = 32
    · rw [if_pos (by rw [c_eq (by omega)]; omega), let_eq, if_pos ⟨by omega, Or.inl q⟩]; exact ih
    · rw [if_neg (by rw [c_eq (by omega)]; omega)]
      by_cases q2 : X p = 10
      · rw [if_neg (by rw [c_ne (by omega)]; omega), let_eq, if_pos ⟨by omega, Or.inr q2⟩]; exact ih
      · rw [if_pos (by rw [c_ne (by omega)]; omega), if_neg (fun g => by omega), ← hp, zs_self]
/-- a word -/
theorem ad_w (hn : n ≤ 700) (hX : ∀ k, X k ≤ 255) {q : Nat} : ∀ f j N (Z : mjZt), q + j + f = n → f < N → bsC X n Z → Z.1 183 4 = i3 q → (∀ i, i < j → 97 ≤ X (q + i) ∧ X (q + i) ≤ 122) → f65_takeWord_h5 N (zSl (zSi Z 183 2 (i3 ((q + j : Nat) : Int))) 183 6 (i6 (cwF X q (min j 8)))) = f65_takeWord_j92 (zSl (zSi Z 183 2 (i3 ((q + (j + runF X n 97 122 f (q + j)) : Nat) : Int))) 183 6 (i6 (cwF X q (min (j + runF X n 97 122 f (q + j)) 8))))
  | f, j, 0, Z, _, hN, _, _, _ => by omega
  | 0, j, N + 1, Z, hf, _, h, hp, hl => by
    rw [f65_takeWord_h5, sl_int, si_same, si_fld _ _ _ _ (by omega), h.2.2, if_pos (by rw [c_ge (by omega)]; omega), runF, Nat.add_zero]
  | f + 1, j, N + 1, Z, hf, hN, h, hp, hl => by
    have x := hX (q + j)
    have hb : bsC X n (zSl (zSi Z 183 2 (i3 ((q + j : Nat) : Int))) 183 6 (i6 (cwF X q (min j 8)))) := bsC_l (bsC_183 h (by omega))
    rw [f65_takeWord_h5, sl_int, si_same, si_fld _ _ _ _ (by omega), h.2.2, if_neg (by rw [c_ge (by omega)]; omega), e63 hb hn (by omega), mjBp_some, e64 x, mjBp_some, runF]
    by_cases q1 : 97 ≤ X (q + j) ∧ X (q + j) ≤ 122
    · have ih := ad_w hn hX (q := q) f (j + 1) N Z (by omega) (by omega) h hp (fun i hi => by
        by_cases g : i = j
        · subst g; exact q1
        · exact hl i (by omega))
      rw [show isLe (X (q + j)) = true from decide_eq_true q1, if_neg (by decide), if_pos (show q + j < n ∧ 97 ≤ X (q + j) ∧ X (q + j) ≤ 122 from ⟨by omega, q1⟩), si_fld _ _ _ _ (by omega), hp, i3_sub, show ((q + j : Nat) : Int) - (q : Int) = (j : Int) by omega, show (8 : Int32) = i3 8 from rfl, i3_s]
      rw [show q + (j + 1) = q + j + 1 by omega] at ih
      by_cases q2 : 8 ≤ j
      · rw [if_pos (by rw [c_ge (by omega)]; omega), let_eq]
        rw [show min (j + 1) 8 = 8 by omega] at ih
        rw [show min j 8 = 8 by omega, show j + (runF X n 97 122 f (q + j + 1) + 1) = j + 1 + runF X n 97 122 f (q + j + 1) by omega, ← ih]
        congr 1
        exact congrArg (fun w => zSl w 183 6 _) (zs_si Z 183 2 _ _)
      · have lt := cw_lt (X := X) (p := q) j (fun i hi => (hl i hi).2)
        have e : i6 (cwF X q (min j 8)) ||| (Int32.toInt64 ((i3 (X (q + j)) - 97) + 1) <<< (Int32.toInt64 (5 * i3 j) &&& 63)) = i6 (cwF X q (min (j + 1) 8)) := by
          rw [show min j 8 = j by omega, show min (j + 1) 8 = j + 1 by omega, show (97 : Int32) = i3 97 from rfl, i3_sub, i3_s0, show (5 : Int32) = i3 5 from rfl, i3_mul, i36 (by omega), show (X (q + j) : Int) - 97 + 1 = ((X (q + j) - 96 : Nat) : Int) by omega, show (5 : Int) * (j : Int) = ((5 * j : Nat) : Int) by omega, or_shl (by omega) (by rw [Nat.pow_mul]; exact lt), cwF, Nat.pow_mul]
        rw [if_neg (by rw [c_ge (by omega)]; omega), let_eq, let_eq, sl_same, e, sl_int, sl_int, si_same, i3_s, show j + (runF X n 97 122 f (q + j + 1) + 1) = j + 1 + runF X n 97 122 f (q + j + 1) by omega, ← ih]
        congr 1
        show zSl (zSl (zSi (zSi Z 183 2 _) 183 2 _) 183 6 _) 183 6 _ = _
        rw [zs_si, zl_zl]
    · rw [show isLe (X (q + j)) = false from decide_eq_false q1, if_pos (by decide), if_neg (fun g => q1 g.2), Nat.add_zero]
/-- a number -/
theorem ad_d (hn : n ≤ 700) (hX : ∀ k, X k ≤ 255) {q : Nat} : ∀ f j N (Z : mjZt), q + j + f = n → f < N → bsC X n Z → Z.1 183 4 = i3 q → (∀ i, i < j → 48 ≤ X (q + i) ∧ X (q + i) ≤ 57) → f67_takeNumber_h5 N (zSi (zSi Z 183 2 (i3 ((q + j : Nat) : Int))) 183 5 (i3 (nuF X q (min j 4)))) = f67_takeNumber_j79 (zSi (zSi Z 183 2 (i3 ((q + (j + runF X n 48 57 f (q + j)) : Nat) : Int))) 183 5 (i3 (nuF X q (min (j + runF X n 48 57 f (q + j)) 4))))
  | f, j, 0, Z, _, hN, _, _, _ => by omega
  | 0, j, N + 1, Z, hf, _, h, hp, hl => by
    rw [f67_takeNumber_h5, si_fld _ _ _ _ (by omega), si_same, si_fld _ _ _ _ (by omega), si_fld _ _ _ _ (by omega), h.2.2, if_pos (by rw [c_ge (by omega)]; omega), runF, Nat.add_zero]
  | f + 1, j, N + 1, Z, hf, hN, h, hp, hl => by
    have x := hX (q + j)
    have hb : bsC X n (zSi (zSi Z 183 2 (i3 ((q + j : Nat) : Int))) 183 5 (i3 (nuF X q (min j 4)))) := bsC_183 (bsC_183 h (by omega)) (by omega)
    have r2 : (zSi (zSi Z 183 2 (i3 ((q + j : Nat) : Int))) 183 5 (i3 (nuF X q (min j 4)))).1 183 2 = i3 ((q + j : Nat) : Int) := by rw [si_fld _ _ _ _ (by omega), si_same]
    have r4 : (zSi (zSi Z 183 2 (i3 ((q + j : Nat) : Int))) 183 5 (i3 (nuF X q (min j 4)))).1 183 4 = i3 q := by rw [si_fld _ _ _ _ (by omega), si_fld _ _ _ _ (by omega), hp]
    rw [f67_takeNumber_h5, r2, r4, hb.2.2, if_neg (by rw [c_ge (by omega)]; omega), e63 hb hn (by omega), mjBp_some, e66 x, mjBp_some, runF]
    by_cases q1 : 48 ≤ X (q + j) ∧ X (q + j) ≤ 57
    · have ih := ad_d hn hX (q := q) f (j + 1) N Z (by omega) (by omega) h hp (fun i hi => by
        by_cases g : i = j
        · subst g; exact q1
        · exact hl i (by omega))
      have cm : ∀ (a b c d : Int32), zSi (zSi (zSi Z 183 2 a) 183 5 b) 183 2 c = zSi (zSi Z 183 2 c) 183 5 b := fun a b c d => by
        refine Prod.ext ?_ rfl
        funext i k
        show (if i = 183 then (if k = 2 then c else (if i = 183 then (if k = 5 then b else (if i = 183 then (if k = 2 then a else Z.1 i k) else Z.1 i k)) else (if i = 183 then (if k = 2 then a else Z.1 i k) else Z.1 i k))) else (if i = 183 then (if k = 5 then b else (if i = 183 then (if k = 2 then a else Z.1 i k) else Z.1 i k)) else (if i = 183 then (if k = 2 then a else Z.1 i k) else Z.1 i k))) = (if i = 183 then (if k = 5 then b else (if i = 183 then (if k = 2 then c else Z.1 i k) else Z.1 i k)) else (if i = 183 then (if k = 2 then c else Z.1 i k) else Z.1 i k))
        by_cases g : i = 183
        · simp only [if_pos g]
          by_cases g2 : k = 2
          · simp [g2]
          · simp only [if_neg g2]
        · simp only [if_neg g]
      rw [show isDi (X (q + j)) = true from decide_eq_true q1, if_neg (by decide), if_pos (show q + j < n ∧ 48 ≤ X (q + j) ∧ X (q + j) ≤ 57 from ⟨by omega, q1⟩), i3_sub, show ((q + j : Nat) : Int) - (q : Int) = (j : Int) by omega, show (4 : Int32) = i3 4 from rfl, i3_s]
      rw [show q + (j + 1) = q + j + 1 by omega] at ih
      by_cases q2 : 4 ≤ j
      · rw [if_pos (by rw [c_ge (by omega)]; omega), let_eq, cm _ _ _ 0]
        rw [show min (j + 1) 4 = 4 by omega] at ih
        rw [show min j 4 = 4 by omega, show j + (runF X n 48 57 f (q + j + 1) + 1) = j + 1 + runF X n 48 57 f (q + j + 1) by omega, ← ih]
      · have lt := nu_bd (X := X) (p := q) j (fun i hi => (hl i hi).2)
        have l4 : 10 ^ j ≤ 10 ^ 4 := Nat.pow_le_pow_right (by decide) (by omega)
        have e : (i3 (nuF X q (min j 4)) * 10 + i3 (X (q + j))) - 48 = i3 (nuF X q (min (j + 1) 4)) := by
          rw [show min j 4 = j by omega, show min (j + 1) 4 = j + 1 by omega, show (10 : Int32) = i3 10 from rfl, show (48 : Int32) = i3 48 from rfl, i3_mul, i3_add, i3_sub, nuF]
          exact congrArg i3 (by omega)
        rw [if_neg (by rw [c_ge (by omega)]; omega), let_eq, let_eq, si_same, e, zs_si, si_fld _ _ _ _ (by omega), si_same, i3_s, cm _ _ _ 0, show j + (runF X n 48 57 f (q + j + 1) + 1) = j + 1 + runF X n 48 57 f (q + j + 1) by omega, ← ih]
    · rw [show isDi (X (q + j)) = false from decide_eq_false q1, if_pos (by decide), if_neg (fun g => q1 g.2), Nat.add_zero]
end AD
/-! signs -/
def zO : mjZt := (fun _ _ => 0, fun _ _ => 0, 0, 0)
theorem ioc_Z (Z Y : mjZt) : ∀ n x0 x3 x4 x5, f338_indexOfChar_h7 n x0 x3 x4 x5 Z = f338_indexOfChar_h7 n x0 x3 x4 x5 Y
  | 0, _, _, _, _ => rfl
  | n + 1, x0, x3, x4, x5 => by
    rw [f338_indexOfChar_h7, f338_indexOfChar_h7, ioc_Z Z Y n]
theorem io_Z (Z : mjZt) (c : Int32) : f335_indexOf 1000005 c Z = f335_indexOf 1000005 c zO := by
  unfold f335_indexOf f334_indexOf f336_indexOf f338_indexOfChar
  simp only [ioc_Z Z zO]
  rfl
theorem io_dec : ∀ c : Nat, c < 256 → (match f335_indexOf 1000005 (((i3 (c : Int)).toUInt32 % 65536).toInt32) zO with
    | some v => mjCmp .lt v 0 == !(isSg c)
    | none => false) = true := by decide +kernel
theorem e335 (Z : mjZt) {c : Nat} (hc : c ≤ 255) : ∃ v, f335_indexOf 1000005 (((i3 (c : Int)).toUInt32 % 65536).toInt32) Z = some v ∧ (mjCmp .lt v 0 = true ↔ isSg c = false) := by
  have h := io_dec c (by omega)
  rw [io_Z]
  cases e : f335_indexOf 1000005 (((i3 (c : Int)).toUInt32 % 65536).toInt32) zO with
  | none => rw [e] at h; cases h
  | some v =>
    rw [e] at h
    refine ⟨v, rfl, ?_⟩
    have h2 : mjCmp .lt v 0 = !(isSg c) := by simpa using h
    rw [h2]
    cases isSg c <;> simp
section AE
variable {X : Nat → Nat} {n : Nat} {Z : mjZt}
/-- the class reads a token -/
theorem e68 (h : bsC X n Z) (hn : n ≤ 700) (hX : ∀ k, X k ≤ 255) {p : Nat} (hp : p ≤ n) (h2 : Z.1 183 2 = i3 p) : ∃ Z1, f68_advance Z = some ((), Z1) ∧ tkC X n Z1 p ∧ eqTk Z Z1 := by
  have hq := jQ_bd (X := X) hp
  have hb := uE_bd (X := X) hq.2
  have step : f68_advance Z = f68_advance_j50 (zSi Z 183 2 (i3 (jQ X n p))) := ad_h0 hn hX (n - p) p mjF Z (by omega) (by unfold mjF; omega) h h2
  rw [step]
  unfold tkC jE jS jV jN
  generalize hqq : jQ X n p = q at *
  generalize hZ1 : zSi (zSi Z 183 2 (i3 q)) 183 4 (i3 q) = Z1
  have b1 : bsC X n Z1 := by rw [← hZ1]; exact bsC_183 (bsC_183 h (by omega)) (by omega)
  have r2 : Z1.1 183 2 = i3 q := by rw [← hZ1, si_fld _ _ _ _ (by omega), si_same]
  have r4 : Z1.1 183 4 = i3 q := by rw [← hZ1, si_same]
  have e1 : eqTk Z Z1 := by
    rw [← hZ1]
    exact ⟨rfl, fun a ha => ⟨by rw [si_obj _ _ _ _ ha, si_obj _ _ _ _ ha], rfl⟩⟩
  have es : ∀ (Y : mjZt) k v, eqTk Y (zSi Y 183 k v) := fun Y k v => ⟨rfl, fun a ha => ⟨si_obj _ _ _ _ ha, rfl⟩⟩
  have el : ∀ (Y : mjZt) k v, eqTk Y (zSl Y 183 k v) := fun Y k v => ⟨rfl, fun a ha => ⟨rfl, sl_obj _ _ _ _ ha⟩⟩
  unfold f68_advance_j50
  rw [si_same, hZ1, let_eq, r2, b1.2.2]
  by_cases q0 : n ≤ q
  · rw [if_neg (by rw [c_lt (by omega)]; omega), let_eq]
    refine ⟨_, rfl, ⟨bsC_183 b1 (by omega), ?_, ?_, ?_, ?_, ?_⟩, eqTk_tr e1 (es _ _ _)⟩
    · unfold uE; rw [if_pos q0, si_fld _ _ _ _ (by omega), r2]
    · unfold uS; rw [if_pos q0, si_same]; rfl
    · rw [si_fld _ _ _ _ (by omega), r4]
    · unfold uS; rw [if_pos q0]; intro g; cases g
    · unfold uS; rw [if_pos q0]; intro g; cases g
  · have x := hX q
    rw [if_pos (by rw [c_lt (by omega)]; omega), e63 b1 hn (by omega), mjBp_some, e64 x, mjBp_some]
    cases q1 : isLe (X q) with
    | true =>
      have lw : 97 ≤ X q ∧ X q ≤ 122 := of_decide_eq_true q1
      rw [if_neg (by decide)]
      have g := ad_w hn hX (q := q) (n - q) 0 mjF Z1 (by omega) (by unfold mjF; omega) b1 r4 (fun i hi => by omega)
      rw [Nat.add_zero, Nat.zero_add, ← r2, zs_self, show min 0 8 = 0 from rfl] at g
      have rp := run_pos (n := n) (q := q) (by omega) lw
      have ra := fun j => run_all (X := X) (n := n) (lo := 97) (hi := 122) (n - q) q j
      have rb := run_bd X n 97 122 (n - q) q
      unfold f65_takeWord
      rw [let_eq, show (0 : Int64) = i6 (cwF X q 0) from rfl, g]
      unfold uS uE uV uN
      simp only [q1, if_neg q0, if_true]
      unfold jLr
      generalize runF X n 97 122 (n - q) q = m at *
      have w8 := wd_8 (X := X) (p := q) (k := min m 8) (by omega) (fun j hj => (ra j (by omega)).2)
      unfold f65_takeWord_j92
      generalize hZ2 : zSl (zSi Z1 183 2 (i3 ((q + m : Nat) : Int))) 183 6 (i6 (cwF X q (min m 8))) = Z2
      have b2 : bsC X n Z2 := by rw [← hZ2]; exact bsC_l (bsC_183 b1 (by omega))
      have s2 : Z2.1 183 2 = i3 ((q + m : Nat) : Int) := by rw [← hZ2, sl_int, si_same]
      have s4 : Z2.1 183 4 = i3 q := by rw [← hZ2, sl_int, si_fld _ _ _ _ (by omega), r4]
      have s6 : Z2.2.1 183 6 = i6 (cvN 8 (wdF X q (min m 8))) := by rw [← hZ2, sl_same, w8.2.1]
      have e2 : eqTk Z Z2 := by rw [← hZ2]; exact eqTk_tr e1 (eqTk_tr (es _ _ _) (el _ _ _))
      rw [s2, s4, i3_sub, show ((q + m : Nat) : Int) - (q : Int) = (m : Int) by omega, show (8 : Int32) = i3 8 from rfl]
      by_cases q2 : 8 < m
      · rw [if_pos (by rw [c_gt (by omega)]; omega), let_eq, mjBd_some, if_pos q2]
        refine ⟨_, rfl, ⟨bsC_183 b2 (by omega), ?_, ?_, ?_, ?_, ?_⟩, eqTk_tr e2 (es _ _ _)⟩
        · rw [si_fld _ _ _ _ (by omega), s2]
        · rw [si_same]; rfl
        · rw [si_fld _ _ _ _ (by omega), s4]
        · intro g; cases g
        · intro g; cases g
      · rw [if_neg (by rw [c_gt (by omega)]; omega), let_eq, mjBd_some, if_neg q2]
        refine ⟨_, rfl, ⟨bsC_183 b2 (by omega), ?_, ?_, ?_, ?_, ?_⟩, eqTk_tr e2 (es _ _ _)⟩
        · rw [si_fld _ _ _ _ (by omega), s2]
        · rw [si_same]; rfl
        · rw [si_fld _ _ _ _ (by omega), s4]
        · intro g; cases g
        · intro _; exact s6
    | false =>
      rw [if_pos (by decide), e66 x, mjBp_some]
      cases q3 : isDi (X q) with
      | true =>
        have ld : 48 ≤ X q ∧ X q ≤ 57 := of_decide_eq_true q3
        rw [if_neg (by decide)]
        have g := ad_d hn hX (q := q) (n - q) 0 mjF Z1 (by omega) (by unfold mjF; omega) b1 r4 (fun i hi => by omega)
        rw [Nat.add_zero, Nat.zero_add, ← r2, zs_self, show min 0 4 = 0 from rfl] at g
        unfold f67_takeNumber
        rw [let_eq, show (0 : Int32) = i3 (nuF X q 0) from rfl, g]
        unfold uS uE uV uN
        simp only [q1, q3, if_neg q0, if_true, Bool.false_eq_true, if_false]
        unfold jDr
        have rb := run_bd X n 48 57 (n - q) q
        generalize runF X n 48 57 (n - q) q = m at *
        unfold f67_takeNumber_j79
        generalize hZ2 : zSi (zSi Z1 183 2 (i3 ((q + m : Nat) : Int))) 183 5 (i3 (nuF X q (min m 4))) = Z2
        have b2 : bsC X n Z2 := by rw [← hZ2]; exact bsC_183 (bsC_183 b1 (by omega)) (by omega)
        have s2 : Z2.1 183 2 = i3 ((q + m : Nat) : Int) := by rw [← hZ2, si_fld _ _ _ _ (by omega), si_same]
        have s4 : Z2.1 183 4 = i3 q := by rw [← hZ2, si_fld _ _ _ _ (by omega), si_fld _ _ _ _ (by omega), r4]
        have s5 : Z2.1 183 5 = i3 (nuF X q (min m 4)) := by rw [← hZ2, si_same]
        have e2 : eqTk Z Z2 := by rw [← hZ2]; exact eqTk_tr e1 (eqTk_tr (es _ _ _) (es _ _ _))
        rw [s2, s4, i3_sub, show ((q + m : Nat) : Int) - (q : Int) = (m : Int) by omega, show (4 : Int32) = i3 4 from rfl]
        by_cases q2 : 4 < m
        · rw [if_pos (by rw [c_gt (by omega)]; omega), let_eq, mjBd_some, if_pos q2]
          refine ⟨_, rfl, ⟨bsC_183 b2 (by omega), ?_, ?_, ?_, ?_, ?_⟩, eqTk_tr e2 (es _ _ _)⟩
          · rw [si_fld _ _ _ _ (by omega), s2]
          · rw [si_same]; rfl
          · rw [si_fld _ _ _ _ (by omega), s4]
          · intro g; cases g
          · intro g; cases g
        · rw [if_neg (by rw [c_gt (by omega)]; omega), let_eq, mjBd_some, if_neg q2]
          refine ⟨_, rfl, ⟨bsC_183 b2 (by omega), ?_, ?_, ?_, ?_, ?_⟩, eqTk_tr e2 (es _ _ _)⟩
          · rw [si_fld _ _ _ _ (by omega), s2]
          · rw [si_same]; rfl
          · rw [si_fld _ _ _ _ (by omega), s4]
          · intro _; rw [si_fld _ _ _ _ (by omega), s5]
          · intro g; cases g
      | false =>
        obtain ⟨v, v1, v2⟩ := e335 Z1 x
        rw [if_pos (by decide), v1, mjBp_some]
        unfold uS uE uV uN
        simp only [q1, q3, if_neg q0, Bool.false_eq_true, if_false]
        cases q4 : isSg (X q) with
        | false =>
          rw [if_pos (v2.mpr q4), let_eq, let_eq, si_fld _ _ _ _ (by omega), r2, i3_s, if_neg (by decide)]
          refine ⟨_, rfl, ⟨bsC_183 (bsC_183 b1 (by omega)) (by omega), ?_, ?_, ?_, ?_, ?_⟩, eqTk_tr e1 (eqTk_tr (es _ _ _) (es _ _ _))⟩
          · rw [si_same]
          · rw [si_fld _ _ _ _ (by omega), si_same]; rfl
          · rw [si_fld _ _ _ _ (by omega), si_fld _ _ _ _ (by omega), r4]
          · intro g; cases g
          · intro g; cases g
        | true =>
          rw [if_neg (fun g => by have := v2.mp g; rw [q4] at this; cases this), let_eq, let_eq, si_fld _ _ _ _ (by omega), r2, i3_s, if_pos rfl]
          refine ⟨_, rfl, ⟨bsC_183 (bsC_183 b1 (by omega)) (by omega), ?_, ?_, ?_, ?_, ?_⟩, eqTk_tr e1 (eqTk_tr (es _ _ _) (es _ _ _))⟩
          · rw [si_same]
          · rw [si_fld _ _ _ _ (by omega), si_same]; rfl
          · rw [si_fld _ _ _ _ (by omega), si_fld _ _ _ _ (by omega), r4]
          · intro g; cases g
          · intro g; cases g
/-- the class goes on from a token -/
theorem adv {p : Nat} (h : tkC X n Z p) (hn : n ≤ 700) (hX : ∀ k, X k ≤ 255) (hp : p ≤ n) : ∃ Z1, f68_advance Z = some ((), Z1) ∧ tkC X n Z1 (jE X n p) ∧ eqTk Z Z1 := e68 h.1 hn hX (jE_bd hp).2.2.1 h.2.1
end AE
