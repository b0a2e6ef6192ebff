/-! chars and numbers put behind a StringBuilder's text -/
theorem nar_c : ∀ c, c < 128 → (i3 (c : Nat)).toInt8.toInt32 = i3 (c : Nat) ∧ fits .byte (.int (i3 (c : Nat))) = true := by decide +kernel
/-- a row of values written at p -/
def wrL (M : mjMem) (v p : Nat) (u : List Int32) : mjMem := (fun i j => if i = v then (if p ≤ j ∧ j < p + u.length then u.getD (j - p) 0 else M.1 i j) else M.1 i j, M.2)
theorem wrL_nil {M : mjMem} {v p : Nat} : wrL M v p [] = M := by
  refine Prod.ext ?_ rfl
  funext i j
  show (if i = v then (if p ≤ j ∧ j < p + 0 then _ else M.1 i j) else M.1 i j) = M.1 i j
  split
  · rw [if_neg (by omega)]
  · rfl
theorem wrL_cons {M : mjMem} {v p : Nat} {u : List Int32} {c : Int32} : mjSi (wrL M v (p + 1) u) v p c = wrL M v p (c :: u) := by
  refine Prod.ext ?_ rfl
  funext i j
  show (if i = v then (if j = p then c else (if i = v then (if p + 1 ≤ j ∧ j < p + 1 + u.length then u.getD (j - (p + 1)) 0 else M.1 i j) else M.1 i j)) else (if i = v then _ else M.1 i j)) = (if i = v then (if p ≤ j ∧ j < p + (c :: u).length then (c :: u).getD (j - p) 0 else M.1 i j) else M.1 i j)
  by_cases h : i = v
  · rw [if_pos h, if_pos h, if_pos h, List.length_cons]
    by_cases h1 : j = p
    · rw [if_pos h1, if_pos (by omega), show j - p = 0 from by omega]; rfl
    · rw [if_neg h1]
      by_cases h2 : p + 1 ≤ j ∧ j < p + 1 + u.length
      · rw [if_pos h2, if_pos (by omega), show j - p = (j - (p + 1)) + 1 from by omega]; rfl
      · rw [if_neg h2, if_neg (by omega)]
  · rw [if_neg h, if_neg h, if_neg h]
theorem qSba_0 {Z : mjQ} {v cap p c : Nat} (hv : Z.2.2.2.2 v = (118, cap)) (hp : p < cap) (hc : cap ≤ 100000) (hb : c < 128) : qSba Z v (i3 p) (i3 c) = some (Z.1, mjSi Z.2 v p (i3 c)) := by
  unfold qSba
  rw [if_pos ⟨ks_of hv, by rw [mjAl, hv, in_t (by omega)]; trivial⟩, vp_nar_byte, (nar_c c hb).1, ix_nat (by omega)]
def dgt (d : Nat) : Int32 := i3 ((48 + d : Nat) : Int)
theorem tb_one : ∀ r, r < 100 → mjOnL.getD r 0 = dgt (r % 10) := by decide +kernel
theorem tb_ten : ∀ r, r < 100 → mjTeL.getD r 0 = dgt (r / 10) := by decide +kernel
theorem qBa_one {M : mjMem} {r : Nat} (h : r < 100) : qBa M 1300001 (i3 r) = some (dgt (r % 10)) := by
  have h3 : mjSbd 1300001 = true := rfl
  have h4 : mjTx0 (1300001 - 1100000) = mjOnL := rfl
  have h5 : mjOnL.length = 100 := rfl
  unfold qBa
  rw [if_pos h3, h4, h5, if_pos (of_eq_true (in_t (by omega))), ix_nat (by omega), tb_one r h]
theorem qBa_ten {M : mjMem} {r : Nat} (h : r < 100) : qBa M 1300002 (i3 r) = some (dgt (r / 10)) := by
  have h3 : mjSbd 1300002 = true := rfl
  have h4 : mjTx0 (1300002 - 1100000) = mjTeL := rfl
  have h5 : mjTeL.length = 100 := rfl
  unfold qBa
  rw [if_pos h3, h4, h5, if_pos (of_eq_true (in_t (by omega))), ix_nat (by omega), tb_ten r h]
def decN (n : Nat) : List Int32 := if n < 10 then [dgt n] else if n < 100 then [dgt (n / 10), dgt (n % 10)] else if n < 1000 then [dgt (n / 100), dgt (n / 10 % 10), dgt (n % 10)] else [dgt (n / 1000), dgt (n / 100 % 10), dgt (n / 10 % 10), dgt (n % 10)]
def decZ (z : Int) : List Int32 := if z < 0 then i3 ((45 : Nat) : Int) :: decN (-z).toNat else decN z.toNat
def sgL (s : Bool) (u : List Int32) : List Int32 := if s = true then i3 ((45 : Nat) : Int) :: u else u
theorem gC_j104 {Z : mjQ} {M : mjMem} {v cap p : Nat} {u : List Int32} {s : Bool} (hv : M.2.2.2 v = (118, cap)) (hp : p < cap) (hc : cap ≤ 100000) (hs : s = true → 1 ≤ p) : g220_getChars_j104 sg0 v (i3 p) (i3 (if s then 1 else 0)) (Z.1, wrL M v p u) = some (i3 (if s then p - 1 else p : Nat), (Z.1, wrL M v (if s then p - 1 else p) (sgL s u))) := by
  unfold g220_getChars_j104
  cases s with
  | false => rw [if_pos (by rfl)]; rfl
  | true =>
    have h1 := hs rfl
    rw [if_neg (by decide), show (-1 : Int32) = i3 (-1) from rfl, i3_add, show (p : Int) + -1 = ((p - 1 : Nat) : Int) from by omega, show (45 : Int32) = i3 ((45 : Nat) : Int) from rfl, qSba_0 (Z := (Z.1, wrL M v p u)) (p := p - 1) (c := 45) hv (by omega) hc (by decide), mjBp_some]
    have := wrL_cons (M := M) (v := v) (p := p - 1) (u := u) (c := i3 ((45 : Nat) : Int))
    rw [show p - 1 + 1 = p from by omega] at this
    show some (_, (Z.1, mjSi (wrL M v p u) v (p - 1) _)) = _
    rw [this]
    rfl
/-- the last one or two digits -/
theorem gC_end {Z : mjQ} {M : mjMem} {v cap p m f : Nat} {u : List Int32} {s : Bool} (hv : M.2.2.2 v = (118, cap)) (hp : p ≤ cap) (hc : cap ≤ 100000) (hm : m < 100) (hp3 : 3 ≤ p) : g220_getChars_h22 sg0 (f + 1) (i3 (-(m : Int))) v (i3 p) (i3 (if s then 1 else 0)) (Z.1, wrL M v p u) = (let q := p - (decN m).length; some (i3 (if s then q - 1 else q : Nat), (Z.1, wrL M v (if s then q - 1 else q) (sgL s (decN m ++ u))))) := by
  rw [g220_getChars_h22, show (-100 : Int32) = i3 (-100) from rfl, if_pos (by rw [c_gt (by omega)]; omega), i3_neg, Int.neg_neg, qBa_one hm, mjBp_some, show (-1 : Int32) = i3 (-1) from rfl, i3_add, show (p : Int) + -1 = ((p - 1 : Nat) : Int) from by omega, show dgt (m % 10) = i3 ((48 + m % 10 : Nat) : Int) from rfl, qSba_0 (Z := (Z.1, wrL M v p u)) (p := p - 1) (c := 48 + m % 10) hv (by omega) hc (by omega), mjBp_some]
  have w1 := wrL_cons (M := M) (v := v) (p := p - 1) (u := u) (c := i3 ((48 + m % 10 : Nat) : Int))
  rw [show p - 1 + 1 = p from by omega] at w1
  rw [show (-9 : Int32) = i3 (-9) from rfl]
  by_cases h1 : m < 10
  · rw [if_pos (by rw [c_ge (by omega)]; omega)]
    show g220_getChars_j104 sg0 v (i3 ((p - 1 : Nat) : Int)) _ (Z.1, mjSi (wrL M v p u) v (p - 1) _) = _
    rw [w1, gC_j104 (Z := Z) hv (by omega) hc (by omega)]
    have : decN m = [i3 ((48 + m % 10 : Nat) : Int)] := by unfold decN; rw [if_pos h1, show m % 10 = m from by omega]; rfl
    rw [this]
    rfl
  · rw [if_neg (by rw [c_ge (by omega)]; omega)]
    show mjBp (qBa _ 1300002 _) _ = _
    rw [qBa_ten hm, mjBp_some, i3_add, show ((p - 1 : Nat) : Int) + -1 = ((p - 2 : Nat) : Int) from by omega, show dgt (m / 10) = i3 ((48 + m / 10 : Nat) : Int) from rfl]
    have w2 := wrL_cons (M := M) (v := v) (p := p - 2) (u := i3 ((48 + m % 10 : Nat) : Int) :: u) (c := i3 ((48 + m / 10 : Nat) : Int))
    rw [show p - 2 + 1 = p - 1 from by omega] at w2
    show mjBp (qSba (Z.1, mjSi (wrL M v p u) v (p - 1) _) v _ _) _ = _
    rw [w1, qSba_0 (Z := (Z.1, wrL M v (p - 1) (i3 ((48 + m % 10 : Nat) : Int) :: u))) (p := p - 2) (c := 48 + m / 10) hv (by omega) hc (by omega), mjBp_some]
    show g220_getChars_j104 sg0 v (i3 ((p - 2 : Nat) : Int)) _ (Z.1, mjSi (wrL M v (p - 1) _) v (p - 2) _) = _
    rw [w2, gC_j104 (Z := Z) hv (by omega) hc (by omega)]
    have : decN m = [i3 ((48 + m / 10 : Nat) : Int), i3 ((48 + m % 10 : Nat) : Int)] := by unfold decN; rw [if_neg h1, if_pos hm]; rfl
    rw [this]
    rfl
theorem i3_ndiv {m : Nat} (h : m ≤ 100000) : i3 (-(m : Int)) / i3 100 = i3 (-((m / 100 : Nat) : Int)) := by
  have e1 : Int32.minValue.toInt = -2147483648 := by decide
  have e2 : Int32.maxValue.toInt = 2147483647 := by decide
  unfold i3
  rw [← Int32.ofInt_tdiv (by omega) (by omega) (by omega) (by omega)]
  congr 1
  rw [Int.neg_tdiv]
  rw [show ((m : Int).tdiv 100) = ((m / 100 : Nat) : Int) from by rw [Int.tdiv_eq_ediv_of_nonneg (by omega)]; omega]
theorem gC_all {Z : mjQ} {M : mjMem} {v cap p m f : Nat} {s : Bool} (hv : M.2.2.2 v = (118, cap)) (hp : p ≤ cap) (hc : cap ≤ 100000) (hm : m < 10000) (hp3 : 5 ≤ p) : g220_getChars_h22 sg0 (f + 2) (i3 (-(m : Int))) v (i3 p) (i3 (if s then 1 else 0)) (Z.1, wrL M v p []) = (let q := p - (decN m).length; some (i3 (if s then q - 1 else q : Nat), (Z.1, wrL M v (if s then q - 1 else q) (sgL s (decN m))))) := by
  by_cases h : m < 100
  · have := gC_end (Z := Z) (M := M) (v := v) (cap := cap) (p := p) (m := m) (f := f + 1) (u := []) (s := s) hv hp hc h (by omega)
    rw [List.append_nil] at this
    exact this
  · rw [g220_getChars_h22, show (-100 : Int32) = i3 (-100) from rfl, if_neg (by rw [c_gt (by omega)]; omega), show (100 : Int32) = i3 100 from rfl, i3_ndiv (by omega), i3_mul, i3_sub, show -((m / 100 : Nat) : Int) * 100 - -(m : Int) = ((m % 100 : Nat) : Int) from by omega, qBa_one (by omega), mjBp_some, show (-1 : Int32) = i3 (-1) from rfl, i3_add, show (p : Int) + -1 = ((p - 1 : Nat) : Int) from by omega, show dgt (m % 100 % 10) = i3 ((48 + m % 10 : Nat) : Int) from by unfold dgt; congr 2; omega, qSba_0 (Z := (Z.1, wrL M v p [])) (p := p - 1) (c := 48 + m % 10) hv (by omega) hc (by omega), mjBp_some]
    have w1 := wrL_cons (M := M) (v := v) (p := p - 1) (u := []) (c := i3 ((48 + m % 10 : Nat) : Int))
    rw [show p - 1 + 1 = p from by omega] at w1
    rw [qBa_ten (by omega), mjBp_some, i3_add, show ((p - 1 : Nat) : Int) + -1 = ((p - 2 : Nat) : Int) from by omega, show dgt (m % 100 / 10) = i3 ((48 + m / 10 % 10 : Nat) : Int) from by unfold dgt; congr 2; omega]
    have w2 := wrL_cons (M := M) (v := v) (p := p - 2) (u := [i3 ((48 + m % 10 : Nat) : Int)]) (c := i3 ((48 + m / 10 % 10 : Nat) : Int))
    rw [show p - 2 + 1 = p - 1 from by omega] at w2
    show mjBp (qSba (Z.1, mjSi (wrL M v p []) v (p - 1) _) v _ _) _ = _
    rw [w1, qSba_0 (Z := (Z.1, wrL M v (p - 1) [i3 ((48 + m % 10 : Nat) : Int)])) (p := p - 2) (c := 48 + m / 10 % 10) hv (by omega) hc (by omega), mjBp_some]
    show g220_getChars_h22 sg0 (f + 1) _ v _ _ (Z.1, mjSi (wrL M v (p - 1) _) v (p - 2) _) = _
    rw [w2, gC_end (Z := Z) (m := m / 100) hv (by omega) hc (by omega) (by omega)]
    have e1 : decN m = decN (m / 100) ++ [i3 ((48 + m / 10 % 10 : Nat) : Int), i3 ((48 + m % 10 : Nat) : Int)] := by
      unfold decN
      by_cases q : m < 1000
      · rw [if_neg (by omega), if_neg h, if_pos q, if_pos (by omega)]; rfl
      · rw [if_neg (by omega), if_neg h, if_neg q, if_neg (by omega), if_pos (by omega)]
        unfold dgt
        rw [show m / 100 / 10 = m / 1000 from by omega]
        rfl
    have e2 : p - 2 - (decN (m / 100)).length = p - (decN m).length := by rw [e1, List.length_append]; simp; omega
    rw [e2, ← e1]
theorem decN_len (m : Nat) : 1 ≤ (decN m).length ∧ (decN m).length ≤ 4 := by
  unfold decN
  split
  · exact ⟨by simp, by simp⟩
  · split
    · exact ⟨by simp, by simp⟩
    · split
      · exact ⟨by simp, by simp⟩
      · exact ⟨by simp, by simp⟩
theorem decZ_eq (z : Int) : decZ z = sgL (decide (z < 0)) (decN (if z < 0 then (-z).toNat else z.toNat)) := by
  unfold decZ sgL
  by_cases h : z < 0
  · rw [if_pos h, if_pos h, if_pos (decide_eq_true h)]
  · rw [if_neg h, if_neg h, if_neg (by rw [decide_eq_false h]; decide)]
/-- how long a number is -/
theorem q_size {Z : mjQ} {z : Int} (h : -10000 < z ∧ z < 10000) : g222_stringSize (i3 z) Z = some (i3 ((decZ z).length : Nat)) := by
  have go : ∀ (m : Nat) (sg9 : Int), m < 10000 → (sg9 = 0 ∨ sg9 = 1) → g222_stringSize_j11 (i3 (-(m : Int))) (i3 sg9) Z = some (i3 (((decN m).length : Nat) + sg9)) := by
    intro m sg9 hm hs9
    unfold g222_stringSize_j11 decN
    rw [show mjF = 19996 + 4 from rfl, show (-10 : Int32) = i3 (-10) from rfl, show (1 : Int32) = i3 1 from rfl]
    rw [g222_stringSize_h16, show (10 : Int32) = i3 10 from rfl, if_neg (by rw [c_ge (by omega)]; omega)]
    by_cases h1 : m < 10
    · rw [if_neg (by rw [c_le (by omega)]; omega), if_pos h1, i3_add]; rfl
    · rw [if_pos (by rw [c_le (by omega)]; omega), if_neg h1, i3_mul, show (1 : Int32) = i3 1 from rfl, i3_add, g222_stringSize_h16, show (10 : Int32) = i3 10 from rfl, if_neg (by rw [c_ge (by omega)]; omega)]
      by_cases h2 : m < 100
      · rw [if_neg (by rw [c_le (by omega)]; omega), if_pos h2, i3_add]; rfl
      · rw [if_pos (by rw [c_le (by omega)]; omega), if_neg h2, i3_mul, show (1 : Int32) = i3 1 from rfl, i3_add, g222_stringSize_h16, show (10 : Int32) = i3 10 from rfl, if_neg (by rw [c_ge (by omega)]; omega)]
        by_cases h3 : m < 1000
        · rw [if_neg (by rw [c_le (by omega)]; omega), if_pos h3, i3_add]; rfl
        · rw [if_pos (by rw [c_le (by omega)]; omega), if_neg h3, i3_mul, show (1 : Int32) = i3 1 from rfl, i3_add, g222_stringSize_h16, show (10 : Int32) = i3 10 from rfl, if_neg (by rw [c_ge (by omega)]; omega), if_neg (by rw [c_le (by omega)]; omega), i3_add]; rfl
  unfold g222_stringSize
  rw [show (0 : Int32) = i3 0 from rfl, show (1 : Int32) = i3 1 from rfl, decZ_eq]
  by_cases hz : z < 0
  · rw [if_pos (by rw [c_lt (by omega)]; omega)]
    have := go (-z).toNat 1 (by omega) (Or.inr rfl)
    rw [show -(((-z).toNat : Nat) : Int) = z from by omega] at this
    rw [this, if_pos hz, decide_eq_true hz]
    rfl
  · rw [if_neg (by rw [c_lt (by omega)]; omega), i3_neg]
    have := go z.toNat 0 (by omega) (Or.inl rfl)
    rw [show -((z.toNat : Nat) : Int) = -z from by omega] at this
    rw [this, if_neg hz, decide_eq_false hz, Int.add_zero]
    rfl
theorem q_chars {Z : mjQ} {v cap p : Nat} {z : Int} (hv : Z.2.2.2.2 v = (118, cap)) (hp : p + (decZ z).length ≤ cap) (hc : cap ≤ 100000) (h : -10000 < z ∧ z < 10000) (hp3 : 5 ≤ p) : g220_getChars sg0 (i3 z) (i3 ((p + (decZ z).length : Nat) : Int)) v Z = some (i3 p, (Z.1, wrL Z.2 v p (decZ z))) := by
  unfold g220_getChars
  rw [show (0 : Int32) = i3 0 from rfl]
  have hw : Z = (Z.1, wrL Z.2 v (p + (decZ z).length) []) := by rw [wrL_nil]
  have hl := decN_len (if z < 0 then (-z).toNat else z.toNat)
  have he := decZ_eq z
  by_cases hz : z < 0
  · rw [if_pos hz] at he hl
    rw [decide_eq_true hz] at he
    have hlen : (decZ z).length = (decN (-z).toNat).length + 1 := by rw [he]; rfl
    rw [if_neg (by rw [c_ge (by omega)]; omega)]
    unfold g220_getChars_j12
    rw [if_pos (by decide), show mjF = 19998 + 2 from rfl]
    have g := gC_all (Z := Z) (M := Z.2) (v := v) (cap := cap) (p := p + (decZ z).length) (m := (-z).toNat) (f := 19998) (s := true) hv hp hc (by omega) (by omega)
    rw [show -(((-z).toNat : Nat) : Int) = z from by omega, wrL_nil] at g
    refine g.trans ?_
    dsimp only
    rw [if_pos rfl, show p + (decZ z).length - (decN (-z).toNat).length - 1 = p from by omega, ← he]
  · rw [if_neg hz] at he hl
    rw [decide_eq_false hz] at he
    have hlen : (decZ z).length = (decN z.toNat).length := by rw [he]; rfl
    rw [if_pos (by rw [c_ge (by omega)]; omega)]
    unfold g220_getChars_j12
    rw [if_neg (by decide), show mjF = 19998 + 2 from rfl, i3_neg]
    have g := gC_all (Z := Z) (M := Z.2) (v := v) (cap := cap) (p := p + (decZ z).length) (m := z.toNat) (f := 19998) (s := false) hv hp hc (by omega) (by omega)
    rw [show -((z.toNat : Nat) : Int) = -z from by omega, wrL_nil] at g
    refine g.trans ?_
    dsimp only
    rw [if_neg (by decide), show p + (decZ z).length - (decN z.toNat).length = p from by omega, ← he]
theorem dgt_fit : ∀ d, d < 10 → fits .byte (.int (dgt d)) = true := by decide
theorem decN_fit (m : Nat) (h : m < 10000) : ∀ c, c ∈ decN m → fits .byte (.int c) = true := by
  intro c hc
  unfold decN at hc
  split at hc
  · simp only [List.mem_cons, List.not_mem_nil, or_false] at hc
    rw [hc]; exact dgt_fit _ (by omega)
  · split at hc
    · simp only [List.mem_cons, List.not_mem_nil, or_false] at hc
      rcases hc with q | q <;> rw [q] <;> exact dgt_fit _ (by omega)
    · split at hc
      · simp only [List.mem_cons, List.not_mem_nil, or_false] at hc
        rcases hc with q | q | q <;> rw [q] <;> exact dgt_fit _ (by omega)
      · simp only [List.mem_cons, List.not_mem_nil, or_false] at hc
        rcases hc with q | q | q | q <;> rw [q] <;> exact dgt_fit _ (by omega)
theorem decZ_fit (z : Int) (h : -10000 < z ∧ z < 10000) : ∀ c, c ∈ decZ z → fits .byte (.int c) = true := by
  intro c hc
  unfold decZ at hc
  split at hc
  · rcases List.mem_cons.1 hc with q | q
    · rw [q]; rfl
    · exact decN_fit _ (by omega) c q
  · exact decN_fit _ (by omega) c hc
theorem fitB_of {u : List Int32} (h : ∀ c, c ∈ u → fits .byte (.int c) = true) : fitB (fun j => u.getD j 0) := by
  intro j
  show fits .byte (.int (u.getD j 0)) = true
  rw [List.getD_eq_getElem?_getD]
  cases hq : u[j]? with
  | none => rfl
  | some c => exact h c (List.mem_of_getElem? hq)
theorem frm_wr {Z : mjQ} {a p : Nat} {u : List Int32} {P : Nat → Prop} (h : P a) : frm Z (Z.1, wrL Z.2 a p u) P := by
  refine ⟨Nat.le_refl _, fun b _ => ⟨rfl, fun hb => ⟨?_, rfl, rfl⟩⟩⟩
  have : ¬ b = a := fun q => hb (q ▸ h)
  funext j
  exact if_neg this
theorem q_lat {Z : mjQ} {sb : Nat} (hk : Z.2.2.2.2 sb = (19, 0)) (hc : Z.2.1 sb 1 = i3 0) : g215_isLatin1 sb Z = some 1 := by
  unfold g215_isLatin1
  rw [if_neg (by decide), qI_of (x := i3 0) hk (by decide) hc, mjBp_some, if_neg (by decide)]
/-- the end of an append: u is written, the count is set -/
theorem ap_end {Z Z1 : mjQ} {sb v cap v1 cap1 : Nat} {t u : List Int32} (hn : Z.1.1 < 90000) (hB : bS Z1 sb v1 cap1 t) (h2 : t.length + u.length ≤ cap1) (h3 : cap ≤ cap1) (h4 : frm Z Z1 (fun a => a = sb)) (h5 : v1 = v ∨ v1 = 1000 + Z.1.1) (h6 : Z1.1.1 ≤ Z.1.1 + 1) (h7 : Z1.1.2 + 2 * cap ≤ Z.1.2 + 2 * cap1) (h8 : cap1 = cap ∨ cap1 ≤ 2 * (t.length + u.length) + 2) (hu : fitB (fun j => u.getD j 0)) :
    apR Z sb v cap (Z1.1, mjSi (wrL Z1.2 v1 t.length u) sb 3 (i3 ((t.length + u.length : Nat) : Int))) v1 cap1 (t ++ u) ∧ mjSi (wrL Z1.2 v1 t.length u) sb 3 (i3 ((t.length + u.length : Nat) : Int)) = wrL (mjSi Z1.2 sb 3 (i3 ((t.length + u.length : Nat) : Int))) v1 t.length u := by
  have hk1 := hB.1
  have hsv : ¬ sb = v1 := fun q => by have h9 := hB.2.2.2.2.1; rw [← q, hk1] at h9; exact absurd (show (19 : Nat) = 118 from congrArg Prod.fst h9) (by decide)
  refine ⟨⟨?_, h3, ?_, h5, h6, h7, ?_⟩, ?_⟩
  · refine bS_put (Z := Z1) hB h2 rfl rfl ?_ ?_ ?_ hu
    · intro k hk3
      exact (if_pos rfl).trans ((if_neg hk3).trans (if_neg hsv))
    · exact (if_pos rfl).trans (if_pos rfl)
    · intro j
      exact (if_neg (fun q => hsv q.symm)).trans (if_pos rfl)
  · refine frm_tr2 (frm_tr2 (frm_wk h4 (fun a _ q => Or.inl q)) (frm_wr (P := fun a => a = v1) rfl) ?_) (frm_si (P := fun a => a = sb) rfl) (fun a _ q => Or.inl q)
    intro a ha q
    rcases h5 with g | g
    · exact Or.inr (q.trans g)
    · exact absurd (q.trans g) (old_new hn ha)
  · rcases h8 with g | g
    · exact Or.inl g
    · right; rw [List.length_append]; exact g
  · refine Prod.ext ?_ rfl
    funext i j
    show (if i = sb then (if j = 3 then _ else (if i = v1 then _ else Z1.2.1 i j)) else (if i = v1 then (if _ then _ else Z1.2.1 i j) else Z1.2.1 i j)) = (if i = v1 then (if _ then _ else (if i = sb then (if j = 3 then _ else Z1.2.1 i j) else Z1.2.1 i j)) else (if i = sb then (if j = 3 then _ else Z1.2.1 i j) else Z1.2.1 i j))
    by_cases q : i = sb
    · have q2 : ¬ i = v1 := fun w => hsv (q.symm.trans w)
      rw [if_pos q, if_neg q2, if_neg q2, if_pos q]
    · by_cases q2 : i = v1
      · rw [if_neg q, if_pos q2, if_pos q2, if_neg q]
      · rw [if_neg q, if_neg q2, if_neg q2, if_neg q]
theorem q_apI {Z : mjQ} {sb v cap : Nat} {t : List Int32} {z : Int} (h : bS Z sb v cap t) (hn : Z.1.1 < 90000) (hz : -10000 < z ∧ z < 10000) (h5 : 5 ≤ t.length) (hl : t.length + (decZ z).length ≤ 19000) : ∃ Z2 v2 cap2, g230_append sg0 sb (i3 z) Z = some (sb, Z2) ∧ apR Z sb v cap Z2 v2 cap2 (t ++ decZ z) := by
  obtain ⟨Z1, v1, cap1, e1, hB, g2, g3, g4, g5, g6, g7, g8⟩ := q_ens (need := t.length + (decZ z).length) h hn hl
  obtain ⟨r1, -⟩ := ap_end hn hB g2 g3 g4 g5 g6 g7 g8 (fitB_of (decZ_fit z hz))
  refine ⟨_, v1, cap1, ?_, r1⟩
  have hk := h.1
  have hk1 := hB.1
  have hsv : ¬ sb = v1 := fun q => by have h9 := hB.2.2.2.2.1; rw [← q, hk1] at h9; exact absurd (show (19 : Nat) = 118 from congrArg Prod.fst h9) (by decide)
  have p2 : g205_append sg0 sb (i3 z) Z = some (sb, (Z1.1, mjSi (wrL Z1.2 v1 t.length (decZ z)) sb 3 (i3 ((t.length + (decZ z).length : Nat) : Int)))) := by
    unfold g205_append
    rw [qI_of (x := i3 t.length) hk (by decide) h.2.2.2.1, mjBp_some, q_size hz, mjBp_some, if_pos (ro_of hk), i3_add, ← Int.natCast_add, e1, mjBq_some, if_pos (ro_of hk1), q_lat hk1 hB.2.2.1, mjBp_some, if_neg (by decide), qR_of hk1 rfl hB.2.1, mjBp_some, q_chars hB.2.2.2.2.1 g2 (by have := hB.2.2.2.2.2.2.1; omega) hz h5, mjBq_some, qSi_of (Z := (Z1.1, wrL Z1.2 v1 t.length (decZ z))) hk1 rfl, mjBp_some]
  unfold g230_append
  rw [if_pos (ro_of hk), p2, mjBq_some]
theorem q_apC {Z : mjQ} {sb v cap c : Nat} {t : List Int32} (h : bS Z sb v cap t) (hn : Z.1.1 < 90000) (hc : c < 128) (hl : t.length + 1 ≤ 19000) : ∃ Z2 v2 cap2, g229_append sg0 sb (i3 c) Z = some (sb, Z2) ∧ apR Z sb v cap Z2 v2 cap2 (t ++ [i3 (c : Nat)]) := by
  obtain ⟨Z1, v1, cap1, e1, hB, g2, g3, g4, g5, g6, g7, g8⟩ := q_ens (need := t.length + 1) h hn hl
  obtain ⟨r1, r2⟩ := ap_end (u := [i3 (c : Nat)]) hn hB g2 g3 g4 g5 g6 g7 g8 (fitB_of (fun x hx => by rw [List.mem_singleton.1 hx]; exact (nar_c c hc).2))
  refine ⟨_, v1, cap1, ?_, r1⟩
  have hk := h.1
  have hk1 := hB.1
  have p2 : g204_append sg0 sb (i3 c) Z = some (sb, (Z1.1, mjSi (wrL Z1.2 v1 t.length [i3 (c : Nat)]) sb 3 (i3 ((t.length + 1 : Nat) : Int)))) := by
    unfold g204_append
    rw [qI_of (x := i3 t.length) hk (by decide) h.2.2.2.1, mjBp_some, if_pos (ro_of hk), show (1 : Int32) = i3 1 from rfl, i3_add, show (t.length : Int) + 1 = ((t.length + 1 : Nat) : Int) from by omega, e1, mjBq_some, if_pos (ro_of hk1), q_lat hk1 hB.2.2.1, mjBp_some, if_neg (by decide)]
    unfold g236_canEncode
    rw [show (255 : Int32) = i3 255 from rfl, if_neg (by rw [c_gt (by omega)]; omega), mjBp_some, if_neg (by decide), qR_of hk1 rfl hB.2.1, mjBp_some, qI_of (x := i3 t.length) hk1 (by decide) hB.2.2.2.1, mjBp_some, i3_add, show (t.length : Int) + 1 = ((t.length + 1 : Nat) : Int) from by omega, qSi_of hk1 rfl, mjBp_some, (nar_c c hc).1]
    rw [qSba_0 (Z := (Z1.1, mjSi Z1.2 sb 3 (i3 ((t.length + 1 : Nat) : Int)))) (p := t.length) (c := c) hB.2.2.2.2.1 (by omega) (by have := hB.2.2.2.2.2.2.1; omega) hc, mjBp_some]
    have w := wrL_cons (M := mjSi Z1.2 sb 3 (i3 ((t.length + 1 : Nat) : Int))) (v := v1) (p := t.length) (u := []) (c := i3 (c : Nat))
    rw [wrL_nil] at w
    show some (sb, (Z1.1, mjSi (mjSi Z1.2 sb 3 _) v1 t.length (i3 (c : Nat)))) = _
    rw [w]
    exact congrArg (fun m => some (sb, (Z1.1, m))) r2.symm
  unfold g229_append
  rw [if_pos (ro_of hk), p2, mjBq_some]
  rfl
