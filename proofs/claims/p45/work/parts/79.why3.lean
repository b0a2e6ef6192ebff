/-! WHY: those that are told; the query -/
/-- one behind another: how many, or the x-th -/
def enK (p : Nat → Bool) (c : Nat → Int) (x : Int) : Nat → Nat → Int → Int
  | 0, _, fd => if x = -1 then fd else -1
  | f + 1, k, fd => if p k = true then (if fd = x then c k else enK p c x f (k + 1) (fd + 1)) else enK p c x f (k + 1) fd
def enJ (q : Nat → Bool) (x : Int) : Nat → Nat → Int → Int
  | 0, _, _ => -1
  | f + 1, j, n => if q j = true then (if n = x then (j : Int) else enJ q x f (j + 1) (n + 1)) else enJ q x f (j + 1) n
theorem enJ_none {q : Nat → Bool} {x : Int} : ∀ f j n, (∀ i, j ≤ i → i < j + f → q i = false) → enJ q x f j n = -1
  | 0, j, n, _ => rfl
  | f + 1, j, n, h => by
    rw [enJ, h j (by omega) (by omega)]
    exact enJ_none f (j + 1) n (fun i h1 h2 => h i (by omega) (by omega))
section WX
variable {S : mjS} {fk : Nat → Int} {fr to : Nat} {b : Nat}
theorem e90u (hb : b = 2 ∨ b = 92) (hf : ∀ k, k ≤ 10 → -2147483648 ≤ fk k ∧ fk k ≤ 2147483647) (hw : WF S fr to) (hto : to ≤ 700) : ∀ f i n (Z : mjZt), i + f = to → f < n → fr ≤ i → wIn Z b S fk fr to → (∀ j, fr ≤ j → j < i → Z.1 193 j = i3 ((ywS S fk j).2)) → (∀ j, fr ≤ j → j < i → Z.1 194 j = i3 (if decide (j = to - 1) = true then 1 else 0)) → ∃ Z1, f90_choose_h3 n (b + 1) (i3 fr) (i3 to) (i3 i) Z = f90_choose_j64 (b + 1) (i3 fr) (i3 to) Z1 ∧ eqQ Z Z1 ∧ wIn Z1 b S fk fr to ∧ (∀ j, fr ≤ j → j < to → Z1.1 193 j = i3 ((ywS S fk j).2)) ∧ chR Z1 fr to (fun j => decide (j = to - 1))
  | f, i, 0, Z, _, hn, _, _, _, _ => by omega
  | 0, i, n + 1, Z, hf0, _, h1, hi, hWt, hc => by
    obtain rfl : i = to := by omega
    refine ⟨Z, ?_, eqQ_rf, hi, hWt, hc⟩
    rw [f90_choose_h3, show (0 : Int32) = i3 0 from rfl, if_neg (by rw [c_lt (by omega)]; omega), if_pos (by rw [c_ge (by omega)]; omega)]
  | f + 1, i, n + 1, Z, hf0, hn, h1, hi, hWt, hc => by
    have h2 : i < to := by omega
    have e := e88 hb hf hw hto hi h1 h2 hWt
    have next : ∀ v : Bool, v = decide (i = to - 1) → ∃ Z1, f90_choose_h3 n (b + 1) (i3 fr) (i3 to) (i3 ((i + 1 : Nat) : Int)) (zSi (zSi Z 193 i (i3 ((ywS S fk i).2))) 194 i (i3 (if v = true then 1 else 0))) = f90_choose_j64 (b + 1) (i3 fr) (i3 to) Z1 ∧ eqQ Z Z1 ∧ wIn Z1 b S fk fr to ∧ (∀ j, fr ≤ j → j < to → Z1.1 193 j = i3 ((ywS S fk j).2)) ∧ chR Z1 fr to (fun j => decide (j = to - 1)) := by
      intro v hv
      obtain ⟨Z1, r1, r2, r3⟩ := e90u hb hf hw hto f (i + 1) n (zSi (zSi Z 193 i (i3 ((ywS S fk i).2))) 194 i (i3 (if v = true then 1 else 0))) (by omega) (by omega) (by omega) (wIn_si hb (wIn_si hb hi (by omega)) (by omega)) (fun j h3 h4 => by
        rw [si_obj _ _ _ _ (by omega)]
        by_cases q : j = i
        · subst q; rw [si_same]
        · rw [si_fld _ _ _ _ (by omega)]; exact hWt j h3 (by omega)) (fun j h3 h4 => by
        by_cases q : j = i
        · subst q; rw [si_same, hv]
        · rw [si_fld _ _ _ _ (by omega), si_obj _ _ _ _ (by omega)]; exact hc j h3 (by omega))
      exact ⟨Z1, r1, eqQ_tr (eqQ_tr (eqQ_si (by omega)) (eqQ_si (by omega))) r2, r3⟩
    rw [f90_choose_h3, show (0 : Int32) = i3 0 from rfl, show (700 : Int32) = i3 700 from rfl, if_neg (by rw [c_lt (by omega)]; omega), if_neg (by rw [c_ge (by omega)]; omega), if_neg (by rw [c_ge (by omega)]; omega), e, mjBp_some, if_pos (in_p (by omega)), let_eq, ix_nat (by omega), i3_p, i3_s]
    by_cases q : i = to - 1
    · obtain ⟨Z1, r1, r2⟩ := next true (decide_eq_true q).symm
      refine ⟨Z1, ?_, r2⟩
      rw [if_neg (by rw [c_ne (by omega)]; omega), let_eq]
      exact r1
    · obtain ⟨Z1, r1, r2⟩ := next false (decide_eq_false q).symm
      refine ⟨Z1, ?_, r2⟩
      rw [if_pos (by rw [c_ne (by omega)]; omega), let_eq]
      exact r1
theorem e91h (hb : b = 2 ∨ b = 92) (hw : WF S fr to) (hto : to ≤ 700) {x : Int} (hx : -2147483648 ≤ x ∧ x ≤ 2147483647) {Z : mjZt} (hi : cOne Z b S fr to) {ch : Nat → Bool} (hc : chR Z fr to ch) : ∀ f i n (fd : Int), i + f = to → f < n → fr ≤ i → 0 ≤ fd → fd ≤ i → f91_reason_h32 n (b + 1) (i3 x) (i3 to) (i3 fd) (i3 i) Z = some (i3 (enK (fun k => isCm (S 9 k) && ch k) (ciS S fr) x f i fd), Z)
  | f, i, 0, fd, _, hn, _, _, _ => by omega
  | 0, i, n + 1, fd, hf0, _, h1, h3, h4 => by
    rw [f91_reason_h32, enK, show (0 : Int32) = i3 0 from rfl, show ((-1) : Int32) = i3 (-1) from rfl, if_neg (by rw [c_lt (by omega)]; omega), if_pos (by rw [c_ge (by omega)]; omega)]
    by_cases q : x = -1
    · rw [if_neg (by rw [c_ne (by omega)]; omega), if_pos q]
    · rw [if_pos (by rw [c_ne (by omega)]; exact q), if_neg q]
  | f + 1, i, n + 1, fd, hf0, hn, h1, h3, h4 => by
    have h2 : i < to := by omega
    obtain ⟨g1, _⟩ := hw.2.2.2 i h1 h2
    obtain ⟨c1, c2, c3⟩ := hi i h1 h2
    have ih1 := e91h hb hw hto hx hi hc f (i + 1) n (fd + 1) (by omega) (by omega) (by omega) (by omega) (by omega)
    have ih0 := e91h hb hw hto hx hi hc f (i + 1) n fd (by omega) (by omega) (by omega) (by omega) (by omega)
    have o13 : 0 ≤ opC (S 9 i) ∧ opC (S 9 i) ≤ 12 ∧ (isCm (S 9 i) = true ↔ 7 ≤ opC (S 9 i) ∧ opC (S 9 i) ≤ 9) := by
      unfold cdv at g1
      rcases (by omega : 100 ≤ S 9 i ∨ (1 ≤ S 9 i ∧ S 9 i ≤ 11) ∨ S 9 i = 21 ∨ S 9 i = 22 ∨ S 9 i = 23 ∨ S 9 i = 30 ∨ S 9 i = 31 ∨ S 9 i = 32 ∨ S 9 i = 40 ∨ S 9 i = 41 ∨ S 9 i = 42) with c | c | c | c | c | c | c | c | c | c | c
      · rw [show opC (S 9 i) = 0 from if_pos c]; simp only [isCm, decide_eq_true_eq]; omega
      · rw [show opC (S 9 i) = 1 from (if_neg (by omega)).trans (if_pos (by omega))]; simp only [isCm, decide_eq_true_eq]; omega
      all_goals (rw [c]; decide)
    obtain ⟨o1, o2, o3⟩ := o13
    rw [f91_reason_h32, enK, show (0 : Int32) = i3 0 from rfl, show (700 : Int32) = i3 700 from rfl, if_neg (by rw [c_lt (by omega)]; omega), if_neg (by rw [c_ge (by omega)]; omega), if_neg (by rw [c_ge (by omega)]; omega), if_pos (in_p (by omega)), ix_nat (by omega), hc i h1 h2, i3_s]
    cases q1 : ch i with
    | false =>
      rw [if_pos (by decide), Bool.and_false, if_neg (by decide)]
      exact ih0
    | true =>
      rw [if_neg (by decide), if_pos (is_b1 hb), e79 hb (by omega), mjBp_some, c1, e58 (by omega), mjBp_some, Bool.and_true]
      cases q2 : isCm (S 9 i) with
      | false =>
        rw [q2] at o3
        rw [if_neg (c := 7 ≤ opC (S 9 i) ∧ opC (S 9 i) ≤ 9) (fun h => by have := o3.mpr h; cases this), if_pos (by decide), if_neg (by decide)]
        exact ih0
      | true =>
        rw [q2] at o3
        have q2' := q2
        simp only [isCm, decide_eq_true_eq] at q2'
        rw [if_pos (o3.mp rfl), if_neg (by decide), if_pos rfl]
        by_cases q3 : fd = x
        · rw [if_neg (by rw [c_ne (by omega)]; omega), e80 hb (by omega), mjBp_some, c2, if_pos q3, show nuC S fr i = ciS S fr i from (if_neg (by omega)).trans ((if_neg (by omega)).trans (if_pos q2))]
        · rw [if_pos (by rw [c_ne (by omega)]; exact q3), if_neg q3, show (1 : Int32) = i3 1 from rfl, i3_add]
          exact ih1
/-- those chosen are those that tell the whole -/
theorem enK_congr {p q : Nat → Bool} {c : Nat → Int} {x : Int} : ∀ f i fd, (∀ k, i ≤ k → k < i + f → p k = q k) → enK p c x f i fd = enK q c x f i fd
  | 0, i, fd, _ => rfl
  | f + 1, i, fd, h => by
    rw [enK, enK, h i (by omega) (by omega), enK_congr f (i + 1) (fd + 1) (fun k h1 h2 => h k (by omega) (by omega)), enK_congr f (i + 1) fd (fun k h1 h2 => h k (by omega) (by omega))]
theorem e91 (hb : b = 2 ∨ b = 92) (ho : okS S) (hoc : okC S) (hf : ∀ k, k ≤ 10 → -2147483648 ≤ fk k ∧ fk k ≤ 2147483647) {Z : mjZt} (ht : cTr Z b S) {r p : Nat} (hr : r < sR S) (hp : p < 2) (hlt : sFr S r p < sTo S r p) (hv : ∀ j, sFr S r p ≤ j → j < sTo S r p → Z.2.1 192 j = i6 (vS S fk j)) {x : Int} (hx : -2147483648 ≤ x ∧ x ≤ 2147483647) : ∃ Z1, f91_reason (b + 1) (i3 r) (i3 p) (i3 x) Z = some (i3 (enK (fun k => isCm (S 9 k) && (ywS S fk (sTo S r p - 1)).1 k) (ciS S (sFr S r p)) x (sTo S r p - sFr S r p) (sFr S r p) 0), Z1) ∧ eqQ Z Z1 := by
  have o1 := ok_sc ho
  obtain ⟨c1, c2, c3, c4, c5, c6⟩ := hoc r p hr hp
  obtain ⟨t1, t2⟩ := ht r p hr hp
  rw [if_pos hlt] at t2
  have hw := (c6 hlt).1
  obtain ⟨Z1, r1, r2, r3, r4, r5⟩ := e90u hb hf hw c4 (sTo S r p - sFr S r p) (sFr S r p) mjF Z (by omega) (by unfold mjF; omega) (Nat.le_refl _) ⟨t1, hv⟩ (fun j h1 h2 => by omega) (fun j h1 h2 => by omega)
  obtain ⟨Z2, ch, s1, s2, s3, s4, s5⟩ := e90d hb hf hw c4 (sTo S r p - sFr S r p) mjF Z1 _ (by omega) (by unfold mjF; omega) r3 r4 r5 (Jn_0 hw)
  have e := e91h hb hw c4 hx s3.1 s4 (sTo S r p - sFr S r p) (sFr S r p) mjF 0 (by omega) (by unfold mjF; omega) (Nat.le_refl _) (by omega) (by omega)
  rw [enK_congr (q := fun k => isCm (S 9 k) && (ywS S fk (sTo S r p - 1)).1 k) _ _ _ (fun k h1 h2 => by
    cases q : isCm (S 9 k) with
    | false => rfl
    | true =>
      have := s5.1 k (by omega) (by omega) q
      simp only [Bool.true_and]; exact this)] at e
  refine ⟨Z2, ?_, eqQ_tr r2 s2⟩
  unfold f91_reason
  rw [if_pos (is_b1 hb), e77 hb (by omega) hp, mjBp_some, t2.1, e78 hb (by omega) hp t2.2.1 (by omega), mjBp_some]
  unfold f90_choose
  rw [r1]
  unfold f90_choose_j64
  rw [i3_p, show ((sTo S r p : Nat) : Int) - 1 = (sFr S r p : Int) + (sTo S r p - sFr S r p : Nat) - 1 by omega, s1, mjBd_some]
  exact e
/-! the model -/
theorem m295h {x : Int} (hx : -2147483648 ≤ x ∧ x ≤ 2147483647) {Z : mjZt} : ∀ (f j n : Nat) (m : Int), j + f = 180 → f < n → 0 ≤ m → m ≤ j → f295_why_h40 n (i3 x) (i3 m) (i3 j) Z = some (i3 (enJ (whB Z 0) x f j m), Z)
  | f, j, 0, m, _, hn, _, _ => by omega
  | 0, j, n + 1, m, hf, _, _, _ => by
    obtain rfl : j = 180 := by omega
    rw [f295_why_h40, enJ, if_pos (by decide)]; rfl
  | f + 1, j, n + 1, m, hf, hn, h0, h1 => by
    have ih1 := m295h hx (Z := Z) f (j + 1) n (m + 1) (by omega) (by omega) (by omega) (by omega)
    have ih0 := m295h hx (Z := Z) f (j + 1) n m (by omega) (by omega) (by omega) (by omega)
    have j101 : ∀ (v : Int64), v &&& 1 = i6 (if whB Z 0 j = true then 1 else 0) → f295_why_j101 (f295_why_h40 n) (i3 x) (i3 m) (i3 j) v Z = some (i3 (enJ (whB Z 0) x (f + 1) j m), Z) := by
      intro v hv
      unfold f295_why_j101
      rw [hv, enJ, i3_s]
      cases q : whB Z 0 j with
      | false =>
        rw [if_neg (by decide), if_neg (by decide)]
        exact ih0
      | true =>
        rw [if_pos (by decide), if_pos rfl]
        by_cases q2 : m = x
        · rw [if_neg (by rw [c_ne (by omega)]; omega), if_pos q2]
        · rw [if_pos (by rw [c_ne (by omega)]; exact q2), if_neg q2, show (1 : Int32) = i3 1 from rfl, i3_add]
          exact ih1
    rw [f295_why_h40, show (180 : Int32) = i3 180 from rfl, show (60 : Int32) = i3 60 from rfl, show (120 : Int32) = i3 120 from rfl, if_neg (by rw [c_ge (by omega)]; omega)]
    by_cases q : j < 60
    · rw [if_neg (by rw [c_ge (by omega)]; omega)]
      refine j101 _ ?_
      rw [show (1 : Int64) = i6 1 from rfl, b6_test (by omega)]
      unfold whB; rw [if_pos q]
    · rw [if_pos (by rw [c_ge (by omega)]; omega)]
      by_cases q2 : j < 120
      · rw [if_neg (by rw [c_ge (by omega)]; omega)]
        refine j101 _ ?_
        rw [show (1 : Int64) = i6 1 from rfl, i3_sub, show (j : Int) - 60 = ((j - 60 : Nat) : Int) by omega, b6_test (by omega)]
        unfold whB; rw [if_neg q, if_pos q2]
      · rw [if_pos (by rw [c_ge (by omega)]; omega)]
        refine j101 _ ?_
        rw [show (1 : Int64) = i6 1 from rfl, i3_sub, show (j : Int) - 120 = ((j - 120 : Nat) : Int) by omega, b6_test (by omega)]
        unfold whB; rw [if_neg q, if_neg q2]
/-- the class's numbers are the model's bits -/
theorem en_eq (hw : WF S fr to) (hnc : ciS S fr to ≤ 180) {X : Nat → Bool} {bit : Nat → Bool} (hbit : ∀ j, j < 180 → (bit j = true ↔ ∃ k, fr ≤ k ∧ k < to ∧ isCm (S 9 k) = true ∧ ciS S fr k = j ∧ X k = true)) {x : Int} (hx : x ≠ -1) : ∀ f k (fd : Int) (j : Nat), k + f = to → fr ≤ k → ciS S fr k = j → enK (fun k => isCm (S 9 k) && X k) (ciS S fr) x f k fd = enJ bit x (180 - j) j fd
  | 0, k, fd, j, hf, h1, hj => by
    obtain rfl : k = to := by omega
    rw [enK, if_neg hx, enJ_none]
    intro i h2 h3
    cases q : bit i with
    | false => rfl
    | true =>
      obtain ⟨k', k1, k2, k3, k4, _⟩ := (hbit i (by omega)).mp q
      have m1 := ci_s S k1
      rw [if_pos k3] at m1
      have m2 := ci_le S (show fr ≤ k' + 1 by omega) (show k' + 1 ≤ k by omega)
      omega
  | f + 1, k, fd, j, hf, h1, hj => by
    have m1 := ci_s S h1
    rw [enK]
    cases q : isCm (S 9 k) with
    | false =>
      rw [q] at m1
      simp only [Bool.false_eq_true, if_false, Int.add_zero] at m1
      simp only [Bool.false_and, Bool.false_eq_true, if_false]
      exact en_eq hw hnc hbit hx f (k + 1) fd j (by omega) (by omega) (by omega)
    | true =>
      rw [q, if_pos rfl] at m1
      have m2 := ci_le S (show fr ≤ k + 1 by omega) (show k + 1 ≤ to by omega)
      have hb : bit j = X k := by
        have := hbit j (by omega)
        cases q2 : X k with
        | true => rw [this.mpr ⟨k, h1, by omega, q, hj, q2⟩]
        | false =>
          cases q3 : bit j with
          | false => rfl
          | true =>
            obtain ⟨k', k1, k2, k3, k4, k5⟩ := this.mp q3
            have : k' = k := by
              rcases Nat.lt_trichotomy k' k with h | h | h
              · have a1 := ci_s S k1
                rw [if_pos k3] at a1
                have a2 := ci_le S (show fr ≤ k' + 1 by omega) (show k' + 1 ≤ k by omega)
                omega
              · exact h
              · have a2 := ci_le S (show fr ≤ k + 1 by omega) (show k + 1 ≤ k' by omega)
                omega
            rw [this, q2] at k5; cases k5
      rw [show 180 - j = (180 - (j + 1)) + 1 by omega, enJ, hb, Bool.true_and, hj]
      have i1 := en_eq hw hnc hbit hx f (k + 1) (fd + 1) (j + 1) (by omega) (by omega) (by omega)
      have i0 := en_eq hw hnc hbit hx f (k + 1) fd (j + 1) (by omega) (by omega) (by omega)
      rw [i1, i0]
/-- how many -/
theorem en_cnt (hw : WF S fr to) : ∀ n e, e < n → fr ≤ e → e < to → cN (fun j => (ywS S fk e).1 (fr + j)) (to - fr) = (ywS S fk e).2
  | 0, e, hn, _, _ => by omega
  | n + 1, e, hn, h1, h2 => by
    obtain ⟨g1, g2, g3⟩ := hw.2.2.2 e h1 h2
    have s0 := sp_le S e
    cases q : isLf (S 9 e) with
    | true => rw [show ywS S fk e = (fun _ => false, 0) from tS_leaf q]; exact cN_zero _ (fun i _ => rfl)
    | false =>
      by_cases q2 : S 9 e = 40
      · obtain ⟨g4, g5, g6⟩ := g2 q2
        rw [show ywS S fk e = ywS S fk (e - 1) from tS_not q2 (by omega)]
        exact en_cnt hw n (e - 1) (by omega) (by omega) (by omega)
      · obtain ⟨g4, g5, g6, _⟩ := g3 q q2
        have s1 := sp_le S (e - 1)
        have s2 := sp_le S (lfS S e)
        have e1 : lfS S e = spS S (e - 1) - 1 := rfl
        have il := en_cnt hw n (lfS S e) (by omega) (by omega) (by omega)
        have ir := en_cnt hw n (e - 1) (by omega) (by omega) (by omega)
        rw [show ywS S fk e = ywB S fk e (ywS S fk (lfS S e)) (ywS S fk (e - 1)) from tS_bin q q2 (by omega)]
        unfold ywB
        split
        · split
          · split
            · exact ir
            · exact il
          · show cN (fun j => (ywS S fk (lfS S e)).1 (fr + j) || (ywS S fk (e - 1)).1 (fr + j)) (to - fr) = (ywS S fk (lfS S e)).2 + (ywS S fk (e - 1)).2
            rw [← il, ← ir]
            refine cN_or _ (fun i hi => ?_)
            rintro ⟨a1, a2⟩
            have b1 := yw_sup hw (lfS S e + 1) (lfS S e) (by omega) (by omega) (by omega) a1
            have b2 := yw_sup hw (e - 1 + 1) (e - 1) (by omega) (by omega) (by omega) a2
            omega
        · split
          · show cN (fun j => decide (fr + j = e)) (to - fr) = 1
            rw [cN_congr (q := fun j => decide (j = e - fr)) _ (fun i hi => decide_eq_decide.mpr (by omega)), cN_one, if_pos (by omega)]
          · exact cN_zero _ (fun i _ => rfl)
theorem en_all {p : Nat → Bool} {c : Nat → Int} : ∀ f k (fd : Int), fr ≤ k → 0 ≤ fd → enK p c (-1) f k fd = fd + (cN (fun j => p (fr + j)) (k + f - fr) - cN (fun j => p (fr + j)) (k - fr))
  | 0, k, fd, h1, h0 => by
    rw [enK, if_pos rfl, Nat.add_zero]; omega
  | f + 1, k, fd, h1, h0 => by
    have i1 := en_all (p := p) (c := c) f (k + 1) (fd + 1) (by omega) (by omega)
    have i0 := en_all (p := p) (c := c) f (k + 1) fd (by omega) (by omega)
    have e1 : cN (fun j => p (fr + j)) (k + 1 - fr) = cN (fun j => p (fr + j)) (k - fr) + (if p k = true then 1 else 0) := by
      rw [show k + 1 - fr = (k - fr) + 1 by omega, cN, show fr + (k - fr) = k by omega]
    rw [show k + 1 + f = k + (f + 1) by omega] at i1 i0
    rw [enK]
    by_cases q : p k = true
    · rw [if_pos q] at e1
      rw [if_pos q, if_neg (by omega), i1, e1]; omega
    · rw [if_neg q] at e1
      rw [if_neg q, i0, e1]; omega
theorem q_why {Z Zm : mjZt} (hb : Z.2.2.1 = b) (h : cBk Z b S) (hd : cDr Z b S) (htr : cTr Z b S) (ho : okS S) (hoc : okC S) (hm : mRep Zm S) (hW : mWv Zm S (sW S)) (x y w u : Int32) : ∃ v Z1, f175_why x y w u Z = some (v, Z1) ∧ eqQ Z Z1 ∧ ∃ Z2, f295_why x y w u Zm = some (v, Z2) ∧ eqQ Zm Z2 := by
  have hb2 := b_b h
  unfold f175_why f295_why
  rcases asked hb h hd htr ho hoc hm x y w with ⟨q1, q2⟩ | ⟨q1, q2, r, p, a, rfl, rfl, rfl, hr, hp, ha, hlt⟩
  · rw [q1, mjBp_some, q2, mjBp_some]
    exact ⟨_, Z, rfl, eqQ_rf, Zm, rfl, eqQ_rf⟩
  · obtain ⟨u, rfl, hu1, hu2⟩ := i3_ex u
    obtain ⟨_, _, c3, c4, _, c6⟩ := hoc r p hr hp
    have hw := (c6 hlt).1
    have hf := fk_bd ho (W := sW S) ha (te_bd ho ha) (sz := sSz S a) (by have := sz_bd ho ha; omega)
    obtain ⟨Z1, r1, r2, r3⟩ := e75 h hd ho ha
    have hb1 : Z1.2.2.1 = b := by rw [r2.1, hb]
    have tr1 := cTr_of htr (eqQ_B hb2 (eqF_q r2))
    obtain ⟨Z2, s1, s2, s3⟩ := e85 hb2 ho hoc hf tr1 hr hp hlt r3
    have hb3 : Z2.2.2.1 = b := by rw [s2.2.1, hb1]
    obtain ⟨Z3, t1, t2⟩ := e91 hb2 ho hoc hf (cTr_of tr1 (eqQ_B hb2 (eqV_q s2))) hr hp hlt s3 (x := u) ⟨hu1, hu2⟩
    obtain ⟨Z4, v1, v2, w1, w2, w3⟩ := m290 ho hoc hf hm hr hp hlt (i3 a) (fun Z' e k hk => m280 (mRep_q hm e) ho (mWv_q hW e) ha hk)
    refine ⟨i3 (enK (fun k => isCm (S 9 k) && (ywS S (sFk S (sW S) a (sTe S a) (sSz S a)) (sTo S r p - 1)).1 k) (ciS S (sFr S r p)) u (sTo S r p - sFr S r p) (sFr S r p) 0), Z3, ?_, eqQ_tr (eqQ_tr (eqF_q r2) (eqV_q s2)) t2, Z4, ?_, v2⟩
    · rw [q1, mjBp_some, if_pos (by decide), hb, r1, mjBd_some, hb1, if_pos (is_b hb2), s1, mjBd_some, hb3, if_pos (is_b hb2), t1, mjBd_some]
    · rw [q2, mjBp_some, if_pos (by decide), v1, mjBd_some, show ((-1) : Int32) = i3 (-1) from rfl]
      by_cases q : u = -1
      · rw [if_neg (by rw [c_ne (by omega)]; omega)]
        have m := m284 (Z := Z4) (h := 0) (by omega)
        rw [w3] at m
        rw [show i3 ((0 : Nat) : Int) = 0 from rfl] at m
        rw [m, mjBp_some, q, en_all (fr := sFr S r p) _ _ _ (Nat.le_refl _) (Int.le_refl 0), Nat.sub_self, show sFr S r p + (sTo S r p - sFr S r p) - sFr S r p = sTo S r p - sFr S r p by omega]
        rw [cN_congr (q := fun j => (ywS S (sFk S (sW S) a (sTe S a) (sSz S a)) (sTo S r p - 1)).1 (sFr S r p + j)) (sTo S r p - sFr S r p) (fun i hi => by
          cases q5 : (ywS S (sFk S (sW S) a (sTe S a) (sSz S a)) (sTo S r p - 1)).1 (sFr S r p + i) with
          | false => exact Bool.and_false _
          | true =>
            have := yw_sup hw (sTo S r p - 1 + 1) (sTo S r p - 1) (by omega) (by omega) (by omega) q5
            rw [this.2.2]; rfl), en_cnt hw (sTo S r p - 1 + 1) (sTo S r p - 1) (by omega) (by omega) (by omega)]
        simp [cN]
      · rw [if_pos (by rw [c_ne (by omega)]; exact q)]
        have m := m295h (Z := Z4) ⟨hu1, hu2⟩ 180 0 mjF 0 (by omega) (by unfold mjF; omega) (by omega) (by omega)
        rw [show i3 ((0 : Nat) : Int) = 0 from rfl, show i3 0 = (0 : Int32) from rfl] at m
        have e := en_eq hw (c6 hlt).2 (X := (ywS S (sFk S (sW S) a (sTe S a) (sSz S a)) (sTo S r p - 1)).1) (bit := whB Z4 0) (fun j hj => by
          refine Iff.trans (w2 j hj) ?_
          rw [hw.2.2.1]
          constructor
          · rintro ⟨k, k1, k2, k3⟩; exact ⟨k, k1, by omega, k3⟩
          · rintro ⟨k, k1, k2, k3⟩; exact ⟨k, k1, by omega, k3⟩) q (sTo S r p - sFr S r p) (sFr S r p) 0 0 (by omega) (Nat.le_refl _) (ci_0 _ _)
        rw [m, e]
end WX
