/-! THE MATHEMATICAL STATE of what was told: S field place; fields: 0 track (LEGS, LENGTH, BEFORE, AFTER, CUT), 1 lanes, 2 legs told, 3 now (legs: 12 t + 2 l tenths, + 1 metres; acts: 72 + 3 a tenth, size, waived), 4 5 6 kind, team, other of an act, 7 kinds of rules, 8 where codes stand, 9 codes, 10 scalars (teams, acts, rules, through, within), 11 12 letters of names (8 k + i) -/
abbrev mjS : Type := Nat → Nat → Int
def sLg (S : mjS) : Nat := (S 0 0).toNat
def sTr (S : mjS) (k : Nat) : Int := S 0 k
def sLn (S : mjS) (t : Nat) : Int := S 1 t
def sTd (S : mjS) (t : Nat) : Nat := (S 2 t).toNat
def sNw (S : mjS) (k : Nat) : Int := S 3 k
def sT (S : mjS) : Nat := (S 10 0).toNat
def sA (S : mjS) : Nat := (S 10 1).toNat
def sR (S : mjS) : Nat := (S 10 2).toNat
def sTh (S : mjS) : Int := S 10 3
def sWi (S : mjS) : Int := S 10 4
/-- tenths, metres of a leg (from 0 on); where and when leg l (from 1 on) ends -/
def sTn (S : mjS) (t l : Nat) : Int := S 3 (12 * t + 2 * l)
def sMt (S : mjS) (t l : Nat) : Int := S 3 (12 * t + 2 * l + 1)
def sEn (S : mjS) (t : Nat) : Nat → Int
  | 0 => 0
  | l + 1 => sEn S t l + sTn S t l
def sPs (S : mjS) (t : Nat) : Nat → Int
  | 0 => 0
  | l + 1 => 10 * ((l + 1 : Int) * S 0 1 + sMt S t l)
def sTm (S : mjS) (t : Nat) : Int := sEn S t (sTd S t)
/-- which leg (from 0 on) at a tenth -/
def sLaF (S : mjS) (t : Nat) (k : Int) : Nat → Nat → Nat
  | 0, l => l
  | f + 1, l => if sEn S t (l + 1) < k then sLaF S t k f (l + 1) else l
def sLa (S : mjS) (t : Nat) (k : Int) : Nat := sLaF S t k (sTd S t - 1) 0
def sPl (S : mjS) (t : Nat) (k : Int) : Int :=
  if sTd S t = 0 ∨ k ≤ 0 then 0
  else if sTn S t (sLa S t k) ≤ k - sEn S t (sLa S t k) then sPs S t (sLa S t k + 1)
  else sPs S t (sLa S t k) + (k - sEn S t (sLa S t k)) * (sPs S t (sLa S t k + 1) - sPs S t (sLa S t k)) / sTn S t (sLa S t k)
/-- the acts: those told, then boxes -/
def sBx (S : mjS) (t : Nat) : Nat := if sTd S t < sLg S then sTd S t else sLg S - 1
def sBs (S : mjS) : Nat → Nat
  | 0 => 0
  | t + 1 => sBs S t + sBx S t
def sAll (S : mjS) : Nat := sA S + sBs S (sT S)
def sBtF (S : mjS) : Nat → Nat → Nat → Nat
  | 0, _, t => t
  | f + 1, k, t => if k < sBx S t then t else sBtF S f (k - sBx S t) (t + 1)
/-- team and leg (from 0 on) of a box -/
def sBt (S : mjS) (k : Nat) : Nat := sBtF S 6 k 0
def sBl (S : mjS) (k : Nat) : Nat := k - sBs S (sBt S k)
def sKd (S : mjS) (a : Nat) : Int := if a < sA S then S 4 a else 4
def sTmA (S : mjS) (a : Nat) : Nat := if a < sA S then (S 5 a).toNat else sBt S (a - sA S)
def sOt (S : mjS) (a : Nat) : Int := if a < sA S then S 6 a else -1
def sTe (S : mjS) (a : Nat) : Int := if a < sA S then S 3 (72 + 3 * a) else sEn S (sBt S (a - sA S)) (sBl S (a - sA S) + 1)
def sOut (S : mjS) (m : Int) : Int := if m < -(S 0 2) then -(S 0 2) - m else if S 0 3 < m then m - S 0 3 else 0
def sSz (S : mjS) (a : Nat) : Int := if a < sA S then S 3 (72 + 3 * a + 1) else sOut S (sMt S (sBt S (a - sA S)) (sBl S (a - sA S)))
/-- what a good state is -/
def okS (S : mjS) : Prop :=
  (sT S ≤ 6 ∧ sA S ≤ 12 ∧ sR S ≤ 8 ∧ sLg S ≤ 6) ∧ (0 ≤ S 0 0 ∧ 0 ≤ S 0 1 ∧ S 0 1 ≤ 400 ∧ 0 ≤ S 0 2 ∧ S 0 2 ≤ 20 ∧ 0 ≤ S 0 3 ∧ S 0 3 ≤ 20 ∧ 0 ≤ S 0 4 ∧ S 0 4 ≤ S 0 1) ∧
  (1 ≤ sTh S ∧ sTh S ≤ 6 ∧ 0 ≤ sWi S ∧ sWi S ≤ 99) ∧ (0 < sT S → 2 ≤ sLg S ∧ 50 ≤ S 0 1) ∧
  (∀ t, t < sT S → 1 ≤ sLn S t ∧ sLn S t ≤ 9 ∧ sTd S t ≤ sLg S ∧ 0 ≤ S 2 t) ∧
  (∀ t t2, t < sT S → t2 < sT S → sLn S t = sLn S t2 → t = t2) ∧
  (∀ t l, t < sT S → l < sTd S t → 20 ≤ sTn S t l ∧ sTn S t l ≤ 999 ∧ -20 ≤ sMt S t l ∧ sMt S t l ≤ 20 ∧ (l + 1 = sLg S → sMt S t l = 0)) ∧
  (∀ a, a < sA S → 0 ≤ S 4 a ∧ S 4 a ≤ 3 ∧ 0 ≤ S 5 a ∧ (S 5 a).toNat < sT S ∧ (S 4 a = 3 → 0 ≤ S 6 a ∧ (S 6 a).toNat < sT S ∧ S 6 a ≠ S 5 a) ∧ (S 4 a ≠ 3 → S 6 a = -1) ∧ 0 ≤ S 3 (72 + 3 * a) ∧ S 3 (72 + 3 * a) ≤ 9999 ∧ 0 ≤ S 3 (72 + 3 * a + 1) ∧ S 3 (72 + 3 * a + 1) ≤ 99 ∧ (S 3 (72 + 3 * a + 2) = 0 ∨ S 3 (72 + 3 * a + 2) = 1)) ∧
  (∀ r, r < sR S → 0 ≤ S 7 r ∧ S 7 r ≤ 4)
theorem ok_sc {S : mjS} (h : okS S) : sT S ≤ 6 ∧ sA S ≤ 12 ∧ sR S ≤ 8 ∧ sLg S ≤ 6 := h.1
theorem ok_tr {S : mjS} (h : okS S) : 0 ≤ S 0 0 ∧ 0 ≤ S 0 1 ∧ S 0 1 ≤ 400 ∧ 0 ≤ S 0 2 ∧ S 0 2 ≤ 20 ∧ 0 ≤ S 0 3 ∧ S 0 3 ≤ 20 ∧ 0 ≤ S 0 4 ∧ S 0 4 ≤ S 0 1 := h.2.1
theorem ok_lg {S : mjS} (h : okS S) : S 0 0 = (sLg S : Int) := by have := h.2.1.1; simp only [sLg]; omega
theorem ok_tw {S : mjS} (h : okS S) : 1 ≤ sTh S ∧ sTh S ≤ 6 ∧ 0 ≤ sWi S ∧ sWi S ≤ 99 := h.2.2.1
theorem ok_pos {S : mjS} (h : okS S) (ht : 0 < sT S) : 2 ≤ sLg S ∧ 50 ≤ S 0 1 := h.2.2.2.1 ht
theorem ok_tm {S : mjS} (h : okS S) {t : Nat} (ht : t < sT S) : 1 ≤ sLn S t ∧ sLn S t ≤ 9 ∧ sTd S t ≤ sLg S ∧ 0 ≤ S 2 t := h.2.2.2.2.1 t ht
theorem ok_ln {S : mjS} (h : okS S) {t t2 : Nat} (ht : t < sT S) (ht2 : t2 < sT S) (e : sLn S t = sLn S t2) : t = t2 := h.2.2.2.2.2.1 t t2 ht ht2 e
theorem ok_leg {S : mjS} (h : okS S) {t l : Nat} (ht : t < sT S) (hl : l < sTd S t) : 20 ≤ sTn S t l ∧ sTn S t l ≤ 999 ∧ -20 ≤ sMt S t l ∧ sMt S t l ≤ 20 ∧ (l + 1 = sLg S → sMt S t l = 0) := h.2.2.2.2.2.2.1 t l ht hl
theorem ok_act {S : mjS} (h : okS S) {a : Nat} (ha : a < sA S) : 0 ≤ S 4 a ∧ S 4 a ≤ 3 ∧ 0 ≤ S 5 a ∧ (S 5 a).toNat < sT S ∧ (S 4 a = 3 → 0 ≤ S 6 a ∧ (S 6 a).toNat < sT S ∧ S 6 a ≠ S 5 a) ∧ (S 4 a ≠ 3 → S 6 a = -1) ∧ 0 ≤ S 3 (72 + 3 * a) ∧ S 3 (72 + 3 * a) ≤ 9999 ∧ 0 ≤ S 3 (72 + 3 * a + 1) ∧ S 3 (72 + 3 * a + 1) ≤ 99 ∧ (S 3 (72 + 3 * a + 2) = 0 ∨ S 3 (72 + 3 * a + 2) = 1) := h.2.2.2.2.2.2.2.1 a ha
theorem ok_rl {S : mjS} (h : okS S) {r : Nat} (hr : r < sR S) : 0 ≤ S 7 r ∧ S 7 r ≤ 4 := h.2.2.2.2.2.2.2.2 r hr
/-- bounds of what follows -/
theorem en_bd {S : mjS} (h : okS S) {t : Nat} (ht : t < sT S) : ∀ l, l ≤ sTd S t → 20 * (l : Int) ≤ sEn S t l ∧ sEn S t l ≤ 999 * (l : Int)
  | 0, _ => by simp [sEn]
  | l + 1, hl => by
    have h1 := en_bd h ht l (by omega)
    have h2 := ok_leg h ht (l := l) (by omega)
    rw [sEn]
    omega
theorem en_step {S : mjS} (h : okS S) {t : Nat} (ht : t < sT S) {l : Nat} (hl : l < sTd S t) : sEn S t (l + 1) = sEn S t l + sTn S t l := rfl
theorem en_mono {S : mjS} (h : okS S) {t : Nat} (ht : t < sT S) {l : Nat} : ∀ m, l + m ≤ sTd S t → sEn S t l ≤ sEn S t (l + m)
  | 0, _ => by simp
  | m + 1, hm => by
    have h1 := en_mono h ht (l := l) m (by omega)
    have h2 := ok_leg h ht (l := l + m) (by omega)
    rw [← Nat.add_assoc, sEn]
    omega
theorem tm_bd {S : mjS} (h : okS S) {t : Nat} (ht : t < sT S) : 0 ≤ sTm S t ∧ sTm S t ≤ 5994 := by
  have h1 := en_bd h ht (sTd S t) (Nat.le_refl _)
  have h2 := ok_tm h ht
  have h3 := ok_sc h
  rw [sTm]
  omega
theorem mul_bd {n : Nat} {x : Int} (hn : n ≤ 6) (h0 : 0 ≤ x) (hx : x ≤ 400) : 0 ≤ (n : Int) * x ∧ (n : Int) * x ≤ 2400 := by
  have h1 := Int.mul_nonneg (Int.natCast_nonneg n) h0
  have h2 : (n : Int) * x ≤ 6 * 400 := Int.mul_le_mul (by omega) hx h0 (by omega)
  omega
/-- places: each leg is at least 10 metres -/
theorem ps_bd {S : mjS} (h : okS S) {t : Nat} (ht : t < sT S) : ∀ l, l ≤ sTd S t → 0 ≤ sPs S t l ∧ sPs S t l ≤ 24200
  | 0, _ => by simp [sPs]
  | l + 1, hl => by
    have h1 := ok_leg h ht (l := l) (by omega)
    have h2 := ok_tm h ht
    have h3 := ok_sc h
    have h4 := ok_tr h
    have h6 := ok_pos h (by omega)
    have h5 := mul_bd (n := l + 1) (x := S 0 1) (by omega) (by omega) (by omega)
    have h7 : (1 : Int) * S 0 1 ≤ ((l + 1 : Nat) : Int) * S 0 1 := Int.mul_le_mul_of_nonneg_right (by omega) (by omega)
    rw [sPs]
    simp only [Int.natCast_add, Int.cast_ofNat_Int] at h5 h7
    omega
theorem ps_step {S : mjS} (h : okS S) {t : Nat} (ht : t < sT S) {l : Nat} (hl : l < sTd S t) : sPs S t l + 100 ≤ sPs S t (l + 1) ∧ sPs S t (l + 1) ≤ sPs S t l + 4400 := by
  have h1 := ok_leg h ht hl
  have h4 := ok_tr h
  have h6 := ok_pos h (by omega)
  cases l with
  | zero =>
    rw [sPs, sPs]
    simp only [Int.natCast_zero, Int.zero_add, Int.one_mul]
    omega
  | succ l =>
    have h2 := ok_leg h ht (l := l) (by omega)
    rw [sPs, sPs]
    simp only [Int.natCast_add, Int.cast_ofNat_Int]
    have e : ((l : Int) + 1 + 1) * S 0 1 = ((l : Int) + 1) * S 0 1 + S 0 1 := by rw [Int.add_mul ((l : Int) + 1) 1, Int.one_mul]
    rw [e]
    omega
theorem ps_mono {S : mjS} (h : okS S) {t : Nat} (ht : t < sT S) {l : Nat} : ∀ m, l + m ≤ sTd S t → sPs S t l + 100 * (m : Int) ≤ sPs S t (l + m)
  | 0, _ => by simp
  | m + 1, hm => by
    have h1 := ps_mono h ht (l := l) m (by omega)
    have h2 := ps_step h ht (l := l + m) (by omega)
    rw [← Nat.add_assoc]
    omega
theorem laF_spec (S : mjS) (t : Nat) (k : Int) : ∀ f l, l ≤ sLaF S t k f l ∧ sLaF S t k f l ≤ l + f ∧ (∀ j, l ≤ j → j < sLaF S t k f l → sEn S t (j + 1) < k) ∧ (sLaF S t k f l < l + f → k ≤ sEn S t (sLaF S t k f l + 1))
  | 0, l => by
    rw [sLaF]
    exact ⟨Nat.le_refl _, Nat.le_refl _, fun j h1 h2 => by omega, fun h => by omega⟩
  | f + 1, l => by
    rw [sLaF]
    split
    · rename_i hk
      obtain ⟨h1, h2, h3, h4⟩ := laF_spec S t k f (l + 1)
      refine ⟨by omega, by omega, fun j hj1 hj2 => ?_, fun h => h4 (by omega)⟩
      rcases Nat.lt_or_ge l j with hq | hq
      · exact h3 j (by omega) hj2
      · obtain rfl : j = l := by omega
        exact hk
    · rename_i hk
      exact ⟨Nat.le_refl _, by omega, fun j h1 h2 => by omega, fun _ => by omega⟩
theorem la_spec (S : mjS) (t : Nat) (k : Int) : sLa S t k ≤ sTd S t - 1 ∧ (∀ j, j < sLa S t k → sEn S t (j + 1) < k) ∧ (sLa S t k < sTd S t - 1 → k ≤ sEn S t (sLa S t k + 1)) := by
  obtain ⟨h1, h2, h3, h4⟩ := laF_spec S t k (sTd S t - 1) 0
  exact ⟨by unfold sLa; omega, fun j hj => h3 j (by omega) hj, fun h => h4 (by unfold sLa at h; omega)⟩
/-- the leg at a tenth of it -/
theorem la_leg {S : mjS} (h : okS S) {t : Nat} (ht : t < sT S) {l : Nat} (hl : l < sTd S t) {k : Int} (h1 : l = 0 ∨ sEn S t l < k) (h2 : k ≤ sEn S t (l + 1) ∨ l + 1 = sTd S t) : sLa S t k = l := by
  obtain ⟨g1, g2, g3⟩ := la_spec S t k
  rcases Nat.lt_trichotomy (sLa S t k) l with q | q | q
  · have q1 := g3 (by omega)
    rcases h1 with h1 | h1
    · omega
    · have q2 := en_mono h ht (l := sLa S t k + 1) (l - (sLa S t k + 1)) (by omega)
      rw [show sLa S t k + 1 + (l - (sLa S t k + 1)) = l by omega] at q2
      omega
  · exact q
  · have q1 := g2 l q
    rcases h2 with h2 | h2 <;> omega
theorem pl_zero {S : mjS} {t : Nat} {k : Int} (h : sTd S t = 0 ∨ k ≤ 0) : sPl S t k = 0 := by rw [sPl, if_pos h]
theorem pl_leg {S : mjS} (h : okS S) {t : Nat} (ht : t < sT S) {l : Nat} (hl : l < sTd S t) {k : Int} (h0 : 0 < k) (h1 : sEn S t l < k) (h2 : k ≤ sEn S t (l + 1)) : sPl S t k = sPs S t l + (k - sEn S t l) * (sPs S t (l + 1) - sPs S t l) / sTn S t l := by
  have e := la_leg h ht hl (k := k) (Or.inr h1) (Or.inl h2)
  have e2 := ok_leg h ht hl
  rw [sPl, if_neg (by omega), e]
  split
  · rename_i hq
    rw [sEn] at h2
    rw [show k - sEn S t l = sTn S t l by omega, Int.mul_ediv_cancel_left _ (by omega)]
    omega
  · rfl
theorem pl_end {S : mjS} (h : okS S) {t : Nat} (ht : t < sT S) (h0 : 0 < sTd S t) {k : Int} (h1 : sEn S t (sTd S t) ≤ k) : sPl S t k = sPs S t (sTd S t) := by
  have b1 := en_bd h ht (sTd S t) (Nat.le_refl _)
  have b2 := ok_leg h ht (l := sTd S t - 1) (by omega)
  have e0 : sEn S t (sTd S t) = sEn S t (sTd S t - 1) + sTn S t (sTd S t - 1) := by
    rw [← en_step h ht (l := sTd S t - 1) (by omega)]
    congr 1
    omega
  have e := la_leg h ht (l := sTd S t - 1) (by omega) (k := k) (Or.inr (by omega)) (Or.inr (by omega))
  rw [sPl, if_neg (by omega), e, if_pos (by omega)]
  congr 1
  omega
/-- each tenth is in a leg, or ahead of all, or behind all -/
theorem pl_cases {S : mjS} (h : okS S) {t : Nat} (ht : t < sT S) (k : Int) : (sTd S t = 0 ∨ k ≤ 0) ∨ (∃ l, l < sTd S t ∧ 0 < k ∧ sEn S t l < k ∧ k ≤ sEn S t (l + 1)) ∨ (0 < sTd S t ∧ 0 < k ∧ sEn S t (sTd S t) < k) := by
  by_cases h0 : sTd S t = 0 ∨ k ≤ 0
  · exact Or.inl h0
  · obtain ⟨g1, g2, g3⟩ := la_spec S t k
    by_cases h1 : k ≤ sEn S t (sLa S t k + 1)
    · refine Or.inr (Or.inl ⟨sLa S t k, by omega, by omega, ?_, h1⟩)
      rcases Nat.eq_zero_or_pos (sLa S t k) with q | q
      · rw [q, sEn]; omega
      · have := g2 (sLa S t k - 1) (by omega)
        rwa [show sLa S t k - 1 + 1 = sLa S t k by omega] at this
    · have : sLa S t k = sTd S t - 1 := by
        rcases Nat.lt_or_ge (sLa S t k) (sTd S t - 1) with q | q
        · exact absurd (g3 q) h1
        · omega
      rw [this, show sTd S t - 1 + 1 = sTd S t by omega] at h1
      exact Or.inr (Or.inr ⟨by omega, by omega, by omega⟩)
theorem frac_bd {d w T : Int} (hd : 0 ≤ d) (hdT : d ≤ T) (hT : 0 < T) (hw : 0 ≤ w) : 0 ≤ d * w / T ∧ d * w / T ≤ w := by
  constructor
  · exact Int.ediv_nonneg (Int.mul_nonneg hd hw) (by omega)
  · apply Int.ediv_le_of_le_mul hT
    rw [Int.mul_comm w T]
    exact Int.mul_le_mul_of_nonneg_right hdT hw
theorem pl_bd {S : mjS} (h : okS S) {t : Nat} (ht : t < sT S) (k : Int) : 0 ≤ sPl S t k ∧ sPl S t k ≤ 24200 := by
  rcases pl_cases h ht k with q | ⟨l, hl, h0, h1, h2⟩ | ⟨h0, _, h1⟩
  · rw [pl_zero q]; omega
  · have b1 := ps_bd h ht l (by omega)
    have b2 := ps_bd h ht (l + 1) (by omega)
    have b3 := ps_step h ht hl
    have b4 := ok_leg h ht hl
    rw [pl_leg h ht hl h0 h1 h2]
    rw [sEn] at h2
    have := frac_bd (d := k - sEn S t l) (w := sPs S t (l + 1) - sPs S t l) (T := sTn S t l) (by omega) (by omega) (by omega) (by omega)
    omega
  · rw [pl_end h ht h0 (by omega)]
    exact ps_bd h ht _ (Nat.le_refl _)
