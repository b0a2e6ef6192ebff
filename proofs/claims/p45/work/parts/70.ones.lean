/-! the model's count of bits; its pile -/
theorem odd_part : ∀ n X : Nat, X < n → 0 < X → ∃ p q, X = 2 ^ p + 2 ^ (p + 1) * q
  | 0, X, h, _ => by omega
  | n + 1, X, h, h0 => by
    rcases Nat.mod_two_eq_zero_or_one X with q | q
    · obtain ⟨p, r, e⟩ := odd_part n (X / 2) (by omega) (by omega)
      refine ⟨p + 1, r, ?_⟩
      have : X = 2 * (X / 2) := by omega
      rw [this, e, Nat.pow_succ 2 (p + 1), Nat.pow_succ 2 p]
      generalize 2 ^ p = a
      rw [Nat.mul_add, Nat.mul_comm a 2, Nat.mul_comm (2 * a) 2, Nat.mul_assoc 2 (2 * a) r]
    · exact ⟨0, X / 2, by simp; omega⟩
theorem cb_pow : ∀ (p n q : Nat), p < n → cb n (2 ^ p + 2 ^ (p + 1) * q) = 1 + cb n (2 ^ (p + 1) * q)
  | 0, n + 1, q, _ => by
    rw [cb, cb]
    simp only [Nat.pow_zero, Nat.zero_add, Nat.pow_one]
    have e1 : (1 + 2 * q) / 2 = q := by omega
    have e2 : 2 * q / 2 = q := by omega
    rw [e1, e2]; omega
  | p + 1, n + 1, q, h => by
    have ih := cb_pow p n q (by omega)
    have a1 : 2 ^ (p + 1) + 2 ^ (p + 1 + 1) * q = 2 * (2 ^ p + 2 ^ (p + 1) * q) := by
      rw [Nat.pow_succ 2 (p + 1), Nat.pow_succ 2 p]
      generalize 2 ^ p = a
      rw [Nat.mul_add, Nat.mul_comm a 2, Nat.mul_comm (2 * a) 2, Nat.mul_assoc 2 (2 * a) q]
    have a2 : 2 ^ (p + 1 + 1) * q = 2 * (2 ^ (p + 1) * q) := by
      rw [Nat.pow_succ 2 (p + 1), Nat.mul_comm (2 ^ (p + 1)) 2, Nat.mul_assoc]
    rw [a1, a2, cb, cb]
    generalize 2 ^ p + 2 ^ (p + 1) * q = A at ih ⊢
    generalize 2 ^ (p + 1) * q = B at ih ⊢
    have e1 : 2 * A / 2 = A := by omega
    have e2 : 2 * B / 2 = B := by omega
    rw [e1, e2, ih]; omega
  | p, 0, q, h => by omega
theorem cb_low {X : Nat} (h0 : 0 < X) (hX : X < 2 ^ 64) : cb 64 X = 1 + cb 64 (X &&& (X - 1)) := by
  obtain ⟨p, q, rfl⟩ := odd_part (X + 1) X (by omega) h0
  have hp : p < 64 := by
    rcases Nat.lt_or_ge p 64 with h | h
    · exact h
    · have := Nat.pow_le_pow_right (show 0 < 2 by decide) h
      omega
  have p0 : 0 < 2 ^ p := Nat.two_pow_pos p
  have e : 2 ^ p + 2 ^ (p + 1) * q - 1 = (2 ^ p - 1) + 2 ^ (p + 1) * q := by omega
  have p1 : 2 ^ p < 2 ^ (p + 1) := by rw [Nat.pow_succ]; omega
  rw [cb_pow p 64 q hp, e, and_split p1 (by omega), Nat.and_self, Nat.and_two_pow_sub_one_eq_mod, Nat.mod_self, Nat.zero_add]
theorem cb_zero : ∀ n, cb n 0 = 0
  | 0 => rfl
  | n + 1 => by rw [cb, cb_zero n]
theorem b6_cb (x : Int64) : cN (b6 x) 64 = cb 64 x.toBitVec.toNat := by
  rw [cb_cN]; rfl
section OD
variable {Z : mjZt}
theorem m283h (n : Nat) : ∀ (m : Nat) (x : Int64) (c : Int), cb 64 x.toBitVec.toNat = m → m < n → f283_ones_h4 n (i3 c) x Z = some (i3 (c + m)) := by
  induction n with
  | zero => intro m x c _ hn; exact absurd hn (Nat.not_lt_zero _)
  | succ n ih0 =>
    intro m x c hm hn
    rw [f283_ones_h4]
    by_cases hx : x.toBitVec.toNat = 0
    · have e : x = i6 0 := by rw [i6_tn x, hx]; rfl
      rw [hx, cb_zero] at hm
      rw [e, if_pos (by decide), ← hm]
      simp
    · have lt := x.toBitVec.isLt
      have c1 := cb_low (X := x.toBitVec.toNat) (Nat.pos_of_ne_zero hx) lt
      rw [hm] at c1
      have e1 : (x &&& (x - 1)).toBitVec.toNat = x.toBitVec.toNat &&& (x.toBitVec.toNat - 1) := by
        rw [tn_and, tn_sub (x := x) (y := 1) (Nat.le_trans (by decide : (1 : Int64).toBitVec.toNat ≤ 1) (Nat.pos_of_ne_zero hx))]; rfl
      have ne : ¬ x = 0 := by
        intro e; rw [e] at hx; exact hx rfl
      have nc : ¬ mjCmp .eq (lg_cmp x 0) 0 = true := by
        simp only [mjCmp, decide_eq_true_eq, lg_cmp_eq]; exact ne
      generalize hk : cb 64 (x.toBitVec.toNat &&& (x.toBitVec.toNat - 1)) = k at c1
      have ih := ih0 k (x &&& (x - 1)) (c + 1) (by rw [e1]; exact hk) (by omega)
      rw [if_neg nc, show (1 : Int32) = i3 1 from rfl, i3_add]
      rw [ih, show c + 1 + (k : Int) = c + m by omega]
theorem m283 (x : Int64) : f283_ones x Z = some (i3 (cN (b6 x) 64)) := by
  have h := cN_bd (b6 x) 64
  have e := b6_cb x
  have := m283h (Z := Z) mjF (cb 64 x.toBitVec.toNat) x 0 rfl (by unfold mjF; omega)
  unfold f283_ones
  rw [show (0 : Int32) = i3 0 from rfl, this, e]
  simp
theorem m284 {h : Nat} (hh : h < 800) : f284_size (i3 h) Z = some (i3 (cN (b6 (Z.2.1 244 h)) 64 + cN (b6 (Z.2.1 245 h)) 64 + cN (b6 (Z.2.1 246 h)) 64)) := by
  unfold f284_size
  rw [if_pos (in_p (by omega)), ix_nat (by omega), m283, mjBp_some, m283, mjBp_some, m283, mjBp_some, i3_add, i3_add]
end OD
/-! the whys: which comparisons, how many -/
def oneS (S : mjS) (i : Nat) : Int := if S 9 i = 42 then 1 else 0
def ywB (S : mjS) (fk : Nat → Int) (i : Nat) (l r : (Nat → Bool) × Int) : (Nat → Bool) × Int :=
  if 40 < S 9 i then (if vS S fk (lfS S i) = oneS S i ∨ vS S fk (i - 1) = oneS S i then (if ¬ vS S fk (lfS S i) = oneS S i ∨ (vS S fk (i - 1) = oneS S i ∧ r.2 < l.2) then r else l) else (fun k => l.1 k || r.1 k, l.2 + r.2))
  else if isCm (S 9 i) = true then (fun k => decide (k = i), 1) else (fun _ => false, 0)
def ywS (S : mjS) (fk : Nat → Int) (i : Nat) : (Nat → Bool) × Int := tS S (fun _ => false, 0) (fun _ => (fun _ => false, 0)) (fun _ x => x) (ywB S fk) i
/-- positions on the pile: the latest first, each its own stretch -/
def isSt (S : mjS) (fr : Nat) : List Nat → Nat → Prop
  | [], i => i = fr
  | e :: l, i => e + 1 = i ∧ isSt S fr l (spS S e)
theorem isSt_ge {S : mjS} {fr : Nat} : ∀ l i, isSt S fr l i → fr + l.length ≤ i
  | [], i, h => by have : i = fr := h; simp; omega
  | e :: l, i, h => by
    have h1 := isSt_ge l _ h.2
    have h2 := sp_le S e
    have h3 := h.1
    simp only [List.length_cons]; omega
def tyS (S : mjS) : List Nat → Prop
  | [] => True
  | e :: l => (isTt (S 9 e) = true → ∀ x, x ∈ l → isTt (S 9 x) = true) ∧ tyS S l
/-- the three rows of bits at a height: bits 0 .. 59 of each alone -/
def whB (Z : mjZt) (h j : Nat) : Bool := if j < 60 then b6 (Z.2.1 244 h) j else if j < 120 then b6 (Z.2.1 245 h) (j - 60) else b6 (Z.2.1 246 h) (j - 120)
def whR (Z : mjZt) (S : mjS) (fr : Nat) (fk : Nat → Int) (e h : Nat) : Prop :=
  (∀ j, 60 ≤ j → j < 64 → b6 (Z.2.1 244 h) j = false ∧ b6 (Z.2.1 245 h) j = false ∧ b6 (Z.2.1 246 h) j = false) ∧
  (∀ j, j < 180 → (whB Z h j = true ↔ ∃ k, spS S e ≤ k ∧ k ≤ e ∧ isCm (S 9 k) = true ∧ ciS S fr k = j ∧ (ywS S fk e).1 k = true)) ∧
  cN (b6 (Z.2.1 244 h)) 64 + cN (b6 (Z.2.1 245 h)) 64 + cN (b6 (Z.2.1 246 h)) 64 = (ywS S fk e).2
def plR (Z : mjZt) (S : mjS) (fr : Nat) (fk : Nat → Int) (fl : Bool) : List Nat → Prop
  | [] => True
  | e :: l => (isTt (S 9 e) = true → Z.2.1 243 l.length = i6 (vS S fk e) ∧ whR Z S fr fk e l.length) ∧ (isTt (S 9 e) = false → fl = false → Z.2.1 243 l.length = i6 (vS S fk e)) ∧ plR Z S fr fk fl l
theorem whR_of {Z Z2 : mjZt} {S : mjS} {fr : Nat} {fk : Nat → Int} {e h : Nat} (q : whR Z S fr fk e h) (e4 : Z2.2.1 244 h = Z.2.1 244 h) (e5 : Z2.2.1 245 h = Z.2.1 245 h) (e6 : Z2.2.1 246 h = Z.2.1 246 h) : whR Z2 S fr fk e h := by
  unfold whR whB at q ⊢
  rw [e4, e5, e6]
  exact q
/-- what lies lower stays -/
theorem plR_of {Z Z2 : mjZt} {S : mjS} {fr : Nat} {fk : Nat → Int} {fl fl2 : Bool} (hfl : fl2 = false → fl = false) : ∀ l : List Nat, (∀ a h, 243 ≤ a → a ≤ 246 → h < l.length → Z2.2.1 a h = Z.2.1 a h) → plR Z S fr fk fl l → plR Z2 S fr fk fl2 l
  | [], _, _ => trivial
  | e :: l, hc, h => by
    have c3 := hc 243 l.length (by omega) (by omega) (by simp)
    have c4 := hc 244 l.length (by omega) (by omega) (by simp)
    have c5 := hc 245 l.length (by omega) (by omega) (by simp)
    have c6 := hc 246 l.length (by omega) (by omega) (by simp)
    refine ⟨fun q => ?_, fun q q2 => ?_, plR_of hfl l (fun a h0 h1 h2 h3 => hc a h0 h1 h2 (by simp; omega)) h.2.2⟩
    · rw [c3]
      exact ⟨(h.1 q).1, whR_of (h.1 q).2 c4 c5 c6⟩
    · rw [c3]
      exact h.2.1 q (hfl q2)
/-- the truths below stay whatever the flag is -/
theorem plR_tt {Z Z2 : mjZt} {S : mjS} {fr : Nat} {fk : Nat → Int} {fl fl2 : Bool} : ∀ l : List Nat, (∀ x, x ∈ l → isTt (S 9 x) = true) → (∀ a h, 243 ≤ a → a ≤ 246 → h < l.length → Z2.2.1 a h = Z.2.1 a h) → plR Z S fr fk fl l → plR Z2 S fr fk fl2 l
  | [], _, _, _ => trivial
  | e :: l, ht, hc, h => by
    have c3 := hc 243 l.length (by omega) (by omega) (by simp)
    have c4 := hc 244 l.length (by omega) (by omega) (by simp)
    have c5 := hc 245 l.length (by omega) (by omega) (by simp)
    have c6 := hc 246 l.length (by omega) (by omega) (by simp)
    refine ⟨fun q => ?_, fun q q2 => ?_, plR_tt l (fun x hx => ht x (List.mem_cons_of_mem _ hx)) (fun a h0 h1 h2 h3 => hc a h0 h1 h2 (by simp; omega)) h.2.2⟩
    · rw [c3]
      exact ⟨(h.1 q).1, whR_of (h.1 q).2 c4 c5 c6⟩
    · rw [ht e List.mem_cons_self] at q; cases q
def flR (S : mjS) (fk : Nat → Int) (l : List Nat) (fl : Bool) : Prop := fl = true ↔ ∃ e, e ∈ l ∧ isTt (S 9 e) = false ∧ vS S fk e = BEY
def Iv (Z : mjZt) (S : mjS) (fr : Nat) (fk : Nat → Int) (l : List Nat) (fl : Bool) (i : Nat) : Prop :=
  isSt S fr l i ∧ tyS S l ∧ plR Z S fr fk fl l ∧ flR S fk l fl ∧ Z.1 211 65 = i3 l.length ∧ Z.1 211 66 = i3 (ciS S fr i) ∧ Z.1 211 67 = i3 (if fl = true then 1 else 0)
