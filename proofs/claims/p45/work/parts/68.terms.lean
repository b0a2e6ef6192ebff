/-! CONDITIONS as codes behind one another: what a code is, where its part begins -/
def isLf (c : Int) : Bool := decide (100 ≤ c ∨ c ≤ 11)
def isCm (c : Int) : Bool := decide (30 ≤ c ∧ c ≤ 32)
def isTt (c : Int) : Bool := decide (30 ≤ c ∧ c ≤ 42)
def cdv (c : Int) : Prop := (100 ≤ c ∧ c ≤ 10099) ∨ (1 ≤ c ∧ c ≤ 11) ∨ c = 21 ∨ c = 22 ∨ c = 23 ∨ c = 30 ∨ c = 31 ∨ c = 32 ∨ c = 40 ∨ c = 41 ∨ c = 42
def spF (S : mjS) : Nat → Nat → Nat
  | 0, i => i
  | f + 1, i => if isLf (S 9 i) = true ∨ i = 0 then i else if S 9 i = 40 then spF S f (i - 1) else spF S f (spF S f (i - 1) - 1)
def spS (S : mjS) (i : Nat) : Nat := spF S (i + 1) i
/-- the end of the left side -/
def lfS (S : mjS) (i : Nat) : Nat := spS S (i - 1) - 1
theorem spF_le (S : mjS) : ∀ f i, spF S f i ≤ i
  | 0, i => Nat.le_refl _
  | f + 1, i => by
    have h1 := spF_le S f (i - 1)
    have h2 := spF_le S f (spF S f (i - 1) - 1)
    rw [spF]
    split
    · exact Nat.le_refl _
    · split <;> omega
theorem spF_st (S : mjS) : ∀ f g i, i < f → i < g → spF S f i = spF S g i
  | 0, g, i, h, _ => by omega
  | f + 1, 0, i, _, h => by omega
  | f + 1, g + 1, i, h1, h2 => by
    rw [spF, spF]
    by_cases q : isLf (S 9 i) = true ∨ i = 0
    · rw [if_pos q, if_pos q]
    · rw [if_neg q, if_neg q]
      have e := spF_st S f g (i - 1) (by omega) (by omega)
      have l := spF_le S g (i - 1)
      rw [e, spF_st S f g (spF S g (i - 1) - 1) (by omega) (by omega)]
theorem sp_le (S : mjS) (i : Nat) : spS S i ≤ i := spF_le S _ i
theorem sp_leaf {S : mjS} {i : Nat} (h : isLf (S 9 i) = true) : spS S i = i := by
  unfold spS
  rw [spF, if_pos (Or.inl h)]
theorem sp_not {S : mjS} {i : Nat} (h : S 9 i = 40) (hi : 0 < i) : spS S i = spS S (i - 1) := by
  unfold spS
  rw [spF, if_neg (by rw [h]; simp [isLf]; omega), if_pos h, show i - 1 + 1 = i by omega]
theorem sp_bin {S : mjS} {i : Nat} (h : isLf (S 9 i) = false) (h2 : S 9 i ≠ 40) (hi : 0 < i) : spS S i = spS S (lfS S i) := by
  have l := sp_le S (i - 1)
  show spF S (i + 1) i = spS S (lfS S i)
  rw [spF, if_neg (by rw [h]; simp; omega), if_neg h2]
  have e : spF S i (i - 1) = spS S (i - 1) := spF_st S _ _ _ (by omega) (by omega)
  rw [e]
  exact spF_st S _ _ _ (by omega) (by unfold lfS; omega)
/-- what is worked up from the leaves -/
def tF {α : Type} (S : mjS) (d : α) (L : Nat → α) (U : Nat → α → α) (B : Nat → α → α → α) : Nat → Nat → α
  | 0, _ => d
  | f + 1, i => if isLf (S 9 i) = true ∨ i = 0 then L i else if S 9 i = 40 then U i (tF S d L U B f (i - 1)) else B i (tF S d L U B f (lfS S i)) (tF S d L U B f (i - 1))
def tS {α : Type} (S : mjS) (d : α) (L : Nat → α) (U : Nat → α → α) (B : Nat → α → α → α) (i : Nat) : α := tF S d L U B (i + 1) i
section TF
variable {α : Type} {S : mjS} {d : α} {L : Nat → α} {U : Nat → α → α} {B : Nat → α → α → α}
theorem tF_st : ∀ f g i, i < f → i < g → tF S d L U B f i = tF S d L U B g i
  | 0, g, i, h, _ => by omega
  | f + 1, 0, i, _, h => by omega
  | f + 1, g + 1, i, h1, h2 => by
    rw [tF, tF]
    by_cases q : isLf (S 9 i) = true ∨ i = 0
    · rw [if_pos q, if_pos q]
    · rw [if_neg q, if_neg q]
      have l := sp_le S (i - 1)
      rw [tF_st f g (i - 1) (by omega) (by omega), tF_st f g (lfS S i) (by unfold lfS; omega) (by unfold lfS; omega)]
theorem tS_leaf {i : Nat} (h : isLf (S 9 i) = true) : tS S d L U B i = L i := by
  unfold tS
  rw [tF, if_pos (Or.inl h)]
theorem tS_not {i : Nat} (h : S 9 i = 40) (hi : 0 < i) : tS S d L U B i = U i (tS S d L U B (i - 1)) := by
  unfold tS
  rw [tF, if_neg (by rw [h]; simp [isLf]; omega), if_pos h, show i - 1 + 1 = i by omega]
theorem tS_bin {i : Nat} (h : isLf (S 9 i) = false) (h2 : S 9 i ≠ 40) (hi : 0 < i) : tS S d L U B i = B i (tS S d L U B (lfS S i)) (tS S d L U B (i - 1)) := by
  have l := sp_le S (i - 1)
  show tF S d L U B (i + 1) i = _
  rw [tF, if_neg (by rw [h]; simp; omega), if_neg h2]
  have e1 : tF S d L U B i (lfS S i) = tS S d L U B (lfS S i) := tF_st _ _ _ (by unfold lfS; omega) (by omega)
  have e2 : tF S d L U B i (i - 1) = tS S d L U B (i - 1) := tF_st _ _ _ (by omega) (by omega)
  rw [e1, e2]
end TF
/-- a well-formed condition in [fr, to) -/
def WF (S : mjS) (fr to : Nat) : Prop := fr < to ∧ isTt (S 9 (to - 1)) = true ∧ spS S (to - 1) = fr ∧ ∀ i, fr ≤ i → i < to → cdv (S 9 i) ∧
  (S 9 i = 40 → fr < i ∧ isTt (S 9 (i - 1)) = true ∧ fr ≤ spS S (i - 1)) ∧
  (isLf (S 9 i) = false → S 9 i ≠ 40 → fr < i ∧ fr < spS S (i - 1) ∧ fr ≤ spS S (lfS S i) ∧
    (S 9 i ≤ 32 → isTt (S 9 (i - 1)) = false ∧ isTt (S 9 (lfS S i)) = false) ∧ (isCm (S 9 i) = true → spS S (lfS S i) = fr ∨ isTt (S 9 (spS S (lfS S i) - 1)) = true) ∧
    (40 < S 9 i → isTt (S 9 (i - 1)) = true ∧ isTt (S 9 (lfS S i)) = true))
theorem WF_sp {S : mjS} {fr to : Nat} (h : WF S fr to) {i : Nat} (h1 : fr ≤ i) (h2 : i < to) : fr ≤ spS S i := by
  obtain ⟨_, _, _, hw⟩ := h
  obtain ⟨g1, g2, g3⟩ := hw i h1 h2
  cases q : isLf (S 9 i) with
  | true => rw [sp_leaf q]; exact h1
  | false =>
    by_cases q2 : S 9 i = 40
    · obtain ⟨g4, g5, g6⟩ := g2 q2
      rw [sp_not q2 (by omega)]; exact g6
    · obtain ⟨g4, g5, g6, _⟩ := g3 q q2
      rw [sp_bin q q2 (by omega)]; exact g6
/-- how many comparisons there are ahead of k -/
def ciS (S : mjS) (fr k : Nat) : Int := cN (fun j => isCm (S 9 (fr + j))) (k - fr)
theorem ci_0 (S : mjS) (fr : Nat) : ciS S fr fr = 0 := by
  unfold ciS
  rw [Nat.sub_self]; rfl
theorem ci_s (S : mjS) {fr k : Nat} (h : fr ≤ k) : ciS S fr (k + 1) = ciS S fr k + (if isCm (S 9 k) = true then 1 else 0) := by
  unfold ciS
  rw [show k + 1 - fr = (k - fr) + 1 by omega, cN, show fr + (k - fr) = k by omega]
theorem ci_bd (S : mjS) (fr k : Nat) : 0 ≤ ciS S fr k ∧ ciS S fr k ≤ (k - fr : Nat) := cN_bd _ _
theorem ci_mono (S : mjS) {fr k : Nat} (h : fr ≤ k) : ∀ m, ciS S fr k ≤ ciS S fr (k + m)
  | 0 => Int.le_refl _
  | m + 1 => by
    have h1 := ci_mono S h m
    rw [← Nat.add_assoc, ci_s S (by omega)]
    split <;> omega
theorem ci_le (S : mjS) {fr k l : Nat} (h : fr ≤ k) (h2 : k ≤ l) : ciS S fr k ≤ ciS S fr l := by
  have := ci_mono S h (l - k)
  rwa [show k + (l - k) = l by omega] at this
def sCa (S : mjS) (k : Nat) : Nat := (S 8 k).toNat
def sFr (S : mjS) (r p : Nat) : Nat := sCa S (4 * r + 2 * p)
def sTo (S : mjS) (r p : Nat) : Nat := sCa S (4 * r + 2 * p + 1)
def okC (S : mjS) : Prop := ∀ r p, r < sR S → p < 2 → 0 ≤ S 8 (4 * r + 2 * p) ∧ 0 ≤ S 8 (4 * r + 2 * p + 1) ∧ sFr S r p ≤ sTo S r p ∧ sTo S r p ≤ 700 ∧ (p = 0 → sFr S r p < sTo S r p) ∧ (sFr S r p < sTo S r p → WF S (sFr S r p) (sTo S r p) ∧ ciS S (sFr S r p) (sTo S r p) ≤ 180)
/-- the class's operator, number for a code -/
def opC (c : Int) : Int := if 100 ≤ c then 0 else if c ≤ 11 then 1 else if c = 21 then 10 else if c = 22 then 11 else if c = 23 then 12 else if c = 30 then 7 else if c = 31 then 8 else if c = 32 then 9 else if c = 40 then 6 else if c = 41 then 5 else 4
def nuC (S : mjS) (fr i : Nat) : Int := if 100 ≤ S 9 i then S 9 i - 100 else if S 9 i ≤ 11 then S 9 i - 1 else if isCm (S 9 i) = true then ciS S fr i else 0
/-- the terms of a book: one condition's, all of them -/
def cOne (Z : mjZt) (b : Nat) (S : mjS) (fr to : Nat) : Prop := ∀ i, fr ≤ i → i < to → Z.1 (b + 1 + 1) i = i3 (opC (S 9 i)) ∧ Z.1 (b + 1 + 2) i = i3 (nuC S fr i) ∧ (isLf (S 9 i) = false → S 9 i ≠ 40 → Z.1 (b + 1 + 3) i = i3 (lfS S i))
def cTr (Z : mjZt) (b : Nat) (S : mjS) : Prop := ∀ r p, r < sR S → p < 2 → cOne Z b S (sFr S r p) (sTo S r p) ∧ (if sFr S r p < sTo S r p then Z.1 (b + 1 + 4) (2 * r + p) = i3 (sFr S r p) ∧ Z.1 (b + 1 + 5) (2 * r + p) = i3 (sTo S r p) ∧ Z.1 (b + 1 + 6) (2 * r + p) = i3 (ciS S (sFr S r p) (sTo S r p)) else Z.1 (b + 1 + 4) (2 * r + p) = i3 0 ∧ Z.1 (b + 1 + 5) (2 * r + p) = i3 0)
theorem cOne_of {Z Z2 : mjZt} {b : Nat} {S : mjS} {fr to : Nat} (h : cOne Z b S fr to) (e : eqB b Z Z2) : cOne Z2 b S fr to := by
  intro i h1 h2
  rw [(e (b + 1 + 1) (by omega) (by omega)).1, (e (b + 1 + 2) (by omega) (by omega)).1, (e (b + 1 + 3) (by omega) (by omega)).1]
  exact h i h1 h2
theorem cTr_of {Z Z2 : mjZt} {b : Nat} {S : mjS} (h : cTr Z b S) (e : eqB b Z Z2) : cTr Z2 b S := by
  intro r p hr hp
  obtain ⟨h1, h2⟩ := h r p hr hp
  refine ⟨cOne_of h1 e, ?_⟩
  rw [(e (b + 1 + 4) (by omega) (by omega)).1, (e (b + 1 + 5) (by omega) (by omega)).1, (e (b + 1 + 6) (by omega) (by omega)).1]
  exact h2
/-! values: what is beyond 32 bits is BEY -/
def BEY : Int := -9223372036854775808
def w32 (x : Int) : Int := if -2147483648 ≤ x ∧ x ≤ 2147483647 then x else BEY
def vL (S : mjS) (fk : Nat → Int) (i : Nat) : Int := if 100 ≤ S 9 i then S 9 i - 100 else fk (S 9 i - 1).toNat
def vB (S : mjS) (i : Nat) (l r : Int) : Int :=
  if S 9 i = 41 then (if l = 1 ∧ r = 1 then 1 else 0)
  else if S 9 i = 42 then (if l = 1 ∨ r = 1 then 1 else 0)
  else if l = BEY ∨ r = BEY then (if isCm (S 9 i) = true then 0 else BEY)
  else if S 9 i = 30 then (if l < r then 1 else 0)
  else if S 9 i = 31 then (if r < l then 1 else 0)
  else if S 9 i = 32 then (if l = r then 1 else 0)
  else if S 9 i = 21 then w32 (l + r)
  else if S 9 i = 22 then w32 (l - r)
  else w32 (l * r)
def vS (S : mjS) (fk : Nat → Int) (i : Nat) : Int := tS S 0 (vL S fk) (fun _ x => 1 - x) (vB S) i
theorem w32_bd (x : Int) : w32 x = BEY ∨ (-2147483648 ≤ w32 x ∧ w32 x ≤ 2147483647) := by
  unfold w32
  split
  · right; assumption
  · exact Or.inl rfl
/-- truths are 0 or 1, numbers within 32 bits or BEY -/
theorem vS_bd {S : mjS} {fk : Nat → Int} (hf : ∀ k, k ≤ 10 → -2147483648 ≤ fk k ∧ fk k ≤ 2147483647) {fr to : Nat} (h : WF S fr to) : ∀ n i, i < n → fr ≤ i → i < to → (isTt (S 9 i) = true → vS S fk i = 0 ∨ vS S fk i = 1) ∧ (isTt (S 9 i) = false → vS S fk i = BEY ∨ (-2147483648 ≤ vS S fk i ∧ vS S fk i ≤ 2147483647))
  | 0, i, hn, _, _ => by omega
  | n + 1, i, hn, h1, h2 => by
    obtain ⟨g1, g2, g3⟩ := h.2.2.2 i h1 h2
    cases q : isLf (S 9 i) with
    | true =>
      have e : vS S fk i = vL S fk i := tS_leaf q
      rw [e]
      unfold vL
      simp only [isLf, decide_eq_true_eq] at q
      refine ⟨fun q2 => ?_, fun _ => Or.inr ?_⟩
      · simp only [isTt, decide_eq_true_eq] at q2; omega
      · split
        · unfold cdv at g1; omega
        · exact hf _ (by unfold cdv at g1; omega)
    | false =>
      by_cases q2 : S 9 i = 40
      · obtain ⟨g4, g5, g6⟩ := g2 q2
        have ih := (vS_bd hf h n (i - 1) (by omega) (by omega) (by omega)).1 g5
        have e : vS S fk i = 1 - vS S fk (i - 1) := tS_not q2 (by omega)
        rw [e]
        refine ⟨fun _ => by omega, fun q3 => ?_⟩
        rw [q2] at q3; cases q3
      · obtain ⟨g4, g5, g6, g7, g8, g9⟩ := g3 q q2
        have e : vS S fk i = vB S i (vS S fk (lfS S i)) (vS S fk (i - 1)) := tS_bin q q2 (by omega)
        rw [e]
        unfold vB
        simp only [isLf, decide_eq_false_iff_not] at q
        refine ⟨fun q3 => ?_, fun q3 => ?_⟩
        · simp only [isTt, decide_eq_true_eq] at q3
          by_cases c41 : S 9 i = 41
          · rw [if_pos c41]; split <;> simp
          · rw [if_neg c41]
            by_cases c42 : S 9 i = 42
            · rw [if_pos c42]; split <;> simp
            · rw [if_neg c42]
              have c3 : isCm (S 9 i) = true := by simp only [isCm, decide_eq_true_eq]; unfold cdv at g1; omega
              rw [if_pos c3]
              unfold cdv at g1
              simp only [isCm, decide_eq_true_eq] at c3
              split
              · simp
              · split
                · split <;> simp
                · split
                  · split <;> simp
                  · rw [if_pos (by omega)]
                    split <;> simp
        · simp only [isTt, decide_eq_false_iff_not] at q3
          have c3 : isCm (S 9 i) = false := by simp only [isCm, decide_eq_false_iff_not]; omega
          rw [if_neg (by omega), if_neg (by omega), c3]
          split
          · exact Or.inl rfl
          · rw [if_neg (by omega), if_neg (by omega), if_neg (by omega)]
            split
            · exact w32_bd _
            · split
              · exact w32_bd _
              · exact w32_bd _
