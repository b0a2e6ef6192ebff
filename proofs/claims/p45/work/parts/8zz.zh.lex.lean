/-! a text read as tokens: (1, word), (2, number), (3, sign) -/
def tkW (X : Nat → Nat) (n p s : Nat) : Nat := if s = 1 then jN X n p else jV X n p
def rdT (X : Nat → Nat) (n : Nat) : Nat → List (Nat × Nat) → Nat → Prop
  | p, [], q => jQ X n p = jQ X n q
  | p, t :: ts, q => jS X n p = t.1 ∧ tkW X n p t.1 = t.2 ∧ rdT X n (jE X n p) ts q
def nal (X : Nat → Nat) (n p : Nat) : Prop := n ≤ p ∨ (isLe (X p) = false ∧ isDi (X p) = false)
def Rd (w : Bool) (u : List Nat) (ts : List (Nat × Nat)) : Prop := ∀ (X : Nat → Nat) (n p : Nat), (∀ i, i < u.length → X (p + i) = u.getD i 0) → p + u.length ≤ n → (w = true → nal X n (p + u.length)) → rdT X n p ts (p + u.length)
def fna (u : List Nat) : Prop := 1 ≤ u.length ∧ isLe (u.getD 0 0) = false ∧ isDi (u.getD 0 0) = false
section LX
variable {X : Nat → Nat} {n p p2 q q2 : Nat} {u v : List Nat} {a b ts : List (Nat × Nat)} {w : Bool}
theorem tk_cg (h : jQ X n p = jQ X n p2) : jS X n p = jS X n p2 ∧ jE X n p = jE X n p2 ∧ jV X n p = jV X n p2 ∧ jN X n p = jN X n p2 := by
  unfold jS jE jV jN
  rw [h]
  exact ⟨rfl, rfl, rfl, rfl⟩
theorem rd_cg (h : rdT X n p ts q) (e1 : jQ X n p = jQ X n p2) (e2 : jQ X n q = jQ X n q2) : rdT X n p2 ts q2 := by
  induction ts generalizing p p2 with
  | nil => exact (e1.symm.trans h).trans e2
  | cons t r ih =>
    obtain ⟨h1, h2, h3⟩ := h
    obtain ⟨c1, c2, c3, c4⟩ := tk_cg e1
    refine ⟨by rw [← c1]; exact h1, ?_, ?_⟩
    · unfold tkW at h2 ⊢
      rw [← c4, ← c3]; exact h2
    · rw [← c2]; exact ih h3 rfl
theorem rd_ap (h : rdT X n p a q) (g : rdT X n q b q2) : rdT X n p (a ++ b) q2 := by
  induction a generalizing p with
  | nil => exact rd_cg g (show jQ X n p = jQ X n q from h).symm rfl
  | cons t r ih => exact ⟨h.1, h.2.1, ih h.2.2⟩
theorem rd_sp (h : rdT X n p (a ++ b) q2) : ∃ q, rdT X n p a q ∧ rdT X n q b q2 := by
  induction a generalizing p with
  | nil => exact ⟨p, rfl, h⟩
  | cons t r ih =>
    obtain ⟨q, g1, g2⟩ := ih h.2.2
    exact ⟨q, ⟨h.1, h.2.1, g1⟩, g2⟩
theorem Rd_ap (h : Rd false u a) (g : Rd w v b) : Rd w (u ++ v) (a ++ b) := by
  intro X n p hX hn hw
  rw [List.length_append] at hn
  have e : p + (u ++ v).length = p + u.length + v.length := by rw [List.length_append]; omega
  rw [e]
  refine rd_ap (h X n p (fun i hi => ?_) (by omega) (fun x => absurd x (by decide))) (g X n _ (fun i hi => ?_) (by omega) (fun hw2 => by rw [← e]; exact hw hw2))
  · rw [hX i (by rw [List.length_append]; omega), List.getD_eq_getElem?_getD, List.getD_eq_getElem?_getD, List.getElem?_append_left hi]
  · rw [show p + u.length + i = p + (u.length + i) from by omega, hX (u.length + i) (by rw [List.length_append]; omega), List.getD_eq_getElem?_getD, List.getD_eq_getElem?_getD, List.getElem?_append_right (by omega), Nat.add_sub_cancel_left]
theorem Rd_ap2 (h : Rd true u a) (g : Rd w v b) (f : fna v) : Rd w (u ++ v) (a ++ b) := by
  intro X n p hX hn hw
  rw [List.length_append] at hn
  have e : p + (u ++ v).length = p + u.length + v.length := by rw [List.length_append]; omega
  have x2 : ∀ i, i < v.length → X (p + u.length + i) = v.getD i 0 := fun i hi => by
    rw [show p + u.length + i = p + (u.length + i) from by omega, hX (u.length + i) (by rw [List.length_append]; omega), List.getD_eq_getElem?_getD, List.getD_eq_getElem?_getD, List.getElem?_append_right (by omega), Nat.add_sub_cancel_left]
  rw [e]
  refine rd_ap (h X n p (fun i hi => ?_) (by omega) (fun _ => ?_)) (g X n _ x2 (by omega) (fun hw2 => by rw [← e]; exact hw hw2))
  · rw [hX i (by rw [List.length_append]; omega), List.getD_eq_getElem?_getD, List.getD_eq_getElem?_getD, List.getElem?_append_left hi]
  · have := x2 0 f.1
    rw [Nat.add_zero] at this
    exact Or.inr (by rw [this]; exact f.2)
theorem Rd_wk (h : Rd false u a) : Rd true u a := fun X n p hX hn _ => h X n p hX hn (fun x => absurd x (by decide))
theorem jQ_nb (hp : p < n) (h : X p ≠ 32 ∧ X p ≠ 10) : jQ X n p = p := by
  unfold jQ
  rw [show n - p = (n - p - 1) + 1 from by omega, wsF, if_neg (by omega)]
theorem jQ_bl (hp : p < n) (h : X p = 32) : jQ X n p = jQ X n (p + 1) := by
  unfold jQ
  rw [show n - p = (n - (p + 1)) + 1 from by omega, wsF, if_pos ⟨hp, Or.inl h⟩]
theorem Rd_b : Rd false [32] [] := by
  intro X n p hX hn _
  exact jQ_bl (by simp at hn; omega) (hX 0 (by decide))
theorem run_eq {lo hi : Nat} : ∀ f p k, p + f = n → p + k ≤ n → (∀ j, j < k → lo ≤ X (p + j) ∧ X (p + j) ≤ hi) → (p + k = n ∨ ¬ (lo ≤ X (p + k) ∧ X (p + k) ≤ hi)) → runF X n lo hi f p = k
  | 0, p, k, h1, h2, _, _ => by
    have : k = 0 := by omega
    rw [this]; rfl
  | f + 1, p, 0, h1, h2, h3, h4 => by
    rw [runF, if_neg (fun g => by
      rcases h4 with e | e
      · omega
      · exact e ⟨g.2.1, g.2.2⟩)]
  | f + 1, p, k + 1, h1, h2, h3, h4 => by
    have h0 := h3 0 (by omega)
    rw [runF, if_pos ⟨by omega, h0.1, h0.2⟩, run_eq f (p + 1) k (by omega) (by omega) (fun j hj => by
      have := h3 (j + 1) (by omega)
      rw [show p + 1 + j = p + (j + 1) from by omega]; exact this) (by rw [show p + 1 + k = p + (k + 1) from by omega]; exact h4.imp (fun e => by omega) id)]
theorem wdF_cg {Y : Nat → Nat} : ∀ k, (∀ i, i < k → X (p + i) = Y i) → wdF X p k = wdF Y 0 k
  | 0, _ => rfl
  | k + 1, h => by rw [wdF, wdF, wdF_cg k (fun i hi => h i (by omega)), h k (by omega), Nat.zero_add]
theorem nuF_cg {Y : Nat → Nat} : ∀ k, (∀ i, i < k → X (p + i) = Y i) → nuF X p k = nuF Y 0 k
  | 0, _ => rfl
  | k + 1, h => by rw [nuF, nuF, nuF_cg k (fun i hi => h i (by omega)), h k (by omega), Nat.zero_add]
def wdL (u : List Nat) : Nat := wdF (fun i => u.getD i 0) 0 u.length
def nuL (u : List Nat) : Nat := nuF (fun i => u.getD i 0) 0 u.length
theorem Rd_wd (hl : 1 ≤ u.length ∧ u.length ≤ 8) (h : ∀ i, i < u.length → 97 ≤ u.getD i 0 ∧ u.getD i 0 ≤ 122) : Rd true u [(1, wdL u)] := by
  intro X n p hX hn hw
  have h0 := h 0 (by omega)
  have x0 := hX 0 (by omega)
  rw [Nat.add_zero] at x0
  have q0 : jQ X n p = p := jQ_nb (by omega) (by omega)
  have le : isLe (X p) = true := decide_eq_true (by omega)
  have r : jLr X n p = u.length := run_eq (n - p) p u.length (by omega) hn (fun j hj => by rw [hX j hj]; exact h j hj) (by
    rcases hw rfl with e | e
    · exact Or.inl (by omega)
    · exact Or.inr (fun g => by have := of_decide_eq_false e.1; exact this g))
  refine ⟨?_, ?_, ?_⟩
  · unfold jS uS
    rw [q0, if_neg (by omega), if_pos le, r, if_neg (by omega)]
  · unfold tkW
    rw [if_pos rfl]
    unfold jN uN
    rw [q0, if_neg (by omega), if_pos le, r, show min u.length 8 = u.length from by omega]
    exact wdF_cg _ (fun i hi => hX i hi)
  · show jQ X n (jE X n p) = _
    congr 1
    unfold jE uE
    rw [q0, if_neg (by omega), if_pos le, r]
theorem Rd_nu (hl : 1 ≤ u.length ∧ u.length ≤ 4) (h : ∀ i, i < u.length → 48 ≤ u.getD i 0 ∧ u.getD i 0 ≤ 57) : Rd true u [(2, nuL u)] := by
  intro X n p hX hn hw
  have h0 := h 0 (by omega)
  have x0 := hX 0 (by omega)
  rw [Nat.add_zero] at x0
  have q0 : jQ X n p = p := jQ_nb (by omega) (by omega)
  have le : ¬ isLe (X p) = true := fun g => by have := of_decide_eq_true g; omega
  have di : isDi (X p) = true := decide_eq_true (by omega)
  have r : jDr X n p = u.length := run_eq (n - p) p u.length (by omega) hn (fun j hj => by rw [hX j hj]; exact h j hj) (by
    rcases hw rfl with e | e
    · exact Or.inl (by omega)
    · exact Or.inr (fun g => by have := of_decide_eq_false e.2; exact this g))
  refine ⟨?_, ?_, ?_⟩
  · unfold jS uS
    rw [q0, if_neg (by omega), if_neg le, if_pos di, r, if_neg (by omega)]
  · show (if (2 : Nat) = 1 then jN X n p else jV X n p) = nuL u
    rw [if_neg (by decide)]
    unfold jV uV
    rw [q0, if_neg (by omega), if_neg le, if_pos di, r, show min u.length 4 = u.length from by omega]
    exact nuF_cg _ (fun i hi => hX i hi)
  · show jQ X n (jE X n p) = _
    congr 1
    unfold jE uE
    rw [q0, if_neg (by omega), if_neg le, if_pos di, r]
theorem Rd_sg {c : Nat} (h : isSg c = true) : Rd false [c] [(3, c)] := by
  intro X n p hX hn _
  have hn1 : p + 1 ≤ n := hn
  have x0 : X p = c := hX 0 (by show 0 < 1; omega)
  have hc := of_decide_eq_true h
  have q0 : jQ X n p = p := jQ_nb (by omega) (by omega)
  have le : ¬ isLe (X p) = true := fun g => by have := of_decide_eq_true g; omega
  have di : ¬ isDi (X p) = true := fun g => by have := of_decide_eq_true g; omega
  refine ⟨?_, ?_, ?_⟩
  · unfold jS uS
    rw [q0, if_neg (by omega), if_neg le, if_neg di, x0, if_pos h]
  · show (if (3 : Nat) = 1 then jN X n p else jV X n p) = c
    rw [if_neg (by decide)]
    unfold jV uV
    rw [q0, if_neg (by omega), if_neg le, if_neg di]; exact x0
  · show jQ X n (jE X n p) = jQ X n (p + 1)
    congr 1
    unfold jE uE
    rw [q0, if_neg (by omega), if_neg le, if_neg di]
end LX
