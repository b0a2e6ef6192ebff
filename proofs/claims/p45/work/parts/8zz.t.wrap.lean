/-! the steps once more, with what they change told by rows -/
def obO (c : Nat × Nat) (Z : mjQ) (p : Nat) (f : Nat → Int32) : Prop := Z.2.2.2.2 p = c ∧ p < 1000 + Z.1.1 ∧ p < 1000000 ∧ ∀ j, Z.2.1 p j = f j
def rfO (c : Nat × Nat) (Z : mjQ) (p : Nat) (f : Nat → Option Nat) : Prop := Z.2.2.2.2 p = c ∧ p < 1000 + Z.1.1 ∧ p < 1000000 ∧ ∀ j, Z.2.2.2.1 p j = f j
section TW
variable {x sb L n n2 n3 N N2 M : Nat} {xs : Nat → Int32} {Z Z2 Z3 : mjQ} {b b2 b3 : mjBb} {q q2 q3 : mjV} {P : Nat → Prop} {u u2 : List Int32}
theorem t_next {k : Nat} (h : wS x sb L xs n Z b q) (hm : rmW 1 Z b q) (hk : 0 < k ∧ k ≤ 100000) : ∃ (r : Nat) (Z2 : mjQ) (q2 : mjV), r < k ∧ g195_next sg0 x (i3 (k : Nat)) Z = some (i3 (r : Nat), Z2) ∧ wX x sb L xs n 1 Z b q n Z2 b q2 [] ∧ q2.2 = q.2 := by
  obtain ⟨Z2, e1, e2, e3⟩ := s_next h hm hk
  exact ⟨_, Z2, _, e3, e1, e2, rfl⟩
theorem t_put {f : Nat} {v : Int32} (h : wS x sb L xs n Z b q) (hm : rmW 0 Z b q) (hf : f ≤ 12) (hk : mjPutI (mjFk 16 f) v = true) : ∃ (Z2 : mjQ) (q2 : mjV), qSi Z x 16 f v = some Z2 ∧ wX x sb L xs n 0 Z b q n Z2 b q2 [] ∧ q2.2.1 f = v ∧ (∀ j, j ≠ f → q2.2.1 j = q.2.1 j) ∧ q2.2.2 = q.2.2 := by
  obtain ⟨Z2, e1, e2⟩ := s_put h hm hf hk
  exact ⟨Z2, _, e1, e2, if_pos rfl, fun j hj => if_neg hj, rfl⟩
theorem t_add {i e : Nat} (h : wS x sb L xs n Z b q) (hm : rmW 1 Z b q) (hi : i < n) (he : okE Z e) (heo : oldO Z e) (hl : (q.2.2.2 i).2.2.length < 10) : ∃ (Z2 : mjQ) (q2 : mjV), g240_add sg0 (q.2.2.2 i).1 e Z = some (1, Z2) ∧ wX x sb L xs n 1 Z b q n Z2 b q2 [] ∧ q2.2.1 = q.2.1 ∧ q2.2.2.1 = q.2.2.1 ∧ (q2.2.2.2 i).2.2 = (q.2.2.2 i).2.2 ++ [e] ∧ (∀ j, (q2.2.2.2 j).1 = (q.2.2.2 j).1) ∧ ∀ j, j ≠ i → q2.2.2.2 j = q.2.2.2 j := by
  obtain ⟨Z2, o2, e1, e2⟩ := s_add h hm hi he heo hl
  refine ⟨Z2, _, e1, e2, rfl, rfl, ?_, fun j => ?_, fun j hj => if_neg hj⟩
  · show (if i = i then _ else q.2.2.2 i).2.2 = _
    rw [if_pos rfl]
  · show (if j = i then _ else q.2.2.2 j).1 = _
    by_cases g : j = i
    · rw [if_pos g, g]
    · rw [if_neg g]
theorem t_newL (h : wS x sb L xs n Z b q) (hm : rmW 1 Z b q) : ∃ (p : Nat) (Z2 Z3 : mjQ) (q2 : mjV), qNew sg0 Z (20, 0) = some (p, Z2) ∧ g239_init sg0 p Z2 = some ((), Z3) ∧ wX x sb L xs n 1 Z b q (n + 1) Z3 b q2 [] ∧ Z3.2.2.2.2 p = (20, 0) ∧ p < 1000 + Z3.1.1 ∧ q2.2.1 = q.2.1 ∧ q2.2.2.1 = q.2.2.1 ∧ (q2.2.2.2 n).1 = p ∧ (q2.2.2.2 n).2.2 = [] ∧ ∀ j, j ≠ n → q2.2.2.2 j = q.2.2.2 j := by
  obtain ⟨Z2, Z3, e1, e2, e3, e4, e5⟩ := s_newL h hm
  refine ⟨_, Z2, Z3, _, e1, e2, e3, e4, by omega, rfl, rfl, ?_, ?_, fun j hj => if_neg hj⟩
  · show (if n = n then _ else q.2.2.2 n).1 = _
    rw [if_pos rfl]
  · show (if n = n then _ else q.2.2.2 n).2.2 = _
    rw [if_pos rfl]
theorem t_new {c : Nat × Nat} (h : wS x sb L xs n Z b q) (hm : rmW 1 Z b q) (hz : mjSzK c ≤ 16) : ∃ (p : Nat) (Z2 : mjQ), qNew sg0 Z c = some (p, Z2) ∧ wX x sb L xs n 1 Z b q n Z2 b q [] ∧ p = 1000 + Z.1.1 ∧ obO c Z2 p (fun _ => 0) ∧ rfO c Z2 p (fun _ => none) := by
  have hm1 := hm.1
  obtain ⟨Z2, e1, e2, e3, e4, e5, e6⟩ := s_new h hm hz
  exact ⟨_, Z2, e1, e2, rfl, ⟨e3, by omega, by omega, e4⟩, ⟨e3, by omega, by omega, e6⟩⟩
theorem ob_x {c : Nat × Nat} {p : Nat} {f : Nat → Int32} (h : obO c Z p f) (hc : kpO c.1) (k : wX x sb L xs n N Z b q n2 Z2 b2 q2 u) : obO c Z2 p f := by
  obtain ⟨h1, h2, h3, h4⟩ := h
  obtain ⟨x1, x2, x3⟩ := k.2.2.2.2.2.2.2.2.1 p h2 (by rw [h1]; exact hc)
  have := k.2.2.1
  exact ⟨x3.trans h1, by omega, h3, fun j => by rw [x1]; exact h4 j⟩
theorem rf_x {c : Nat × Nat} {p : Nat} {f : Nat → Option Nat} (h : rfO c Z p f) (hc : kpO c.1) (k : wX x sb L xs n N Z b q n2 Z2 b2 q2 u) : rfO c Z2 p f := by
  obtain ⟨h1, h2, h3, h4⟩ := h
  obtain ⟨x1, x2, x3⟩ := k.2.2.2.2.2.2.2.2.1 p h2 (by rw [h1]; exact hc)
  have := k.2.2.1
  exact ⟨x3.trans h1, by omega, h3, fun j => by rw [x2]; exact h4 j⟩
/-- a write, since the start of the walk Z0 -/
theorem t_wi {c : Nat × Nat} {p j : Nat} {v : Int32} {f : Nat → Int32} {Z0 : mjQ} {n0 : Nat} {b0 : mjBb} {q0 : mjV} (k : wX x sb L xs n0 N Z0 b0 q0 n Z b q u) (hm : Z.1.1 ≤ 90000) (h : obO c Z p f) (hc : kpO c.1) (h1 : 1000 + Z0.1.1 ≤ p) : wX x sb L xs n0 N Z0 b0 q0 n (Z.1, mjSi Z.2 p j v) b q u ∧ obO c (Z.1, mjSi Z.2 p j v) p (fun i => if i = j then v else f i) := by
  obtain ⟨g1, g2, g3, g4⟩ := h
  refine ⟨s_wr (c := c) k hm g1 hc ⟨h1, g3⟩ (frm_si rfl) rfl, g1, g2, g3, fun i => ?_⟩
  refine (if_pos rfl).trans ?_
  by_cases e : i = j
  · rw [if_pos e]; exact (if_pos e).symm
  · rw [if_neg e]; exact (g4 i).trans (if_neg e).symm
theorem t_wrf {c : Nat × Nat} {p j : Nat} {v : Option Nat} {f : Nat → Option Nat} {Z0 : mjQ} {n0 : Nat} {b0 : mjBb} {q0 : mjV} (k : wX x sb L xs n0 N Z0 b0 q0 n Z b q u) (hm : Z.1.1 ≤ 90000) (h : rfO c Z p f) (hc : kpO c.1) (h1 : 1000 + Z0.1.1 ≤ p) : wX x sb L xs n0 N Z0 b0 q0 n (Z.1, mjSr Z.2 p j v) b q u ∧ rfO c (Z.1, mjSr Z.2 p j v) p (fun i => if i = j then v else f i) := by
  obtain ⟨g1, g2, g3, g4⟩ := h
  refine ⟨s_wr (c := c) k hm g1 hc ⟨h1, g3⟩ (frm_sr rfl) rfl, g1, g2, g3, fun i => ?_⟩
  refine (if_pos rfl).trans ?_
  by_cases e : i = j
  · rw [if_pos e]; exact (if_pos e).symm
  · rw [if_neg e]; exact (g4 i).trans (if_neg e).symm
theorem c90 (k : wX x sb L xs n N Z b q n2 Z2 b2 q2 u) (hm : rmW M Z b q) (hN : N ≤ M) : Z2.1.1 ≤ 90000 := by
  have := k.2.2.2.1
  have := hm.1
  omega
theorem ob_I {c : Nat × Nat} {p j : Nat} {f : Nat → Int32} {v : Int32} (h : obO c Z p f) (hk : ¬ (mjFk c.1 j = 1 ∨ mjFk c.1 j = 2)) (hv : f j = v) : qI Z.2 p c.1 j = some v := qI_of (n := c.2) (by rw [h.1]) hk (by rw [h.2.2.2 j, hv])
theorem ob_S {c : Nat × Nat} {p j : Nat} {f : Nat → Int32} {v : Int32} (h : obO c Z p f) (hk : mjPutI (mjFk c.1 j) v = true) : qSi Z p c.1 j v = some (Z.1, mjSi Z.2 p j v) := qSi_of (n := c.2) (by rw [h.1]) hk
theorem ob_Sr {c : Nat × Nat} {p j : Nat} {f : Nat → Int32} {v : Option Nat} (h : obO c Z p f) (hk : mjFk c.1 j = 2) : qSr Z p c.1 j v = some (Z.1, mjSr Z.2 p j v) := qSr_of (n := c.2) (by rw [h.1]) hk
/-- a row of ints -/
theorem ob_Sia {w p j : Nat} {f : Nat → Int32} {v : Int32} (h : obO (113, w) Z p f) (hj : j < w) (hw : w ≤ 100) : qSia Z p (i3 (j : Nat)) v = some (Z.1, mjSi Z.2 p j v) := by
  unfold qSia
  rw [if_pos ⟨ks_of h.1, by rw [mjAl, h.1]; exact of_eq_true (in_t (by omega))⟩, ix_nat (by omega)]
theorem ob_Ia {w p j : Nat} {f : Nat → Int32} {v : Int32} (h : obO (113, w) Z p f) (hj : j < w) (hw : w ≤ 100) (hv : f j = v) : qIa Z.2 p (i3 (j : Nat)) = some v := by
  have := h.2.2.1
  unfold qIa
  rw [if_neg (by omega), if_pos ⟨ks_of h.1, by rw [mjAl, h.1]; exact of_eq_true (in_t (by omega))⟩, ix_nat (by omega), h.2.2.2, hv]
/-- a row of strings -/
theorem rf_Sra {w p j s : Nat} {f : Nat → Option Nat} (h : rfO (120, w) Z p f) (hj : j < w) (hw : w ≤ 100) (hs : 1000000 ≤ s ∧ s < 1000059) : qSra Z p (i3 (j : Nat)) s = some (Z.1, mjSr Z.2 p j (some s)) := by
  unfold qSra
  have ok : mjAok Z.2 p s = true := by
    unfold mjAok
    rw [ks_of h.1, show mjSid s = true from decide_eq_true hs]
    simp
  rw [if_pos ⟨ok, by rw [mjAl, h.1]; exact of_eq_true (in_t (by omega))⟩, ix_nat (by omega)]
theorem rf_Aa {w p j s : Nat} {f : Nat → Option Nat} (h : rfO (120, w) Z p f) (hj : j < w) (hw : w ≤ 100) (hv : f j = some s) : qAa Z.2 p (i3 (j : Nat)) = some s := by
  have h3 := h.2.2.1
  have h4 : mjSrd p = none := by
    unfold mjSrd
    rw [if_neg (by omega), if_neg (by omega), if_neg (by omega)]
  unfold qAa
  rw [h4]
  dsimp only
  rw [if_pos ⟨Or.inr (Or.inr (Or.inr (ks_of h.1))), by rw [mjAl, h.1]; exact of_eq_true (in_t (by omega))⟩, ix_nat (by omega), h.2.2.2, hv]
end TW
