/-! the World's beginning, ahead of its script -/
def wB (x L : Nat) (xs : Nat → Int32) (n : Nat) (Z : mjQ) (q : mjV) : Prop := (Z.2.2.2.2 x = (16, 0) ∧ Z.2.2.2.1 x = q.2.2.1 ∧ Z.2.1 x 15 = i3 q.1 ∧ (∀ j, j ≠ 15 → Z.2.1 x j = q.2.1 j) ∧ x < 1000 + Z.1.1) ∧ wokQ Z ∧ scI Z L xs ∧ wT n Z q.2.2.2
section WBG
variable {x sb L n N N2 Lg : Nat} {xs : Nat → Int32} {Z Z2 Z3 : mjQ} {q q2 q3 : mjV} {P : Nat → Prop}
theorem wB_A (h : wB x L xs n Z q) (h14 : q.2.2.1 14 = some 2000000) : wA x L xs n Z q := ⟨⟨h.1.1, h.1.2.1, h14, h.1.2.2.1, h.1.2.2.2.1, h.1.2.2.2.2⟩, h.2⟩
theorem wB_frm (h : wB x L xs n Z q) (hn : Z.1.1 ≤ 90000) (g : frm Z Z2 P) (hp : nW Z P) : wB x L xs n Z2 q := by
  obtain ⟨⟨a1, a2, a4, a5, a6⟩, hw, hs, ht⟩ := h
  obtain ⟨x1, x2, x3⟩ := (g.2 x (Or.inl a6)).2 (fun e => (hp _ e).1 (by rw [a1]))
  have := g.1
  refine ⟨⟨by rw [x3]; exact a1, by rw [x2]; exact a2, by rw [x1]; exact a4, fun j hj => by rw [x1]; exact a5 j hj, by omega⟩, wok_frm hw g, scI_frm2 hs g (fun e => (hp _ e).2.2.2 (hw _ (by omega))) (fun e => (hp _ e).2.2.2 (hw _ (by omega))), wT_frm ht hn g (fun a e => ⟨(hp a e).2.1, (hp a e).2.2.1⟩)⟩
theorem b_put {f : Nat} {v : Int32} (h : wB x L xs n Z q) (hn : Z.1.1 ≤ 90000) (hf : f ≤ 12) (hk : mjPutI (mjFk 16 f) v = true) : ∃ Z2, qSi Z x 16 f v = some Z2 ∧ wB x L xs n Z2 (q.1, (fun j => if j = f then v else q.2.1 j), q.2.2) ∧ frm Z Z2 (fun a => a = x) ∧ Z2.1 = Z.1 := by
  obtain ⟨⟨a1, a2, a4, a5, a6⟩, hw, hs, ht⟩ := h
  have f0 : frm Z (Z.1, mjSi Z.2 x f v) (fun a => a = x) := frm_si rfl
  refine ⟨_, qSi_of a1 hk, ⟨⟨a1, a2, ((if_pos rfl).trans (if_neg (by omega))).trans a4, fun j hj => ?_, a6⟩, wok_frm hw f0, scI_frm2 hs f0 (fun e => by have e9 : 2000000 = x := e; omega) (fun e => by have e9 : 2000001 = x := e; omega), wT_frm ht hn f0 (fun a e => by have e9 : a = x := e; rw [e9, a1]; decide)⟩, f0, rfl⟩
  show (mjSi Z.2 x f v).1 x j = if j = f then v else q.2.1 j
  refine (if_pos rfl).trans ?_
  by_cases e : j = f
  · rw [if_pos e, if_pos e]
  · rw [if_neg e, if_neg e]; exact a5 j hj
theorem b_putR {f b : Nat} (h : wB x L xs n Z q) (hn : Z.1.1 ≤ 90000) (hk : mjFk 16 f = 2) : ∃ Z2, qSr Z x 16 f (some b) = some Z2 ∧ wB x L xs n Z2 (q.1, q.2.1, (fun j => if j = f then some b else q.2.2.1 j), q.2.2.2) ∧ frm Z Z2 (fun a => a = x) ∧ Z2.1 = Z.1 := by
  obtain ⟨⟨a1, a2, a4, a5, a6⟩, hw, hs, ht⟩ := h
  have f0 : frm Z (Z.1, mjSr Z.2 x f (some b)) (fun a => a = x) := frm_sr rfl
  refine ⟨_, qSr_of a1 hk, ⟨⟨a1, ?_, a4, a5, a6⟩, wok_frm hw f0, scI_frm2 hs f0 (fun e => by have e9 : 2000000 = x := e; omega) (fun e => by have e9 : 2000001 = x := e; omega), wT_frm ht hn f0 (fun a e => by have e9 : a = x := e; rw [e9, a1]; decide)⟩, f0, rfl⟩
  show (mjSr Z.2 x f (some b)).2.2.1 x = fun j => if j = f then some b else q.2.2.1 j
  funext j
  refine (if_pos rfl).trans ?_
  rw [a2]
theorem b_newL (h : wB x L xs n Z q) (hn : Z.1.1 < 90000) : ∃ Z2 Z3, qNew sg0 Z (20, 0) = some (1000 + Z.1.1, Z2) ∧ g239_init sg0 (1000 + Z.1.1) Z2 = some ((), Z3) ∧ wB x L xs (n + 1) Z3 (q.1, q.2.1, q.2.2.1, fun j => if j = n then (1000 + Z.1.1, 1300003, []) else q.2.2.2 j) ∧ frm Z Z3 (fun _ => False) ∧ Z3.1 = (Z.1.1 + 1, Z.1.2 + mjSzK (20, 0)) ∧ Z3.2.2.2.2 (1000 + Z.1.1) = (20, 0) := by
  obtain ⟨Z2, a1, a2, a3, a4, a5, a6⟩ := w_new (Z := Z) (c := (20, 0)) hn
  obtain ⟨Z3, b1, b2, b3, b4⟩ := q_initL a4 (by rw [a3]; show _ < 1000 + (Z.1.1 + 1); omega) (a5 2)
  have f3 : frm Z Z3 (fun _ => False) := frm_tr2 a2 b3 (fun a ha e => by
    have e9 : a = 1000 + Z.1.1 := e
    exact old_new hn ha e9)
  have h3 := wB_frm h (by omega) f3 (fun a e => e.elim)
  refine ⟨Z2, Z3, a1, b1, ⟨h3.1, h3.2.1, h3.2.2.1, ?_, ?_⟩, f3, b4.trans a3, b2.1⟩
  · intro i hi
    show aL Z3 (if i = n then _ else q.2.2.2 i).1 (if i = n then _ else q.2.2.2 i).2.1 (if i = n then _ else q.2.2.2 i).2.2
    by_cases e : i = n
    · rw [if_pos e]; exact b2
    · rw [if_neg e]; exact h3.2.2.2.1 i (by omega)
  · intro i j hi hj hij
    show (if i = n then _ else q.2.2.2 i).1 ≠ (if j = n then _ else q.2.2.2 j).1 ∧ ((if i = n then _ else q.2.2.2 i).2.1 = (if j = n then _ else q.2.2.2 j).2.1 → (if i = n then _ else q.2.2.2 i).2.1 = 1300003)
    by_cases e : i = n
    · by_cases e2 : j = n
      · exact absurd (e.trans e2.symm) hij
      · rw [if_pos e, if_neg e2]
        have := (h.2.2.2.1 j (by omega)).2.2.2.1
        exact ⟨fun w => by have w2 : 1000 + Z.1.1 = (q.2.2.2 j).1 := w; omega, fun _ => rfl⟩
    · by_cases e2 : j = n
      · rw [if_neg e, if_pos e2]
        have := (h.2.2.2.1 i (by omega)).2.2.2.1
        exact ⟨fun w => by have w2 : (q.2.2.2 i).1 = 1000 + Z.1.1 := w; omega, fun w => w⟩
      · rw [if_neg e, if_neg e2]
        exact h.2.2.2.2 i j (by omega) (by omega) hij
/-- a list made and told of -/
theorem b_list {f : Nat} (h : wB x L xs n Z q) (hn : Z.1.1 < 80000) (hf : mjFk 16 f = 2) : ∃ p Y1 Y2 Z2 q2, qNew sg0 Z (20, 0) = some (p, Y1) ∧ g239_init sg0 p Y1 = some ((), Y2) ∧ qSr Y2 x 16 f (some p) = some Z2 ∧ wB x L xs (n + 1) Z2 q2 ∧ Z2.1 = (Z.1.1 + 1, Z.1.2 + mjSzK (20, 0)) ∧ q2.1 = q.1 ∧ q2.2.1 = q.2.1 ∧ q2.2.2.1 f = some p ∧ (∀ j, j ≠ f → q2.2.2.1 j = q.2.2.1 j) ∧ q2.2.2.2 n = (p, 1300003, []) ∧ ∀ j, j ≠ n → q2.2.2.2 j = q.2.2.2 j := by
  obtain ⟨Y1, Y2, e1, e2, e3, e4, e5, e6⟩ := b_newL h (by omega)
  have c2 : Y2.1.1 = Z.1.1 + 1 := by rw [e5]
  obtain ⟨Z2, f1, f2, f3, f4⟩ := b_putR (f := f) (b := 1000 + Z.1.1) e3 (by omega) hf
  exact ⟨_, Y1, Y2, Z2, _, e1, e2, f1, f2, f4.trans e5, rfl, rfl, if_pos rfl, fun j hj => if_neg hj, if_pos rfl, fun j hj => if_neg hj⟩
end WBG
