/-! the World as it is made: x its number; n lists, the i-th is T i = (list, row, what it holds); at, fields F, references R -/
abbrev mjV : Type := Nat × (Nat → Int32) × (Nat → Option Nat) × (Nat → Nat × Nat × List Nat)
def wT (n : Nat) (Z : mjQ) (T : Nat → Nat × Nat × List Nat) : Prop := (∀ i, i < n → aL Z (T i).1 (T i).2.1 (T i).2.2) ∧ ∀ i j, i < n → j < n → i ≠ j → (T i).1 ≠ (T j).1 ∧ ((T i).2.1 = (T j).2.1 → (T i).2.1 = 1300003)
def wA (x L : Nat) (xs : Nat → Int32) (n : Nat) (Z : mjQ) (q : mjV) : Prop := (Z.2.2.2.2 x = (16, 0) ∧ Z.2.2.2.1 x = q.2.2.1 ∧ q.2.2.1 14 = some 2000000 ∧ Z.2.1 x 15 = i3 q.1 ∧ (∀ j, j ≠ 15 → Z.2.1 x j = q.2.1 j) ∧ x < 1000 + Z.1.1) ∧ wokQ Z ∧ scI Z L xs ∧ wT n Z q.2.2.2
/-- frames: nothing of a World's; nothing of a builder's; only a World's; only a builder's -/
def nW (Z : mjQ) (P : Nat → Prop) : Prop := ∀ a, P a → (Z.2.2.2.2 a).1 ≠ 16 ∧ (Z.2.2.2.2 a).1 ≠ 20 ∧ (Z.2.2.2.2 a).1 ≠ 119 ∧ (Z.2.2.2.2 a).1 ≠ 99
def nB (Z : mjQ) (P : Nat → Prop) : Prop := ∀ a, P a → (Z.2.2.2.2 a).1 ≠ 19 ∧ (Z.2.2.2.2 a).1 ≠ 118
/-- what neither a World's steps nor a builder's touch -/
def nO (Z : mjQ) (P : Nat → Prop) : Prop := ∀ a, P a → (Z.2.2.2.2 a).1 = 16 ∨ (Z.2.2.2.2 a).1 = 20 ∨ (Z.2.2.2.2 a).1 = 119 ∨ (Z.2.2.2.2 a).1 = 99 ∨ (Z.2.2.2.2 a).1 = 19 ∨ (Z.2.2.2.2 a).1 = 118
section WA
variable {x L n N N2 : Nat} {xs : Nat → Int32} {Z Z2 Z3 : mjQ} {q q2 q3 : mjV} {P : Nat → Prop}
theorem scI_frm2 (h : scI Z L xs) (g : frm Z Z2 P) (h1 : ¬ P 2000000) (h2 : ¬ P 2000001) : scI Z2 L xs := by
  obtain ⟨x1, -, -⟩ := (g.2 2000001 (Or.inr (by omega))).2 h2
  obtain ⟨y1, -, -⟩ := (g.2 2000000 (Or.inr (by omega))).2 h1
  exact ⟨h.1, by rw [x1]; exact h.2.1, by rw [y1]; exact h.2.2⟩
theorem aL_frm2 {l o : Nat} {ys : List Nat} (h : aL Z l o ys) (hn : Z.1.1 ≤ 90000) (g : frm Z Z2 P) (h1 : ¬ P l) (h2 : o = 1300003 ∨ ¬ P o) : aL Z2 l o ys := by
  obtain ⟨hk, hr, hl, hs, hx⟩ := h
  obtain ⟨x1, x2, x3⟩ := (g.2 l (Or.inl hs)).2 h1
  have := g.1
  refine ⟨by rw [x3]; exact hk, by rw [x2]; exact hr, by rw [x1]; exact hl, by omega, ?_⟩
  rcases hx with q | ⟨q1, q2, q3, q4⟩
  · exact Or.inl q
  · rcases h2 with e | e
    · omega
    · obtain ⟨y1, y2, y3⟩ := (g.2 o (Or.inl q2)).2 e
      exact Or.inr ⟨by rw [y3]; exact q1, by omega, q3, by rw [y2]; exact q4⟩
theorem aL_kd {l o : Nat} {ys : List Nat} (h : aL Z l o ys) : (Z.2.2.2.2 l).1 = 20 ∧ (o = 1300003 ∨ (Z.2.2.2.2 o).1 = 119) := by
  refine ⟨by rw [h.1], ?_⟩
  rcases h.2.2.2.2 with e | e
  · exact Or.inl e.2
  · exact Or.inr (by rw [e.1])
theorem wT_frm {T : Nat → Nat × Nat × List Nat} (h : wT n Z T) (hn : Z.1.1 ≤ 90000) (g : frm Z Z2 P) (hp : ∀ a, P a → (Z.2.2.2.2 a).1 ≠ 20 ∧ (Z.2.2.2.2 a).1 ≠ 119) : wT n Z2 T := by
  refine ⟨fun i hi => ?_, h.2⟩
  have k := aL_kd (h.1 i hi)
  refine aL_frm2 (h.1 i hi) hn g (fun e => (hp _ e).1 k.1) ?_
  rcases k.2 with e | e
  · exact Or.inl e
  · exact Or.inr (fun w => (hp _ w).2 e)
theorem wA_frm (h : wA x L xs n Z q) (hn : Z.1.1 ≤ 90000) (g : frm Z Z2 P) (hp : nW Z P) : wA x L xs n Z2 q := by
  obtain ⟨⟨a1, a2, a3, a4, a5, a6⟩, hw, hs, ht⟩ := h
  obtain ⟨x1, x2, x3⟩ := (g.2 x (Or.inl a6)).2 (fun e => (hp _ e).1 (by rw [a1]))
  have := g.1
  refine ⟨⟨by rw [x3]; exact a1, by rw [x2]; exact a2, a3, by rw [x1]; exact a4, fun j hj => by rw [x1]; exact a5 j hj, by omega⟩, wok_frm hw g, scI_frm2 hs g (fun e => (hp _ e).2.2.2 (hw _ (by omega))) (fun e => (hp _ e).2.2.2 (hw _ (by omega))), wT_frm ht hn g (fun a e => ⟨(hp a e).2.1, (hp a e).2.2.1⟩)⟩
theorem bS_frm2 {sb v cap : Nat} {t : List Int32} (h : bS Z sb v cap t) (g : frm Z Z2 P) (hp : nB Z P) : bS Z2 sb v cap t := bS_frm h g (fun e => (hp _ e).1 (by rw [h.1])) (fun e => (hp _ e).2 (by rw [h.2.2.2.2.1]))
/-- numbers of the world -/
theorem w_next {k : Nat} (h : wA x L xs n Z q) (hn : Z.1.1 ≤ 90000) (ha : q.1 ≤ 90000) (hk : 0 < k ∧ k ≤ 100000) : ∃ Z2, g195_next sg0 x (i3 k) Z = some (i3 (pkN L xs (q.1 + 1) k : Nat), Z2) ∧ wA x L xs n Z2 (q.1 + 1, q.2) ∧ frm Z Z2 (fun a => a = x) ∧ Z2.1 = Z.1 ∧ pkN L xs (q.1 + 1) k < k := by
  obtain ⟨⟨a1, a2, a3, a4, a5, a6⟩, hw, hs, ht⟩ := h
  have f0 : frm Z (Z.1, mjSi Z.2 x 15 (i3 ((q.1 + 1 : Nat) : Int))) (fun a => a = x) := frm_si rfl
  refine ⟨_, q_nextW a1 a4 (by rw [a2]; exact a3) (by omega) hs (by omega) hk, ⟨⟨a1, a2, a3, (if_pos rfl).trans (if_pos rfl), fun j hj => ((if_pos rfl).trans (if_neg hj)).trans (a5 j hj), a6⟩, wok_frm hw f0, scI_frm2 hs f0 (fun e => by have e9 : 2000000 = x := e; omega) (fun e => by have e9 : 2000001 = x := e; omega), wT_frm ht hn f0 (fun a e => by have e9 : a = x := e; rw [e9, a1]; decide)⟩, f0, rfl, pkN_lt hk.1⟩
theorem w_put {f : Nat} {v : Int32} (h : wA x L xs n Z q) (hn : Z.1.1 ≤ 90000) (hf : f ≤ 12) (hk : mjPutI (mjFk 16 f) v = true) : ∃ Z2, qSi Z x 16 f v = some Z2 ∧ wA x L xs n Z2 (q.1, (fun j => if j = f then v else q.2.1 j), q.2.2) ∧ frm Z Z2 (fun a => a = x) ∧ Z2.1 = Z.1 := by
  obtain ⟨⟨a1, a2, a3, a4, a5, a6⟩, hw, hs, ht⟩ := h
  have f0 : frm Z (Z.1, mjSi Z.2 x f v) (fun a => a = x) := frm_si rfl
  refine ⟨_, qSi_of a1 hk, ⟨⟨a1, a2, a3, ((if_pos rfl).trans (if_neg (by omega))).trans a4, fun j hj => ?_, a6⟩, wok_frm hw f0, scI_frm2 hs f0 (fun e => by have e9 : 2000000 = x := e; omega) (fun e => by have e9 : 2000001 = x := e; omega), wT_frm ht hn f0 (fun a e => by have e9 : a = x := e; rw [e9, a1]; decide)⟩, f0, rfl⟩
  show (mjSi Z.2 x f v).1 x j = if j = f then v else q.2.1 j
  refine (if_pos rfl).trans ?_
  by_cases e : j = f
  · rw [if_pos e, if_pos e]
  · rw [if_neg e, if_neg e]; exact a5 j hj
theorem w_putR {f b : Nat} (h : wA x L xs n Z q) (hn : Z.1.1 ≤ 90000) (hf : f ≠ 14) (hk : mjFk 16 f = 2) : ∃ Z2, qSr Z x 16 f (some b) = some Z2 ∧ wA x L xs n Z2 (q.1, q.2.1, (fun j => if j = f then some b else q.2.2.1 j), q.2.2.2) ∧ frm Z Z2 (fun a => a = x) ∧ Z2.1 = Z.1 := by
  obtain ⟨⟨a1, a2, a3, a4, a5, a6⟩, hw, hs, ht⟩ := h
  have f0 : frm Z (Z.1, mjSr Z.2 x f (some b)) (fun a => a = x) := frm_sr rfl
  refine ⟨_, qSr_of a1 hk, ⟨⟨a1, ?_, (if_neg (fun e => hf e.symm)).trans a3, a4, a5, a6⟩, wok_frm hw f0, scI_frm2 hs f0 (fun e => by have e9 : 2000000 = x := e; omega) (fun e => by have e9 : 2000001 = x := e; omega), wT_frm ht hn f0 (fun a e => by have e9 : a = x := e; rw [e9, a1]; decide)⟩, f0, rfl⟩
  show (mjSr Z.2 x f (some b)).2.2.1 x = fun j => if j = f then some b else q.2.2.1 j
  funext j
  refine (if_pos rfl).trans ?_
  rw [a2]
theorem w_F {f : Nat} (h : wA x L xs n Z q) (hf : f ≠ 15) (hk : ¬ (mjFk 16 f = 1 ∨ mjFk 16 f = 2)) : qI Z.2 x 16 f = some (q.2.1 f) := qI_of h.1.1 hk (h.1.2.2.2.2.1 f hf)
theorem w_R {f b : Nat} (h : wA x L xs n Z q) (hk : mjFk 16 f = 2) (hb : q.2.2.1 f = some b) : qR Z.2 x 16 f = some b := qR_of h.1.1 hk (by rw [h.1.2.1]; exact hb)
theorem w_ro (h : wA x L xs n Z q) : mjRo Z.2 x 16 = true := ro_of h.1.1
/-- a list takes an element -/
theorem w_add {i e : Nat} (h : wA x L xs n Z q) (hn : Z.1.1 < 90000) (hi : i < n) (he : okE Z e) (heo : oldO Z e) (hl : (q.2.2.2 i).2.2.length < 10) : ∃ Z2 o2, g240_add sg0 (q.2.2.2 i).1 e Z = some (1, Z2) ∧ wA x L xs n Z2 (q.1, q.2.1, q.2.2.1, fun j => if j = i then ((q.2.2.2 i).1, o2, (q.2.2.2 i).2.2 ++ [e]) else q.2.2.2 j) ∧ frm Z Z2 (fun a => (Z.2.2.2.2 a).1 = 20 ∨ (Z.2.2.2.2 a).1 = 119 ∨ a = 1300003) ∧ Z2.1.1 ≤ Z.1.1 + 1 ∧ Z2.1.2 ≤ Z.1.2 + 10 := by
  obtain ⟨⟨a1, a2, a3, a4, a5, a6⟩, hw, hs, ht⟩ := h
  have hA := ht.1 i hi
  have kd := aL_kd hA
  obtain ⟨Z2, o2, e1, e2, e3, e4, e5, e6⟩ := q_addL hA he heo hn hl
  have f9 : frm Z Z2 (fun a => (Z.2.2.2.2 a).1 = 20 ∨ (Z.2.2.2.2 a).1 = 119 ∨ a = 1300003) := frm_wk e3 (fun a _ g => by
    rcases g with g | g
    · rw [g]; exact Or.inl kd.1
    · rw [g]
      rcases kd.2 with w | w
      · exact Or.inr (Or.inr w)
      · exact Or.inr (Or.inl w))
  have no : ∀ a, (Z.2.2.2.2 a).1 ≠ 20 → (Z.2.2.2.2 a).1 ≠ 119 → a ≠ 1300003 → ¬ ((Z.2.2.2.2 a).1 = 20 ∨ (Z.2.2.2.2 a).1 = 119 ∨ a = 1300003) := fun a g1 g2 g3 g => by
    rcases g with g | g | g
    · exact g1 g
    · exact g2 g
    · exact g3 g
  obtain ⟨x1, x2, x3⟩ := (f9.2 x (Or.inl a6)).2 (no x (by rw [a1]; decide) (by rw [a1]; decide) (by omega))
  have mn := e3.1
  refine ⟨Z2, o2, e1, ⟨⟨by rw [x3]; exact a1, by rw [x2]; exact a2, a3, by rw [x1]; exact a4, fun j hj => by rw [x1]; exact a5 j hj, by omega⟩, wok_frm hw f9, scI_frm2 hs f9 (no _ (by rw [hw _ (by omega)]; decide) (by rw [hw _ (by omega)]; decide) (by omega)) (no _ (by rw [hw _ (by omega)]; decide) (by rw [hw _ (by omega)]; decide) (by omega)), ?_⟩, f9, e5, e6⟩
  have o2n : o2 ≠ 1300003 → (o2 = (q.2.2.2 i).2.1 ∨ o2 = 1000 + Z.1.1) := fun _ => e4
  have oth : ∀ j, j < n → j ≠ i → aL Z2 (q.2.2.2 j).1 (q.2.2.2 j).2.1 (q.2.2.2 j).2.2 ∧ (q.2.2.2 j).1 ≠ (q.2.2.2 i).1 ∧ ((q.2.2.2 j).2.1 = o2 → (q.2.2.2 j).2.1 = 1300003) := fun j hj hji => by
    obtain ⟨d1, d2⟩ := ht.2 j i hj hi hji
    have hAj := ht.1 j hj
    have kj := aL_kd hAj
    have lo : (q.2.2.2 j).1 ≠ (q.2.2.2 i).2.1 := fun w => by
      rcases kd.2 with g | g
      · have := hAj.2.2.2.1; omega
      · rw [← w, kj.1] at g; exact absurd g (by decide)
    refine ⟨aL_frm2 hAj (by omega) e3 (fun w => by
      rcases w with w | w
      · exact d1 w
      · exact lo w) ?_, d1, fun w => ?_⟩
    · by_cases g : (q.2.2.2 j).2.1 = 1300003
      · exact Or.inl g
      · refine Or.inr (fun w => ?_)
        rcases w with w | w
        · rcases kj.2 with k | k
          · exact g k
          · rw [w, kd.1] at k; exact absurd k (by decide)
        · exact g (d2 w)
    · rcases e4 with g | g
      · exact d2 (w.trans g)
      · rcases hAj.2.2.2.2 with k | k
        · exact k.2
        · have := k.2.1; omega
  refine ⟨fun j hj => ?_, fun j k hj hk hjk => ?_⟩
  · show aL Z2 (if j = i then _ else q.2.2.2 j).1 (if j = i then _ else q.2.2.2 j).2.1 (if j = i then _ else q.2.2.2 j).2.2
    by_cases g : j = i
    · rw [if_pos g]; exact e2
    · rw [if_neg g]; exact (oth j hj g).1
  · show (if j = i then _ else q.2.2.2 j).1 ≠ (if k = i then _ else q.2.2.2 k).1 ∧ ((if j = i then _ else q.2.2.2 j).2.1 = (if k = i then _ else q.2.2.2 k).2.1 → (if j = i then _ else q.2.2.2 j).2.1 = 1300003)
    by_cases g : j = i
    · by_cases g2 : k = i
      · exact absurd (g.trans g2.symm) hjk
      · rw [if_pos g, if_neg g2]
        obtain ⟨-, d2, d3⟩ := oth k hk g2
        exact ⟨fun w => d2 w.symm, fun w => by
          have w2 : o2 = (q.2.2.2 k).2.1 := w
          exact w2.trans (d3 w2.symm)⟩
    · by_cases g2 : k = i
      · rw [if_neg g, if_pos g2]
        obtain ⟨-, d2, d3⟩ := oth j hj g
        exact ⟨d2, d3⟩
      · rw [if_neg g, if_neg g2]
        exact ht.2 j k hj hk hjk
/-- a new object of any kind -/
theorem w_new {c : Nat × Nat} (hn : Z.1.1 < 90000) : ∃ Z2, qNew sg0 Z c = some (1000 + Z.1.1, Z2) ∧ frm Z Z2 (fun _ => False) ∧ Z2.1 = (Z.1.1 + 1, Z.1.2 + mjSzK c) ∧ Z2.2.2.2.2 (1000 + Z.1.1) = c ∧ (∀ j, Z2.2.1 (1000 + Z.1.1) j = 0) ∧ ∀ j, Z2.2.2.2.1 (1000 + Z.1.1) j = none :=
  ⟨_, qNew_0 (by omega), frm_zr (by omega), rfl, if_pos rfl, fun j => if_pos rfl, fun j => if_pos rfl⟩
/-- a new list, told of nowhere yet -/
theorem w_newL (h : wA x L xs n Z q) (hn : Z.1.1 < 90000) : ∃ Z2 Z3, qNew sg0 Z (20, 0) = some (1000 + Z.1.1, Z2) ∧ g239_init sg0 (1000 + Z.1.1) Z2 = some ((), Z3) ∧ wA x L xs (n + 1) Z3 (q.1, q.2.1, q.2.2.1, fun j => if j = n then (1000 + Z.1.1, 1300003, []) else q.2.2.2 j) ∧ frm Z Z3 (fun _ => False) ∧ Z3.1 = (Z.1.1 + 1, Z.1.2 + mjSzK (20, 0)) ∧ Z3.2.2.2.2 (1000 + Z.1.1) = (20, 0) := by
  obtain ⟨Z2, a1, a2, a3, a4, a5, a6⟩ := w_new (Z := Z) (c := (20, 0)) hn
  obtain ⟨Z3, b1, b2, b3, b4⟩ := q_initL a4 (by rw [a3]; show _ < 1000 + (Z.1.1 + 1); omega) (a5 2)
  have f3 : frm Z Z3 (fun _ => False) := frm_tr2 a2 b3 (fun a ha e => by
    have e9 : a = 1000 + Z.1.1 := e
    exact old_new hn ha e9)
  have h3 := wA_frm h (by omega) f3 (fun a e => e.elim)
  refine ⟨Z2, Z3, a1, b1, ⟨h3.1, h3.2.1, h3.2.2.1, ?_, ?_⟩, f3, b4.trans a3, b2.1⟩
  · intro i hi
    show aL Z3 (if i = n then _ else q.2.2.2 i).1 (if i = n then _ else q.2.2.2 i).2.1 (if i = n then _ else q.2.2.2 i).2.2
    by_cases e : i = n
    · rw [if_pos e]; exact b2
    · rw [if_neg e]; exact h3.2.2.2.1 i (by omega)
  · intro i j hi hj hij
    show (if i = n then _ else q.2.2.2 i).1 ≠ (if j = n then _ else q.2.2.2 j).1 ∧ ((if i = n then _ else q.2.2.2 i).2.1 = (if j = n then _ else q.2.2.2 j).2.1 → (if i = n then _ else q.2.2.2 i).2.1 = 1300003)
    by_cases e : i = n
    · by_cases e2 : j = n
      · exact absurd (e.trans e2.symm) hij
      · rw [if_pos e, if_neg e2]
        have := (h.2.2.2.1 j (by omega)).2.2.2.1
        exact ⟨fun w => by have w2 : 1000 + Z.1.1 = (q.2.2.2 j).1 := w; omega, fun _ => rfl⟩
    · by_cases e2 : j = n
      · rw [if_neg e, if_pos e2]
        have := (h.2.2.2.1 i (by omega)).2.2.2.1
        exact ⟨fun w => by have w2 : (q.2.2.2 i).1 = 1000 + Z.1.1 := w; omega, fun w => w⟩
      · rw [if_neg e, if_neg e2]
        exact h.2.2.2.2 i j (by omega) (by omega) hij
end WA
