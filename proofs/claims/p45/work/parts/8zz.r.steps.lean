/-! a World and the builder sb of its text: b = (bytes, room, text) -/
abbrev mjBb : Type := Nat × Nat × List Int32
def wS (x sb L : Nat) (xs : Nat → Int32) (n : Nat) (Z : mjQ) (b : mjBb) (q : mjV) : Prop := bS Z sb b.1 b.2.1 b.2.2 ∧ wA x L xs n Z q
/-- acts, rules, rows of ints and of strings stay -/
def kpO (c : Nat) : Prop := c = 12 ∨ c = 15 ∨ c = 113 ∨ c = 120
def keepO (Z Z2 : mjQ) : Prop := ∀ a, a < 1000 + Z.1.1 → kpO (Z.2.2.2.2 a).1 → sm Z.2 Z2.2 a
/-- other builders stay -/
def keepB (sb : Nat) (Z : mjQ) (b : mjBb) (Z2 : mjQ) (b2 : mjBb) : Prop := ∀ s0 v0 c0 t0, bS Z s0 v0 c0 t0 → s0 ≠ sb → v0 ≠ b.1 → bS Z2 s0 v0 c0 t0 ∧ v0 ≠ b2.1
def wX (x sb L : Nat) (xs : Nat → Int32) (n N : Nat) (Z : mjQ) (b : mjBb) (q : mjV) (n2 : Nat) (Z2 : mjQ) (b2 : mjBb) (q2 : mjV) (u : List Int32) : Prop := wS x sb L xs n2 Z2 b2 q2 ∧ b2.2.2 = b.2.2 ++ u ∧ Z.1.1 ≤ Z2.1.1 ∧ Z2.1.1 ≤ Z.1.1 + N ∧ Z2.1.2 + 2 * b.2.1 ≤ Z.1.2 + 2 * b2.2.1 + 16 * N ∧ b.2.1 ≤ b2.2.1 ∧ u.length ≤ N ∧ q2.1 ≤ q.1 + N ∧ keepO Z Z2 ∧ keepB sb Z b Z2 b2 ∧ ∀ a, a < 1000 + Z.1.1 → Z2.2.2.2.2 a = Z.2.2.2.2 a
def rmW (N : Nat) (Z : mjQ) (b : mjBb) (q : mjV) : Prop := Z.1.1 + N ≤ 80000 ∧ b.2.2.length + N ≤ 18000 ∧ q.1 + N ≤ 90000
section WX
variable {x sb L n n2 n3 N N2 M : Nat} {xs : Nat → Int32} {Z Z2 Z3 : mjQ} {b b2 b3 : mjBb} {q q2 q3 : mjV} {P : Nat → Prop} {u u2 : List Int32}
theorem keep_rf : keepO Z Z := fun _ _ _ => ⟨rfl, rfl, rfl⟩
theorem keep_tr (h : keepO Z Z2) (hm : Z.1.1 ≤ Z2.1.1) (k : keepO Z2 Z3) : keepO Z Z3 := fun a ha hk => by
  obtain ⟨x1, x2, x3⟩ := h a ha hk
  obtain ⟨y1, y2, y3⟩ := k a (by omega) (by rw [x3]; exact hk)
  exact ⟨y1.trans x1, y2.trans x2, y3.trans x3⟩
theorem kb_tr (h : keepB sb Z b Z2 b2) (k : keepB sb Z2 b2 Z3 b3) : keepB sb Z b Z3 b3 := fun s0 v0 c0 t0 g1 g2 g3 => by
  obtain ⟨y1, y2⟩ := h s0 v0 c0 t0 g1 g2 g3
  exact k s0 v0 c0 t0 y1 g2 y2
theorem kb_nB (g : frm Z Z2 P) (hp : nB Z P) : keepB sb Z b Z2 b := fun s0 v0 c0 t0 g1 g2 g3 => ⟨bS_frm2 g1 g hp, g3⟩
theorem wX_rf (h : wS x sb L xs n Z b q) : wX x sb L xs n 0 Z b q n Z b q [] := ⟨h, by rw [List.append_nil], Nat.le_refl _, Nat.le_refl _, Nat.le_refl _, Nat.le_refl _, Nat.le_refl _, Nat.le_refl _, keep_rf, fun s0 v0 c0 t0 g1 g2 g3 => ⟨g1, g3⟩, fun _ _ => rfl⟩
theorem keep_frm (g : frm Z Z2 P) (hp : ∀ a, P a → ¬ kpO (Z.2.2.2.2 a).1) : keepO Z Z2 := fun a ha hk => (g.2 a (Or.inl ha)).2 (fun e => hp a e hk)
theorem kpO_no {c : Nat} (h : c = 16 ∨ c = 20 ∨ c = 119 ∨ c = 99 ∨ c = 19 ∨ c = 118 ∨ c = 13 ∨ c = 14) : ¬ kpO c := by
  unfold kpO
  omega
theorem wX_tr (h : wX x sb L xs n N Z b q n2 Z2 b2 q2 u) (k : wX x sb L xs n2 N2 Z2 b2 q2 n3 Z3 b3 q3 u2) : wX x sb L xs n (N + N2) Z b q n3 Z3 b3 q3 (u ++ u2) := by
  obtain ⟨h1, h2, h3, h4, h5, h6, h7, h8, h9, h10, h11⟩ := h
  obtain ⟨k1, k2, k3, k4, k5, k6, k7, k8, k9, k10, k11⟩ := k
  exact ⟨k1, by rw [k2, h2, List.append_assoc], by omega, by omega, by omega, by omega, by rw [List.length_append]; omega, by omega, keep_tr h9 h3 k9, kb_tr h10 k10, fun a ha => (k11 a (by omega)).trans (h11 a ha)⟩
theorem wX_wk (h : wX x sb L xs n N Z b q n2 Z2 b2 q2 u) (hn : N ≤ N2) : wX x sb L xs n N2 Z b q n2 Z2 b2 q2 u := by
  obtain ⟨h1, h2, h3, h4, h5, h6, h7, h8, h9, h10, h11⟩ := h
  exact ⟨h1, h2, h3, by omega, by omega, h6, by omega, by omega, h9, h10, h11⟩
theorem rw_tr (h : rmW M Z b q) (k : wX x sb L xs n N Z b q n2 Z2 b2 q2 u) (hN : N + N2 ≤ M) : rmW N2 Z2 b2 q2 := by
  obtain ⟨h1, h2, h3⟩ := h
  obtain ⟨k1, k2, k3, k4, k5, k6, k7, k8, k9, k10, k11⟩ := k
  refine ⟨by omega, ?_, by omega⟩
  rw [k2, List.length_append]; omega
theorem rw_wk (h : rmW N Z b q) (hn : N2 ≤ N) : rmW N2 Z b q := by
  obtain ⟨h1, h2, h3⟩ := h
  exact ⟨by omega, by omega, by omega⟩
theorem lw_x (k : wX x sb L xs n N Z b q n2 Z2 b2 q2 u) (h : 5 ≤ b.2.2.length) : 5 ≤ b2.2.2.length := by
  rw [k.2.1, List.length_append]; omega
theorem s_ap {v2 cap2 : Nat} (h : wS x sb L xs n Z b q) (hm : rmW N Z b q) (hN : 1 ≤ N) (hu : u.length ≤ N) (a : apR Z sb b.1 b.2.1 Z2 v2 cap2 (b.2.2 ++ u)) : wX x sb L xs n N Z b q n Z2 (v2, cap2, b.2.2 ++ u) q u := by
  obtain ⟨m1, m2, m3⟩ := hm
  obtain ⟨hb, hA⟩ := h
  obtain ⟨a1, a2, a3, a4, a5, a6, a7⟩ := a
  have k1 : (Z.2.2.2.2 sb).1 = 19 := by rw [hb.1]
  have k2 : (Z.2.2.2.2 b.1).1 = 118 := by rw [hb.2.2.2.2.1]
  refine ⟨⟨a1, wA_frm hA (by omega) a3 (fun y e => ?_)⟩, rfl, a3.1, by omega, by show Z2.1.2 + 2 * b.2.1 ≤ Z.1.2 + 2 * cap2 + 16 * N; omega, a2, hu, by omega, keep_frm a3 (fun y e => ?_), fun s0 v0 c0 t0 g1 g2 g3 => ⟨bS_frm g1 a3 (fun e => ?_) (fun e => ?_), fun e => ?_⟩, fun y hy => (a3.2 y (Or.inl hy)).1⟩
  · rcases e with e | e
    · rw [e, k1]; decide
    · rw [e, k2]; decide
  · rcases e with e | e
    · rw [e, k1]; exact kpO_no (by omega)
    · rw [e, k2]; exact kpO_no (by omega)
  · rcases e with e | e
    · exact g2 e
    · have w9 := g1.1
      rw [e, hb.2.2.2.2.1] at w9; exact absurd (congrArg Prod.fst w9) (by simp)
  · rcases e with e | e
    · have := g1.2.2.2.2.1
      rw [e, hb.1] at this; exact absurd (congrArg Prod.fst this) (by simp)
    · exact g3 e
  · have e9 : v0 = v2 := e
    have := g1.2.2.2.2.2.2.2.2.2.2.1
    rcases a4 with g | g
    · exact g3 (e9.trans g)
    · omega
theorem s_apS {s : Nat} (h : wS x sb L xs n Z b q) (hm : rmW N Z b q) (hs : 1000000 ≤ s ∧ s < 1000059) (hN : 1 ≤ N) (hl : (txS s).length ≤ N) : ∃ Z2 b2, g233_append sg0 sb s Z = some (sb, Z2) ∧ wX x sb L xs n N Z b q n Z2 b2 q (txS s) := by
  obtain ⟨m1, m2, m3⟩ := hm
  obtain ⟨Z2, v2, cap2, e1, r1⟩ := q_apS h.1 h.2.2.1 (by omega) hs (by omega)
  exact ⟨Z2, _, e1, s_ap h ⟨m1, m2, m3⟩ hN hl r1⟩
theorem s_apI {z : Int} (h : wS x sb L xs n Z b q) (hm : rmW N Z b q) (hz : -10000 < z ∧ z < 10000) (h5 : 5 ≤ b.2.2.length) (hN : 1 ≤ N) (hl : (decZ z).length ≤ N) : ∃ Z2 b2, g230_append sg0 sb (i3 z) Z = some (sb, Z2) ∧ wX x sb L xs n N Z b q n Z2 b2 q (decZ z) := by
  obtain ⟨m1, m2, m3⟩ := hm
  obtain ⟨Z2, v2, cap2, e1, r1⟩ := q_apI h.1 (by omega) hz h5 (by omega)
  exact ⟨Z2, _, e1, s_ap h ⟨m1, m2, m3⟩ hN hl r1⟩
theorem s_apC {c : Nat} (h : wS x sb L xs n Z b q) (hm : rmW N Z b q) (hc : c < 128) (hN : 1 ≤ N) : ∃ Z2 b2, g229_append sg0 sb (i3 (c : Nat)) Z = some (sb, Z2) ∧ wX x sb L xs n N Z b q n Z2 b2 q [i3 (c : Nat)] := by
  obtain ⟨m1, m2, m3⟩ := hm
  obtain ⟨Z2, v2, cap2, e1, r1⟩ := q_apC h.1 (by omega) hc (by omega)
  exact ⟨Z2, _, e1, s_ap h ⟨m1, m2, m3⟩ hN (by rw [List.length_singleton]; exact hN) r1⟩
/-- a step of the World alone -/
theorem s_A (h : wS x sb L xs n Z b q) (hA : wA x L xs n2 Z2 q2) (f : frm Z Z2 P) (hp : nB Z P) (hk : ∀ a, P a → ¬ kpO (Z.2.2.2.2 a).1) (c1 : Z2.1.1 ≤ Z.1.1 + N) (c2 : Z2.1.2 ≤ Z.1.2 + 16 * N) (c3 : q2.1 ≤ q.1 + N) : wX x sb L xs n N Z b q n2 Z2 b q2 [] :=
  ⟨⟨bS_frm2 h.1 f hp, hA⟩, by rw [List.append_nil], f.1, c1, by omega, Nat.le_refl _, by rw [List.length_nil]; omega, c3, keep_frm f hk, kb_nB f hp, fun y hy => (f.2 y (Or.inl hy)).1⟩
theorem x_nB (h : wA x L xs n Z q) : nB Z (fun a => a = x) ∧ ∀ a, a = x → ¬ kpO (Z.2.2.2.2 a).1 := ⟨fun a e => by have e9 : a = x := e; rw [e9, h.1.1]; decide, fun a e => by rw [e, h.1.1]; exact kpO_no (by omega)⟩
theorem s_next {k : Nat} (h : wS x sb L xs n Z b q) (hm : rmW 1 Z b q) (hk : 0 < k ∧ k ≤ 100000) : ∃ Z2, g195_next sg0 x (i3 k) Z = some (i3 (pkN L xs (q.1 + 1) k : Nat), Z2) ∧ wX x sb L xs n 1 Z b q n Z2 b (q.1 + 1, q.2) [] ∧ pkN L xs (q.1 + 1) k < k := by
  obtain ⟨m1, m2, m3⟩ := hm
  obtain ⟨Z2, e1, e2, e3, e4, e5⟩ := w_next h.2 (by omega) (by omega) hk
  obtain ⟨y1, y2⟩ := x_nB h.2
  exact ⟨Z2, e1, s_A h e2 e3 y1 y2 (by rw [e4]; omega) (by rw [e4]; omega) (Nat.le_refl _), e5⟩
theorem s_put {f : Nat} {v : Int32} (h : wS x sb L xs n Z b q) (hm : rmW 0 Z b q) (hf : f ≤ 12) (hk : mjPutI (mjFk 16 f) v = true) : ∃ Z2, qSi Z x 16 f v = some Z2 ∧ wX x sb L xs n 0 Z b q n Z2 b (q.1, (fun j => if j = f then v else q.2.1 j), q.2.2) [] := by
  obtain ⟨m1, m2, m3⟩ := hm
  obtain ⟨Z2, e1, e2, e3, e4⟩ := w_put h.2 (by omega) hf hk
  obtain ⟨y1, y2⟩ := x_nB h.2
  exact ⟨Z2, e1, s_A h e2 e3 y1 y2 (by rw [e4]; omega) (by rw [e4]; omega) (Nat.le_refl _)⟩
theorem s_add {i e : Nat} (h : wS x sb L xs n Z b q) (hm : rmW 1 Z b q) (hi : i < n) (he : okE Z e) (heo : oldO Z e) (hl : (q.2.2.2 i).2.2.length < 10) : ∃ Z2 o2, g240_add sg0 (q.2.2.2 i).1 e Z = some (1, Z2) ∧ wX x sb L xs n 1 Z b q n Z2 b (q.1, q.2.1, q.2.2.1, fun j => if j = i then ((q.2.2.2 i).1, o2, (q.2.2.2 i).2.2 ++ [e]) else q.2.2.2 j) [] := by
  obtain ⟨m1, m2, m3⟩ := hm
  obtain ⟨Z2, o2, e1, e2, e3, e4, e5⟩ := w_add h.2 (by omega) hi he heo hl
  have k13 : (Z.2.2.2.2 1300003).1 = 99 := h.2.2.1 _ (by omega)
  refine ⟨Z2, o2, e1, s_A h e2 e3 (fun a g => ?_) (fun a g => ?_) e4 (by omega) (by show q.1 ≤ q.1 + 1; omega)⟩
  · rcases g with g | g | g
    · rw [g]; decide
    · rw [g]; decide
    · rw [g, k13]; decide
  · rcases g with g | g | g
    · exact kpO_no (by omega)
    · exact kpO_no (by omega)
    · rw [g]; exact kpO_no (by omega)
theorem s_newL (h : wS x sb L xs n Z b q) (hm : rmW 1 Z b q) : ∃ Z2 Z3, qNew sg0 Z (20, 0) = some (1000 + Z.1.1, Z2) ∧ g239_init sg0 (1000 + Z.1.1) Z2 = some ((), Z3) ∧ wX x sb L xs n 1 Z b q (n + 1) Z3 b (q.1, q.2.1, q.2.2.1, fun j => if j = n then (1000 + Z.1.1, 1300003, []) else q.2.2.2 j) [] ∧ Z3.2.2.2.2 (1000 + Z.1.1) = (20, 0) ∧ Z3.1.1 = Z.1.1 + 1 := by
  obtain ⟨m1, m2, m3⟩ := hm
  obtain ⟨Z2, Z3, e1, e2, e3, e4, e5, e6⟩ := w_newL h.2 (by omega)
  have hz : mjSzK (20, 0) ≤ 16 := by decide
  exact ⟨Z2, Z3, e1, e2, s_A h e3 e4 (fun a g => g.elim) (fun a g => g.elim) (by rw [e5]; omega) (by rw [e5]; show Z.1.2 + mjSzK (20, 0) ≤ Z.1.2 + 16 * 1; omega) (by show q.1 ≤ q.1 + 1; omega), e6, by rw [e5]⟩
/-- a new object that the World and its builder don't know -/
theorem s_new {c : Nat × Nat} (h : wS x sb L xs n Z b q) (hm : rmW 1 Z b q) (hz : mjSzK c ≤ 16) : ∃ Z2, qNew sg0 Z c = some (1000 + Z.1.1, Z2) ∧ wX x sb L xs n 1 Z b q n Z2 b q [] ∧ Z2.2.2.2.2 (1000 + Z.1.1) = c ∧ (∀ j, Z2.2.1 (1000 + Z.1.1) j = 0) ∧ Z2.1.1 = Z.1.1 + 1 ∧ ∀ j, Z2.2.2.2.1 (1000 + Z.1.1) j = none := by
  obtain ⟨m1, m2, m3⟩ := hm
  obtain ⟨Z2, e1, e2, e3, e4, e5, e6⟩ := w_new (Z := Z) (c := c) (by omega)
  exact ⟨Z2, e1, s_A h (wA_frm h.2 (by omega) e2 (fun a g => g.elim)) e2 (fun a g => g.elim) (fun a g => g.elim) (by rw [e3]; omega) (by rw [e3]; show Z.1.2 + mjSzK c ≤ Z.1.2 + 16 * 1; omega) (by omega), e4, e5, by rw [e3], e6⟩
/-- a write to an object of acts, rules, rows made since Z -/
theorem s_wr {c : Nat × Nat} {p : Nat} {Z0 : mjQ} {n0 : Nat} {b0 : mjBb} {q0 : mjV} (k : wX x sb L xs n0 N Z0 b0 q0 n Z b q u) (hm : Z.1.1 ≤ 90000) (hp : Z.2.2.2.2 p = c) (hc : kpO c.1) (h1 : 1000 + Z0.1.1 ≤ p ∧ p < 1000000) (f : frm Z Z2 (fun a => a = p)) (hn : Z2.1 = Z.1) : wX x sb L xs n0 N Z0 b0 q0 n Z2 b q u := by
  obtain ⟨h, h2, h3, h4, h5, h6, h7, h8, h9, h10, h11⟩ := k
  have e1 : (Z.2.2.2.2 p).1 = c.1 := by rw [hp]
  have nb : nB Z (fun a => a = p) := fun a e => by
    have e9 : a = p := e
    rw [e9, e1]
    unfold kpO at hc
    omega
  have nw : nW Z (fun a => a = p) := fun a e => by
    have e9 : a = p := e
    rw [e9, e1]
    unfold kpO at hc
    omega
  refine ⟨⟨bS_frm2 h.1 f nb, wA_frm h.2 hm f nw⟩, h2, by rw [hn]; exact h3, by rw [hn]; exact h4, by rw [hn]; exact h5, h6, h7, h8, fun a ha hk => ?_, kb_tr h10 (kb_nB f nb), fun y hy => ((f.2 y (Or.inl (by omega))).1).trans (h11 y hy)⟩
  obtain ⟨x1, x2, x3⟩ := h9 a ha hk
  obtain ⟨y1, y2, y3⟩ := (f.2 a (Or.inl (by omega))).2 (fun e => by have e9 : a = p := e; omega)
  exact ⟨y1.trans x1, y2.trans x2, y3.trans x3⟩
end WX
