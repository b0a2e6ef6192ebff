/-! what grows from numbers: a Grown g writes behind the text of a builder sb; q: (bytes, room, text, at, left, compared) -/
abbrev mjGw : Type := Nat × Nat × List Int32 × Nat × Int × Int
def gS (g sb L : Nat) (xs : Nat → Int32) (Z : mjQ) (q : mjGw) : Prop := bS Z sb q.1 q.2.1 q.2.2.1 ∧ gR Z g q.2.2.2.1 q.2.2.2.2.1 q.2.2.2.2.2 ∧ wokQ Z ∧ scI Z L xs
def gwX (g sb L : Nat) (xs : Nat → Int32) (N : Nat) (Z : mjQ) (q : mjGw) (Z2 : mjQ) (q2 : mjGw) (u : List Int32) : Prop := gS g sb L xs Z2 q2 ∧ q2.2.2.1 = q.2.2.1 ++ u ∧ frm Z Z2 (fun a => a = sb ∨ a = g ∨ a = q.1) ∧ (q2.1 = q.1 ∨ 1000 + Z.1.1 ≤ q2.1) ∧ Z2.1.1 ≤ Z.1.1 + N ∧ Z2.1.2 + 2 * q.2.1 ≤ Z.1.2 + 2 * q2.2.1 + 8 * N ∧ q.2.1 ≤ q2.2.1 ∧ q2.2.2.2.1 ≤ q.2.2.2.1 + N ∧ u.length ≤ N
def rmG (N : Nat) (Z : mjQ) (q : mjGw) : Prop := Z.1.1 + N ≤ 80000 ∧ q.2.2.1.length + N ≤ 18000 ∧ q.2.2.2.1 + N ≤ 90000
/-- no rfl row: else the kernel looks into txS of a variable -/
theorem ap_nl (l : List Int32) : [] ++ l = l := Eq.trans (List.nil_append l) (Eq.refl l)
section GW
variable {g sb L N N2 : Nat} {xs : Nat → Int32} {Z Z2 Z3 : mjQ} {q q2 q3 : mjGw} {u u2 : List Int32}
theorem gS_ne (h : gS g sb L xs Z q) : ¬ sb = g ∧ ¬ q.1 = g ∧ ¬ q.1 = sb ∧ sb < 1000 + Z.1.1 ∧ g < 1000 + Z.1.1 ∧ q.1 < 1000 + Z.1.1 := by
  obtain ⟨b, r, w, s⟩ := h
  have k1 := b.1
  have k2 := b.2.2.2.2.1
  have k3 := r.1
  refine ⟨fun e => ?_, fun e => ?_, fun e => ?_, b.2.2.2.2.2.2.2.2.2.1, r.2.2.2.2.2, b.2.2.2.2.2.2.2.2.2.2.1⟩
  · rw [e, k3] at k1; exact absurd (congrArg Prod.fst k1) (by simp)
  · rw [e, k3] at k2; exact absurd (congrArg Prod.fst k2) (by simp)
  · rw [e, k1] at k2; exact absurd (congrArg Prod.fst k2) (by simp)
theorem gX_rf (h : gS g sb L xs Z q) : gwX g sb L xs 0 Z q Z q [] := ⟨h, by rw [List.append_nil], frm_rf, Or.inl rfl, by omega, by omega, by omega, by omega, by rw [List.length_nil]; omega⟩
theorem gX_tr (h : gwX g sb L xs N Z q Z2 q2 u) (k : gwX g sb L xs N2 Z2 q2 Z3 q3 u2) : gwX g sb L xs (N + N2) Z q Z3 q3 (u ++ u2) := by
  obtain ⟨h1, h2, h3, h4, h5, h6, h7, h8, h9⟩ := h
  obtain ⟨k1, k2, k3, k4, k5, k6, k7, k8, k9⟩ := k
  have hm := h3.1
  refine ⟨k1, by rw [k2, h2, List.append_assoc], frm_tr2 h3 k3 ?_, ?_, by omega, by omega, by omega, by omega, by rw [List.length_append]; omega⟩
  · intro a ha e
    rcases e with e | e | e
    · exact Or.inl e
    · exact Or.inr (Or.inl e)
    · rcases h4 with f | f
      · exact Or.inr (Or.inr (e.trans f))
      · have hx := gS_ne h1
        rcases ha with o | o
        · omega
        · have w1 := h1.2.2.1 a o
          rw [show a = q2.1 from e, h1.1.2.2.2.2.1] at w1
          exact absurd (show (118 : Nat) = 99 from w1) (by decide)
  · rcases k4 with e | e
    · rcases h4 with f | f
      · exact Or.inl (e.trans f)
      · exact Or.inr (by omega)
    · exact Or.inr (by omega)
theorem gX_wk (h : gwX g sb L xs N Z q Z2 q2 u) (hn : N ≤ N2) : gwX g sb L xs N2 Z q Z2 q2 u := by
  obtain ⟨h1, h2, h3, h4, h5, h6, h7, h8, h9⟩ := h
  exact ⟨h1, h2, h3, h4, by omega, by omega, h7, by omega, by omega⟩
theorem rm_tr {M : Nat} (h : rmG M Z q) (k : gwX g sb L xs N Z q Z2 q2 u) (hN : N + N2 ≤ M) : rmG N2 Z2 q2 := by
  obtain ⟨h1, h2, h3⟩ := h
  obtain ⟨k1, k2, k3, k4, k5, k6, k7, k8, k9⟩ := k
  refine ⟨by omega, ?_, by omega⟩
  rw [k2, List.length_append]; omega
theorem rm_wk (h : rmG N Z q) (hn : N2 ≤ N) : rmG N2 Z q := by
  obtain ⟨h1, h2, h3⟩ := h
  exact ⟨by omega, by omega, by omega⟩
/-- out of what an append comes to -/
theorem gX_ap {v2 cap2 : Nat} (h : gS g sb L xs Z q) (hm : Z.1.1 ≤ 80000) (hN : 1 ≤ N) (hu : u.length ≤ N) (a : apR Z sb q.1 q.2.1 Z2 v2 cap2 (q.2.2.1 ++ u)) : gwX g sb L xs N Z q Z2 (v2, cap2, q.2.2.1 ++ u, q.2.2.2) u := by
  obtain ⟨n1, n2, n3, n4, n5, n6⟩ := gS_ne h
  obtain ⟨hb, hg, hw, hs⟩ := h
  obtain ⟨a1, a2, a3, a4, a5, a6, a7⟩ := a
  have f : frm Z Z2 (fun a => a = sb ∨ a = g ∨ a = q.1) := frm_wk a3 (fun x _ e => by rcases e with e | e; exact Or.inl e; exact Or.inr (Or.inr e))
  obtain ⟨x1, x2, x3⟩ := (a3.2 g (Or.inl n5)).2 (fun e => by rcases e with e | e; exact n1 e.symm; exact n2 e.symm)
  have := a3.1
  refine ⟨⟨a1, ?_, wok_frm hw f, scI_frm hs f (fun x hx e => by rcases e with e | e | e <;> omega)⟩, rfl, f, ?_, by omega, by show Z2.1.2 + 2 * q.2.1 ≤ Z.1.2 + 2 * cap2 + 8 * N; omega, a2, by show q.2.2.2.1 ≤ q.2.2.2.1 + N; omega, hu⟩
  · obtain ⟨g1, g2, g3, g4, g5, g6⟩ := hg
    exact ⟨by rw [x3]; exact g1, by rw [x2]; exact g2, by rw [x1]; exact g3, by rw [x1]; exact g4, by rw [x1]; exact g5, by omega⟩
  · rcases a4 with e | e
    · exact Or.inl e
    · exact Or.inr (by show 1000 + Z.1.1 ≤ v2; omega)
theorem g_apS {s : Nat} (h : gS g sb L xs Z q) (hm : rmG N Z q) (hs : 1000000 ≤ s ∧ s < 1000059) (hN : 1 ≤ N) (hl : (txS s).length ≤ N) : ∃ Z2 q2, g233_append sg0 sb s Z = some (sb, Z2) ∧ gwX g sb L xs N Z q Z2 q2 (txS s) ∧ q2.2.2.2 = q.2.2.2 := by
  obtain ⟨m1, m2, m3⟩ := hm
  obtain ⟨Z2, v2, cap2, e1, r1⟩ := q_apS h.1 h.2.2.1 (by omega) hs (by omega)
  exact ⟨Z2, _, e1, gX_ap h (by omega) hN hl r1, rfl⟩
theorem g_apI {z : Int} (h : gS g sb L xs Z q) (hm : rmG N Z q) (hz : -10000 < z ∧ z < 10000) (h5 : 5 ≤ q.2.2.1.length) (hN : 1 ≤ N) (hl : (decZ z).length ≤ N) : ∃ Z2 q2, g230_append sg0 sb (i3 z) Z = some (sb, Z2) ∧ gwX g sb L xs N Z q Z2 q2 (decZ z) ∧ q2.2.2.2 = q.2.2.2 := by
  obtain ⟨m1, m2, m3⟩ := hm
  obtain ⟨Z2, v2, cap2, e1, r1⟩ := q_apI h.1 (by omega) hz h5 (by omega)
  exact ⟨Z2, _, e1, gX_ap h (by omega) hN hl r1, rfl⟩
theorem g_next {n : Nat} (h : gS g sb L xs Z q) (hm : rmG 1 Z q) (hn : 0 < n ∧ n ≤ 100000) : ∃ Z2 q2, g186_next sg0 g (i3 n) Z = some (i3 (pkN L xs (q.2.2.2.1 + 1) n : Nat), Z2) ∧ gwX g sb L xs 1 Z q Z2 q2 [] ∧ q2.2.2.2.2 = q.2.2.2.2 ∧ pkN L xs (q.2.2.2.1 + 1) n < n := by
  obtain ⟨n1, n2, n3, n4, n5, n6⟩ := gS_ne h
  obtain ⟨m1, m2, m3⟩ := hm
  obtain ⟨hb, ⟨g1, g2, g3, g4, g5, g6⟩, hw, hs⟩ := h
  have f0 : frm Z (Z.1, mjSi Z.2 g 1 (i3 ((q.2.2.2.1 + 1 : Nat) : Int))) (fun a => a = g) := frm_si rfl
  have f : frm Z (Z.1, mjSi Z.2 g 1 (i3 ((q.2.2.2.1 + 1 : Nat) : Int))) (fun a => a = sb ∨ a = g ∨ a = q.1) := frm_wk f0 (fun x _ e => Or.inr (Or.inl e))
  refine ⟨_, (q.1, q.2.1, q.2.2.1, q.2.2.2.1 + 1, q.2.2.2.2), q_nextG g1 g3 g2 (by omega) hs (by omega) hn, ⟨⟨bS_frm hb f0 n1 n2, ⟨g1, g2, (if_pos rfl).trans (if_pos rfl), ?_, ?_, g6⟩, wok_frm hw f, scI_frm hs f (fun x hx e => by rcases e with e | e | e <;> omega)⟩, by rw [List.append_nil], f, Or.inl rfl, by show Z.1.1 ≤ Z.1.1 + 1; omega, by show Z.1.2 + 2 * q.2.1 ≤ Z.1.2 + 2 * q.2.1 + 8 * 1; omega, Nat.le_refl _, Nat.le_refl _, by rw [List.length_nil]; omega⟩, rfl, pkN_lt hn.1⟩
  · exact ((if_pos rfl).trans (if_neg (by decide))).trans g4
  · exact ((if_pos rfl).trans (if_neg (by decide))).trans g5
/-- a new Part -/
def prT (Z0 Z : mjQ) (p : Nat) : Prop := Z.2.2.2.2 p = (14, 0) ∧ 1000 + Z0.1.1 ≤ p ∧ p < 1000 + Z.1.1
theorem g_newP (h : gS g sb L xs Z q) (hm : rmG 1 Z q) : ∃ Z2, qNew sg0 Z (14, 0) = some (1000 + Z.1.1, Z2) ∧ gwX g sb L xs 1 Z q Z2 q [] ∧ prT Z Z2 (1000 + Z.1.1) := by
  obtain ⟨n1, n2, n3, n4, n5, n6⟩ := gS_ne h
  obtain ⟨m1, m2, m3⟩ := hm
  obtain ⟨hb, ⟨g1, g2, g3, g4, g5, g6⟩, hw, hs⟩ := h
  have hz : mjSzK (14, 0) ≤ 8 := by decide
  have f0 : frm Z ((Z.1.1 + 1, Z.1.2 + mjSzK (14, 0)), mjZr Z.2 (1000 + Z.1.1) (14, 0)) (fun _ => False) := frm_zr (by omega)
  have f : frm Z ((Z.1.1 + 1, Z.1.2 + mjSzK (14, 0)), mjZr Z.2 (1000 + Z.1.1) (14, 0)) (fun a => a = sb ∨ a = g ∨ a = q.1) := frm_wk f0 (fun x _ e => e.elim)
  obtain ⟨x1, x2, x3⟩ := (f0.2 g (Or.inl n5)).2 (fun e => e)
  refine ⟨_, qNew_0 (by omega), ⟨⟨bS_frm hb f0 (fun e => e) (fun e => e), ⟨by rw [x3]; exact g1, by rw [x2]; exact g2, by rw [x1]; exact g3, by rw [x1]; exact g4, by rw [x1]; exact g5, by show g < 1000 + (Z.1.1 + 1); omega⟩, wok_frm hw f, scI_frm hs f (fun x hx e => by rcases e with e | e | e <;> omega)⟩, by rw [List.append_nil], f, Or.inl rfl, Nat.le_refl _, by show Z.1.2 + mjSzK (14, 0) + 2 * q.2.1 ≤ Z.1.2 + 2 * q.2.1 + 8 * 1; omega, Nat.le_refl _, by omega, by rw [List.length_nil]; omega⟩, if_pos rfl, Nat.le_refl _, by show 1000 + Z.1.1 < 1000 + (Z.1.1 + 1); omega⟩
theorem prT_x {Z0 : mjQ} {p : Nat} (h : prT Z0 Z p) (k : gwX g sb L xs N Z q Z2 q2 u) : prT Z0 Z2 p := by
  obtain ⟨h1, h2, h3⟩ := h
  have := k.2.2.1.1
  exact ⟨(k.2.2.1.2 p (Or.inl h3)).1.trans h1, h2, by omega⟩
theorem prT_o {Z0 Z9 : mjQ} {p : Nat} (h : prT Z0 Z p) (k : Z9.1.1 ≤ Z0.1.1) : prT Z9 Z p := ⟨h.1, by have := h.2.1; omega, h.2.2⟩
/-- a Part is filled: nobody reads it -/
theorem g_initP {Z0 : mjQ} {q0 : mjGw} {p s : Nat} {x : Int32} {o1 o2 : Option Nat} (k : gwX g sb L xs N Z0 q0 Z q u) (hp : prT Z0 Z p) (hm : Z.1.1 ≤ 90000) : ∃ Z2, g187_init sg0 p s x o1 o2 Z = some ((), Z2) ∧ gwX g sb L xs N Z0 q0 Z2 q u := by
  obtain ⟨p1, p2, p3⟩ := hp
  obtain ⟨Z2, e1, e2, e3⟩ := q_initP (s := s) (x := x) (o1 := o1) (o2 := o2) p1
  obtain ⟨k1, k2, k3, k4, k5, k6, k7, k8, k9⟩ := k
  obtain ⟨n1, n2, n3, n4, n5, n6⟩ := gS_ne k1
  obtain ⟨hb, ⟨g1, g2, g3, g4, g5, g6⟩, hw, hs⟩ := k1
  have d1 : ¬ sb = p := fun e => by have := hb.1; rw [e, p1] at this; exact absurd (congrArg Prod.fst this) (by simp)
  have d2 : ¬ g = p := fun e => by rw [e, p1] at g1; exact absurd (congrArg Prod.fst g1) (by simp)
  have d3 : ¬ q.1 = p := fun e => by have := hb.2.2.2.2.1; rw [e, p1] at this; exact absurd (congrArg Prod.fst this) (by simp)
  obtain ⟨x1, x2, x3⟩ := (e2.2 g (Or.inl n5)).2 d2
  refine ⟨Z2, e1, ⟨bS_frm hb e2 d1 d3, ⟨by rw [x3]; exact g1, by rw [x2]; exact g2, by rw [x1]; exact g3, by rw [x1]; exact g4, by rw [x1]; exact g5, by rw [e3]; exact g6⟩, wok_frm hw e2, scI_frm hs e2 (fun a ha e => by omega)⟩, k2, frm_tr2 k3 e2 ?_, k4, by rw [e3]; exact k5, by rw [e3]; exact k6, k7, k8, k9⟩
  intro a ha e
  have e9 : a = p := e
  rcases ha with o | o
  · omega
  · omega
end GW
