/-! what is grown: tests -/
def grC (u : List Int32) : Prop := ∃ a b s, grE (grU 2) a ∧ grE (grU 2) b ∧ (s = 1000018 ∨ s = 1000019 ∨ s = 1000020) ∧ u = a ++ (txS 1000021 ++ (txS s ++ (txS 1000021 ++ b)))
def grA (B : List Int32 → Prop) (u : List Int32) : Prop := B u ∨ ∃ a b, B a ∧ B b ∧ u = a ++ (txS 1000012 ++ b)
def grT (B : List Int32 → Prop) (u : List Int32) : Prop := grA B u ∨ ∃ a b, grA B a ∧ grA B b ∧ u = a ++ (txS 1000010 ++ b)
def grB : Nat → List Int32 → Prop
  | 0, u => grC u
  | n + 1, u => grC u ∨ (∃ a, grB n a ∧ u = txS 1000014 ++ a) ∨ ∃ a, grT (grB n) a ∧ u = txS 1000016 ++ (a ++ txS 1000017)
theorem grM_mono {U V : List Int32 → Prop} (h : ∀ u, U u → V u) {u : List Int32} : grM U u → grM V u
  | Or.inl a => Or.inl (h u a)
  | Or.inr ⟨a, b, h1, h2, h3⟩ => Or.inr ⟨a, b, h a h1, h b h2, h3⟩
theorem grE_mono {U V : List Int32 → Prop} (h : ∀ u, U u → V u) {u : List Int32} : grE U u → grE V u
  | Or.inl a => Or.inl (grM_mono h a)
  | Or.inr ⟨a, b, s, h1, h2, h3⟩ => Or.inr ⟨a, b, s, grM_mono h h1, grM_mono h h2, h3⟩
theorem grU_up : ∀ n u, grU n u → grU (n + 1) u
  | 0, u, h => Or.inl h
  | n + 1, u, h => by
    rcases h with a | ⟨a, h1, h2⟩
    · exact Or.inl a
    · exact Or.inr ⟨a, grE_mono (grU_up n) h1, h2⟩
theorem grU_le : ∀ n k u, grU n u → grU (n + k) u
  | n, 0, u, h => h
  | n, k + 1, u, h => grU_up _ u (grU_le n k u h)
section GB
variable {g sb L N N2 s : Nat} {xs : Nat → Int32} {Z Z2 Z3 : mjQ} {q q2 q3 : mjGw} {u u2 : List Int32} {B : List Int32 → Prop} {F : mjQ → Option (Nat × mjQ)}
/-- how a function answers that grows a test, with so many comparisons left -/
def okB (g sb L : Nat) (xs : Nat → Int32) (s : Nat) (G : List Int32 → Prop) (F : mjQ → Option (Nat × mjQ)) : Prop := ∀ Z q, gS g sb L xs Z q → 1 ≤ q.2.2.2.2.1 → q.2.2.2.2.1 ≤ 4 → rmG (1900 * q.2.2.2.2.1.toNat - s) Z q → 5 ≤ q.2.2.1.length → ∃ p Z2 q2 u N, F Z = some (p, Z2) ∧ gwX g sb L xs N Z q Z2 q2 u ∧ (N : Int) + s ≤ 1900 * (q.2.2.2.2.1 - q2.2.2.2.2.1) ∧ 0 ≤ q2.2.2.2.2.1 ∧ G u
theorem gI_left (h : gS g sb L xs Z q) : qI Z.2 g 13 2 = some (i3 q.2.2.2.2.1) := qI_of h.2.1.1 (by decide) h.2.1.2.2.2.1
/-- one join: an operator's word, a new Part, the right side, the Part filled -/
theorem g_join {w pn : Nat} {d : Int32} (k : gwX g sb L xs N Z q Z2 q2 u) (hm : rmG (1900 * q.2.2.2.2.1.toNat - (s - 6)) Z q) (hs : 8 ≤ s) (hw : 1000000 ≤ w ∧ w < 1000059 ∧ (txS w).length ≤ 5) (hF : okB g sb L xs s B F) (l1 : 1 ≤ q2.2.2.2.2.1) (l2 : q2.2.2.2.2.1 ≤ q.2.2.2.2.1) (l4 : q.2.2.2.2.1 ≤ 4) (hN : (N : Int) + s ≤ 1900 * (q.2.2.2.2.1 - q2.2.2.2.2.1) + 1) (h5 : 5 ≤ q.2.2.1.length) (x3 : Nat) :
    ∃ p2 Z5 q5 u5 M, (mjBq (g233_append sg0 sb w Z2) fun v115 Z116 => mjBq (qNew sg0 Z116 (14, 0)) fun v117 Z119 => if mjRo Z119.2 g 13 = true then mjBq (F Z119) fun v122 Z123 => mjBq (g187_init sg0 v117 pn 0 (some x3) (some v122) Z123) fun _ Z126 => some (v117, Z126) else none) = some (p2, Z5) ∧ gwX g sb L xs (N + (M + 6)) Z q Z5 q5 (u ++ (txS w ++ u5)) ∧ (M : Int) + s ≤ 1900 * (q2.2.2.2.2.1 - q5.2.2.2.2.1) ∧ 0 ≤ q5.2.2.2.2.1 ∧ B u5 := by
  have m0 := rm_tr hm k (N2 := 1900 * q2.2.2.2.2.1.toNat - s + 6) (by omega)
  obtain ⟨Z3, q3, a1, a2, a3⟩ := g_apS (N := 5) (s := w) k.1 (rm_wk m0 (by omega)) ⟨hw.1, hw.2.1⟩ (by omega) hw.2.2
  have m1 := rm_tr m0 a2 (N2 := 1900 * q2.2.2.2.2.1.toNat - s + 1) (by omega)
  obtain ⟨Z4, b1, b2, b3⟩ := g_newP a2.1 (rm_wk m1 (by omega))
  have m2 := rm_tr m1 b2 (N2 := 1900 * q2.2.2.2.2.1.toNat - s) (by omega)
  have x4 := gX_tr k (gX_tr a2 b2)
  have e3 : q3.2.2.2.2.1 = q2.2.2.2.2.1 := by rw [a3]
  obtain ⟨p2, Z5, q5, u5, M, c1, c2, c3, c4, c5⟩ := hF Z4 q3 b2.1 (by omega) (by omega) (by rw [e3]; exact m2) (len_x x4 h5)
  have x5 := gX_tr x4 c2
  obtain ⟨Z6, d1, d2⟩ := g_initP (s := pn) (x := 0) (o1 := some x3) (o2 := some p2) x5 (prT_o (prT_x b3 c2) (gX_tr k a2).2.2.1.1) (cel_x x5 hm (by omega))
  refine ⟨1000 + Z3.1.1, Z6, q5, u5, M, ?_, ?_, by omega, c4, c5⟩
  · rw [a1, mjBq_some, b1, mjBq_some, if_pos (gS_ro b2.1).2, c1, mjBq_some, d1, mjBq_some]
  · have d3 := gX_wk d2 (N2 := N + (M + 6)) (by omega)
    simp only [List.append_nil, List.append_assoc] at d3
    exact d3
theorem g_a {E : Nat → Nat → Int32 → mjQ → Option (Nat × mjQ)} {d : Int32} (hs : 8 ≤ s) (hE : okB g sb L xs s B (E g sb d)) : okB g sb L xs (s - 7) (grA B) (g193_a sg0 E g sb d) := by
  intro Z q h l1 l4 hm h5
  obtain ⟨p, Z1, q1, u, N, a1, a2, a3, a4, a5⟩ := hE Z q h l1 l4 (rm_wk hm (by omega)) h5
  have m1 := rm_tr hm a2 (N2 := 1) (by omega)
  obtain ⟨Z2, q2, b1, b2, b3, b4⟩ := g_next (n := 3) a2.1 (rm_wk m1 (by omega)) (by omega)
  have e2 : q2.2.2.2.2.1 = q1.2.2.2.2.1 := by rw [b3]
  have x2 := gX_tr a2 b2
  have e0 : g193_a sg0 E g sb d Z = g193_a_h14 sg0 E mjF g sb d p (i3 (pkN L xs (q1.2.2.2.1 + 1) 3 : Nat)) Z2 := by
    unfold g193_a
    rw [if_pos (gS_ro h).2, a1, mjBq_some, if_pos (gS_ro a2.1).2, show (3 : Int32) = i3 ((3 : Nat) : Int) from rfl, b1, mjBq_some]
  have stop : ∃ p2 Z5 q5 u5 N5, some (p, Z2) = some (p2, Z5) ∧ gwX g sb L xs N5 Z q Z5 q5 u5 ∧ (N5 : Int) + (s - 7 : Nat) ≤ 1900 * (q.2.2.2.2.1 - q5.2.2.2.2.1) ∧ 0 ≤ q5.2.2.2.2.1 ∧ grA B u5 := ⟨p, Z2, q2, _, N + 1, rfl, x2, by omega, by omega, Or.inl (by rw [List.append_nil]; exact a5)⟩
  rw [e0, show mjF = 19998 + 1 + 1 from rfl, g193_a_h14]
  by_cases r : pkN L xs (q1.2.2.2.1 + 1) 3 ≤ 1
  · rw [if_pos (by rw [show (1 : Int32) = i3 1 from rfl, c_le (by omega)]; omega)]
    exact stop
  · rw [if_neg (by rw [show (1 : Int32) = i3 1 from rfl, c_le (by omega)]; omega), gI_left b2.1, mjBp_some]
    by_cases z : q2.2.2.2.2.1 ≤ 0
    · rw [if_pos (by rw [show (0 : Int32) = i3 0 from rfl, c_le (by omega)]; omega)]
      exact stop
    · rw [if_neg (by rw [show (0 : Int32) = i3 0 from rfl, c_le (by omega)]; omega), if_pos (gS_ro b2.1).1]
      obtain ⟨p2, Z5, q5, u5, M, c1, c2, c3, c4, c5⟩ := g_join (w := 1000012) (pn := 1000013) (d := d) x2 (rm_wk hm (by omega)) hs (by decide) hE (by omega) (by omega) l4 (by omega) h5 p
      have c6 : (mjBq (g233_append sg0 sb 1000012 Z2) fun v115 Z116 => mjBq (qNew sg0 Z116 (14, 0)) fun v117 Z119 => if mjRo Z119.2 g 13 = true then mjBq (E g sb d Z119) fun v122 Z123 => mjBq (g187_init sg0 v117 1000013 0 (some p) (some v122) Z123) fun _ Z126 => g193_a_h14 sg0 E (19998 + 1) g sb d v117 (i3 (pkN L xs (q1.2.2.2.1 + 1) 3 : Nat) + (-1)) Z126 else none) = some (p2, Z5) := by
        have last : ∀ v Zz, g193_a_h14 sg0 E (19998 + 1) g sb d v (i3 (pkN L xs (q1.2.2.2.1 + 1) 3 : Nat) + (-1)) Zz = some (v, Zz) := fun v Zz => by
          rw [g193_a_h14, show (-1 : Int32) = i3 (-1) from rfl, i3_add, if_pos (by rw [show (1 : Int32) = i3 1 from rfl, c_le (by omega)]; omega)]
        simp only [last]
        exact c1
      refine ⟨p2, Z5, q5, _, _, c6, c2, by omega, c4, Or.inr ⟨u, u5, a5, c5, by rw [List.append_nil]⟩⟩
theorem g_t {E : Nat → Nat → Int32 → mjQ → Option (Nat × mjQ)} {d : Int32} (hs : 8 ≤ s) (hE : okB g sb L xs s (grA B) (g193_a sg0 E g sb d)) : okB g sb L xs (s - 6) (grT B) (g192_t sg0 E g sb d) := by
  intro Z q h l1 l4 hm h5
  obtain ⟨p, Z1, q1, u, N, a1, a2, a3, a4, a5⟩ := hE Z q h l1 l4 (rm_wk hm (by omega)) h5
  have m1 := rm_tr hm a2 (N2 := 1) (by omega)
  obtain ⟨Z2, q2, b1, b2, b3, b4⟩ := g_next (n := 3) a2.1 (rm_wk m1 (by omega)) (by omega)
  have e2 : q2.2.2.2.2.1 = q1.2.2.2.2.1 := by rw [b3]
  have x2 := gX_tr a2 b2
  have e0 : g192_t sg0 E g sb d Z = g192_t_h14 sg0 E mjF g sb d p (i3 (pkN L xs (q1.2.2.2.1 + 1) 3 : Nat)) Z2 := by
    unfold g192_t
    rw [if_pos (gS_ro h).2, a1, mjBq_some, if_pos (gS_ro a2.1).2, show (3 : Int32) = i3 ((3 : Nat) : Int) from rfl, b1, mjBq_some]
  have stop : ∃ p2 Z5 q5 u5 N5, some (p, Z2) = some (p2, Z5) ∧ gwX g sb L xs N5 Z q Z5 q5 u5 ∧ (N5 : Int) + (s - 6 : Nat) ≤ 1900 * (q.2.2.2.2.1 - q5.2.2.2.2.1) ∧ 0 ≤ q5.2.2.2.2.1 ∧ grT B u5 := ⟨p, Z2, q2, _, N + 1, rfl, x2, by omega, by omega, Or.inl (by rw [List.append_nil]; exact a5)⟩
  rw [e0, show mjF = 19998 + 1 + 1 from rfl, g192_t_h14]
  by_cases r : pkN L xs (q1.2.2.2.1 + 1) 3 ≤ 1
  · rw [if_pos (by rw [show (1 : Int32) = i3 1 from rfl, c_le (by omega)]; omega)]
    exact stop
  · rw [if_neg (by rw [show (1 : Int32) = i3 1 from rfl, c_le (by omega)]; omega), gI_left b2.1, mjBp_some]
    by_cases z : q2.2.2.2.2.1 ≤ 0
    · rw [if_pos (by rw [show (0 : Int32) = i3 0 from rfl, c_le (by omega)]; omega)]
      exact stop
    · rw [if_neg (by rw [show (0 : Int32) = i3 0 from rfl, c_le (by omega)]; omega), if_pos (gS_ro b2.1).1]
      obtain ⟨p2, Z5, q5, u5, M, c1, c2, c3, c4, c5⟩ := g_join (w := 1000010) (pn := 1000011) (d := d) x2 (rm_wk hm (by omega)) hs (by decide) hE (by omega) (by omega) l4 (by omega) h5 p
      have c6 : (mjBq (g233_append sg0 sb 1000010 Z2) fun v115 Z116 => mjBq (qNew sg0 Z116 (14, 0)) fun v117 Z119 => if mjRo Z119.2 g 13 = true then mjBq (g193_a sg0 E g sb d Z119) fun v122 Z123 => mjBq (g187_init sg0 v117 1000011 0 (some p) (some v122) Z123) fun _ Z126 => g192_t_h14 sg0 E (19998 + 1) g sb d v117 (i3 (pkN L xs (q1.2.2.2.1 + 1) 3 : Nat) + (-1)) Z126 else none) = some (p2, Z5) := by
        have last : ∀ v Zz, g192_t_h14 sg0 E (19998 + 1) g sb d v (i3 (pkN L xs (q1.2.2.2.1 + 1) 3 : Nat) + (-1)) Zz = some (v, Zz) := fun v Zz => by
          rw [g192_t_h14, show (-1 : Int32) = i3 (-1) from rfl, i3_add, if_pos (by rw [show (1 : Int32) = i3 1 from rfl, c_le (by omega)]; omega)]
        simp only [last]
        exact c1
      refine ⟨p2, Z5, q5, _, _, c6, c2, by omega, c4, Or.inr ⟨u, u5, a5, c5, by rw [List.append_nil]⟩⟩
end GB
