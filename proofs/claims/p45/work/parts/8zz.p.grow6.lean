section GF
variable {g sb L N N2 s : Nat} {xs : Nat → Int32} {Z Z2 Z3 : mjQ} {q q2 q3 : mjGw} {u u2 : List Int32} {B : List Int32 → Prop} {F : mjQ → Option (Nat × mjQ)}
/-- B: the deepest, and one that may open -/
theorem g_b : ∀ n j, n ≤ 2 → n < j → okB g sb L xs (117 - 16 * n) (grB n) (g191_b_n sg0 j g sb (i3 ((2 - n : Nat) : Int)))
  | n, 0, hn, hj => by omega
  | 0, j + 1, hn, hj => by
    intro Z q h l1 l4 hm h5
    have e0 : g191_b_n sg0 (j + 1) g sb (i3 ((2 - 0 : Nat) : Int)) Z = g191_b_j19 sg0 (g191_b_n sg0 j) g sb (i3 ((2 - 0 : Nat) : Int)) g (i3 ((3 : Nat) : Int)) Z := by
      show g191_b_b sg0 (g191_b_n sg0 j) g sb (i3 ((2 - 0 : Nat) : Int)) Z = _
      unfold g191_b_b
      rw [gI_left h, mjBp_some, if_neg (by rw [show (1 : Int32) = i3 1 from rfl, c_lt (by omega)]; omega), if_neg (by rw [show (1 : Int32) = i3 1 from rfl, c_le (by omega)]; omega)]
      rfl
    obtain ⟨Z1, q1, a1, a2, a3, a4⟩ := g_next (n := 3) h (rm_wk hm (by omega)) (by omega)
    obtain ⟨p, Z2, q2, u, N, f1, f2, f3, f4, f5⟩ := g_cmp (m := 3) (n := 0) (E := g191_b_n sg0 j) (by omega) a2 a3 h l1 l4 (rm_wk hm (by omega)) h5 a1 a4
    exact ⟨p, Z2, q2, u, N, e0.trans f1, f2, by omega, f4, f5⟩
  | k + 1, j + 1, hn, hj => by
    intro Z q h l1 l4 hm h5
    have e0 : g191_b_n sg0 (j + 1) g sb (i3 ((2 - (k + 1) : Nat) : Int)) Z = g191_b_j19 sg0 (g191_b_n sg0 j) g sb (i3 ((2 - (k + 1) : Nat) : Int)) g (i3 ((5 : Nat) : Int)) Z := by
      show g191_b_b sg0 (g191_b_n sg0 j) g sb (i3 ((2 - (k + 1) : Nat) : Int)) Z = _
      unfold g191_b_b
      rw [gI_left h, mjBp_some, if_neg (by rw [show (1 : Int32) = i3 1 from rfl, c_lt (by omega)]; omega), if_pos (by rw [show (1 : Int32) = i3 1 from rfl, c_le (by omega)]; omega)]
      rfl
    rw [e0]
    have ih := g_b k j (by omega) (by omega)
    obtain ⟨Z1, q1, a1, a2, a3, a4⟩ := g_next (n := 5) h (rm_wk hm (by omega)) (by omega)
    have h1 := a2.1
    have m1 := rm_tr hm a2 (N2 := 1900 * q.2.2.2.2.1.toNat - (117 - 16 * (k + 1)) - 1) (by omega)
    have dn : i3 ((2 - (k + 1) : Nat) : Int) + 1 = i3 ((2 - k : Nat) : Int) := by
      rw [show (1 : Int32) = i3 1 from rfl, i3_add]
      congr 1
      omega
    by_cases r3 : pkN L xs (q.2.2.2.1 + 1) 5 = 3
    · -- not
      obtain ⟨Z2, q2, b1, b2, b3⟩ := g_apS (N := 4) (s := 1000014) h1 (rm_wk m1 (by omega)) (by omega) (by omega) (by decide)
      have m2 := rm_tr m1 b2 (N2 := 1900 * q.2.2.2.2.1.toNat - (117 - 16 * (k + 1)) - 5) (by omega)
      obtain ⟨Z3, c1, c2, c3⟩ := g_newP b2.1 (rm_wk m2 (by omega))
      have m3 := rm_tr m2 c2 (N2 := 1900 * q.2.2.2.2.1.toNat - (117 - 16 * (k + 1)) - 6) (by omega)
      have e2 : q2.2.2.2.2.1 = q.2.2.2.2.1 := by rw [b3, a3]
      have x3 := gX_tr a2 (gX_tr b2 c2)
      obtain ⟨p, Z4, q4, u, N, d1, d2, d3, d4, d5⟩ := ih Z3 q2 c2.1 (by omega) (by omega) (rm_wk m3 (by omega)) (len_x x3 h5)
      have x4 := gX_tr x3 d2
      obtain ⟨Z5, f1, f2⟩ := g_initP (s := 1000015) (x := 0) (o1 := some p) (o2 := none) x4 (prT_o (prT_x c3 d2) (gX_tr a2 b2).2.2.1.1) (cel_x x4 hm (by omega))
      refine ⟨1000 + Z2.1.1, Z5, q4, _, _, ?_, f2, by omega, d4, Or.inr (Or.inl ⟨u, d5, by simp only [ap_nl, List.append_nil]⟩)⟩
      unfold g191_b_j19
      rw [if_pos (gS_ro h).2, a1, mjBq_some, r3, if_neg (by decide), if_pos (gS_ro h1).1, b1, mjBq_some, c1, mjBq_some, if_pos (gS_ro c2.1).2, dn, d1, mjBq_some, f1, mjBq_some]
    · by_cases r4 : pkN L xs (q.2.2.2.1 + 1) 5 = 4
      · -- brackets
        obtain ⟨Z2, q2, b1, b2, b3⟩ := g_apS (N := 1) (s := 1000016) h1 (rm_wk m1 (by omega)) (by omega) (by omega) (by decide)
        have m2 := rm_tr m1 b2 (N2 := 1900 * q.2.2.2.2.1.toNat - (117 - 16 * (k + 1)) - 2) (by omega)
        have e2 : q2.2.2.2.2.1 = q.2.2.2.2.1 := by rw [b3, a3]
        have x2 := gX_tr a2 b2
        obtain ⟨p, Z3, q3, u, N, c1, c2, c3, c4, c5⟩ := g_t (by omega) (g_a (by omega) ih) Z2 q2 b2.1 (by omega) (by omega) (rm_wk m2 (by omega)) (len_x x2 h5)
        have x3 := gX_tr x2 c2
        have m3 := rm_tr hm x3 (N2 := 1) (by omega)
        obtain ⟨Z4, q4, d1, d2, d3⟩ := g_apS (N := 1) (s := 1000017) c2.1 m3 (by omega) (by omega) (by decide)
        have e4 : q4.2.2.2.2.1 = q3.2.2.2.2.1 := by rw [d3]
        have x4 := gX_tr x3 d2
        refine ⟨p, Z4, q4, _, _, ?_, x4, by omega, by omega, Or.inr (Or.inr ⟨u, c5, by simp only [ap_nl, List.append_assoc]⟩)⟩
        unfold g191_b_j19
        rw [if_pos (gS_ro h).2, a1, mjBq_some, r4, if_pos (by decide), if_neg (by decide), if_pos (gS_ro h1).1, b1, mjBq_some, if_pos (gS_ro b2.1).2, dn, c1, mjBq_some, if_pos (gS_ro c2.1).1, d1, mjBq_some]
      · obtain ⟨p, Z2, q2, u, N, f1, f2, f3, f4, f5⟩ := g_cmp (m := 5) (n := k + 1) (E := g191_b_n sg0 j) (by omega) a2 a3 h l1 l4 (rm_wk hm (by omega)) h5 a1 (by omega)
        exact ⟨p, Z2, q2, u, N, f1, f2, by omega, f4, Or.inl f5⟩
/-- a whole test -/
theorem g_tc : okB g sb L xs 72 (grT (grB 2)) (g192_tc sg0 g sb (i3 ((0 : Nat) : Int))) := g_t (s := 78) (by omega) (g_a (s := 85) (by omega) (g_b 2 4 (by omega) (by omega)))
end GF
