/-! a product, a sum -/
section GE
variable {g sb L N N2 : Nat} {xs : Nat → Int32} {Z Z2 Z3 : mjQ} {q q2 q3 : mjGw} {u u2 : List Int32}
theorem g_m {n : Nat} {E : Nat → Nat → Int32 → mjQ → Option (Nat × mjQ)} (hn : n ≤ 3) (hu : okU g sb L xs (nUu n) (grU n) (g189_u sg0 E g sb (i3 ((3 - n : Nat) : Int)))) : okU g sb L xs (2 * nUu n + 3) (grM (grU n)) (g188_m sg0 E g sb (i3 ((3 - n : Nat) : Int))) := by
  intro Z q h hm h5
  obtain ⟨p, Z1, q1, u, a1, a2, a3, a4⟩ := hu Z q h (rm_wk hm (by omega)) h5
  have m1 := rm_tr hm a2 (N2 := nUu n + 3) (by omega)
  obtain ⟨Z2, q2, b1, b2, b3, b4⟩ := g_next (n := 4) a2.1 (rm_wk m1 (by omega)) (by omega)
  have x2 := gX_tr a2 b2
  have m2 := rm_tr m1 b2 (N2 := nUu n + 2) (by omega)
  have e0 : g188_m sg0 E g sb (i3 ((3 - n : Nat) : Int)) Z = (if mjCmp .le (i3 (pkN L xs (q1.2.2.2.1 + 1) 4 : Nat)) 0 = true then (if mjRo Z2.2 sb 19 = true then mjBq (g233_append sg0 sb 1000025 Z2) fun v112 Z113 => mjBq (qNew sg0 Z113 (14, 0)) fun v114 Z116 => if mjRo Z116.2 g 13 = true then mjBq (g189_u sg0 E g sb (i3 ((3 - n : Nat) : Int)) Z116) fun v119 Z120 => mjBq (g187_init sg0 v114 1000025 0 (some p) (some v119) Z120) fun _ Z123 => some (v114, Z123) else none else none) else some (p, Z2)) := by
    unfold g188_m
    rw [if_pos (gS_ro h).2, a1, mjBq_some, if_pos (gS_ro a2.1).2, show (4 : Int32) = i3 ((4 : Nat) : Int) from rfl, b1, mjBq_some]
  rw [e0]
  by_cases r : pkN L xs (q1.2.2.2.1 + 1) 4 = 0
  · rw [if_pos (by rw [show (0 : Int32) = i3 0 from rfl, c_le (by omega)]; omega), if_pos (gS_ro b2.1).1]
    obtain ⟨Z3, q3, c1, c2, c3⟩ := g_apS (N := 1) (s := 1000025) b2.1 (rm_wk m2 (by omega)) (by omega) (by omega) (by decide)
    have m3 := rm_tr m2 c2 (N2 := nUu n + 1) (by omega)
    obtain ⟨Z4, d1, d2, d3⟩ := g_newP c2.1 (rm_wk m3 (by omega))
    have m4 := rm_tr m3 d2 (N2 := nUu n) (by omega)
    have x4 := gX_tr x2 (gX_tr c2 d2)
    obtain ⟨p2, Z5, q5, u5, f1, f2, f3, f4⟩ := hu Z4 q3 d2.1 m4 (len_x x4 h5)
    have x5 := gX_tr x4 f2
    obtain ⟨Z6, k1, k2⟩ := g_initP (s := 1000025) (x := 0) (o1 := some p) (o2 := some p2) x5 (prT_o (prT_x d3 f2) (gX_tr x2 c2).2.2.1.1) (cel_x x5 hm (by omega))
    refine ⟨1000 + Z3.1.1, Z6, q5, _, ?_, gX_wk k2 (by omega), by rw [f3, c3, b3, a3], Or.inr ⟨u, u5, a4, f4, by simp only [List.append_nil, List.append_assoc, ap_nl]⟩⟩
    rw [c1, mjBq_some, d1, mjBq_some, if_pos (gS_ro d2.1).2, f1, mjBq_some, k1, mjBq_some]
  · rw [if_neg (by rw [show (0 : Int32) = i3 0 from rfl, c_le (by omega)]; omega)]
    exact ⟨p, Z2, q2, _, rfl, gX_wk x2 (by omega), by rw [b3, a3], Or.inl (by rw [List.append_nil]; exact a4)⟩
theorem g_e_b {n : Nat} {E : Nat → Nat → Int32 → mjQ → Option (Nat × mjQ)} (hn : n ≤ 3) (hM : okU g sb L xs (2 * nUu n + 3) (grM (grU n)) (g188_m sg0 E g sb (i3 ((3 - n : Nat) : Int)))) : okU g sb L xs (4 * nUu n + 12) (grE (grU n)) (g190_e_b sg0 E g sb (i3 ((3 - n : Nat) : Int))) := by
  intro Z q h hm h5
  obtain ⟨p, Z1, q1, u, a1, a2, a3, a4⟩ := hM Z q h (rm_wk hm (by omega)) h5
  have m1 := rm_tr hm a2 (N2 := 2 * nUu n + 9) (by omega)
  obtain ⟨Z2, q2, b1, b2, b3, b4⟩ := g_next (n := 3) a2.1 (rm_wk m1 (by omega)) (by omega)
  have x2 := gX_tr a2 b2
  have m2 := rm_tr m1 b2 (N2 := 2 * nUu n + 8) (by omega)
  have e0 : g190_e_b sg0 E g sb (i3 ((3 - n : Nat) : Int)) Z = (if mjCmp .le (i3 (pkN L xs (q1.2.2.2.1 + 1) 3 : Nat)) 0 = true then (if mjRo Z2.2 g 13 = true then mjBq (g186_next sg0 g 2 Z2) fun v112 Z113 => if mjCmp .ne v112 0 = true then g190_e_j30 sg0 E g sb (i3 ((3 - n : Nat) : Int)) p 0 Z113 else g190_e_j30 sg0 E g sb (i3 ((3 - n : Nat) : Int)) p 1 Z113 else none) else some (p, Z2)) := by
    unfold g190_e_b
    rw [if_pos (gS_ro h).2, a1, mjBq_some, if_pos (gS_ro a2.1).2, show (3 : Int32) = i3 ((3 : Nat) : Int) from rfl, b1, mjBq_some]
  rw [e0]
  by_cases r : pkN L xs (q1.2.2.2.1 + 1) 3 = 0
  · rw [if_pos (by rw [show (0 : Int32) = i3 0 from rfl, c_le (by omega)]; omega), if_pos (gS_ro b2.1).2]
    obtain ⟨Z3, q3, c1, c2, c3, c4⟩ := g_next (n := 2) b2.1 (rm_wk m2 (by omega)) (by omega)
    have m3 := rm_tr m2 c2 (N2 := 2 * nUu n + 7) (by omega)
    have x3 := gX_tr x2 c2
    have tail : ∀ (s : Nat) (v : Int32), (s = 1000022 ∨ s = 1000023) → ∃ p2 Z5 q5 u5, g190_e_j45 sg0 E g sb (i3 ((3 - n : Nat) : Int)) p v sb s Z3 = some (p2, Z5) ∧ gwX g sb L xs (4 * nUu n + 12) Z q Z5 q5 (u ++ (txS s ++ u5)) ∧ q5.2.2.2.2 = q.2.2.2.2 ∧ grM (grU n) u5 := by
      intro s v hs
      have hl : 1000000 ≤ s ∧ s < 1000059 ∧ (txS s).length ≤ 3 := by
        rcases hs with e | e
        · rw [e]; decide
        · rw [e]; decide
      obtain ⟨Z4, q4, d1, d2, d3⟩ := g_apS (N := 3) (s := s) c2.1 (rm_wk m3 (by omega)) (by omega) (by omega) hl.2.2
      have m4 := rm_tr m3 d2 (N2 := 2 * nUu n + 4) (by omega)
      obtain ⟨Z5, f1, f2, f3⟩ := g_newP d2.1 (rm_wk m4 (by omega))
      have m5 := rm_tr m4 f2 (N2 := 2 * nUu n + 3) (by omega)
      have x5 := gX_tr x3 (gX_tr d2 f2)
      obtain ⟨p2, Z6, q6, u6, i1, i2, i3', i4⟩ := hM Z5 q4 f2.1 m5 (len_x x5 h5)
      have x6 := gX_tr x5 i2
      have w6 : prT Z Z6 (1000 + Z4.1.1) := prT_o (prT_x f3 i2) (gX_tr x3 d2).2.2.1.1
      have key : ∀ s2 : Nat, ∃ Z7, g187_init sg0 (1000 + Z4.1.1) s2 0 (some p) (some p2) Z6 = some ((), Z7) ∧ gwX g sb L xs (4 * nUu n + 12) Z q Z7 q6 (u ++ (txS s ++ u6)) := fun s2 => by
        obtain ⟨Z7, k1, k2⟩ := g_initP (s := s2) (x := 0) (o1 := some p) (o2 := some p2) x6 w6 (cel_x x6 hm (by omega))
        refine ⟨Z7, k1, ?_⟩
        have k3 := gX_wk k2 (N2 := 4 * nUu n + 12) (by omega)
        simp only [List.append_nil, List.append_assoc] at k3
        exact k3
      unfold g190_e_j45
      rw [if_pos (gS_ro c2.1).1, d1, mjBq_some, f1, mjBq_some]
      by_cases hv : mjCmp .eq v 0 = true
      · obtain ⟨Z7, k1, k2⟩ := key 1000024
        refine ⟨1000 + Z4.1.1, Z7, q6, u6, ?_, k2, by rw [i3', d3, c3, b3, a3], i4⟩
        rw [if_pos hv, if_pos (gS_ro f2.1).2, i1, mjBq_some, k1, mjBq_some]
      · obtain ⟨Z7, k1, k2⟩ := key 1000022
        refine ⟨1000 + Z4.1.1, Z7, q6, u6, ?_, k2, by rw [i3', d3, c3, b3, a3], i4⟩
        rw [if_neg hv, if_pos (gS_ro f2.1).2, i1, mjBq_some, k1, mjBq_some]
    rw [show (2 : Int32) = i3 ((2 : Nat) : Int) from rfl, c1, mjBq_some]
    by_cases z : mjCmp .ne (i3 (pkN L xs (q2.2.2.2.1 + 1) 2 : Nat)) 0 = true
    · obtain ⟨p2, Z5, q5, u5, k1, k2, k3, k4⟩ := tail 1000023 0 (Or.inr rfl)
      refine ⟨p2, Z5, q5, _, ?_, k2, k3, Or.inr ⟨u, u5, _, a4, k4, Or.inr rfl, rfl⟩⟩
      rw [if_pos z]
      unfold g190_e_j30
      rw [if_pos (by decide), k1]
    · obtain ⟨p2, Z5, q5, u5, k1, k2, k3, k4⟩ := tail 1000022 1 (Or.inl rfl)
      refine ⟨p2, Z5, q5, _, ?_, k2, k3, Or.inr ⟨u, u5, _, a4, k4, Or.inl rfl, rfl⟩⟩
      rw [if_neg z]
      unfold g190_e_j30
      rw [if_neg (by decide), k1]
  · rw [if_neg (by rw [show (0 : Int32) = i3 0 from rfl, c_le (by omega)]; omega)]
    exact ⟨p, Z2, q2, _, rfl, gX_wk x2 (by omega), by rw [b3, a3], Or.inl (by rw [List.append_nil]; exact a4)⟩
theorem g_e : ∀ n j, n ≤ 3 → n < j → okU g sb L xs (4 * nUu n + 12) (grE (grU n)) (g190_e_n sg0 j g sb (i3 ((3 - n : Nat) : Int)))
  | 0, j, hn, hj => by
    obtain ⟨i, rfl⟩ : ∃ i, j = i + 1 := ⟨j - 1, by omega⟩
    exact g_e_b (E := g190_e_n sg0 i) hn (g_m hn (g_u hn (fun n2 e => by omega)))
  | n + 1, j, hn, hj => by
    obtain ⟨i, rfl⟩ : ∃ i, j = i + 1 := ⟨j - 1, by omega⟩
    refine g_e_b (E := g190_e_n sg0 i) hn (g_m hn (g_u hn (fun n2 e => ?_)))
    have e2 : n2 = n := by omega
    rw [e2]
    exact g_e n i (by omega) (by omega)
end GE
