/-! what is grown: numbers -/
def grLf (u : List Int32) : Prop := (∃ m, m < 10000 ∧ u = decN m) ∨ ∃ k, k < 11 ∧ u = txS (1000030 + k)
def grM (U : List Int32 → Prop) (u : List Int32) : Prop := U u ∨ ∃ a b, U a ∧ U b ∧ u = a ++ (txS 1000025 ++ b)
def grE (U : List Int32 → Prop) (u : List Int32) : Prop := grM U u ∨ ∃ a b s, grM U a ∧ grM U b ∧ (s = 1000022 ∨ s = 1000023) ∧ u = a ++ (txS s ++ b)
def grU : Nat → List Int32 → Prop
  | 0, u => grLf u
  | n + 1, u => grLf u ∨ ∃ a, grE (grU n) a ∧ u = txS 1000026 ++ (a ++ txS 1000027)
def nUu : Nat → Nat
  | 0 => 9
  | n + 1 => 4 * nUu n + 15
section GU
variable {g sb L N N2 : Nat} {xs : Nat → Int32} {Z Z2 Z3 : mjQ} {q q2 q3 : mjGw} {u u2 : List Int32}
theorem gS_ro (h : gS g sb L xs Z q) : mjRo Z.2 sb 19 = true ∧ mjRo Z.2 g 13 = true := ⟨ro_of h.1.1, ro_of h.2.1.1⟩
/-- how a function answers that writes what G tells -/
def okU (g sb L : Nat) (xs : Nat → Int32) (N : Nat) (G : List Int32 → Prop) (F : mjQ → Option (Nat × mjQ)) : Prop := ∀ Z q, gS g sb L xs Z q → rmG N Z q → 5 ≤ q.2.2.1.length → ∃ p Z2 q2 u, F Z = some (p, Z2) ∧ gwX g sb L xs N Z q Z2 q2 u ∧ q2.2.2.2.2 = q.2.2.2.2 ∧ G u
theorem lf_fact : ∀ k, k < 11 → (txS (1000030 + k)).length ≤ 6 := by decide
theorem fx_at {M : mjMem} : ∀ k, k < 11 → qAa M 1300000 (i3 (k : Nat)) = some (1000030 + k) := by
  intro k hk
  have h : mjIn (i3 (k : Nat)) 11 = true ∧ mjSre 1300000 (mjIx (i3 (k : Nat))) = 1000030 + k := by
    revert k
    decide
  unfold qAa
  rw [show mjSrd 1300000 = some 11 from rfl]
  dsimp only
  rw [if_pos h.1, h.2]
theorem dec_pos {m : Nat} : decZ (m : Int) = decN m := by
  unfold decZ
  rw [if_neg (by omega), Int.toNat_natCast]
theorem len_x (k : gwX g sb L xs N Z q Z2 q2 u) (h : 5 ≤ q.2.2.1.length) : 5 ≤ q2.2.2.1.length := by
  rw [k.2.1, List.length_append]; omega
theorem cel_x (k : gwX g sb L xs N Z q Z2 q2 u) (hm : rmG N2 Z q) (hn : N ≤ N2) : Z2.1.1 ≤ 90000 := by
  have := k.2.2.2.2.1
  have := hm.1
  omega
theorem g_num {n : Nat} {E : Nat → Nat → Int32 → mjQ → Option (Nat × mjQ)} (hn : n < 10000) (h : gS g sb L xs Z q) (hm : rmG 5 Z q) (h5 : 5 ≤ q.2.2.1.length) : ∃ p Z2 q2, g189_u_j75 sg0 E sb (i3 (n : Nat)) Z = some (p, Z2) ∧ gwX g sb L xs 5 Z q Z2 q2 (decN n) ∧ q2.2.2.2 = q.2.2.2 := by
  have hl := decN_len n
  obtain ⟨Z1, q1, a1, a2, a3⟩ := g_apI (N := 4) (z := (n : Int)) h (rm_wk hm (by omega)) (by omega) h5 (by omega) (by rw [dec_pos]; omega)
  obtain ⟨Z2, b1, b2, b3⟩ := g_newP a2.1 (rm_tr hm a2 (by omega))
  obtain ⟨Z3, c1, c2⟩ := g_initP (s := 1000028) (x := i3 (n : Nat)) (o1 := none) (o2 := none) (gX_tr a2 b2) (prT_o b3 a2.2.2.1.1) (cel_x (gX_tr a2 b2) hm (by omega))
  refine ⟨1000 + Z1.1.1, Z3, q1, ?_, ?_, a3⟩
  · unfold g189_u_j75
    rw [if_pos (gS_ro h).1, a1, mjBq_some, b1, mjBq_some, c1, mjBq_some]
  · rw [dec_pos, List.append_nil] at c2
    exact c2
theorem g_u {n : Nat} {E : Nat → Nat → Int32 → mjQ → Option (Nat × mjQ)} (hn : n ≤ 3) (hE : ∀ n2, n = n2 + 1 → okU g sb L xs (4 * nUu n2 + 12) (grE (grU n2)) (E g sb (i3 ((3 - n2 : Nat) : Int)))) : okU g sb L xs (nUu n) (grU n) (g189_u sg0 E g sb (i3 ((3 - n : Nat) : Int))) := by
  intro Z q h hm h5
  have hN : 9 ≤ nUu n := by cases n with
    | zero => exact Nat.le_refl _
    | succ k => show 9 ≤ 4 * nUu k + 15; omega
  -- no brace
  have lf : ∀ (Z1 : mjQ) (q1 : mjGw) (r m : Nat), r < 4 → gwX g sb L xs 1 Z q Z1 q1 [] → q1.2.2.2.2 = q.2.2.2.2 → g186_next sg0 g (i3 m) Z = some (i3 (r : Nat), Z1) → ∃ p Z2 q2 u, g189_u_j11 sg0 E g sb (i3 ((3 - n : Nat) : Int)) g (i3 m) Z = some (p, Z2) ∧ gwX g sb L xs (nUu n) Z q Z2 q2 u ∧ q2.2.2.2.2 = q.2.2.2.2 ∧ grLf u := by
    intro Z1 q1 r m hr x1 x2 x3
    have m1 := rm_tr hm x1 (N2 := 8) (by omega)
    have h1 := x1.1
    by_cases r0 : r = 0
    · obtain ⟨Z2, q2, a1, a2, a3, a4⟩ := g_next (n := 4) h1 (rm_wk m1 (by omega)) (by omega)
      have m2 := rm_tr m1 a2 (N2 := 7) (by omega)
      have key : ∀ mm, 0 < mm ∧ mm ≤ 9999 → ∃ p Z4 q4 u, (mjBq (g186_next sg0 g (i3 (mm : Nat)) Z2) fun v131 Z132 => g189_u_j75 sg0 E sb v131 Z132) = some (p, Z4) ∧ gwX g sb L xs 6 Z2 q2 Z4 q4 u ∧ q4.2.2.2.2 = q2.2.2.2.2 ∧ grLf u := by
        intro mm hmm
        obtain ⟨Z3, q3, b1, b2, b3, b4⟩ := g_next (n := mm) a2.1 (rm_wk m2 (by omega)) (by omega)
        obtain ⟨p, Z4, q4, c1, c2, c3⟩ := g_num (E := E) (n := pkN L xs (q2.2.2.2.1 + 1) mm) (by omega) b2.1 (rm_tr m2 b2 (by omega)) (len_x b2 (len_x a2 (len_x x1 h5)))
        refine ⟨p, Z4, q4, _, ?_, gX_tr b2 c2, by rw [c3]; exact b3, Or.inl ⟨_, by omega, ap_nl _⟩⟩
        rw [b1, mjBq_some, c1]
      have fin : ∀ mm, 0 < mm ∧ mm ≤ 9999 → (g189_u_j11 sg0 E g sb (i3 ((3 - n : Nat) : Int)) g (i3 m) Z = mjBq (g186_next sg0 g (i3 (mm : Nat)) Z2) fun v131 Z132 => g189_u_j75 sg0 E sb v131 Z132) → ∃ p Z2 q2 u, g189_u_j11 sg0 E g sb (i3 ((3 - n : Nat) : Int)) g (i3 m) Z = some (p, Z2) ∧ gwX g sb L xs (nUu n) Z q Z2 q2 u ∧ q2.2.2.2.2 = q.2.2.2.2 ∧ grLf u := by
        intro mm hmm e
        obtain ⟨p, Z4, q4, u, c1, c2, c3, c4⟩ := key mm hmm
        refine ⟨p, Z4, q4, _, e.trans c1, gX_wk (gX_tr x1 (gX_tr a2 c2)) (by omega), by rw [c3, a3, x2], ?_⟩
        rw [ap_nl, ap_nl]; exact c4
      have e0 : ∀ (K : Option (Nat × mjQ)), g189_u_j11 sg0 E g sb (i3 ((3 - n : Nat) : Int)) g (i3 m) Z = (if mjCmp .ne (i3 (pkN L xs (q1.2.2.2.1 + 1) 4 : Nat)) 0 = true then (if mjRo Z2.2 g 13 = true then mjBq (g186_next sg0 g 12 Z2) fun v131 Z132 => g189_u_j75 sg0 E sb v131 Z132 else none) else (if mjRo Z2.2 g 13 = true then mjBq (g186_next sg0 g 9999 Z2) fun v145 Z146 => g189_u_j75 sg0 E sb v145 Z146 else none)) := by
        intro K
        unfold g189_u_j11
        rw [if_pos (gS_ro h).2, x3, mjBq_some, if_pos (by rw [show (4 : Int32) = i3 4 from rfl, c_ne (by omega)]; omega), if_neg (by rw [show (0 : Int32) = i3 0 from rfl, c_ne (by omega)]; omega), if_pos (gS_ro h1).2, show (4 : Int32) = i3 ((4 : Nat) : Int) from rfl, a1, mjBq_some]
      by_cases z : pkN L xs (q1.2.2.2.1 + 1) 4 = 0
      · refine fin 9999 (by omega) ((e0 none).trans ?_)
        rw [z, if_neg (by decide), if_pos (gS_ro a2.1).2]
        rfl
      · refine fin 12 (by omega) ((e0 none).trans ?_)
        rw [if_pos (by rw [show (0 : Int32) = i3 0 from rfl, c_ne (by omega)]; omega), if_pos (gS_ro a2.1).2]
        rfl
    · obtain ⟨Z2, q2, a1, a2, a3, a4⟩ := g_next (n := 11) h1 (rm_wk m1 (by omega)) (by omega)
      have m2 := rm_tr m1 a2 (N2 := 7) (by omega)
      have hf := lf_fact _ a4
      obtain ⟨Z3, q3, b1, b2, b3⟩ := g_apS (N := 6) (s := 1000030 + pkN L xs (q1.2.2.2.1 + 1) 11) a2.1 (rm_wk m2 (by omega)) (by omega) (by omega) hf
      have m3 := rm_tr m2 b2 (N2 := 1) (by omega)
      obtain ⟨Z4, c1, c2, c3⟩ := g_newP b2.1 m3
      have x5 := gX_tr x1 (gX_tr a2 (gX_tr b2 c2))
      obtain ⟨Z5, d1, d2⟩ := g_initP (s := 1000029) (x := i3 (pkN L xs (q1.2.2.2.1 + 1) 11 : Nat)) (o1 := none) (o2 := none) x5 (prT_o c3 (gX_tr x1 (gX_tr a2 b2)).2.2.1.1) (cel_x x5 hm (by omega))
      refine ⟨1000 + Z3.1.1, Z5, q3, _, ?_, gX_wk d2 (by omega), by rw [b3, a3, x2], Or.inr ⟨_, a4, by rw [ap_nl, ap_nl, List.append_nil]⟩⟩
      unfold g189_u_j11
      rw [if_pos (gS_ro h).2, x3, mjBq_some, if_pos (by rw [show (4 : Int32) = i3 4 from rfl, c_ne (by omega)]; omega), if_pos (by rw [show (0 : Int32) = i3 0 from rfl, c_ne (by omega)]; omega), if_pos (gS_ro h1).2, show (11 : Int32) = i3 ((11 : Nat) : Int) from rfl, a1, mjBq_some, fx_at _ a4, mjBp_some, if_pos (gS_ro a2.1).1, b1, mjBq_some, c1, mjBq_some, d1, mjBq_some]
  unfold g189_u
  cases n with
  | zero =>
    obtain ⟨Z1, q1, x3, x1, x2, x4⟩ := g_next (n := 4) h (rm_wk hm (by omega)) (by omega)
    rw [if_neg (by rw [show (2 : Int32) = i3 2 from rfl, c_le (by omega)]; omega)]
    exact lf Z1 q1 _ 4 x4 x1 x2 x3
  | succ k =>
    have hN2 : nUu (k + 1) = 4 * nUu k + 15 := rfl
    obtain ⟨Z1, q1, x3, x1, x2, x4⟩ := g_next (n := 5) h (rm_wk hm (by omega)) (by omega)
    rw [if_pos (by rw [show (2 : Int32) = i3 2 from rfl, c_le (by omega)]; omega)]
    by_cases r4 : pkN L xs (q.2.2.2.1 + 1) 5 = 4
    · have m1 := rm_tr hm x1 (N2 := 4 * nUu k + 14) (by omega)
      obtain ⟨Z2, q2, a1, a2, a3⟩ := g_apS (N := 1) (s := 1000026) x1.1 (rm_wk m1 (by omega)) (by omega) (by omega) (by decide)
      have m2 := rm_tr m1 a2 (N2 := 4 * nUu k + 13) (by omega)
      obtain ⟨p, Z3, q3, u, b1, b2, b3, b4⟩ := hE k rfl Z2 q2 a2.1 (rm_wk m2 (by omega)) (len_x a2 (len_x x1 h5))
      have m3 := rm_tr m2 b2 (N2 := 1) (by omega)
      obtain ⟨Z4, q4, c1, c2, c3⟩ := g_apS (N := 1) (s := 1000027) b2.1 m3 (by omega) (by omega) (by decide)
      refine ⟨p, Z4, q4, _, ?_, gX_wk (gX_tr x1 (gX_tr a2 (gX_tr b2 c2))) (by omega), by rw [c3, b3, a3, x2], Or.inr ⟨u, b4, ap_nl _⟩⟩
      have e5 : (5 : Int32) = i3 ((5 : Nat) : Int) := rfl
      unfold g189_u_j11
      rw [if_pos (gS_ro h).2, e5, x3, mjBq_some, r4, if_neg (by decide), if_pos (gS_ro x1.1).1, a1, mjBq_some, if_pos (gS_ro a2.1).2, show (1 : Int32) = i3 1 from rfl, i3_add, show ((3 - (k + 1) : Nat) : Int) + 1 = ((3 - k : Nat) : Int) from by omega, b1, mjBq_some, if_pos (gS_ro b2.1).1, c1, mjBq_some]
    · obtain ⟨p, Z2, q2, u, e1, e2, e3, e4⟩ := lf Z1 q1 _ 5 (by omega) x1 x2 x3
      exact ⟨p, Z2, q2, u, e1, e2, e3, Or.inl e4⟩
end GU
