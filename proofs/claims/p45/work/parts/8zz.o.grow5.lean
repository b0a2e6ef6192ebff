section GD
variable {g sb L N N2 s : Nat} {xs : Nat → Int32} {Z Z2 Z3 : mjQ} {q q2 q3 : mjGw} {u u2 : List Int32} {B : List Int32 → Prop} {F : mjQ → Option (Nat × mjQ)}
set_option maxRecDepth 100000 in
/-- what stands behind the choice of a comparison -/
theorem g_cmp {n m : Nat} {E : Nat → Nat → Int32 → mjQ → Option (Nat × mjQ)} (hn : n ≤ 2) {r : Nat} (x1 : gwX g sb L xs 1 Z q Z2 q2 []) (hl : q2.2.2.2.2 = q.2.2.2.2) (h : gS g sb L xs Z q) (l1 : 1 ≤ q.2.2.2.2.1) (l4 : q.2.2.2.2.1 ≤ 4) (m0 : rmG 1783 Z q) (h5 : 5 ≤ q.2.2.1.length) (e1 : g186_next sg0 g (i3 m) Z = some (i3 (r : Nat), Z2)) (hr : r < 3) :
    ∃ p Z3 q3 u N, g191_b_j19 sg0 E g sb (i3 ((2 - n : Nat) : Int)) g (i3 m) Z = some (p, Z3) ∧ gwX g sb L xs N Z q Z3 q3 u ∧ (N : Int) + 117 ≤ 1900 * (q.2.2.2.2.1 - q3.2.2.2.2.1) ∧ 0 ≤ q3.2.2.2.2.1 ∧ grC u := by
  have hU := nU_le n hn
  have up : ∀ u, grE (grU n) u → grE (grU 2) u := fun u => grE_mono (fun v hv => by
    have := grU_le n (2 - n) v hv
    rw [show n + (2 - n) = 2 from by omega] at this
    exact this)
  have hE := g_e (g := g) (sb := sb) (L := L) (xs := xs) n 8 (by omega) (by omega)
  have m1 := rm_tr m0 x1 (N2 := 1782) (by omega)
  obtain ⟨Z3, a1, a2⟩ := g_put (f := 2) (z := q2.2.2.2.2.1 - 1) x1.1 (rm_wk m1 (by omega)) (Or.inl rfl)
  obtain ⟨q3, hq3⟩ : ∃ q3 : mjGw, q3 = (q2.1, q2.2.1, q2.2.2.1, q2.2.2.2.1, (if (2 : Nat) = 2 then q2.2.2.2.2.1 - 1 else q2.2.2.2.2.1), (if (2 : Nat) = 3 then q2.2.2.2.2.1 - 1 else q2.2.2.2.2.2)) := ⟨_, rfl⟩
  rw [← hq3] at a2
  have l3 : q3.2.2.2.2.1 = q.2.2.2.2.1 - 1 := by
    rw [hq3]
    show (if (2 : Nat) = 2 then q2.2.2.2.2.1 - 1 else q2.2.2.2.2.1) = _
    rw [if_pos rfl, hl]
  have m2 := rm_tr m1 a2 (N2 := 1782) (by omega)
  have x2 := gX_tr x1 a2
  obtain ⟨p4, Z4, q4, u4, b1, b2, b3, b4⟩ := hE Z3 q3 a2.1 (rm_wk m2 (by omega)) (len_x x2 h5)
  have m4 := rm_tr m2 b2 (N2 := 894) (by omega)
  have x4 := gX_tr x2 b2
  obtain ⟨Z5, c1, c2, c3⟩ := g_newR b2.1 (rm_wk m4 (by omega))
  have m5 := rm_tr m4 c2 (N2 := 893) (by omega)
  have y4 : Z5.1.1 ≤ 90000 := by have := m5.1; omega
  obtain ⟨Z6, d1, d2, d3, d4⟩ := g_sra (i := 0) (w := 1000018) c2 c3 (by omega) (by omega) y4
  have y5 : Z6.1.1 ≤ 90000 := by have := d2.2.2.2.2.1; have := m4.1; omega
  obtain ⟨Z7, f1, f2, f3, f4⟩ := g_sra (i := 1) (w := 1000019) d2 d3 (by omega) (by omega) y5
  have y6 : Z7.1.1 ≤ 90000 := by have := f2.2.2.2.2.1; have := m4.1; omega
  obtain ⟨Z8, i1, i2, i3', i4⟩ := g_sra (i := 2) (w := 1000020) f2 f3 (by omega) (by omega) y6
  have m8 := rm_tr m4 i2 (N2 := 893) (by omega)
  obtain ⟨Z9, q9, j1, j2, j3, j4⟩ := g_next (n := 3) i2.1 (rm_wk m8 (by omega)) (by omega)
  have m9 := rm_tr m8 j2 (N2 := 892) (by omega)
  obtain ⟨k1, k2⟩ := raT_x i2.1 i3' j2
  have pb : 1000 + Z4.1.1 < 1000000 := by have := m4.1; omega
  have sgn : ∃ w, (w = 1000018 ∨ w = 1000019 ∨ w = 1000020) ∧ qAa Z9.2 (1000 + Z4.1.1) (i3 (pkN L xs (q4.2.2.2.1 + 1) 3 : Nat)) = some w := by
    have rd : ∀ i w, i < 3 → Z8.2.2.2.1 (1000 + Z4.1.1) i = some w → qAa Z9.2 (1000 + Z4.1.1) (i3 (i : Nat)) = some w := fun i w hi e => raT_at k1 hi (by rw [k2]; exact e) pb
    rcases (by omega : pkN L xs (q4.2.2.2.1 + 1) 3 = 0 ∨ pkN L xs (q4.2.2.2.1 + 1) 3 = 1 ∨ pkN L xs (q4.2.2.2.1 + 1) 3 = 2) with e | e | e
    · rw [e]; exact ⟨_, Or.inl rfl, rd 0 _ (by omega) (by rw [i4, if_neg (by omega), f4, if_neg (by omega), d4, if_pos rfl])⟩
    · rw [e]; exact ⟨_, Or.inr (Or.inl rfl), rd 1 _ (by omega) (by rw [i4, if_neg (by omega), f4, if_pos rfl])⟩
    · rw [e]; exact ⟨_, Or.inr (Or.inr rfl), rd 2 _ (by omega) (by rw [i4, if_pos rfl])⟩
  obtain ⟨w, hw, w1⟩ := sgn
  have hwl : 1000000 ≤ w ∧ w < 1000059 ∧ (txS w).length ≤ 1 := by
    rcases hw with e | e | e
    · rw [e]; decide
    · rw [e]; decide
    · rw [e]; decide
  obtain ⟨Z10, q10, o1, o2, o3⟩ := g_apS (N := 1) (s := 1000021) j2.1 (rm_wk m9 (by omega)) (by omega) (by omega) (by decide)
  have m10 := rm_tr m9 o2 (N2 := 891) (by omega)
  obtain ⟨Z11, q11, r1, r2, r3⟩ := g_apS (N := 1) (s := w) o2.1 (rm_wk m10 (by omega)) ⟨hwl.1, hwl.2.1⟩ (by omega) hwl.2.2
  have m11 := rm_tr m10 r2 (N2 := 890) (by omega)
  obtain ⟨Z12, q12, s1, s2, s3⟩ := g_apS (N := 1) (s := 1000021) r2.1 (rm_wk m11 (by omega)) (by omega) (by omega) (by decide)
  have m12 := rm_tr m11 s2 (N2 := 889) (by omega)
  have x12 := gX_tr x4 (gX_tr i2 (gX_tr j2 (gX_tr o2 (gX_tr r2 s2))))
  obtain ⟨p13, Z13, q13, u13, t1, t2, t3, t4⟩ := hE Z12 q12 s2.1 (rm_wk m12 (by omega)) (len_x x12 h5)
  have m13 := rm_tr m12 t2 (N2 := 1) (by omega)
  have x13 := gX_tr x12 t2
  obtain ⟨Z14, v1, v2⟩ := g_put (f := 3) (z := q13.2.2.2.2.2 + 1) t2.1 (rm_wk m13 (by omega)) (Or.inr rfl)
  obtain ⟨q14, hq14⟩ : ∃ q14 : mjGw, q14 = (q13.1, q13.2.1, q13.2.2.1, q13.2.2.2.1, (if (3 : Nat) = 2 then q13.2.2.2.2.2 + 1 else q13.2.2.2.2.1), (if (3 : Nat) = 3 then q13.2.2.2.2.2 + 1 else q13.2.2.2.2.2)) := ⟨_, rfl⟩
  rw [← hq14] at v2
  have l14 : q14.2.2.2.2.1 = q.2.2.2.2.1 - 1 := by
    rw [hq14]
    show (if (3 : Nat) = 2 then q13.2.2.2.2.2 + 1 else q13.2.2.2.2.1) = _
    rw [if_neg (by omega), t3, s3, r3, o3, j3, b3, l3]
  have m14 := rm_tr m13 v2 (N2 := 1) (by omega)
  obtain ⟨Z15, y1, y2, y3⟩ := g_newP v2.1 (rm_wk m14 (by omega))
  have x15 := gX_tr x13 (gX_tr v2 y2)
  obtain ⟨Z16, z1, z2⟩ := g_initP (s := w) (x := i3 q14.2.2.2.2.2 - 1) (o1 := some p4) (o2 := some p13) x15 (prT_o y3 (gX_tr x13 v2).2.2.1.1) (cel_x x15 m0 (by omega))
  have z3 := gX_wk z2 (N2 := 1783) (by omega)
  simp only [List.append_nil, List.append_assoc, ap_nl] at z3
  refine ⟨1000 + Z14.1.1, Z16, q14, _, 1783, ?_, z3, by omega, by omega, ⟨u4, u13, w, up _ b4, up _ t4, hw, rfl⟩⟩
  unfold g191_b_j19
  rw [if_pos (gS_ro h).2, e1, mjBq_some, if_pos (by rw [show (3 : Int32) = i3 3 from rfl, c_ne (by omega)]; omega), if_pos (by rw [show (4 : Int32) = i3 4 from rfl, c_ne (by omega)]; omega), gI_left x1.1, mjBp_some, show (1 : Int32) = i3 1 from rfl, i3_sub, a1, mjBp_some, if_pos (gS_ro a2.1).2, i3_add, show ((2 - n : Nat) : Int) + 1 = ((3 - n : Nat) : Int) from by omega]
  show (mjBq (g190_e_n sg0 8 g sb (i3 ((3 - n : Nat) : Int)) Z3) fun v116 Z117 => _) = _
  rw [b1, mjBq_some, show (3 : Int32) = i3 ((3 : Nat) : Int) from rfl, c1, mjBq_some, show (0 : Int32) = i3 ((0 : Nat) : Int) from rfl, d1, mjBp_some, show i3 1 = i3 ((1 : Nat) : Int) from rfl, f1, mjBp_some, show (2 : Int32) = i3 ((2 : Nat) : Int) from rfl, i1, mjBp_some, if_pos (gS_ro i2.1).2, j1, mjBq_some, w1, mjBp_some, if_pos (gS_ro j2.1).1, o1, mjBq_some, if_pos (gS_ro o2.1).1, r1, mjBq_some, if_pos (gS_ro r2.1).1, s1, mjBq_some, if_pos (gS_ro s2.1).2]
  show (mjBq (g190_e_n sg0 8 g sb (i3 ((3 - n : Nat) : Int)) Z12) fun v147 Z148 => _) = _
  rw [t1, mjBq_some, gI_cmp t2.1, mjBp_some, i3_add]
  show (mjBp (qSi Z13 g 13 3 (i3 (q13.2.2.2.2.2 + 1))) fun Z151 => _) = _
  rw [v1, mjBp_some, y1, mjBq_some, gI_cmp y2.1, mjBp_some]
  show (mjBq (g187_init sg0 (1000 + Z14.1.1) w (i3 q14.2.2.2.2.2 - 1) (some p4) (some p13) Z15) fun _ Z160 => _) = _
  rw [z1, mjBq_some]
end GD
