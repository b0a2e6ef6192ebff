/-! AN APPEAL TAKEN BACK, of the class -/
section BK
variable {Z : mjZt} {b : Nat} {S : mjS}
/-- what appeals leave as it is -/
def eqR (b : Nat) (Z Z2 : mjZt) : Prop := Z2.2.2 = Z.2.2 ∧ ∀ a, (a < b + 1 ∨ b + 90 ≤ a ∨ (b + 1 ≤ a ∧ a ≤ b + 7)) → a ≠ b → a ≠ 209 → a ≠ 210 → Z2.1 a = Z.1 a ∧ Z2.2.1 a = Z.2.1 a
theorem e9 (hb : b = 2 ∨ b = 92) {t l : Nat} (ht : t < 6) (hl : l < 6) {x y : Int32} : f9_setLeg (tmB b t) (i3 ((l + 1 : Nat) : Int)) x y Z = some ((), zSi (zSi Z (tmB b t + 1) (l + 1) x) (tmB b t + 2) (l + 1) y) := by
  have k1 := is_tmr hb t ht 0 (by omega)
  have k2 := is_tmr hb t ht 1 (by omega)
  unfold f9_setLeg
  rw [show (1 : Int32) = i3 1 from rfl, if_neg (by rw [c_lt (by omega)]; omega), show (6 : Int32) = i3 6 from rfl, if_neg (by rw [c_gt (by omega)]; omega), if_pos (is_tm hb t ht), if_pos k1.1, k1.2, if_pos (in_p (by omega)), ix_nat (by omega), let_eq, if_pos k2.1, k2.2, if_pos (in_p (by omega)), let_eq]
theorem e10 (h : cBk Z b S) (ho : okS S) {N U : Nat} {E : Nat → Nat → Int} (hl : lgR Z N (U + 1) E) (hv : vE S (E 0)) : ∃ Z1 N1, f10_takeBack b Z = some ((), Z1) ∧ eqR b Z Z1 ∧ lgR Z1 N1 U (fun k => E (k + 1)) ∧ cBk Z1 b (tkS (E 0) S) := by
  have o1 := ok_sc ho
  have hb := b_b h
  obtain ⟨hN, hU, h1, h2, h3⟩ := hl
  obtain ⟨M, hM, hM1, hM2⟩ : ∃ M : Nat, M < 10 ∧ (N + 9) % 10 = M ∧ (N = 0 → M = 9) ∧ (N ≠ 0 → M + 1 = N) := ⟨(N + 9) % 10, Nat.mod_lt _ (by decide), rfl, by omega, by omega⟩
  generalize hZ0 : zSi (zSi Z 209 1 (i3 M)) 209 2 (i3 U) = Z0
  have p1 : Z0.1 209 1 = i3 M := by rw [← hZ0, si_fld _ _ _ _ (by omega), si_same]
  have p2 : Z0.1 209 2 = i3 U := by rw [← hZ0, si_same]
  have p3 : ∀ a, a ≠ 209 → Z0.1 a = Z.1 a := fun a ha => by rw [← hZ0, si_obj _ _ _ _ ha, si_obj _ _ _ _ ha]
  have p4 : Z0.2 = Z.2 := by rw [← hZ0]; rfl
  have en : ∀ j, j < 5 → Z0.1 210 (5 * M + j) = i3 (E 0 j) := fun j hj => by
    have := h3 0 (by omega) j hj
    rw [show (N + 9 - 0) % 10 = M by omega] at this
    rw [p3 210 (by omega)]; exact this
  have r : ∀ j : Nat, j < 5 → f5_at 210 (i3 (((M * 5 + j : Nat)) : Int)) Z0 = some (i3 (E 0 j)) := fun j hj => by
    rw [e5 (n := 50) (by decide) (by decide) (by omega) (by omega), Int.toNat_natCast, Nat.mul_comm, en j hj]
  have hB0 : cBk Z0 b S := cBk_of ⟨o1.1, o1.2.1⟩ h (fun a g1 g2 => ⟨p3 a (by omega), by rw [p4]⟩)
  have lg0 : ∀ Z1 : mjZt, Z1.1 209 = Z0.1 209 → Z1.1 210 = Z0.1 210 → lgR Z1 M U (fun k => E (k + 1)) := fun Z1 g1 g2 => by
    refine ⟨hM, by omega, by rw [g1]; exact p1, by rw [g1]; exact p2, fun k hk j hj => ?_⟩
    have := h3 (k + 1) (by omega) j hj
    rw [show (N + 9 - (k + 1)) % 10 = (M + 9 - k) % 10 by omega] at this
    rw [g2, p3 210 (by omega)]; exact this
  have eq0 : ∀ Z1 : mjZt, Z1.2.2 = Z0.2.2 → (∀ a, (a < b + 1 ∨ b + 90 ≤ a ∨ (b + 1 ≤ a ∧ a ≤ b + 7)) → a ≠ b → Z1.1 a = Z0.1 a ∧ Z1.2.1 a = Z0.2.1 a) → eqR b Z Z1 := fun Z1 g1 g2 =>
    ⟨by rw [g1, p4], fun a k1 k2 k3 k4 => ⟨by rw [(g2 a k1 k2).1, p3 a k3], by rw [(g2 a k1 k2).2, p4]⟩⟩
  have enter : ∀ s1 : Int32, s1 = i3 M → f10_takeBack_j27 b s1 Z = (mjBp (f5_at 210 (i3 ((M * 5 + 1 : Nat) : Int)) Z0) fun v106 => mjBp (f5_at 210 (i3 ((M * 5 + 2 : Nat) : Int)) Z0) fun v109 => mjBp (f5_at 210 (i3 ((M * 5 + 0 : Nat) : Int)) Z0) fun v112 =>
      if (v112).toInt < 0 ∨ 2 < (v112).toInt then
        if mjIs b 211 2 = true then
        mjBp (f8_runner b v106 Z0) fun v117 =>
        mjBp (f5_at 210 (i3 ((M * 5 + 3 : Nat) : Int)) Z0) fun v120 =>
        mjBp (f5_at 210 (i3 ((M * 5 + 4 : Nat) : Int)) Z0) fun v123 =>
        if mjIs v117 211 7 = true then
        mjBd (f9_setLeg v117 v109 v120 v123 Z0) fun _ Z128 =>
        some ((), Z128)
        else none
        else none
      else if ((v112).toInt - 0).toNat = 0 then
        if mjIs b 211 2 = true then
        mjBp (f6_deed b v106 Z0) fun v132 =>
        if mjIs v132 211 0 = true then
        mjLet (zSi Z0 v132 3 v109) fun Z135 =>
        some ((), Z135)
        else none
        else none
      else if ((v112).toInt - 0).toNat = 1 then
        if mjIs b 211 2 = true then
        mjBp (f6_deed b v106 Z0) fun v139 =>
        if mjIs v139 211 0 = true then
        mjLet (zSi Z0 v139 4 v109) fun Z142 =>
        some ((), Z142)
        else none
        else none
      else if ((v112).toInt - 0).toNat = 2 then
        if mjIs b 211 2 = true then
        mjLet (zSl Z0 b 11 ((Z0.2.1 b 11) ^^^ (1 <<< (Int32.toInt64 v106 &&& 63)))) fun Z145 =>
        some ((), Z145)
        else none
      else none) := by
    intro s1 hs
    subst hs
    unfold f10_takeBack_j27
    have q2 : (zSi Z 209 1 (i3 M)).1 209 2 - 1 = i3 U := by rw [si_fld _ _ _ _ (by omega), h2, i3_p]; exact congrArg i3 (by omega)
    rw [let_eq, let_eq, q2, hZ0, p1, show (5 : Int32) = i3 5 from rfl, i3_mul, i3_s0]
    simp only [show (2 : Int32) = i3 2 from rfl, show (3 : Int32) = i3 3 from rfl, show (4 : Int32) = i3 4 from rfl, i3_add]
    rfl
  have top : f10_takeBack b Z = f10_takeBack_j27 b (i3 M) Z := by
    unfold f10_takeBack
    rw [h2, h1, show (0 : Int32) = i3 0 from rfl, if_pos (by rw [c_ne (by omega)]; omega)]
    by_cases q : N = 0
    · rw [if_pos (by rw [c_le (by omega)]; omega), hM2.1 q]; rfl
    · rw [if_neg (by rw [c_le (by omega)]; omega), i3_p, show (N : Int) - 1 = (M : Int) by have := hM2.2 q; omega]
  rw [top, enter _ rfl, r 1 (by omega), mjBp_some, r 2 (by omega), mjBp_some, r 0 (by omega), mjBp_some]
  generalize hE : E 0 = e at *
  unfold tkS
  rcases hv with ⟨h0, g1, g2, g3, g4⟩ | ⟨h0, g1, g2, g3, g4⟩ | ⟨h0, g1, g2⟩ | ⟨h0, g1, g2, g3, g4, g5, g6, g7, g8, g9⟩
  · obtain ⟨a, ha⟩ : ∃ a : Nat, e 1 = a := ⟨(e 1).toNat, by omega⟩
    have hA : acB b a = b + 48 + a := rfl
    refine ⟨zSi Z0 (acB b a) 3 (i3 (e 2)), M, ?_, eq0 _ rfl (fun c k1 k2 => ⟨si_obj _ _ _ _ (by omega), rfl⟩), lg0 _ (si_obj _ _ _ _ (by omega)) (si_obj _ _ _ _ (by omega)), ?_⟩
    · rw [h0, if_neg (by decide), if_pos (by decide), if_pos (is_b hb), ha, e6 hb (by omega), mjBp_some, if_pos (is_ac hb a (by omega)), let_eq]
    · rw [if_pos h0, ha, Int.toNat_natCast]
      exact cBk_upA ho hB0 (a := a) (m := 0) (by omega) (by omega)
  · obtain ⟨a, ha⟩ : ∃ a : Nat, e 1 = a := ⟨(e 1).toNat, by omega⟩
    have hA : acB b a = b + 48 + a := rfl
    refine ⟨zSi Z0 (acB b a) 4 (i3 (e 2)), M, ?_, eq0 _ rfl (fun c k1 k2 => ⟨si_obj _ _ _ _ (by omega), rfl⟩), lg0 _ (si_obj _ _ _ _ (by omega)) (si_obj _ _ _ _ (by omega)), ?_⟩
    · rw [h0, if_neg (by decide), if_neg (by decide), if_pos (by decide), if_pos (is_b hb), ha, e6 hb (by omega), mjBp_some, if_pos (is_ac hb a (by omega)), let_eq]
    · rw [if_neg (by omega), if_pos h0, ha, Int.toNat_natCast]
      exact cBk_upA ho hB0 (a := a) (m := 1) (by omega) (by omega)
  · obtain ⟨a, ha⟩ : ∃ a : Nat, e 1 = a := ⟨(e 1).toNat, by omega⟩
    refine ⟨zSl Z0 b 11 (Z0.2.1 b 11 ^^^ (i6 1 <<< ((i3 a).toInt64 &&& 63))), M, ?_, eq0 _ rfl (fun c k1 k2 => ⟨rfl, sl_obj _ _ _ _ k2⟩), lg0 _ rfl rfl, ?_⟩
    · rw [h0, if_neg (by decide), if_neg (by decide), if_neg (by decide), if_pos (by decide), if_pos (is_b hb), ha, let_eq]; rfl
    · rw [if_neg (by omega), if_neg (by omega), if_pos h0, ha, Int.toNat_natCast]
      exact cBk_upW ho hB0 (a := a) (by omega)
  · obtain ⟨t, ht⟩ : ∃ t : Nat, e 1 = t := ⟨(e 1).toNat, by omega⟩
    obtain ⟨l, hl⟩ : ∃ l : Nat, e 2 = ((l + 1 : Nat) : Int) := ⟨(e 2).toNat - 1, by omega⟩
    rw [ht, Int.toNat_natCast] at g4
    have o2 := ok_tm ho (t := t) (by omega)
    have hT : tmB b t = b + 18 + 5 * t := rfl
    refine ⟨zSi (zSi Z0 (tmB b t + 1) (l + 1) (i3 (e 3))) (tmB b t + 2) (l + 1) (i3 (e 4)), M, ?_, eq0 _ rfl (fun c k1 k2 => ⟨by rw [si_obj _ _ _ _ (by omega), si_obj _ _ _ _ (by omega)], rfl⟩), lg0 _ (by rw [si_obj _ _ _ _ (by omega), si_obj _ _ _ _ (by omega)]) (by rw [si_obj _ _ _ _ (by omega), si_obj _ _ _ _ (by omega)]), ?_⟩
    · rw [h0, if_pos (by decide), if_pos (is_b hb), ht, e8 hB0 ho (by omega), mjBp_some, r 3 (by omega), mjBp_some, r 4 (by omega), mjBp_some, if_pos (is_tm hb t (by omega)), hl, e9 hb (by omega) (by omega), mjBd_some]
    · rw [if_neg (by omega), if_neg (by omega), if_neg (by omega), ht, hl, Int.toNat_natCast, Int.toNat_natCast, show l + 1 - 1 = l by omega]
      exact cBk_upL ho hB0 (by omega) (by omega)
end BK
