/-! CALLS: feed, end, fault -/
theorem and_255 (y : Int32) : 0 ≤ (y &&& 255).toInt ∧ (y &&& 255).toInt ≤ 255 := by
  have h : (y &&& 255).toBitVec.toNat ≤ 255 := by
    rw [Int32.toBitVec_and, BitVec.toNat_and]
    exact Nat.le_trans Nat.and_le_right (by decide)
  have e : (y &&& 255).toInt = ((y &&& 255).toBitVec.toNat : Int) := by
    show (y &&& 255).toBitVec.toInt = _
    rw [BitVec.toInt_eq_toNat_cond, if_pos (by omega)]
  omega
/-- what is fed, in both -/
def tpR (Z Zm : mjZt) (F : Nat) : Prop := F ≤ 700 ∧ Z.1 0 1 = i3 F ∧ Zm.1 211 1 = i3 F ∧ ∀ k, Z.1 1 k = Zm.1 212 k ∧ 0 ≤ (Z.1 1 k).toInt ∧ (Z.1 1 k).toInt ≤ 255
def eqC (Z Z2 : mjZt) : Prop := Z2.2 = Z.2 ∧ ∀ a, a ≠ 0 → a ≠ 1 → Z2.1 a = Z.1 a
def eqD (Z Z2 : mjZt) : Prop := Z2.2 = Z.2 ∧ (∀ a, a ≠ 211 → a ≠ 212 → Z2.1 a = Z.1 a) ∧ ∀ f, f ≠ 1 → Z2.1 211 f = Z.1 211 f
theorem eqC_rf {Z : mjZt} : eqC Z Z := ⟨rfl, fun _ _ _ => rfl⟩
theorem eqC_tr {Z Z2 Z3 : mjZt} (h : eqC Z Z2) (g : eqC Z2 Z3) : eqC Z Z3 := ⟨g.1.trans h.1, fun a h1 h2 => (g.2 a h1 h2).trans (h.2 a h1 h2)⟩
theorem eqD_rf {Z : mjZt} : eqD Z Z := ⟨rfl, fun _ _ _ => rfl, fun _ _ => rfl⟩
theorem eqD_tr {Z Z2 Z3 : mjZt} (h : eqD Z Z2) (g : eqD Z2 Z3) : eqD Z Z3 := ⟨g.1.trans h.1, fun a h1 h2 => (g.2.1 a h1 h2).trans (h.2.1 a h1 h2), fun f h1 => (g.2.2 f h1).trans (h.2.2 f h1)⟩
theorem fd_one (x : Int32) : ∀ (j n m : Nat) (Z Zm : mjZt) (F : Nat), F + j ≤ 700 → j ≤ 4 → j < n → j < m → tpR Z Zm F → ∃ Z1 Zm1, f148_feedNumber_h3 n x (i3 (8 * (j : Int) - 8)) Z = some ((), Z1) ∧ f198_four_h3 m x (i3 (8 * (j : Int) - 8)) Zm = some ((), Zm1) ∧ tpR Z1 Zm1 (F + j) ∧ eqC Z Z1 ∧ eqD Zm Zm1
  | _, 0, _, _, _, _, _, _, h, _, _ => by omega
  | _, _, 0, _, _, _, _, _, _, h, _ => by omega
  | 0, n + 1, m + 1, Z, Zm, F, _, _, _, _, hp => by
    refine ⟨Z, Zm, ?_, ?_, hp, eqC_rf, eqD_rf⟩
    · rw [f148_feedNumber_h3, show (0 : Int32) = i3 0 from rfl, if_pos (by rw [c_lt (by omega)]; omega)]
    · rw [f198_four_h3, show (0 : Int32) = i3 0 from rfl, if_pos (by rw [c_lt (by omega)]; omega)]
  | j + 1, n + 1, m + 1, Z, Zm, F, hF, hj, hn, hm, ⟨p0, p1, p2, p3⟩ => by
    generalize hv : (x >>> ((i3 (8 * ((j + 1 : Nat) : Int) - 8)) &&& 31)) &&& 255 = v
    have hp2 : tpR (zSi (zSi Z 1 F v) 0 1 (i3 ((F + 1 : Nat) : Int))) (zSi (zSi Zm 212 F v) 211 1 (i3 ((F + 1 : Nat) : Int))) (F + 1) := by
      refine ⟨by omega, si_same _ _ _ _, si_same _ _ _ _, fun k => ?_⟩
      rw [si_obj (zSi Z 1 F v) 0 1 _ (a2 := 1) (by omega), si_obj (zSi Zm 212 F v) 211 1 _ (a2 := 212) (by omega)]
      by_cases q : k = F
      · subst q; rw [si_same, si_same]; exact ⟨rfl, by rw [← hv]; exact and_255 _⟩
      · rw [si_fld _ _ _ _ (by omega), si_fld _ _ _ _ (by omega)]; exact p3 k
    have e1 : eqC Z (zSi (zSi Z 1 F v) 0 1 (i3 ((F + 1 : Nat) : Int))) := ⟨rfl, fun a h1 h2 => by rw [si_obj _ _ _ _ h1, si_obj _ _ _ _ h2]⟩
    have e2 : eqD Zm (zSi (zSi Zm 212 F v) 211 1 (i3 ((F + 1 : Nat) : Int))) := ⟨rfl, fun a h1 h2 => by rw [si_obj _ _ _ _ h1, si_obj _ _ _ _ h2], fun f h1 => by rw [si_fld _ _ _ _ (by omega), si_fld _ _ _ _ (by omega)]⟩
    obtain ⟨Z1, Zm1, r1, r2, r3, r4, r5⟩ := fd_one x j n m _ _ (F + 1) (by omega) (by omega) (by omega) (by omega) hp2
    rw [show F + 1 + j = F + (j + 1) by omega] at r3
    refine ⟨Z1, Zm1, ?_, ?_, r3, eqC_tr e1 r4, eqD_tr e2 r5⟩
    · rw [f148_feedNumber_h3, p1, show (0 : Int32) = i3 0 from rfl, if_neg (by rw [c_lt (by omega)]; omega), if_neg (by rw [c_lt (by omega)]; omega), show (700 : Int32) = i3 700 from rfl, if_neg (by rw [c_ge (by omega)]; omega), if_pos (in_p (by omega)), ix_nat (by omega), hv, let_eq, si_obj _ _ _ _ (by omega), p1, i3_s, let_eq, show (-8 : Int32) = i3 (-8) from rfl, i3_add, show 8 * ((j + 1 : Nat) : Int) - 8 + -8 = 8 * (j : Int) - 8 by omega]
      exact r1
    · rw [f198_four_h3, p2, show (0 : Int32) = i3 0 from rfl, if_neg (by rw [c_lt (by omega)]; omega), if_pos (in_p (by omega)), ix_nat (by omega), hv, let_eq, si_obj _ _ _ _ (by omega), p2, i3_s, let_eq, show (-8 : Int32) = i3 (-8) from rfl, i3_add, show 8 * ((j + 1 : Nat) : Int) - 8 + -8 = 8 * (j : Int) - 8 by omega]
      exact r2
theorem fd_four (x : Int32) {Z Zm : mjZt} {F : Nat} (hF : F + 4 ≤ 700) (hp : tpR Z Zm F) : ∃ Z1 Zm1, f148_feedNumber x Z = some ((), Z1) ∧ f198_four x Zm = some ((), Zm1) ∧ tpR Z1 Zm1 (F + 4) ∧ eqC Z Z1 ∧ eqD Zm Zm1 :=
  fd_one x 4 mjF mjF Z Zm F hF (by omega) (by decide) (by decide) hp
theorem q_feed {Z Zm : mjZt} {F : Nat} (hp : tpR Z Zm F) (a b c d e : Int32) : ∃ v Z1 Zm1 F1, f149_feed a b c d e Z = some (v, Z1) ∧ f199_feed a b c d e Zm = some (v, Zm1) ∧ tpR Z1 Zm1 F1 ∧ eqC Z Z1 ∧ eqD Zm Zm1 := by
  have hp0 := hp
  obtain ⟨p0, p1, p2, p3⟩ := hp0
  unfold f149_feed f199_feed
  rw [p1, p2, show (20 : Int32) = i3 20 from rfl, show (700 : Int32) = i3 700 from rfl, i3_add]
  by_cases q : F + 20 ≤ 700
  · obtain ⟨Z1, M1, a1, a2, a3, a4, a5⟩ := fd_four a (by omega) hp
    obtain ⟨Z2, M2, b1, b2, b3, b4, b5⟩ := fd_four b (by omega) a3
    obtain ⟨Z3, M3, c1, c2, c3, c4, c5⟩ := fd_four c (by omega) b3
    obtain ⟨Z4, M4, d1, d2, d3, d4, d5⟩ := fd_four d (by omega) c3
    obtain ⟨Z5, M5, e1, e2, e3, e4, e5⟩ := fd_four e (by omega) d3
    refine ⟨i3 ((F + 4 + 4 + 4 + 4 + 4 : Nat) : Int), Z5, M5, F + 4 + 4 + 4 + 4 + 4, ?_, ?_, e3, eqC_tr a4 (eqC_tr b4 (eqC_tr c4 (eqC_tr d4 e4))), eqD_tr a5 (eqD_tr b5 (eqD_tr c5 (eqD_tr d5 e5)))⟩
    · rw [if_pos (by rw [c_le (by omega)]; omega), a1, mjBd_some, b1, mjBd_some, c1, mjBd_some, d1, mjBd_some, e1, mjBd_some, e3.2.1]
    · rw [if_pos (by rw [c_le (by omega)]; omega), a2, mjBd_some, b2, mjBd_some, c2, mjBd_some, d2, mjBd_some, e2, mjBd_some, e3.2.2.1]
  · refine ⟨i3 (-1), Z, Zm, F, ?_, ?_, hp, eqC_rf, eqD_rf⟩
    · rw [if_neg (by rw [c_le (by omega)]; omega)]; rfl
    · rw [if_neg (by rw [c_le (by omega)]; omega)]; rfl
theorem q_end {Z Zm : mjZt} {F : Nat} (hp : tpR Z Zm F) (x : Int32) : ∃ v Z1 Zm1 F1, f150_end x Z = some (v, Z1) ∧ f200_end x Zm = some (v, Zm1) ∧ tpR Z1 Zm1 F1 ∧ eqC Z Z1 ∧ eqD Zm Zm1 := by
  have hp0 := hp
  obtain ⟨p0, p1, p2, p3⟩ := hp0
  obtain ⟨k, rfl, hk1, hk2⟩ := i3_ex x
  unfold f150_end f200_end
  rw [p1, p2, i36 (by omega), i36 (by omega), show (0 : Int64) = i6 0 from rfl, show (0 : Int32) = i3 0 from rfl]
  by_cases q : 0 ≤ k ∧ k ≤ F
  · obtain ⟨G, rfl⟩ : ∃ G : Nat, k = G := ⟨k.toNat, by omega⟩
    refine ⟨i3 G, zSi Z 0 1 (i3 G), zSi Zm 211 1 (i3 G), G, ?_, ?_, ⟨by omega, si_same _ _ _ _, si_same _ _ _ _, fun k => by rw [si_obj _ _ _ _ (by omega), si_obj _ _ _ _ (by omega)]; exact p3 k⟩, ⟨rfl, fun a h1 h2 => si_obj _ _ _ _ h1⟩, ⟨rfl, fun a h1 h2 => si_obj _ _ _ _ h1, fun f h1 => si_fld _ _ _ _ (by omega)⟩⟩
    · rw [if_neg (by rw [c_lt (by omega)]; omega), if_pos (by rw [c_le (by omega)]; omega), let_eq]
    · rw [m195t (by omega), mjBp_some, if_pos (by decide), let_eq]
  · refine ⟨i3 (-1), Z, Zm, F, ?_, ?_, hp, eqC_rf, eqD_rf⟩
    · by_cases q2 : k < 0
      · rw [if_pos (by rw [c_lt (by omega)]; omega)]; rfl
      · rw [if_neg (by rw [c_lt (by omega)]; omega), if_neg (by rw [c_le (by omega)]; omega)]; rfl
    · rw [m195f (by omega), mjBp_some, if_neg (by decide)]; rfl
theorem q_fault {Z Zm : mjZt} (h1 : Z.1 182 5 = Zm.1 211 11) (h2 : Z.1 182 6 = Zm.1 211 12) (x : Int32) : ∃ v, f153_fault x Z = some v ∧ f237_fault x Zm = some v := by
  obtain ⟨k, rfl, hk1, hk2⟩ := i3_ex x
  unfold f153_fault f237_fault
  rw [show (0 : Int32) = i3 0 from rfl, show (1 : Int32) = i3 1 from rfl]
  have ne : ∀ c : Int, -2147483648 ≤ c ∧ c ≤ 2147483647 → k ≠ c → ¬ i3 k = i3 c := fun c hc g e => by
    have := congrArg Int32.toInt e
    rw [i3_int (by omega), i3_int (by omega)] at this
    exact g this
  by_cases q0 : k = 0
  · subst q0
    exact ⟨Zm.1 211 11, by rw [if_pos rfl, h1], by rw [if_neg (by decide)]⟩
  · by_cases q1 : k = 1
    · subst q1
      exact ⟨Zm.1 211 12, by rw [if_neg (by decide), if_pos rfl, h2], by rw [if_pos (by decide), if_neg (by decide)]⟩
    · exact ⟨i3 (-1), by rw [if_neg (ne 0 (by omega) q0), if_neg (ne 1 (by omega) q1)]; rfl, by rw [if_pos (by rw [c_ne (by omega)]; exact q0), if_pos (by rw [c_ne (by omega)]; exact q1)]; rfl⟩
