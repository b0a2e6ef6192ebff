/-! contains, of a list of small Integers -/
def icI (n : Nat) : Nat := 1400000 + (n + 128)
theorem icd_I {n : Nat} (h : n < 100) : mjIcd (icI n) = true := decide_eq_true (show 1400000 ≤ 1400000 + (n + 128) ∧ 1400000 + (n + 128) < 1400256 by omega)
theorem qI_I {Z : mjQ} {n : Nat} (hw : wokQ Z) (h : n < 100) : qI Z.2 (icI n) 17 0 = some (i3 n) := by
  have h2 : mjKs Z.2 (icI n) 17 = false := by rw [mjKs, hw (icI n) (show 1000000 ≤ 1400000 + (n + 128) by omega)]; rfl
  unfold qI
  rw [h2, if_neg (by decide), if_neg (fun q => absurd q.1 (by decide)), if_pos ⟨rfl, icd_I h, rfl⟩]
  have h3 : icI n - 1400000 = n + 128 := show 1400000 + (n + 128) - 1400000 = n + 128 by omega
  rw [h3, vb_cache _ (by omega)]
  exact congrArg (fun z => some (i3 z)) (by omega)
theorem ro_I {M : mjMem} {n : Nat} (h : n < 100) : mjRo M (icI n) 17 = true := by
  rw [mjRo, icd_I h]
  simp
theorem q_eqI {Z : mjQ} {n m : Nat} (hw : wokQ Z) (hn : n < 100) (hm : m < 100) : g219_equals (icI n) (icI m) Z = some (i3 (if n = m then 1 else 0)) := by
  unfold g219_equals g221_intValue
  rw [if_pos (icd_I hm), if_neg (by decide), qI_I hw hn, mjBp_some, if_pos (ro_I hm), qI_I hw hm, mjBp_some, mjBp_some]
  by_cases q : n = m
  · rw [if_neg (by rw [c_ne (by omega)]; omega), if_pos q]; rfl
  · rw [if_pos (by rw [c_ne (by omega)]; omega), if_neg q]; rfl
theorem q_ixR {Z : mjQ} {l o m : Nat} {ns : List Nat} (h : aL Z l o (ns.map icI)) (hw : wokQ Z) (hb : ∀ n, n ∈ ns → n < 100) (hm : m < 100) (hz : Z.1.1 < 90000) : ∀ f i N, i + f = ns.length → f < N → ∃ r : Int, g248_indexOfRange_h42 N (icI m) (i3 ns.length) o (i3 i) Z = some (i3 r) ∧ -1 ≤ r ∧ r ≤ 100000 ∧ (0 ≤ r ↔ ∃ j, i ≤ j ∧ j < ns.length ∧ ns.getD j 0 = m)
  | 0, i, N, he, hN => by
    obtain ⟨N2, rfl⟩ : ∃ N2, N = N2 + 1 := ⟨N - 1, by omega⟩
    have h10 : ns.length ≤ 10 := by
      rcases h.2.2.2.2 with q | q
      · have : (ns.map icI).length = 0 := by rw [q.1]; rfl
        rw [List.length_map] at this; omega
      · have := q.2.2.1; rw [List.length_map] at this; exact this
    rw [g248_indexOfRange_h42, if_pos (by rw [c_ge (by omega)]; omega)]
    exact ⟨-1, rfl, by omega, by omega, ⟨fun q => absurd q (by omega), fun ⟨j, j1, j2, _⟩ => absurd j2 (by omega)⟩⟩
  | f + 1, i, N, he, hN => by
    obtain ⟨N2, rfl⟩ : ∃ N2, N = N2 + 1 := ⟨N - 1, by omega⟩
    obtain ⟨hk, hr, hl, hs, hx⟩ := h
    rcases hx with q | ⟨q1, q2, q3, q4⟩
    · have : (ns.map icI).length = 0 := by rw [q.1]; rfl
      rw [List.length_map] at this; omega
    · rw [List.length_map] at q3
      have hi : i < (ns.map icI).length := by rw [List.length_map]; omega
      have hg : (ns.map icI).getD i 0 = icI (ns.getD i 0) := by
        rw [List.getD_eq_getElem?_getD (l := ns.map icI), List.getElem?_map, List.getD_eq_getElem?_getD, List.getElem?_eq_getElem (by omega)]
        rfl
      have hni : ns.getD i 0 < 100 := by
        rw [List.getD_eq_getElem?_getD, List.getElem?_eq_getElem (show i < ns.length by omega)]
        exact hb _ (List.getElem_mem _)
      have e2 : qAa Z.2 o (i3 i) = some (icI (ns.getD i 0)) := by
        have h4 : mjSrd o = none := by
          unfold mjSrd
          rw [if_neg (by omega), if_neg (by omega), if_neg (by omega)]
        unfold qAa
        rw [h4]
        dsimp only
        rw [if_pos ⟨Or.inr (Or.inr (Or.inl (ks_of q1))), by rw [mjAl, q1]; exact of_eq_true (in_t (by omega))⟩, ix_nat (by omega), q4 i hi, hg]
      rw [g248_indexOfRange_h42, if_neg (by rw [c_ge (by omega)]; omega), e2, mjBp_some, if_pos (ro_I hm), q_eqI hw hm hni, mjBp_some, show (0 : Int32) = i3 0 from rfl]
      by_cases q : m = ns.getD i 0
      · rw [if_pos q, if_neg (by rw [c_eq (by omega)]; omega)]
        exact ⟨i, rfl, by omega, by omega, ⟨fun _ => ⟨i, Nat.le_refl _, by omega, q.symm⟩, fun _ => by omega⟩⟩
      · rw [if_neg q, if_pos (by rw [c_eq (by omega)])]
        obtain ⟨r, r1, r2, r3, r4⟩ := q_ixR ⟨hk, hr, hl, hs, Or.inr ⟨q1, q2, by rw [List.length_map]; exact q3, q4⟩⟩ hw hb hm hz f (i + 1) N2 (by omega) (by omega)
        refine ⟨r, ?_, r2, r3, ⟨fun w => ?_, fun ⟨j, j1, j2, j3⟩ => r4.2 ⟨j, ?_, j2, j3⟩⟩⟩
        · rw [show (i3 (i : Int) + 1 : Int32) = i3 ((i + 1 : Nat) : Int) from (i3_add (i : Int) 1).trans (congrArg i3 (by omega))]
          exact r1
        · obtain ⟨j, j1, j2, j3⟩ := r4.1 w
          exact ⟨j, by omega, j2, j3⟩
        · have : ¬ j = i := fun w => q (by rw [← w]; exact j3.symm)
          omega
theorem q_cont {Z : mjQ} {l o m : Nat} {ns : List Nat} (h : aL Z l o (ns.map icI)) (hw : wokQ Z) (hb : ∀ n, n ∈ ns → n < 100) (hm : m < 100) (hz : Z.1.1 < 90000) (hl : ns.length ≤ 10) : ∃ b : Bool, g242_contains l (icI m) Z = some (if b = true then 1 else 0) ∧ (b = true ↔ ∃ j, j < ns.length ∧ ns.getD j 0 = m) := by
  obtain ⟨r, r1, r2, r3, r4⟩ := q_ixR h hw hb hm hz ns.length 0 mjF (by omega) (by unfold mjF; omega)
  obtain ⟨hk, hr, hl9, -, -⟩ := h
  rw [List.length_map] at hl9
  have e : g247_indexOf l (icI m) Z = some (i3 r) := by
    unfold g247_indexOf g248_indexOfRange
    rw [qI_of (x := i3 ns.length) hk (by decide) hl9, mjBp_some, if_pos (ro_of hk), qR_of hk rfl hr, mjBp_some]
    show mjBp (g248_indexOfRange_h42 mjF (icI m) (i3 ns.length) o (i3 ((0 : Nat) : Int)) Z) _ = _
    rw [r1, mjBp_some]
  unfold g242_contains
  rw [if_pos (ro_of hk), e, mjBp_some, show (0 : Int32) = i3 0 from rfl]
  by_cases q : r < 0
  · rw [if_pos (by rw [c_lt (by omega)]; omega)]
    refine ⟨false, rfl, ⟨fun w => (by cases w), fun ⟨j, j1, j2⟩ => absurd (r4.2 ⟨j, Nat.zero_le _, j1, j2⟩) (by omega)⟩⟩
  · rw [if_neg (by rw [c_lt (by omega)]; omega)]
    refine ⟨true, rfl, ⟨fun _ => ?_, fun _ => rfl⟩⟩
    obtain ⟨j, -, j1, j2⟩ := r4.1 (by omega)
    exact ⟨j, j1, j2⟩
