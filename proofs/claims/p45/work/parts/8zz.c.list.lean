/-! ArrayList and Integer -/
/-- a list l of the objects xs, in the row o -/
def aL (Z : mjQ) (l o : Nat) (xs : List Nat) : Prop := Z.2.2.2.2 l = (20, 0) ∧ Z.2.2.2.1 l 1 = some o ∧ Z.2.1 l 2 = i3 xs.length ∧ l < 1000 + Z.1.1 ∧ ((xs = [] ∧ o = 1300003) ∨ (Z.2.2.2.2 o = (119, 10) ∧ o < 1000 + Z.1.1 ∧ xs.length ≤ 10 ∧ ∀ i, i < xs.length → Z.2.2.2.1 o i = some (xs.getD i 0)))
theorem aL_frm {Z Z2 : mjQ} {l o : Nat} {xs : List Nat} {P : Nat → Prop} (h : aL Z l o xs) (g : frm Z Z2 P) (h1 : ¬ P l) (h2 : ¬ P o) : aL Z2 l o xs := by
  obtain ⟨hk, hr, hl, hs, hx⟩ := h
  obtain ⟨x1, x2, x3⟩ := (g.2 l (Or.inl hs)).2 h1
  have := g.1
  refine ⟨by rw [x3]; exact hk, by rw [x2]; exact hr, by rw [x1]; exact hl, by omega, ?_⟩
  rcases hx with q | ⟨q1, q2, q3, q4⟩
  · exact Or.inl q
  · obtain ⟨y1, y2, y3⟩ := (g.2 o (Or.inl q2)).2 h2
    exact Or.inr ⟨by rw [y3]; exact q1, by omega, q3, by rw [y2]; exact q4⟩
theorem q_initL {Z : mjQ} {l : Nat} (hk : Z.2.2.2.2 l = (20, 0)) (hs : l < 1000 + Z.1.1) (h2 : Z.2.1 l 2 = i3 0) : ∃ Z2, g239_init sg0 l Z = some ((), Z2) ∧ aL Z2 l 1300003 [] ∧ frm Z Z2 (fun a => a = l) ∧ Z2.1 = Z.1 := by
  refine ⟨(Z.1, mjSr (mjSi Z.2 l 0 (i3 0)) l 1 (some 1300003)), ?_, ?_, ?_, rfl⟩
  · unfold g239_init g238_init g237_init
    rw [mjBq_some, show (0 : Int32) = i3 0 from rfl, qSi_of (Z := Z) hk rfl, mjBp_some, mjBq_some, qSr_of (Z := (Z.1, mjSi Z.2 l 0 (i3 0))) hk rfl, mjBp_some]
  · exact ⟨hk, (if_pos rfl).trans (if_pos rfl), ((if_pos rfl).trans (if_neg (by decide))).trans h2, hs, Or.inl ⟨rfl, rfl⟩⟩
  · exact frm_tr (frm_si rfl) (frm_sr (Z := (Z.1, mjSi Z.2 l 0 (i3 0))) rfl)
theorem q_lsz {Z : mjQ} {l o : Nat} {xs : List Nat} (h : aL Z l o xs) : g249_size l Z = some (i3 xs.length) := by
  unfold g249_size
  rw [qI_of (x := i3 xs.length) h.1 (by decide) h.2.2.1, mjBp_some]
theorem q_get {Z : mjQ} {l o i : Nat} {xs : List Nat} (h : aL Z l o xs) (hi : i < xs.length) (hn : Z.1.1 < 90000) : g244_get l (i3 i) Z = some (xs.getD i 0) := by
  obtain ⟨hk, hr, hl, hs, hx⟩ := h
  rcases hx with q | ⟨q1, q2, q3, q4⟩
  · rw [q.1] at hi; exact absurd hi (Nat.not_lt_zero _)
  · have e1 : g254_checkIndex (i3 i) (i3 xs.length) Z = some (i3 i) := by
      unfold g254_checkIndex g176_checkIndex
      rw [show (0 : Int32) = i3 0 from rfl, if_neg (by rw [c_lt (by omega)]; omega), if_pos (by rw [c_lt (by omega)]; omega), mjBp_some]
    have e2 : qAa Z.2 o (i3 i) = some (xs.getD i 0) := by
      have h4 : mjSrd o = none := by
        unfold mjSrd
        rw [if_neg (by omega), if_neg (by omega), if_neg (by omega)]
      unfold qAa
      rw [h4]
      dsimp only
      rw [if_pos ⟨Or.inr (Or.inr (Or.inl (ks_of q1))), by rw [mjAl, q1]; exact of_eq_true (in_t (by omega))⟩, ix_nat (by omega), q4 i hi]
    unfold g244_get g243_elementData
    rw [qI_of (x := i3 xs.length) hk (by decide) hl, mjBp_some, e1, mjBp_some, if_pos (ro_of hk), qR_of hk rfl hr, mjBp_some, e2, mjBp_some, mjBp_some]
/-- what a list of Objects takes -/
def okE (Z : mjQ) (e : Nat) : Prop := mjKs Z.2 e 12 = true ∨ mjKs Z.2 e 15 = true ∨ mjKs Z.2 e 20 = true ∨ mjKs Z.2 e 113 = true ∨ mjIcd e = true
theorem aok_E {M : mjMem} {o e n : Nat} (ho : M.2.2.2 o = (119, n)) (h : mjKs M e 12 = true ∨ mjKs M e 15 = true ∨ mjKs M e 20 = true ∨ mjKs M e 113 = true ∨ mjIcd e = true) : mjAok M o e = true := by
  unfold mjAok
  rw [ks_of ho]
  rcases h with h | h | h | h | h <;> rw [h] <;> simp
theorem q_addL {Z : mjQ} {l o e : Nat} {xs : List Nat} (h : aL Z l o xs) (he : okE Z e) (heo : oldO Z e) (hn : Z.1.1 < 90000) (hl9 : xs.length < 10) : ∃ Z2 o2, g240_add sg0 l e Z = some (1, Z2) ∧ aL Z2 l o2 (xs ++ [e]) ∧ frm Z Z2 (fun a => a = l ∨ a = o) ∧ (o2 = o ∨ o2 = 1000 + Z.1.1) ∧ Z2.1.1 ≤ Z.1.1 + 1 ∧ Z2.1.2 ≤ Z.1.2 + 10 := by
  obtain ⟨hk, hr, hl, hs, hx⟩ := h
  have k0 : qSi Z l 20 0 (Z.2.1 l 0 + 1) = some (Z.1, mjSi Z.2 l 0 (Z.2.1 l 0 + 1)) := qSi_of hk rfl
  have k1 : (mjSi Z.2 l 0 (Z.2.1 l 0 + 1)).2.2.2 l = (20, 0) := hk
  have k2 : (mjSi Z.2 l 0 (Z.2.1 l 0 + 1)).1 l 2 = i3 xs.length := ((if_pos rfl).trans (if_neg (by decide))).trans hl
  rcases hx with ⟨rfl, rfl⟩ | ⟨q1, q2, q3, q4⟩
  · -- the first: a row of ten
    have hln : ¬ l = 1000 + Z.1.1 := by omega
    have hen : ¬ e = 1000 + Z.1.1 := old_new hn heo
    have hno : (mjZr (mjSi Z.2 l 0 (Z.2.1 l 0 + 1)) (1000 + Z.1.1) (119, 10)).2.2.2 (1000 + Z.1.1) = (119, 10) := if_pos rfl
    have hkl : (mjZr (mjSi Z.2 l 0 (Z.2.1 l 0 + 1)) (1000 + Z.1.1) (119, 10)).2.2.2 l = (20, 0) := (if_neg hln).trans hk
    have hke : (mjZr (mjSi Z.2 l 0 (Z.2.1 l 0 + 1)) (1000 + Z.1.1) (119, 10)).2.2.2 e = Z.2.2.2.2 e := if_neg hen
    have c0 : qNewA sg0 (Z.1, mjSi Z.2 l 0 (Z.2.1 l 0 + 1)) 119 (i3 (10 : Nat)) = _ := qNewA_0 (t := 119) (n := 10) (by show Z.1.1 < 100000; omega) (by omega)
    have g1 : g246_grow sg0 l (i3 0 + 1) (Z.1, mjSi Z.2 l 0 (Z.2.1 l 0 + 1)) = some (1000 + Z.1.1, ((Z.1.1 + 1, Z.1.2 + 10), mjSr (mjZr (mjSi Z.2 l 0 (Z.2.1 l 0 + 1)) (1000 + Z.1.1) (119, 10)) l 1 (some (1000 + Z.1.1)))) := by
      unfold g246_grow
      have d1 : qLn (mjSi Z.2 l 0 (Z.2.1 l 0 + 1)) 1300003 = some (i3 0) := rfl
      rw [qR_of (M := mjSi Z.2 l 0 (Z.2.1 l 0 + 1)) k1 rfl hr, mjBp_some, d1, mjBp_some, if_neg (by decide), if_pos rfl, show mjMax 10 (i3 0 + 1) = i3 (10 : Nat) from by decide, c0, mjBq_some, qSr_of (Z := ((Z.1.1 + 1, Z.1.2 + mjSzK (119, 10)), mjZr (mjSi Z.2 l 0 (Z.2.1 l 0 + 1)) (1000 + Z.1.1) (119, 10))) hkl rfl, mjBp_some]
      rfl
    refine ⟨((Z.1.1 + 1, Z.1.2 + 10), mjSi (mjSr (mjSr (mjZr (mjSi Z.2 l 0 (Z.2.1 l 0 + 1)) (1000 + Z.1.1) (119, 10)) l 1 (some (1000 + Z.1.1))) (1000 + Z.1.1) 0 (some e)) l 2 (i3 (0 + 1))), 1000 + Z.1.1, ?_, ?_, ?_, Or.inr rfl, Nat.le_refl _, Nat.le_refl _⟩
    · unfold g240_add
      rw [qI_of (x := Z.2.1 l 0) hk (by decide) rfl, mjBp_some, k0, mjBp_some, qR_of (M := mjSi Z.2 l 0 (Z.2.1 l 0 + 1)) k1 rfl hr, mjBp_some, qI_of (M := mjSi Z.2 l 0 (Z.2.1 l 0 + 1)) (x := i3 0) k1 (by decide) k2, mjBp_some, if_pos (ro_of (M := mjSi Z.2 l 0 (Z.2.1 l 0 + 1)) k1)]
      unfold g241_add
      have d1 : qLn (mjSi Z.2 l 0 (Z.2.1 l 0 + 1)) 1300003 = some (i3 0) := rfl
      rw [d1, mjBp_some, if_neg (by decide), if_pos (ro_of (M := mjSi Z.2 l 0 (Z.2.1 l 0 + 1)) k1)]
      unfold g245_grow
      rw [qI_of (M := mjSi Z.2 l 0 (Z.2.1 l 0 + 1)) (x := i3 0) k1 (by decide) k2, mjBp_some, if_pos (ro_of (M := mjSi Z.2 l 0 (Z.2.1 l 0 + 1)) k1), g1, mjBq_some, mjBq_some]
      unfold g241_add_j11
      have he2 : mjAok (mjSr (mjZr (mjSi Z.2 l 0 (Z.2.1 l 0 + 1)) (1000 + Z.1.1) (119, 10)) l 1 (some (1000 + Z.1.1))) (1000 + Z.1.1) e = true := aok_E (n := 10) hno (by
        unfold okE at he
        have hk9 : ∀ c, mjKs (mjSr (mjZr (mjSi Z.2 l 0 (Z.2.1 l 0 + 1)) (1000 + Z.1.1) (119, 10)) l 1 (some (1000 + Z.1.1))) e c = mjKs Z.2 e c := fun c => congrArg (fun q : Nat × Nat => q.1 == c) hke
        rw [hk9, hk9, hk9, hk9]
        exact he)
      have d2 : qSra ((Z.1.1 + 1, Z.1.2 + 10), mjSr (mjZr (mjSi Z.2 l 0 (Z.2.1 l 0 + 1)) (1000 + Z.1.1) (119, 10)) l 1 (some (1000 + Z.1.1))) (1000 + Z.1.1) (i3 0) e = some ((Z.1.1 + 1, Z.1.2 + 10), mjSr (mjSr (mjZr (mjSi Z.2 l 0 (Z.2.1 l 0 + 1)) (1000 + Z.1.1) (119, 10)) l 1 (some (1000 + Z.1.1))) (1000 + Z.1.1) 0 (some e)) := by
        unfold qSra
        rw [if_pos ⟨he2, by rw [mjAl]; show mjIn (i3 0) ((mjZr (mjSi Z.2 l 0 (Z.2.1 l 0 + 1)) (1000 + Z.1.1) (119, 10)).2.2.2 (1000 + Z.1.1)).2 = true; rw [hno]; decide⟩]
        rfl
      rw [d2, mjBp_some, show (i3 0 + 1 : Int32) = i3 (0 + 1) from by decide, qSi_of (Z := ((Z.1.1 + 1, Z.1.2 + 10), mjSr (mjSr (mjZr (mjSi Z.2 l 0 (Z.2.1 l 0 + 1)) (1000 + Z.1.1) (119, 10)) l 1 (some (1000 + Z.1.1))) (1000 + Z.1.1) 0 (some e))) hkl rfl, mjBp_some, mjBq_some]
    · have hln2 : ¬ 1000 + Z.1.1 = l := fun q => hln q.symm
      refine ⟨hkl, ?_, (if_pos rfl).trans (if_pos rfl), by show l < 1000 + (Z.1.1 + 1); omega, Or.inr ⟨hno, by show 1000 + Z.1.1 < 1000 + (Z.1.1 + 1); omega, (show 1 ≤ 10 by omega), ?_⟩⟩
      · exact (if_neg hln).trans ((if_pos rfl).trans (if_pos rfl))
      · intro i hi
        have : i = 0 := by
          have : i < 1 := hi
          omega
        subst this
        exact (if_pos rfl).trans (if_pos rfl)
    · refine frm_tr2 (frm_tr2 (frm_tr2 (frm_tr2 (frm_si (P := fun a => a = l ∨ a = 1300003) (Or.inl rfl)) (frm_zr (Z := (Z.1, mjSi Z.2 l 0 (Z.2.1 l 0 + 1))) (m := Z.1.2 + 10) (q := (119, 10)) (by show Z.1.1 < 100000; omega)) (fun a _ q => q)) (frm_sr (Z := ((Z.1.1 + 1, Z.1.2 + 10), mjZr (mjSi Z.2 l 0 (Z.2.1 l 0 + 1)) (1000 + Z.1.1) (119, 10))) (P := fun a => a = l) rfl) (fun a _ q => Or.inl q)) (frm_sr (Z := ((Z.1.1 + 1, Z.1.2 + 10), mjSr (mjZr (mjSi Z.2 l 0 (Z.2.1 l 0 + 1)) (1000 + Z.1.1) (119, 10)) l 1 (some (1000 + Z.1.1)))) (P := fun a => a = 1000 + Z.1.1) rfl) (fun a ha q => absurd q (old_new hn ha))) (frm_si (Z := ((Z.1.1 + 1, Z.1.2 + 10), mjSr (mjSr (mjZr (mjSi Z.2 l 0 (Z.2.1 l 0 + 1)) (1000 + Z.1.1) (119, 10)) l 1 (some (1000 + Z.1.1))) (1000 + Z.1.1) 0 (some e))) (P := fun a => a = l) rfl) (fun a _ q => Or.inl q)
  · -- there is room
    have hlo : ¬ l = o := fun q => by rw [← q, hk] at q1; exact absurd (show (20 : Nat) = 119 from congrArg Prod.fst q1) (by decide)
    have hlo2 : ¬ o = l := fun q => hlo q.symm
    refine ⟨(Z.1, mjSi (mjSr (mjSi Z.2 l 0 (Z.2.1 l 0 + 1)) o xs.length (some e)) l 2 (i3 ((xs.length + 1 : Nat) : Int))), o, ?_, ?_, ?_, Or.inl rfl, Nat.le_succ _, Nat.le_add_right _ _⟩
    · have d1 : qLn (mjSi Z.2 l 0 (Z.2.1 l 0 + 1)) o = some (i3 (10 : Nat)) := qLn_of (M := mjSi Z.2 l 0 (Z.2.1 l 0 + 1)) q1 (by omega) (by omega)
      have he2 : mjAok (mjSi Z.2 l 0 (Z.2.1 l 0 + 1)) o e = true := aok_E (n := 10) q1 he
      have d2 : qSra (Z.1, mjSi Z.2 l 0 (Z.2.1 l 0 + 1)) o (i3 xs.length) e = some (Z.1, mjSr (mjSi Z.2 l 0 (Z.2.1 l 0 + 1)) o xs.length (some e)) := by
        unfold qSra
        rw [if_pos ⟨he2, by rw [mjAl]; show mjIn (i3 xs.length) (Z.2.2.2.2 o).2 = true; rw [q1]; exact of_eq_true (in_t (by omega))⟩, ix_nat (by omega)]
      unfold g240_add
      rw [qI_of (x := Z.2.1 l 0) hk (by decide) rfl, mjBp_some, k0, mjBp_some, qR_of (M := mjSi Z.2 l 0 (Z.2.1 l 0 + 1)) k1 rfl hr, mjBp_some, qI_of (M := mjSi Z.2 l 0 (Z.2.1 l 0 + 1)) (x := i3 xs.length) k1 (by decide) k2, mjBp_some, if_pos (ro_of (M := mjSi Z.2 l 0 (Z.2.1 l 0 + 1)) k1)]
      unfold g241_add
      rw [d1, mjBp_some, if_pos (by rw [c_ne (by omega)]; omega)]
      unfold g241_add_j11
      rw [d2, mjBp_some, show (i3 xs.length + 1 : Int32) = i3 ((xs.length + 1 : Nat) : Int) from (i3_add (xs.length : Int) 1).trans (congrArg i3 (by omega)), qSi_of (Z := (Z.1, mjSr (mjSi Z.2 l 0 (Z.2.1 l 0 + 1)) o xs.length (some e))) k1 rfl, mjBp_some, mjBq_some]
    · refine ⟨hk, (if_neg hlo).trans hr, ?_, hs, Or.inr ⟨q1, q2, by rw [List.length_append]; exact hl9, ?_⟩⟩
      · rw [List.length_append]
        exact (if_pos rfl).trans (if_pos rfl)
      · intro i hi
        rw [List.length_append] at hi
        have hi2 : i < xs.length + 1 := hi
        refine (if_pos rfl).trans ?_
        by_cases q : i = xs.length
        · rw [if_pos q, q, List.getD_eq_getElem?_getD (l := xs ++ [e]), List.getElem?_append_right (Nat.le_refl _), Nat.sub_self]
          rfl
        · rw [if_neg q, List.getD_eq_getElem?_getD (l := xs ++ [e]), List.getElem?_append_left (by omega), ← List.getD_eq_getElem?_getD]
          exact q4 i (by omega)
    · exact frm_tr2 (frm_tr2 (frm_si (P := fun a => a = l ∨ a = o) (Or.inl rfl)) (frm_sr (Z := (Z.1, mjSi Z.2 l 0 (Z.2.1 l 0 + 1))) (P := fun a => a = o) rfl) (fun a _ q => Or.inr q)) (frm_si (Z := (Z.1, mjSr (mjSi Z.2 l 0 (Z.2.1 l 0 + 1)) o xs.length (some e))) (P := fun a => a = l) rfl) (fun a _ q => Or.inl q)
theorem vb_cache : ∀ z, z < 256 → vb_c z = i3 ((z : Int) - 128) := by decide +kernel
/-- Integer.valueOf of a small number: the cached object -/
theorem q_valueOf {Z : mjQ} {n : Nat} (h : n < 100) : g223_valueOf sg0 (i3 n) Z = some (1400000 + (n + 128), Z) := by
  have e : qAa Z.2 1300004 (i3 ((n + 128 : Nat) : Int)) = some (1400000 + (n + 128)) := by
    have h4 : mjSrd 1300004 = some 256 := rfl
    unfold qAa
    rw [h4]
    dsimp only
    rw [if_pos (of_eq_true (in_t (by omega))), ix_nat (by omega)]
    rfl
  unfold g223_valueOf
  rw [show (-128 : Int32) = i3 (-128) from rfl, if_neg (by rw [c_lt (by omega)]; omega), show (127 : Int32) = i3 127 from rfl, if_neg (by rw [c_gt (by omega)]; omega), show (128 : Int32) = i3 128 from rfl, i3_add, show (n : Int) + 128 = ((n + 128 : Nat) : Int) from by omega, e, mjBp_some]
