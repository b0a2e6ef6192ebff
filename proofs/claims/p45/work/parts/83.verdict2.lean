/-! THE VERDICT, of the class: the second half -/
section VE
variable {b o : Nat} {S : mjS} {W : Nat → Bool} {Z : mjZt}
theorem v45 (ho : o = 199 ∨ o = 204) (hk : okS S) (hoc : okC S) {w : Int64} (hw : ∀ j, j < sAll S → b6 w j = W j) : ∀ f i n (Z : mjZt), i + f = sAll S → f < n → cBk Z b S → cDr Z b S → cTr Z b S → vJ Z o S W i → ∃ Z1, f136_decide_h45 n o b w (i3 i) Z = f136_decide_j116 o b Z1 ∧ eqW o Z Z1 ∧ vJ Z1 o S W (sAll S)
  | f, i, 0, _, _, hn, _, _, _, _ => by omega
  | 0, i, n + 1, Z, hf, _, h, hd, _, hJ => by
    obtain rfl : i = sAll S := by omega
    have := all_le hk
    exact ⟨Z, by rw [f136_decide_h45, if_pos (is_b (b_b h)), hd.1, if_pos (by rw [c_ge (by omega)]; omega)], eqW_rf, hJ⟩
  | f + 1, i, n + 1, Z, hf, hn, h, hd, htr, hJ => by
    obtain ⟨p0, p1, p2, p3, p4, l1, l2, l3, l4⟩ := is_o ho
    have hb := b_b h
    have oa := all_le hk
    have o1 := ok_sc hk
    have hi : i < sAll S := by omega
    obtain ⟨a0, a1, a2, a3, a4⟩ := d_ac hd hi
    have tb := te_bd hk hi
    have sb := sz_bd hk hi
    obtain ⟨y, Z1, r1, r2, r3, r4, r5⟩ := e93 hk hoc hi tb (sz := sSz S i) (by omega) h hd htr hw
    have hy := bt_none (R := sR S) (P := fun r => sSt S W i (sTe S i) (sSz S i) r) (by omega) r5
    have e1 : eqW o Z (zSi Z1 (o + 1) i y) := ⟨r2.1, fun a h1 h2 h3 => ⟨by rw [si_obj _ _ _ _ (by omega)]; exact r3 a h1, by rw [si_lng]; exact r4 a h2⟩⟩
    have J1 : vJ (zSi Z1 (o + 1) i y) o S W i := by
      obtain ⟨j1, j2, j3⟩ := hJ
      refine ⟨fun x hx j hj => ?_, fun t ht => ?_, fun j hj => ?_⟩
      · rw [si_fld _ _ _ _ (by omega), r3 _ (by omega)]; exact j1 x hx j hj
      · rw [si_obj _ _ _ _ (by omega), r3 _ (by omega)]; exact j2 t ht
      · rw [si_obj _ _ _ _ (by omega), r3 _ (by omega)]; exact j3 j hj
    have eB := fun {Z2} (e : eqW o Z Z2) => eqW_B (b := b) (by omega) hb e
    have go : ∀ Z2, eqW o Z Z2 → vJ Z2 o S W (i + 1) → ∃ Z3, f136_decide_h45 n o b w (i3 ((i + 1 : Nat) : Int)) Z2 = f136_decide_j116 o b Z3 ∧ eqW o Z Z3 ∧ vJ Z3 o S W (sAll S) := by
      intro Z2 e J
      obtain ⟨Z3, s1, s2, s3⟩ := v45 ho hk hoc hw f (i + 1) n Z2 (by omega) (by omega) (cBk_of ⟨o1.1, o1.2.1⟩ h (eB e)) (cDr_of ⟨o1.1, oa⟩ hd (eB e)) (cTr_of htr (eB e)) J
      exact ⟨Z3, s1, eqW_tr e s2, s3⟩
    by_cases q : fRu S W i (sTe S i) (sSz S i) = -1
    · have e0 : y = i3 0 := by rw [hy]; exact q
      have hs : stk S W i = false := decide_eq_false (by omega)
      obtain ⟨Z3, s1, s2, s3⟩ := go (zSi Z1 (o + 1) i y) e1 (by
        obtain ⟨j1, j2, j3⟩ := J1
        refine ⟨fun x hx j hj => ?_, fun t ht => ?_, fun j hj => ?_⟩
        · rcases (by omega : x < i ∨ x = i) with q2 | rfl
          · exact j1 x q2 j hj
          · rw [si_same]; exact r5 j hj
        · rw [j2 t ht, sWd, hs]; simp
        · rw [(j3 j hj).1, (j3 j hj).2]
          unfold sHi sIp
          rw [anyN, anyN, hs]; simp)
      refine ⟨Z3, ?_, s2, s3⟩
      rw [f136_decide_h45, if_pos (is_b hb), hd.1, if_neg (by rw [c_ge (by omega)]; omega), show (42 : Int32) = i3 42 from rfl, if_neg (by rw [c_ge (by omega)]; omega), e6 hb (by omega), mjBp_some, if_pos p0, if_pos (is_ac hb i (by omega)), a3, a4, r1, mjBd_some, if_pos p1, l1, if_pos (in_p (by omega)), ix_nat (by omega), let_eq, si_same, e0, if_pos (by decide), ← e0, i3_s]
      exact s1
    · have e0 : ¬ y = i3 0 := by rw [hy]; exact q
      have hs : stk S W i = true := decide_eq_true q
      have ab : acB b i ≠ 191 ∧ acB b i ≠ 192 ∧ (acB b i < o ∨ o + 4 < acB b i) := by unfold acB; omega
      obtain ⟨Z2, t1, t2, t3⟩ := e132 (Z := zSi Z1 (o + 1) i y) ho hk hb hi (by
        have e9 := (e1.2 (acB b i) ab.1 ab.2.1 ab.2.2).1
        unfold aRep
        rw [e9]
        exact ⟨a0, a1, a2, a3, a4⟩) hs (fun j hj => by rw [si_same]; exact r5 j hj) J1
      obtain ⟨Z3, s1, s2, s3⟩ := go Z2 (eqW_tr e1 t2) t3
      refine ⟨Z3, ?_, s2, s3⟩
      have e2 : ¬ mjCmp .eq y 0 = true := by
        obtain ⟨z, rfl, z1, z2⟩ := i3_ex y
        rw [show (0 : Int32) = i3 0 from rfl, c_eq (by omega)]
        intro e3; exact e0 (by rw [e3])
      rw [f136_decide_h45, if_pos (is_b hb), hd.1, if_neg (by rw [c_ge (by omega)]; omega), show (42 : Int32) = i3 42 from rfl, if_neg (by rw [c_ge (by omega)]; omega), e6 hb (by omega), mjBp_some, if_pos p0, if_pos (is_ac hb i (by omega)), a3, a4, r1, mjBd_some, if_pos p1, l1, if_pos (in_p (by omega)), ix_nat (by omega), let_eq, si_same, if_neg e2, t1, mjBd_some, i3_s]
      exact s1
/-- what the loop over the teams keeps -/
def vK (Z : mjZt) (o : Nat) (S : mjS) (W : Nat → Bool) (n : Nat) : Prop :=
  (∀ t, t < n → Z.1 (o + 3) t = i3 (if sIn S W t = true then sTm S t else 2147483647) ∧ Z.1 (o + 4) t = i3 (if sIn S W t = true then sWo S W t else 2147483647)) ∧ ∀ j, j < 32 → bt (Z.1 o 8) j = (decide (j < n) && sWh S j)
theorem v198 (ho : o = 199 ∨ o = 204) (hk : okS S) (R : Nat → Nat → Int32 → mjZt → Option (Unit × mjZt)) {i : Nat} (hi : i < 6) (h : cBk Z b S) (hd : cDr Z b S) (hJ : vJ Z o S W (sAll S)) (hK : vK Z o S W i) : ∃ Z1, f136_decide_j198 R o b (i3 i) (i3 (if sIn S W i = true then 1 else 0)) o (Z.1 o 8) (if sWh S i = true then i3 1 <<< (i3 i &&& 31) else i3 0) Z = R o b (i3 ((i + 1 : Nat) : Int)) Z1 ∧ eqW o Z Z1 ∧ vJ Z1 o S W (sAll S) ∧ vK Z1 o S W (i + 1) := by
  obtain ⟨p0, p1, p2, p3, p4, l1, l2, l3, l4⟩ := is_o ho
  have hb := b_b h
  have o1 := ok_sc hk
  obtain ⟨k1, k2⟩ := hK
  generalize hv : (if sWh S i = true then i3 1 <<< (i3 i &&& 31) else i3 0) = v
  have hbt : ∀ j, j < 32 → bt (Z.1 o 8 ||| v) j = (decide (j < i + 1) && sWh S j) := by
    intro j hj
    rw [bt_or, k2 j hj, ← hv]
    by_cases q : j = i
    · subst q
      rw [decide_eq_false (by omega), decide_eq_true (show j < j + 1 by omega)]
      by_cases q2 : sWh S j = true
      · rw [if_pos q2, bt_single (by omega) hj, q2]; simp
      · rw [if_neg q2, bt_0]; simp at q2; rw [q2]; rfl
    · have e : decide (j < i + 1) = decide (j < i) := by simp only [decide_eq_decide]; omega
      rw [e]
      by_cases q2 : sWh S i = true
      · rw [if_pos q2, bt_single (by omega) hj, decide_eq_false q, Bool.or_false]
      · rw [if_neg q2, bt_0, Bool.or_false]
  have e1 : eqW o Z (zSi Z o 8 (Z.1 o 8 ||| v)) := eqW_si (by omega)
  have fin : ∀ x y : Int32, (x = i3 (if sIn S W i = true then sTm S i else 2147483647)) → (y = i3 (if sIn S W i = true then sWo S W i else 2147483647)) → eqW o Z (zSi (zSi (zSi Z o 8 (Z.1 o 8 ||| v)) (o + 3) i x) (o + 4) i y) ∧ vJ (zSi (zSi (zSi Z o 8 (Z.1 o 8 ||| v)) (o + 3) i x) (o + 4) i y) o S W (sAll S) ∧ vK (zSi (zSi (zSi Z o 8 (Z.1 o 8 ||| v)) (o + 3) i x) (o + 4) i y) o S W (i + 1) := by
    intro x y hx hy
    refine ⟨eqW_tr e1 (eqW_tr (eqW_si (by omega)) (eqW_si (by omega))), ?_, ?_, ?_⟩
    · obtain ⟨j1, j2, j3⟩ := hJ
      refine ⟨fun a ha j hj => ?_, fun t ht => ?_, fun j hj => ?_⟩
      · rw [si_obj _ _ _ _ (by omega), si_obj _ _ _ _ (by omega), si_obj _ _ _ _ (by omega)]; exact j1 a ha j hj
      · rw [si_obj _ _ _ _ (by omega), si_obj _ _ _ _ (by omega), si_obj _ _ _ _ (by omega)]; exact j2 t ht
      · rw [si_obj _ _ _ _ (by omega), si_obj _ _ _ _ (by omega), si_fld _ _ _ _ (by omega), si_fld _ _ _ _ (by omega)]; exact j3 j hj
    · intro t ht
      by_cases q : t = i
      · subst q
        rw [si_obj _ _ _ _ (by omega), si_same, si_same]
        exact ⟨hx, hy⟩
      · rw [si_obj _ _ _ _ (by omega), si_fld _ _ _ _ (by omega), si_obj _ _ _ _ (by omega), si_fld _ _ _ _ (by omega), si_obj _ _ _ _ (by omega), si_obj _ _ _ _ (by omega)]
        exact k1 t (by omega)
    · intro j hj
      rw [si_obj _ _ _ _ (by omega), si_obj _ _ _ _ (by omega), si_same]
      exact hbt j hj
  unfold f136_decide_j198
  by_cases q : sIn S W i = true
  · have hiT : i < sT S := by unfold sIn at q; simp at q; exact q.1
    obtain ⟨g1, g2, g3⟩ := fin (i3 (sTm S i)) (i3 (sWo S W i)) (by rw [if_pos q]) (by rw [if_pos q])
    refine ⟨_, ?_, g1, g2, g3⟩
    have eB := eqW_B (b := b) (by omega) hb e1
    rw [if_pos q, if_pos p0, let_eq, if_pos p0, if_neg (by decide), if_pos (is_b hb), e8 (cBk_of ⟨o1.1, o1.2.1⟩ h eB) hk hiT, mjBp_some, if_pos (is_tm hb i hi), e99 (cBk_of ⟨o1.1, o1.2.1⟩ h eB) (cDr_of ⟨o1.1, all_le hk⟩ hd eB) hk hiT, mjBp_some]
    unfold f136_decide_j227
    rw [if_pos p3, l3, if_pos (in_p (by omega)), ix_nat (by omega), let_eq, if_pos p0, if_neg (by decide), if_pos p2, l2, if_pos (in_p (by omega)), if_pos p4, l4, if_pos (in_p (by omega)), let_eq, si_obj _ _ _ _ (by omega), si_obj _ _ _ _ (by omega), hJ.2.1 i hiT, i3_s]
    rfl
  · obtain ⟨g1, g2, g3⟩ := fin (i3 2147483647) (i3 2147483647) (by rw [if_neg q]) (by rw [if_neg q])
    refine ⟨_, ?_, g1, g2, g3⟩
    rw [if_neg q, if_pos p0, let_eq, if_pos p0, if_pos (by decide)]
    unfold f136_decide_j227
    rw [if_pos p3, l3, if_pos (in_p (by omega)), ix_nat (by omega), let_eq, if_pos p0, if_pos (by decide), if_pos p4, l4, if_pos (in_p (by omega)), let_eq, i3_s]
    rfl
theorem v124 (ho : o = 199 ∨ o = 204) (hk : okS S) : ∀ f i n (Z : mjZt), i + f = 6 → f < n → cBk Z b S → cDr Z b S → vJ Z o S W (sAll S) → vK Z o S W i → ∃ Z1, f136_decide_h124 n o b (i3 i) Z = (mjBd (f135_decideThrough o b Z1) fun _ Z113 => some ((), Z113)) ∧ eqW o Z Z1 ∧ vJ Z1 o S W (sAll S) ∧ vK Z1 o S W 6
  | f, i, 0, _, _, hn, _, _, _, _ => by omega
  | 0, i, n + 1, Z, hf, _, h, hd, hJ, hK => by
    obtain rfl : i = 6 := by omega
    exact ⟨Z, by rw [f136_decide_h124, if_pos (by decide), if_pos (is_o ho).1], eqW_rf, hJ, hK⟩
  | f + 1, i, n + 1, Z, hf, hn, h, hd, hJ, hK => by
    obtain ⟨p0, p1, p2, p3, p4, l1, l2, l3, l4⟩ := is_o ho
    have hb := b_b h
    have o1 := ok_sc hk
    obtain ⟨Z1, r1, r2, r3, r4⟩ := v198 ho hk (f136_decide_h124 n) (by omega : i < 6) h hd hJ hK
    have eB := eqW_B (b := b) (by omega) hb r2
    obtain ⟨Z2, s1, s2, s3, s4⟩ := v124 ho hk f (i + 1) n Z1 (by omega) (by omega) (cBk_of ⟨o1.1, o1.2.1⟩ h eB) (cDr_of ⟨o1.1, all_le hk⟩ hd eB) r3 r4
    rw [s1] at r1
    refine ⟨Z2, ?_, eqW_tr r2 s2, s3, s4⟩
    rw [f136_decide_h124, show (6 : Int32) = i3 6 from rfl, if_neg (by rw [c_ge (by omega)]; omega), if_pos (is_b hb), show (0 : Int32) = i3 0 from rfl]
    by_cases q : i < sT S
    · rw [e7t h hk q, mjBp_some, if_neg (by decide), e23 h hk q, mjBp_some]
      by_cases q2 : sTd S i = sLg S
      · have w : sWh S i = true := decide_eq_true ⟨q, q2⟩
        rw [w, if_pos rfl] at r1
        rw [if_pos q2, if_neg (by decide)]
        unfold f136_decide_j154
        rw [if_neg (by decide), if_pos p0, show (1 : Int32) = i3 1 from rfl, bt_test (by omega), (hJ.2.2 i (by omega)).1]
        by_cases q3 : sHi S W (sAll S) i = true
        · have n0 : sIn S W i = false := by unfold sIn; rw [q3]; simp
          rw [n0, if_neg (by decide)] at r1
          rw [if_pos q3, if_pos (by decide)]
          unfold f136_decide_j177 f136_decide_j178
          rw [if_pos p0, if_neg (by decide)]
          exact r1
        · have n0 : sIn S W i = true := by unfold sIn; simp at q3; rw [q3, decide_eq_true q, decide_eq_true q2]; rfl
          rw [n0, if_pos rfl] at r1
          rw [if_neg q3, if_neg (by decide)]
          unfold f136_decide_j178
          rw [if_pos p0, if_neg (by decide)]
          exact r1
      · have w : sWh S i = false := decide_eq_false (by omega)
        have n0 : sIn S W i = false := by unfold sIn; rw [decide_eq_false q2]; simp
        rw [w, n0, if_neg (by decide), if_neg (by decide)] at r1
        rw [if_neg q2, if_pos (by decide)]
        unfold f136_decide_j153 f136_decide_j154
        rw [if_pos (by decide)]
        unfold f136_decide_j177 f136_decide_j178
        rw [if_pos p0, if_pos (by decide)]
        exact r1
    · have w : sWh S i = false := decide_eq_false (by omega)
      have n0 : sIn S W i = false := by unfold sIn; rw [decide_eq_false q]; rfl
      rw [w, n0, if_neg (by decide), if_neg (by decide)] at r1
      rw [e7f h hk (t := (i : Int)) (by omega), mjBp_some, if_pos (by decide)]
      unfold f136_decide_j153 f136_decide_j154
      rw [if_pos (by decide)]
      unfold f136_decide_j177 f136_decide_j178
      rw [if_pos p0, if_pos (by decide)]
      exact r1
end VE
