/-! THE MODEL's conditions: what it answers, which comparisons tell it -/
section WD
variable {S : mjS} {fk : Nat → Int} {fr to : Nat}
theorem m288h (hf : ∀ k, k ≤ 10 → -2147483648 ≤ fk k ∧ fk k ≤ 2147483647) (hw : WF S fr to) (hto : to ≤ 700) (hnc : ciS S fr to ≤ 180) (x1 : Int32) : ∀ f i n (Z : mjZt) (l : List Nat) (fl : Bool), i + f = to → f < n → fr ≤ i → mRep Z S → (∀ Z', eqP Z Z' → ∀ k : Nat, k ≤ 10 → f280_factOf x1 (i3 k) Z' = some (i3 (fk k))) → Iv Z S fr fk l fl i → ∃ Z1, f288_worked_h18 n x1 (i3 to) (i3 i) Z = some (i3 (if vS S fk (to - 1) = 1 then 1 else 0), Z1) ∧ eqP Z Z1 ∧ whR Z1 S fr fk (to - 1) 0
  | f, i, 0, Z, l, fl, _, hn, _, _, _, _ => by omega
  | 0, i, n + 1, Z, l, fl, hf0, _, h1, hm, hF, hv => by
    obtain rfl : i = to := by omega
    obtain ⟨hlt, htt, hsp, _⟩ := hw
    have hw' : WF S fr i := ⟨hlt, htt, hsp, by assumption⟩
    obtain ⟨v1, v2, v3, v4, v5, v6, v7⟩ := hv
    obtain ⟨rest, rfl, hs⟩ := shape1 v1 hlt
    rw [hsp] at hs
    have hr : rest = [] := by
      have := isSt_ge _ _ hs
      exact List.eq_nil_of_length_eq_zero (by omega)
    subst hr
    obtain ⟨p1, _⟩ := v3
    obtain ⟨p2, p3⟩ := p1 htt
    have b1 := (vS_bd hf hw' (i - 1 + 1) (i - 1) (by omega) (by omega) (by omega)).1 htt
    refine ⟨Z, ?_, eqP_rf, p3⟩
    rw [f288_worked_h18, if_pos (by rw [c_ge (by omega)]; omega)]
    have p2' : Z.2.1 243 0 = i6 (vS S fk (i - 1)) := p2
    rw [p2']
    rcases b1 with b | b
    · rw [b]; rfl
    · rw [b]; rfl
  | f + 1, i, n + 1, Z, l, fl, hf0, hn, h1, hm, hF, hv => by
    have hi : i < to := by omega
    obtain ⟨g1, g2, g3⟩ := hw.2.2.2 i h1 hi
    have v5 := hv.2.2.2.2.1
    have len := isSt_ge _ _ hv.1
    have next : ∀ Z3 l3 fl3, Iv Z3 S fr fk l3 fl3 (i + 1) → eqP Z Z3 → ∃ Z1, f288_worked_h18 n x1 (i3 to) (i3 ((i + 1 : Nat) : Int)) Z3 = some (i3 (if vS S fk (to - 1) = 1 then 1 else 0), Z1) ∧ eqP Z Z1 ∧ whR Z1 S fr fk (to - 1) 0 := by
      intro Z3 l3 fl3 k1 k2
      obtain ⟨Z1, r1, r2, r3⟩ := m288h hf hw hto hnc x1 f (i + 1) n Z3 l3 fl3 (by omega) (by omega) (by omega) (mRep_q hm k2.1) (fun Z' e => hF Z' (eqP_tr k2 e)) k1
      exact ⟨Z1, r1, eqP_tr k2 r2, r3⟩
    rw [f288_worked_h18, if_neg (by rw [c_ge (by omega)]; omega), if_pos (in_p (by omega)), ix_nat (by omega), m_cd hm, show (100 : Int32) = i3 100 from rfl, show (11 : Int32) = i3 11 from rfl, show (21 : Int32) = i3 21 from rfl, show (22 : Int32) = i3 22 from rfl, show (23 : Int32) = i3 23 from rfl, show (40 : Int32) = i3 40 from rfl, show (41 : Int32) = i3 41 from rfl, show (42 : Int32) = i3 42 from rfl]
    unfold cdv at g1
    cases q : isLf (S 9 i) with
    | true =>
      have q' := q
      simp only [isLf, decide_eq_true_eq] at q'
      have k1 := st_leaf hf hw h1 hi hv q
      have ev : eqP Z (zSi (zSl Z 243 l.length (i6 (vL S fk i))) 211 65 (i3 ((l.length + 1 : Nat) : Int))) := eqP_tr (eqP_sl (by omega)) (eqP_si (by omega))
      obtain ⟨Z1, r1, r2, r3⟩ := next _ _ _ k1 ev
      refine ⟨Z1, ?_, r2, r3⟩
      by_cases q2 : 100 ≤ S 9 i
      · have e1 : vL S fk i = S 9 i - 100 := if_pos q2
        rw [e1] at r1
        rw [if_neg (by rw [c_lt (by omega)]; omega), v5, if_pos (in_p (by omega)), let_eq, ix_nat (by omega), let_eq, i3_sub, i36 (by omega), sl_int, v5, i3_s, i3_s]
        exact r1
      · have e1 : vL S fk i = fk (S 9 i - 1).toNat := if_neg q2
        rw [e1] at r1
        have hk := hF Z eqP_rf (S 9 i - 1).toNat (by omega)
        rw [show (((S 9 i - 1).toNat : Nat) : Int) = S 9 i - 1 by omega] at hk
        rw [if_pos (by rw [c_lt (by omega)]; omega), if_neg (by rw [c_gt (by omega)]; omega), i3_p, hk, mjBp_some, v5, if_pos (in_p (by omega)), let_eq, ix_nat (by omega), let_eq, i36 (hf _ (by omega)), sl_int, v5, i3_s, i3_s]
        exact r1
    | false =>
      have q' := q
      simp only [isLf, decide_eq_false_iff_not] at q'
      rw [if_pos (by rw [c_lt (by omega)]; omega), if_pos (by rw [c_gt (by omega)]; omega)]
      rcases (by omega : (S 9 i = 21 ∨ S 9 i = 22 ∨ S 9 i = 23) ∨ (S 9 i = 30 ∨ S 9 i = 31 ∨ S 9 i = 32) ∨ S 9 i = 40 ∨ (S 9 i = 41 ∨ S 9 i = 42)) with c | c | c | c
      · obtain ⟨Z3, l3, fl3, r1, r2, r3⟩ := st_ar hf hw hto h1 hi hv c x1 (i3 to)
        obtain ⟨Z1, s1, s2, s3⟩ := next _ _ _ r2 r3
        refine ⟨Z1, ?_, s2, s3⟩
        rw [← s1, ← r1 (f288_worked_h18 n)]
        rcases c with c | c | c <;> rw [c] <;> rfl
      · obtain ⟨Z3, l3, fl3, r1, r2, r3⟩ := st_cm hf hw hto hnc h1 hi hv c
        obtain ⟨Z1, s1, s2, s3⟩ := next _ _ _ r2 r3
        refine ⟨Z1, ?_, s2, s3⟩
        rw [if_neg (by rw [c_eq (by omega)]; omega), if_neg (by rw [c_eq (by omega)]; omega), if_pos (by rw [c_ne (by omega)]; omega), if_pos (by rw [c_ne (by omega)]; omega), if_neg (by rw [c_eq (by omega)]; omega), if_pos (by rw [c_ne (by omega)]; omega), r1, mjBd_some, i3_s]
        exact s1
      · obtain ⟨rest, rfl, r0, r1, r2, r3⟩ := st_not hf hw hto h1 hi hv c
        obtain ⟨Z1, s1, s2, s3⟩ := next _ _ _ r3 (eqP_sl (by omega))
        refine ⟨Z1, ?_, s2, s3⟩
        have e2 : i3 ((rest.length + 1 : Nat) : Int) - 1 = i3 (rest.length : Int) := by rw [i3_p]; congr 1; omega
        rw [c, if_neg (by decide), if_neg (by decide), if_pos (by decide), if_neg (by decide), r1, e2, if_pos (in_p (by omega)), let_eq, ix_nat (by omega), r2, show (1 : Int64) = i6 1 from rfl, i6_sub, i3_s]
        exact s1
      · obtain ⟨Z3, l3, fl3, r1, r2, r3⟩ := st_jn hf hw hto hnc h1 hi hv c x1 (i3 to)
        obtain ⟨Z1, s1, s2, s3⟩ := next _ _ _ r2 r3
        refine ⟨Z1, ?_, s2, s3⟩
        rw [← s1, ← r1 (f288_worked_h18 n)]
        rcases c with c | c <;> rw [c] <;> rfl
theorem m288 (hf : ∀ k, k ≤ 10 → -2147483648 ≤ fk k ∧ fk k ≤ 2147483647) (hw : WF S fr to) (hto : to ≤ 700) (hnc : ciS S fr to ≤ 180) (x1 : Int32) {Z : mjZt} (hm : mRep Z S) (hF : ∀ Z', eqP Z Z' → ∀ k : Nat, k ≤ 10 → f280_factOf x1 (i3 k) Z' = some (i3 (fk k))) : ∃ Z1, f288_worked x1 (i3 fr) (i3 to) Z = some (i3 (if vS S fk (to - 1) = 1 then 1 else 0), Z1) ∧ eqP Z Z1 ∧ whR Z1 S fr fk (to - 1) 0 := by
  have ev : eqP Z (zSi (zSi (zSi Z 211 65 (i3 0)) 211 66 (i3 0)) 211 67 (i3 0)) := eqP_tr (eqP_tr (eqP_si (by omega)) (eqP_si (by omega))) (eqP_si (by omega))
  obtain ⟨Z1, r1, r2, r3⟩ := m288h hf hw hto hnc x1 (to - fr) fr mjF _ [] false (by have := hw.1; omega) (by unfold mjF; omega) (Nat.le_refl _) (mRep_q hm ev.1) (fun Z' e => hF Z' (eqP_tr ev e)) ⟨rfl, trivial, trivial, fl_tt2 (fun x hx => by cases hx), by rw [si_fld _ _ _ _ (by omega), si_fld _ _ _ _ (by omega), si_same]; rfl, by rw [si_fld _ _ _ _ (by omega), si_same, ci_0], by rw [si_same]; rfl⟩
  refine ⟨Z1, ?_, eqP_tr ev r2, r3⟩
  unfold f288_worked
  rw [let_eq, let_eq, let_eq]
  exact r1
end WD
