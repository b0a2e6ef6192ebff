/-! CALLS: appeal -/
section AP
variable {Z Zm : mjZt} {b : Nat} {S : mjS}
theorem ap_go {N U : Nat} {E P : Nat → Nat → Int} (hi : iR Z Zm b S N U E P) {a m : Nat} (ha : a < sA S) (hm2 : m < 2) {v : Int} (hv2 : m = 0 ∧ 0 ≤ v ∧ v ≤ 9999 ∨ m = 1 ∧ 0 ≤ v ∧ v ≤ 99) (hne : v ≠ S 3 (72 + 3 * a + m)) : ∃ Z1 Zm1 S2 N2 U2 E2 P2, f190_appeal_j92 (i3 a) (i3 m) (i3 v) (acB b a) (i3 (S 3 (72 + 3 * a + m))) (i3 m) Z = some (i3 (S 3 (72 + 3 * a + m)), Z1) ∧ f320_appeal_j42 (i3 a) (i3 m) (i3 v) (i6 v) (i6 0) (i6 (if m = 0 then 9999 else 99)) Zm = some (i3 (S 3 (72 + 3 * a + m)), Zm1) ∧ iR Z1 Zm1 b S2 N2 U2 E2 P2 ∧ eqY b Z Z1 ∧ eqZ Zm Zm1 := by
  obtain ⟨hb, h, hd, htr, hv, ho, hoc, hn, hm, hl, hp, hh⟩ := hi
  have hb2 := b_b h
  have o1 := ok_sc ho
  have oa := ok_act ho ha
  have ob : 0 ≤ S 3 (72 + 3 * a + m) ∧ S 3 (72 + 3 * a + m) ≤ 9999 ∧ (m = 1 → S 3 (72 + 3 * a + m) ≤ 99) := by
    rcases (by omega : m = 0 ∨ m = 1) with rfl | rfl
    · rw [Nat.add_zero]; omega
    · omega
  have hA : acB b a = b + 48 + a := rfl
  generalize hS : updS S (72 + 3 * a + m) v = S2
  have ef : ∀ f, f ≠ 3 → S2 f = S f := fun f hf => by rw [← hS, updS_f hf]
  have ho2 : okS S2 := by rw [← hS]; exact okS_upd ho ha hv2
  have hoc2 : okC S2 := okC_of hoc ef
  generalize he : (fun j => if j = 0 then (m : Int) else if j = 1 then (a : Int) else if j = 2 then S 3 (72 + 3 * a + m) else 0) = e
  have e0 : e 0 = m := by rw [← he]; rfl
  have e1 : e 1 = a := by rw [← he]; rfl
  have e2 : e 2 = S 3 (72 + 3 * a + m) := by rw [← he]; rfl
  have e3 : e 3 = 0 ∧ e 4 = 0 := by rw [← he]; exact ⟨rfl, rfl⟩
  obtain ⟨Za, k1, k2, k3⟩ := e4 hl e
  rw [e0, e1, e2, e3.1, e3.2] at k1
  generalize hZb : zSi Za (acB b a) (3 + m) (i3 v) = Zb
  have hBb : cBk Zb b S2 := by rw [← hZb, ← hS]; exact cBk_upA ho (cBk_l ho h k2) ha hm2
  have hTb : cTr Zb b S2 := cTr_e htr ef (fun c c1 c2 => by rw [← hZb, si_obj _ _ _ _ (by omega)]; exact k2.2 c (by omega) (by omega))
  have hbb : Zb.2.2.1 = b := by rw [← hZb, si_lng, k2.1]; exact hb
  obtain ⟨Z1, r1, r2, r3, r4, r5, r6, r7⟩ := e151 hbb hBb hTb ho2 hoc2
  have hb1 : Z1.2.2.1 = b := by rw [r2]; exact hbb
  have hlg : lgR Z1 (lgN N) (lgU U) (lgE E e) := by
    unfold lgR at k3 ⊢
    rw [(r3 209 (by omega) (by omega) (by omega) (by omega)).1, (r3 210 (by omega) (by omega) (by omega) (by omega)).1, ← hZb, si_obj _ _ _ _ (by omega), si_obj _ _ _ _ (by omega)]
    exact k3
  obtain ⟨Zn, n1, n2, n3⟩ := m238 (h := S 3) hl.2.1 hp (fun x _ => m_nw hm x)
  rw [lgU_eq hl.2.1] at n3
  have mn := mRep_u hm n2
  have mw : mRep (zSi Zn 239 (72 + 3 * a + m) (i3 v)) S2 := by
    rw [← hS]
    exact mRep_upd (y := S 3 (72 + 3 * a + m)) (by rw [updS_self]; exact mn)
  refine ⟨Z1, zSi Zn 239 (72 + 3 * a + m) (i3 v), S2, lgN N, lgU U, lgE E e, psh U P (S 3), ?_, ?_, ⟨hb1, r4, r5, r6, r7, ho2, hoc2, okN_of hn ef, mw, hlg, ?_, ?_⟩, ?_, ?_⟩
  · unfold f190_appeal_j92
    rw [show (0 : Int32) = i3 0 from rfl, k1, mjBd_some]
    rcases (by omega : m = 0 ∨ m = 1) with rfl | rfl
    · rw [if_neg (by decide), if_pos (is_ac hb2 a (by omega)), show (3 : Nat) = 3 + 0 from rfl, hZb, let_eq, r1, mjBd_some]
    · rw [if_pos (by decide), if_pos (is_ac hb2 a (by omega)), show (4 : Nat) = 3 + 1 from rfl, hZb, let_eq, r1, mjBd_some]
  · unfold f320_appeal_j42
    rw [m195t (by split <;> omega), mjBp_some, if_pos (by decide), show (72 : Int32) = i3 72 from rfl, show (3 : Int32) = i3 3 from rfl, i3_mul, i3_add, i3_add, if_pos (in_p (by omega)), ix_i3 (by omega), show ((72 : Int) + 3 * a + m).toNat = 72 + 3 * a + m by omega, m_nw hm, if_pos (by rw [c_ne (by omega)]; omega), n1, mjBd_some, let_eq]
  · unfold ptR at n3 ⊢
    rw [si_obj _ _ _ _ (by omega), si_obj _ _ _ _ (by omega)]
    exact n3
  · have eA : sA S2 = sA S := by unfold sA; rw [ef 10 (by omega)]
    refine hs_push hl.2.1 ?_ (by rw [← hS]; exact tk_appeal hm2 e e0 e1 e2) hh
    unfold vE
    rw [e0, e1, e2, eA]
    rcases (by omega : m = 0 ∨ m = 1) with rfl | rfl
    · exact Or.inl (by omega)
    · exact Or.inr (Or.inl (by omega))
  · refine ⟨by rw [r2, ← hZb, si_lng, k2.1], fun c c1 c2 c3 c4 c5 c6 => ⟨?_, ?_⟩⟩
    · rw [(r3 c c1 c2 c3 c4).1, ← hZb, si_obj _ _ _ _ (by omega)]; exact k2.2 c c5 c6
    · rw [(r3 c c1 c2 c3 c4).2, ← hZb, si_lng, k2.1]
  · exact ⟨n2.1, fun c c1 c2 c3 => by rw [si_obj _ _ _ _ c1]; exact n2.2.1 c c2 c3, fun f hf => by rw [si_obj _ _ _ _ (by omega)]; exact n2.2.2 f hf⟩
end AP
