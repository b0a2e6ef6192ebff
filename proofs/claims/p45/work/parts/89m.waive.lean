/-! CALLS: waive -/
/-- class and model between two calls: the told book, the verdict, the appeals -/
def iR (Z Zm : mjZt) (b : Nat) (S : mjS) (N U : Nat) (E P : Nat → Nat → Int) : Prop :=
  Z.2.2.1 = b ∧ cBk Z b S ∧ cDr Z b S ∧ cTr Z b S ∧ vRep Z 199 S (sW S) ∧ okS S ∧ okC S ∧ okN S ∧ mRep Zm S ∧ lgR Z N U E ∧ ptR Zm U P ∧ hsR U S E P
/-- what an appeal leaves of the class's objects, of the model's -/
def eqY (b : Nat) (Z Z2 : mjZt) : Prop := Z2.2.2 = Z.2.2 ∧ ∀ a, (a < b ∨ b + 90 ≤ a) → a ≠ 191 → a ≠ 192 → (a < 199 ∨ 203 < a) → a ≠ 209 → a ≠ 210 → Z2.1 a = Z.1 a ∧ Z2.2.1 a = Z.2.1 a
def eqZ (Z Z2 : mjZt) : Prop := Z2.2 = Z.2 ∧ (∀ a, a ≠ 239 → a ≠ 240 → a ≠ 211 → Z2.1 a = Z.1 a) ∧ ∀ f, f ≠ 56 → Z2.1 211 f = Z.1 211 f
section WA
variable {Z Zm : mjZt} {b : Nat} {S : mjS}
theorem mRep_u {Z2 : mjZt} (h : mRep Z S) (e : eqU Z Z2) : mRep Z2 S :=
  mRep_of h ⟨fun a ha => ⟨e.2.1 a (by omega) (by omega), by rw [e.1]⟩, fun f h1 h2 => e.2.2 f (by omega)⟩
theorem lgU_eq {U : Nat} (h : U ≤ 10) : (if U < 10 then U + 1 else 10) = lgU U := by
  unfold lgU
  split <;> split <;> omega
theorem cBk_l {Z2 : mjZt} (ho : okS S) (h : cBk Z b S) (e : eqL Z Z2) : cBk Z2 b S := by
  have hb := b_b h
  exact cBk_of ⟨(ok_sc ho).1, (ok_sc ho).2.1⟩ h (fun a g1 g2 => ⟨e.2 a (by omega) (by omega), by rw [e.1]⟩)
theorem cTr_e {Z2 : mjZt} {S2 : mjS} (h : cTr Z b S) (e : ∀ f, f ≠ 3 → S2 f = S f) (g : ∀ a, b + 1 ≤ a → a ≤ b + 7 → Z2.1 a = Z.1 a) : cTr Z2 b S2 := by
  have e1 : lfS S2 = lfS S := by funext i; exact g_lf e i
  intro r p hr hp
  unfold sR at hr
  rw [e 10 (by omega)] at hr
  have h := h r p hr hp
  unfold sFr sTo sCa cOne nuC ciS at h ⊢
  rw [e1, e 8 (by omega), e 9 (by omega), g (b + 1 + 1) (by omega) (by omega), g (b + 1 + 2) (by omega) (by omega), g (b + 1 + 3) (by omega) (by omega), g (b + 1 + 4) (by omega) (by omega), g (b + 1 + 5) (by omega) (by omega), g (b + 1 + 6) (by omega) (by omega)]
  exact h
theorem q_waive {N U : Nat} {E P : Nat → Nat → Int} (hi : iR Z Zm b S N U E P) (x : Int32) : ∃ v Z1 Zm1 S2 N2 U2 E2 P2, f191_waive x Z = some (v, Z1) ∧ f321_waive x Zm = some (v, Zm1) ∧ iR Z1 Zm1 b S2 N2 U2 E2 P2 ∧ eqY b Z Z1 ∧ eqZ Zm Zm1 := by
  have hi0 := hi
  obtain ⟨hb, h, hd, htr, hv, ho, hoc, hn, hm, hl, hp, hh⟩ := hi0
  have hb2 := b_b h
  have o1 := ok_sc ho
  unfold f191_waive f321_waive
  rw [hb]
  rcases tl_cases S x with ⟨a, rfl, ha⟩ | ⟨a, rfl, ha⟩
  · have oa := (ok_act ho ha).2.2.2.2.2.2.2.2.2.2
    generalize hS : updS S (72 + 3 * a + 2) (1 - S 3 (72 + 3 * a + 2)) = S2
    have ef : ∀ f, f ≠ 3 → S2 f = S f := fun f hf => by rw [← hS, updS_f hf]
    have ho2 : okS S2 := by rw [← hS]; exact okS_upW ho ha (by omega)
    have hoc2 : okC S2 := okC_of hoc ef
    generalize he : (fun j => if j = 0 then (2 : Int) else if j = 1 then (a : Int) else 0) = e
    have e0 : e 0 = 2 := by rw [← he]; rfl
    have e1 : e 1 = a := by rw [← he]; rfl
    have e2 : e 2 = 0 ∧ e 3 = 0 ∧ e 4 = 0 := by rw [← he]; exact ⟨rfl, rfl, rfl⟩
    obtain ⟨Za, k1, k2, k3⟩ := e4 hl e
    rw [e0, e1, e2.1, e2.2.1, e2.2.2] at k1
    have wz : Za.2.1 b 11 = Z.2.1 b 11 := by rw [k2.1]
    generalize hZb : zSl Za b 11 (Za.2.1 b 11 ^^^ (i6 1 <<< ((i3 a).toInt64 &&& 63))) = Zb
    have hBb : cBk Zb b S2 := by rw [← hZb, ← hS]; exact cBk_upW ho (cBk_l ho h k2) ha
    have hTb : cTr Zb b S2 := cTr_e htr ef (fun c c1 c2 => by rw [← hZb, sl_int]; exact k2.2 c (by omega) (by omega))
    have hbb : Zb.2.2.1 = b := by rw [← hZb, sl_ref, k2.1]; exact hb
    obtain ⟨Z1, r1, r2, r3, r4, r5, r6, r7⟩ := e151 hbb hBb hTb ho2 hoc2
    have hb1 : Z1.2.2.1 = b := by rw [r2]; exact hbb
    have hlg : lgR Z1 (lgN N) (lgU U) (lgE E e) := by
      unfold lgR at k3 ⊢
      rw [(r3 209 (by omega) (by omega) (by omega) (by omega)).1, (r3 210 (by omega) (by omega) (by omega) (by omega)).1, ← hZb, sl_int]
      exact k3
    obtain ⟨Zn, n1, n2, n3⟩ := m238 (h := S 3) hl.2.1 hp (fun x _ => m_nw hm x)
    rw [lgU_eq hl.2.1] at n3
    have mn := mRep_u hm n2
    have hold : Zn.1 239 (72 + 3 * a + 2) = i3 (S 3 (72 + 3 * a + 2)) := m_nw mn _
    have mw : mRep (zSi Zn 239 (72 + 3 * a + 2) (i3 (1 - S 3 (72 + 3 * a + 2)))) S2 := by
      rw [← hS]
      exact mRep_upd (y := S 3 (72 + 3 * a + 2)) (by rw [updS_self]; exact mn)
    refine ⟨i3 (1 - S 3 (72 + 3 * a + 2)), Z1, zSi Zn 239 (72 + 3 * a + 2) (i3 (1 - S 3 (72 + 3 * a + 2))), S2, lgN N, lgU U, lgE E e, psh U P (S 3), ?_, ?_, ⟨hb1, r4, r5, r6, r7, ho2, hoc2, okN_of hn ef, mw, hlg, ?_, ?_⟩, ?_, ?_⟩
    · rw [if_pos (is_b hb2), e18t h ho ha, mjBp_some, if_pos (by decide), show (2 : Int32) = i3 2 from rfl, show (0 : Int32) = i3 0 from rfl, k1, mjBd_some, k2.1, hb, if_pos (is_b hb2), show (1 : Int64) = i6 1 from rfl, ← k2.1, hZb, let_eq, r1, mjBd_some, hb1, if_pos (is_b hb2), b6_test (by omega), b_wv r4 (by omega), ← hS, updS_e, show sA (updS S (72 + 3 * a + 2) (1 - S 3 (72 + 3 * a + 2))) = sA S by unfold sA; rw [updS_f (by omega)]]
      rcases oa with g | g
      · rw [g]; simp [ha]; rw [if_neg (by decide)]; rfl
      · rw [g]; simp; decide
    · rw [m_A hm, i3_p, i36 (by omega), i36 (by omega), show (0 : Int64) = i6 0 from rfl, m195t (by omega), mjBp_some, if_pos (by decide), n1, mjBd_some, show (72 : Int32) = i3 72 from rfl, show (3 : Int32) = i3 3 from rfl, show (2 : Int32) = i3 2 from rfl, i3_mul, i3_add, i3_add, if_pos (in_p (by omega)), ix_i3 (by omega), show ((72 : Int) + 3 * a + 2).toNat = 72 + 3 * a + 2 by omega, hold, show (1 : Int32) = i3 1 from rfl, i3_sub, let_eq, si_same]
    · unfold ptR at n3 ⊢
      rw [si_obj _ _ _ _ (by omega), si_obj _ _ _ _ (by omega)]
      exact n3
    · refine hs_push hl.2.1 (Or.inr (Or.inr (Or.inl ⟨e0, by omega, ?_⟩))) ?_ hh
      · unfold sA; rw [ef 10 (by omega)]; unfold sA at ha; omega
      · rw [← hS]; exact tk_waive e e0 e1
    · refine ⟨by rw [r2, ← hZb, sl_ref, k2.1], fun c c1 c2 c3 c4 c5 c6 => ⟨?_, ?_⟩⟩
      · rw [(r3 c c1 c2 c3 c4).1, ← hZb, sl_int]; exact k2.2 c c5 c6
      · rw [(r3 c c1 c2 c3 c4).2, ← hZb, sl_obj _ _ _ _ (by omega), k2.1]
    · exact ⟨n2.1, fun c c1 c2 c3 => by rw [si_obj _ _ _ _ c1]; exact n2.2.1 c c2 c3, fun f hf => by rw [si_obj _ _ _ _ (by omega)]; exact n2.2.2 f hf⟩
  · refine ⟨i3 (-1), Z, Zm, S, N, U, E, P, ?_, ?_, hi, ⟨rfl, fun _ _ _ _ _ _ _ => ⟨rfl, rfl⟩⟩, ⟨rfl, fun _ _ _ _ => rfl, fun _ _ => rfl⟩⟩
    · rw [if_pos (is_b hb2), e18f h ho ha, mjBp_some, if_neg (by decide)]; rfl
    · rw [m_A hm, i3_p, i36 (by omega), i36 (by omega), show (0 : Int64) = i6 0 from rfl, m195f (by omega), mjBp_some, if_neg (by decide)]; rfl
end WA
