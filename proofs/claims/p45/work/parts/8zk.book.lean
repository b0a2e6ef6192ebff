/-! BOOK: the class's call, by hand; class and model side by side -/
def zSw (Z : mjZt) : mjZt := (Z.1, Z.2.1, 94 - Z.2.2.1, Z.2.2.2)
def f152_book (Z : mjZt) : Option (Int32 × mjZt) :=
  if mjIs (94 - Z.2.2.1) 211 2 = true then
    mjBd (f128_read 1 (Z.1 0 1) (94 - Z.2.2.1) Z) fun v Z1 =>
    mjLet (zSi Z1 0 1 0) fun Z2 =>
    if mjCmp .ne v (-1) = true then
      if Z2.2.2.1 ≤ 94 then
        mjBd (f3_forget (zSw Z2)) fun _ Z3 =>
        mjBd (f151_settleAll Z3) fun _ Z4 =>
        some (v, Z4)
      else none
    else some (-1, Z2)
  else none
section BK3
variable {X : Nat → Nat} {n b : Nat} {Z Zm : mjZt} {S : mjS}
def eqBk (Z Z2 : mjZt) : Prop := ∀ a, a ≠ 0 → (a < 2 ∨ 181 < a) → a ≠ 182 → a ≠ 183 → a ≠ 185 → a ≠ 186 → a ≠ 187 → a ≠ 191 → a ≠ 192 → (a < 199 ∨ 203 < a) → a ≠ 209 → Z2.1 a = Z.1 a ∧ Z2.2.1 a = Z.2.1 a
theorem eqRo_k (hb : b = 2 ∨ b = 92) (h : eqRo b Z Zm) : ∀ a, (a < 2 ∨ 181 < a) → a ≠ 182 → a ≠ 183 → a ≠ 185 → a ≠ 186 → a ≠ 187 → Zm.1 a = Z.1 a ∧ Zm.2.1 a = Z.2.1 a := fun a g1 g2 g3 g4 g5 g6 => h.2 a (by unfold rdw; omega)
theorem eqRo_B {b2 : Nat} (hb : (b = 2 ∧ b2 = 92) ∨ (b = 92 ∧ b2 = 2)) (h : eqRo b Z Zm) : eqB b2 Z Zm := fun a g1 g2 => h.2 a (by unfold rdw; omega)
theorem vRep_of {Z2 : mjZt} {W : Nat → Bool} {o : Nat} (h : vRep Z o S W) (e : ∀ a, o ≤ a → a ≤ o + 4 → Z2.1 a = Z.1 a) : vRep Z2 o S W := by
  unfold vRep at h ⊢
  rw [e o (by omega) (by omega), e (o + 1) (by omega) (by omega), e (o + 2) (by omega) (by omega), e (o + 3) (by omega) (by omega), e (o + 4) (by omega) (by omega)]
  exact h
/-- the byte values of the tape -/
def tpX (Z : mjZt) (X : Nat → Nat) : Prop := (∀ k, X k ≤ 255) ∧ ∀ k, Z.1 1 k = i3 (X k)
theorem q_book {N U F : Nat} {E P : Nat → Nat → Int} (hi : iR Z Zm b S N U E P) (ht : tpR Z Zm F) (hx : tpX Z X) (hz : spZ (94 - b) Z) (hk : kfM Zm) :
    ∃ v Z1 Zm1 b2 S2 U2 E2 P2, f152_book Z = some (v, Z1) ∧ f236_book Zm = some (v, Zm1) ∧ iR Z1 Zm1 b2 S2 N U2 E2 P2 ∧ spZ (94 - b2) Z1 ∧ (Z1.1 182 5 = Zm1.1 211 11 ∧ Z1.1 182 6 = Zm1.1 211 12) ∧ Z1.1 0 1 = 0 ∧ Zm1.1 211 1 = 0 ∧ eqBk Z Z1 ∧ eqRg Zm Zm1 := by
  have hi0 := hi
  obtain ⟨hb, h, hd, htr, hv, ho, hoc, hn, hm, hl, hp, hh⟩ := hi0
  have hb2 := b_b h
  have o1 := ok_sc ho
  have oa := all_le ho
  obtain ⟨hF, t1, t2, t3⟩ := ht
  have hbs : (94 - b = 2 ∨ 94 - b = 92) := by omega
  have sp : (94 - b = 2 ∧ b = 92) ∨ (94 - b = 92 ∧ b = 2) := by omega
  have unf : f152_book Z = mjBd (f128_read 1 (i3 F) (94 - b) Z) fun v Z1 => mjLet (zSi Z1 0 1 0) fun Z2 => if mjCmp .ne v (-1) = true then (if Z2.2.2.1 ≤ 94 then mjBd (f3_forget (zSw Z2)) fun _ Z3 => mjBd (f151_settleAll Z3) fun _ Z4 => some (v, Z4) else none) else some (-1, Z2) := by
    unfold f152_book
    rw [hb, if_pos (is_b hbs), t1]
  rcases p_read hbs hF hx.1 hx.2 hz (fun k => by rw [← (t3 k).1]; exact hx.2 k) t2 hk with ⟨Zc1, Zm1, S2, x, a1, a2, a3, a4, a5, a6, a7, a8, a9, ⟨a10, a11⟩, ⟨m1, m2, m3, m4⟩, e1, e2⟩ | ⟨Zc1, Zm1, a1, a2, ⟨a3, a4⟩, a5, a6, a7, e1, e2⟩
  · -- read: told and spare change places
    have k1 := eqRo_k hbs e1
    generalize hY : zSi (zSw (zSi Zc1 0 1 0)) 209 2 0 = Y
    have yo : ∀ a, a ≠ 0 → a ≠ 209 → Y.1 a = Zc1.1 a := fun a g1 g2 => by
      rw [← hY, si_obj _ _ _ _ g2]
      exact si_obj _ _ _ _ g1
    have yl : Y.2.1 = Zc1.2.1 := by rw [← hY]; rfl
    have y3 : Y.2.2.1 = 94 - b := by rw [← hY]; show 94 - Zc1.2.2.1 = 94 - b; rw [e1.1, hb]
    have yB : ∀ b', (b' = 2 ∨ b' = 92) → eqB b' Zc1 Y := fun b' g a g1 g2 => ⟨yo a (by omega) (by omega), by rw [yl]⟩
    have o2 := ok_sc a6
    obtain ⟨Z4, s1, s2, s3, s4, s5, s6, s7⟩ := e151 y3 (cBk_of ⟨o2.1, o2.2.1⟩ a4 (yB _ hbs)) (cTr_of a5 (yB _ hbs)) a6 a7
    have hfr : ∀ a, a ≠ 0 → a ≠ 209 → (a < 94 - b ∨ 94 - b + 90 ≤ a) → a ≠ 191 → a ≠ 192 → (a < 199 ∨ 203 < a) → Z4.1 a = Zc1.1 a ∧ Z4.2.1 a = Zc1.2.1 a := fun a g1 g2 g3 g4 g5 g6 => by
      obtain ⟨x1, x2⟩ := s3 a g3 g4 g5 g6
      rw [x1, x2, yo a g1 g2, yl]; exact ⟨rfl, rfl⟩
    have l209 : Z4.1 209 1 = i3 N ∧ Z4.1 209 2 = 0 := by
      have y209 : Y.1 209 1 = Zc1.1 209 1 := by rw [← hY, si_fld _ _ _ _ (by omega)]; show (zSi Zc1 0 1 0).1 209 1 = _; rw [si_obj _ _ _ _ (by omega)]
      have y2092 : Y.1 209 2 = 0 := by rw [← hY, si_same]
      obtain ⟨x1, x2⟩ := s3 209 (by omega) (by omega) (by omega) (by omega)
      rw [x1, y209, y2092, (k1 209 (by omega) (by omega) (by omega) (by omega) (by omega) (by omega)).1]
      exact ⟨hl.2.2.1, rfl⟩
    refine ⟨i3 x, Z4, Zm1, 94 - b, S2, 0, E, P, ?_, a2, ⟨?_, s4, s5, s6, s7, a6, a7, a8, a9, ⟨hl.1, by omega, l209.1, l209.2, fun k g => by omega⟩, ⟨m4, fun k g => by omega⟩, trivial⟩, ?_, ⟨?_, ?_⟩, ?_, m3, fun a g0 g1 g2 g3 g4 g5 g6 g7 g8 g9 g10 => ?_, e2⟩
    · rw [unf, a1, mjBd_some, let_eq, show (-1 : Int32) = i3 (-1) from rfl, if_pos (by rw [c_ne (by omega)]; omega), if_pos (by show Zc1.2.2.1 ≤ 94; rw [e1.1, hb]; omega)]
      unfold f3_forget
      rw [let_eq, hY, mjBd_some, s1, mjBd_some]
    · rw [s2, y3]
    · rw [show 94 - (94 - b) = b by omega]
      refine cBk_spZ (S := S) (cBk_of ⟨o1.1, o1.2.1⟩ (cBk_of ⟨o1.1, o1.2.1⟩ h (eqRo_B sp e1)) (fun a g1 g2 => hfr a (by omega) (by omega) (by omega) (by omega) (by omega) (by omega)))
    · rw [(hfr 182 (by omega) (by omega) (by omega) (by omega) (by omega) (by omega)).1, a10, m1]
    · rw [(hfr 182 (by omega) (by omega) (by omega) (by omega) (by omega) (by omega)).1, a11, m2]
    · rw [(s3 0 (by omega) (by omega) (by omega) (by omega)).1, ← hY, si_obj _ _ _ _ (by omega)]; show (zSi Zc1 0 1 0).1 0 1 = 0; exact si_same _ _ _ _
    · rw [(hfr a g0 g10 (by omega) g7 g8 g9).1, (hfr a g0 g10 (by omega) g7 g8 g9).2]
      exact k1 a g1 g2 g3 g4 g5 g6
  · -- a fault: told stays
    have k1 := eqRo_k hbs e1
    generalize hY : zSi Zc1 0 1 0 = Y
    have yo : ∀ a, a ≠ 0 → Y.1 a = Zc1.1 a := fun a g1 => by rw [← hY, si_obj _ _ _ _ g1]
    have yl : Y.2 = Zc1.2 := by rw [← hY]; rfl
    have yB : eqB b Z Y := fun a g1 g2 => by rw [yo a (by omega), yl]; exact eqRo_B sp e1 a g1 g2
    have kk : ∀ a, a ≠ 0 → (a < 2 ∨ 181 < a) → a ≠ 182 → a ≠ 183 → a ≠ 185 → a ≠ 186 → a ≠ 187 → Y.1 a = Z.1 a ∧ Y.2.1 a = Z.2.1 a := fun a g0 g1 g2 g3 g4 g5 g6 => by rw [yo a g0, yl]; exact k1 a g1 g2 g3 g4 g5 g6
    obtain ⟨l1, l2, l3, l4, l5⟩ := hl
    refine ⟨-1, Y, Zm1, b, S, U, E, P, ?_, a2, ⟨?_, cBk_of ⟨o1.1, o1.2.1⟩ h yB, cDr_of ⟨o1.1, oa⟩ hd yB, cTr_of htr yB, vRep_of hv (fun a g1 g2 => (kk a (by omega) (by omega) (by omega) (by omega) (by omega) (by omega) (by omega)).1), ho, hoc, hn, mRep_of hm a7, ⟨l1, l2, ?_, ?_, fun k g j gj => ?_⟩, ⟨?_, fun k g x gx => ?_⟩, hh⟩, ?_, ⟨?_, ?_⟩, ?_, a5, fun a g0 g1 g2 g3 g4 g5 g6 _ _ _ _ => kk a g0 g1 g2 g3 g4 g5 g6, e2⟩
    · rw [unf, a1, mjBd_some, let_eq, if_neg (by decide), hY]
    · rw [yl, e1.1, hb]
    · rw [(kk 209 (by omega) (by omega) (by omega) (by omega) (by omega) (by omega) (by omega)).1]; exact l3
    · rw [(kk 209 (by omega) (by omega) (by omega) (by omega) (by omega) (by omega) (by omega)).1]; exact l4
    · rw [(kk 210 (by omega) (by omega) (by omega) (by omega) (by omega) (by omega) (by omega)).1]; exact l5 k g j gj
    · rw [a6]; exact hp.1
    · rw [(e2.2.1 240 (by omega) (by omega)).1]; exact hp.2 k g x gx
    · have z2 := spZ_o hz hbs e1
      have tB : ∀ t, tmB (94 - b) t = 94 - b + 18 + 5 * t := fun t => rfl
      refine ⟨fun t g => ?_, fun j k g => ?_, ?_⟩
      · have := tB t
        rw [yo _ (by omega), yo _ (by omega)]; exact z2.1 t g
      · rw [yo _ (by omega)]; exact z2.2.1 j k g
      · rw [yl]; exact z2.2.2
    · rw [yo 182 (by omega)]; exact a3
    · rw [yo 182 (by omega)]; exact a4
    · rw [← hY, si_same]
end BK3
