/-! STATES that differ in acts alone -/
def eqA (S S2 : mjS) (a : Nat) : Prop := (∀ f, f ≠ 3 → S2 f = S f) ∧ ∀ k, k ≠ 72 + 3 * a → k ≠ 72 + 3 * a + 1 → S2 3 k = S 3 k
/-- the same but for what the acts hold -/
def eqG (S S2 : mjS) : Prop := (∀ f, f ≠ 3 → S2 f = S f) ∧ ∀ k, k < 72 → S2 3 k = S 3 k
theorem eqA_G {S S2 : mjS} {a : Nat} (h : eqA S S2 a) : eqG S S2 := ⟨h.1, fun k hk => h.2 k (by omega) (by omega)⟩
section GQ
variable {S S2 : mjS}
theorem g_T (h : eqG S S2) : sT S2 = sT S := by unfold sT; rw [h.1 10 (by omega)]
theorem g_A (h : eqG S S2) : sA S2 = sA S := by unfold sA; rw [h.1 10 (by omega)]
theorem g_R (h : eqG S S2) : sR S2 = sR S := by unfold sR; rw [h.1 10 (by omega)]
theorem g_Lg (h : eqG S S2) : sLg S2 = sLg S := by unfold sLg; rw [h.1 0 (by omega)]
theorem g_Td (h : eqG S S2) (t : Nat) : sTd S2 t = sTd S t := by unfold sTd; rw [h.1 2 (by omega)]
theorem g_Tn (h : eqG S S2) {t l : Nat} (ht : t < 6) (hl : l < 6) : sTn S2 t l = sTn S t l := h.2 _ (by omega)
theorem g_Mt (h : eqG S S2) {t l : Nat} (ht : t < 6) (hl : l < 6) : sMt S2 t l = sMt S t l := h.2 _ (by omega)
theorem g_En (h : eqG S S2) {t : Nat} (ht : t < 6) : ∀ l, l ≤ 6 → sEn S2 t l = sEn S t l
  | 0, _ => rfl
  | l + 1, hl => by rw [sEn, sEn, g_En h ht l (by omega), g_Tn h ht (by omega)]
theorem g_Ps (h : eqG S S2) {t l : Nat} (ht : t < 6) (hl : l ≤ 6) : sPs S2 t l = sPs S t l := by
  cases l with
  | zero => rfl
  | succ l => rw [sPs, sPs, h.1 0 (by omega), g_Mt h ht (by omega)]
theorem g_LaF (h : eqG S S2) {t : Nat} (ht : t < 6) (k : Int) : ∀ f l, l + f < 6 → sLaF S2 t k f l = sLaF S t k f l
  | 0, l, _ => rfl
  | f + 1, l, hl => by rw [sLaF, sLaF, g_En h ht (l + 1) (by omega), g_LaF h ht k f (l + 1) (by omega)]
theorem g_La (h : eqG S S2) (ho : okS S) {t : Nat} (ht : t < sT S) (k : Int) : sLa S2 t k = sLa S t k := by
  have o1 := ok_sc ho
  have o2 := ok_tm ho ht
  unfold sLa
  rw [g_Td h, g_LaF h (by omega) k _ _ (by omega)]
theorem g_Pl (h : eqG S S2) (ho : okS S) {t : Nat} (ht : t < sT S) (k : Int) : sPl S2 t k = sPl S t k := by
  have o1 := ok_sc ho
  have o2 := ok_tm ho ht
  have o4 := (la_spec S t k).1
  unfold sPl
  rw [g_Td h, g_La h ho ht k]
  by_cases q : sTd S t = 0 ∨ k ≤ 0
  · rw [if_pos q, if_pos q]
  · rw [if_neg q, if_neg q, g_Tn h (by omega) (by omega), g_En h (by omega) _ (by omega), g_Ps h (by omega) (by omega), g_Ps h (by omega) (by omega)]
theorem g_Tm (h : eqG S S2) (ho : okS S) {t : Nat} (ht : t < sT S) : sTm S2 t = sTm S t := by
  have o1 := ok_sc ho
  have o2 := ok_tm ho ht
  unfold sTm
  rw [g_Td h, g_En h (by omega) _ (by omega)]
theorem g_Bx (h : eqG S S2) (t : Nat) : sBx S2 t = sBx S t := by unfold sBx; rw [g_Td h, g_Lg h]
theorem g_Bs (h : eqG S S2) : ∀ t, sBs S2 t = sBs S t
  | 0 => rfl
  | t + 1 => by rw [sBs, sBs, g_Bs h t, g_Bx h]
theorem g_All (h : eqG S S2) : sAll S2 = sAll S := by unfold sAll; rw [g_A h, g_Bs h, g_T h]
theorem g_BtF (h : eqG S S2) : ∀ f k t, sBtF S2 f k t = sBtF S f k t
  | 0, _, _ => rfl
  | f + 1, k, t => by rw [sBtF, sBtF, g_Bx h, g_BtF h f]
theorem g_Bt (h : eqG S S2) (k : Nat) : sBt S2 k = sBt S k := g_BtF h 6 k 0
theorem g_Bl (h : eqG S S2) (k : Nat) : sBl S2 k = sBl S k := by unfold sBl; rw [g_Bt h, g_Bs h]
theorem g_Kd (h : eqG S S2) (a : Nat) : sKd S2 a = sKd S a := by unfold sKd; rw [g_A h, h.1 4 (by omega)]
theorem g_TmA (h : eqG S S2) (a : Nat) : sTmA S2 a = sTmA S a := by unfold sTmA; rw [g_A h, h.1 5 (by omega), g_Bt h]
theorem g_Ot (h : eqG S S2) (a : Nat) : sOt S2 a = sOt S a := by unfold sOt; rw [g_A h, h.1 6 (by omega)]
theorem g_Te (h : eqG S S2) (ho : okS S) {a : Nat} (ha : a < sAll S) (h3 : a < sA S → S2 3 (72 + 3 * a) = S 3 (72 + 3 * a)) : sTe S2 a = sTe S a := by
  unfold sTe
  rw [g_A h, g_Bt h, g_Bl h]
  by_cases q : a < sA S
  · rw [if_pos q, if_pos q, h3 q]
  · have o1 := ok_sc ho
    obtain ⟨g1, g2, g3, g4, g5⟩ := bl_spec ho (K := a - sA S) (by unfold sAll at ha; omega)
    rw [if_neg q, if_neg q, g_En h (by omega) _ (by omega)]
theorem g_Sz (h : eqG S S2) (ho : okS S) {a : Nat} (ha : a < sAll S) (h3 : a < sA S → S2 3 (72 + 3 * a + 1) = S 3 (72 + 3 * a + 1)) : sSz S2 a = sSz S a := by
  unfold sSz
  rw [g_A h, g_Bt h, g_Bl h]
  by_cases q : a < sA S
  · rw [if_pos q, if_pos q, h3 q]
  · have o1 := ok_sc ho
    obtain ⟨g1, g2, g3, g4, g5⟩ := bl_spec ho (K := a - sA S) (by unfold sAll at ha; omega)
    rw [if_neg q, if_neg q, g_Mt h (by omega) (by omega)]
    unfold sOut
    rw [h.1 0 (by omega)]
/-! conditions rest on the codes alone -/
theorem g_spF (h : ∀ f, f ≠ 3 → S2 f = S f) : ∀ f i, spF S2 f i = spF S f i
  | 0, _ => rfl
  | f + 1, i => by rw [spF, spF, h 9 (by omega), g_spF h f, g_spF h f]
theorem g_lf (h : ∀ f, f ≠ 3 → S2 f = S f) (i : Nat) : lfS S2 i = lfS S i := by unfold lfS spS; rw [g_spF h]
theorem g_tF (h : ∀ f, f ≠ 3 → S2 f = S f) {α : Type} {d : α} {L : Nat → α} {U : Nat → α → α} {B : Nat → α → α → α} : ∀ f i, tF S2 d L U B f i = tF S d L U B f i
  | 0, _ => rfl
  | f + 1, i => by rw [tF, tF, h 9 (by omega), g_lf h, g_tF h f, g_tF h f]
theorem g_vS (h : ∀ f, f ≠ 3 → S2 f = S f) (fk : Nat → Int) (i : Nat) : vS S2 fk i = vS S fk i := by
  have e1 : vL S2 fk = vL S fk := by funext k; unfold vL; rw [h 9 (by omega)]
  have e2 : vB S2 = vB S := by funext k l r; unfold vB; rw [h 9 (by omega)]
  unfold vS tS
  rw [g_tF h, e1, e2]
theorem g_Ho (h : ∀ f, f ≠ 3 → S2 f = S f) (fk : Nat → Int) (r p : Nat) : sHo S2 fk r p = sHo S fk r p := by
  unfold sHo sTo sCa
  rw [g_vS h, h 8 (by omega)]
theorem g_Ex (h : ∀ f, f ≠ 3 → S2 f = S f) (r : Nat) : hasEx S2 r = hasEx S r := by
  unfold hasEx sFr sTo sCa
  rw [h 8 (by omega)]
/-- an act of another tenth or size: the others stand as they were -/
theorem a_Fk {a : Nat} (h : eqA S S2 a) (ho : okS S) (ha : a < sA S) {W : Nat → Bool} {te sz : Int} (k : Nat) : sFk S2 W a te sz k = sFk S W a te sz k := by
  have g := eqA_G h
  have hal : a < sAll S := by unfold sAll; omega
  have t2 := tmA_lt ho hal
  have oth : ∀ c, c < sAll S → c ≠ a → sTe S2 c = sTe S c := fun c hc hne => g_Te g ho hc (fun _ => h.2 _ (by omega) (by omega))
  rcases (by omega : k = 0 ∨ k = 1 ∨ k = 2 ∨ k = 3 ∨ k = 4 ∨ k = 5 ∨ k = 6 ∨ k = 7 ∨ k = 8 ∨ k = 9 ∨ 10 ≤ k) with rfl | rfl | rfl | rfl | rfl | rfl | rfl | rfl | rfl | rfl | hk
  · rfl
  · rfl
  · show (sLa S2 (sTmA S2 a) te : Int) + 1 = (sLa S (sTmA S a) te : Int) + 1
    rw [g_TmA g, g_La g ho t2]
  · show sPl S2 (sTmA S2 a) te / 10 = sPl S (sTmA S a) te / 10
    rw [g_TmA g, g_Pl g ho t2]
  · show S2 1 (sTmA S2 a) = S 1 (sTmA S a)
    rw [g_TmA g, h.1 1 (by omega)]
  · show (if sOt S2 a = -1 then 0 else S2 1 (sOt S2 a).toNat) = (if sOt S a = -1 then 0 else S 1 (sOt S a).toNat)
    rw [g_Ot g, h.1 1 (by omega)]
  · show (if sOt S2 a = -1 then 0 else sPl S2 (sTmA S2 a) te - sPl S2 (sOt S2 a).toNat te) = (if sOt S a = -1 then 0 else sPl S (sTmA S a) te - sPl S (sOt S a).toNat te)
    rw [g_Ot g, g_TmA g, g_Pl g ho t2]
    rcases ot_cases ho (a := a) with ⟨q, _⟩ | ⟨o, q, q2, _⟩
    · rw [if_pos q, if_pos q]
    · rw [if_neg (by omega), if_neg (by omega), q, Int.toNat_natCast, g_Pl g ho q2]
  · show (if S2 0 4 = 0 then 0 else S2 0 1 + S2 0 4 - sPl S2 (sTmA S2 a) te / 10) = (if S 0 4 = 0 then 0 else S 0 1 + S 0 4 - sPl S (sTmA S a) te / 10)
    rw [h.1 0 (by omega), g_TmA g, g_Pl g ho t2]
  · show cN (agP S2 W a te) (sAll S2) = cN (agP S W a te) (sAll S)
    rw [g_All g]
    refine cN_congr _ (fun c hc => ?_)
    unfold agP
    rw [g_Kd g, g_Kd g, g_TmA g, g_TmA g]
    by_cases q : c = a
    · subst q; simp
    · rw [oth c hc q]
  · show cN (foP S2 W a te) (sA S2) = cN (foP S W a te) (sA S)
    rw [g_A g]
    refine cN_congr _ (fun c hc => ?_)
    unfold foP
    rw [g_Kd g, g_Ot g, g_TmA g]
    by_cases q : c = a
    · subst q
      rcases ot_cases ho (a := c) with ⟨q, q2⟩ | ⟨o, q, _, q2, _⟩
      · simp [q2]
      · have : ¬ sOt S c = sTmA S c := by omega
        simp [this]
    · rw [oth c (by unfold sAll; omega) q]
  · obtain ⟨k, rfl⟩ : ∃ k2, k = k2 + 10 := ⟨k - 10, by omega⟩
    show cN (rkP S2 a te) (sT S2) + 1 = cN (rkP S a te) (sT S) + 1
    rw [g_T g]
    congr 1
    refine cN_congr _ (fun c hc => ?_)
    unfold rkP
    rw [g_TmA g, g_Pl g ho t2, g_Pl g ho hc]
theorem a_St {a : Nat} (h : eqA S S2 a) (ho : okS S) (ha : a < sA S) {W : Nat → Bool} {te sz : Int} (r : Nat) : sSt S2 W a te sz r = sSt S W a te sz r := by
  have e : sFk S2 W a te sz = sFk S W a te sz := by funext k; exact a_Fk h ho ha k
  unfold sSt
  rw [e, g_Kd (eqA_G h), h.1 7 (by omega), g_Ho h.1, g_Ho h.1, g_Ex h.1]
theorem a_Ru {a : Nat} (h : eqA S S2 a) (ho : okS S) (ha : a < sA S) {W : Nat → Bool} {te sz : Int} : fRu S2 W a te sz = fRu S W a te sz := by
  unfold fRu
  rw [g_R (eqA_G h)]
  exact fI_congr _ _ (fun i _ _ => a_St h ho ha i)
end GQ
/-- one number put in another's place -/
def updS (S : mjS) (K : Nat) (v : Int) : mjS := fun f k => if f = 3 then (if k = K then v else S 3 k) else S f k
theorem updS_f {S : mjS} {K : Nat} {v : Int} {f : Nat} (h : f ≠ 3) : updS S K v f = S f := by funext k; exact if_neg h
theorem updS_e {S : mjS} {K : Nat} {v : Int} : updS S K v 3 K = v := by simp [updS]
theorem updS_n {S : mjS} {K k : Nat} {v : Int} (h : k ≠ K) : updS S K v 3 k = S 3 k := by simp [updS, h]
theorem updS_u {S : mjS} {K : Nat} {v w : Int} : updS (updS S K v) K w = updS S K w := by
  funext f k
  by_cases h : f = 3
  · subst h
    by_cases h2 : k = K
    · subst h2; rw [updS_e, updS_e]
    · rw [updS_n h2, updS_n h2, updS_n h2]
  · rw [updS_f h, updS_f h, updS_f h]
theorem updS_self {S : mjS} {K : Nat} : updS S K (S 3 K) = S := by
  funext f k
  by_cases h : f = 3
  · subst h
    by_cases h2 : k = K
    · subst h2; rw [updS_e]
    · rw [updS_n h2]
  · rw [updS_f h]
theorem mRep_upd {Z : mjZt} {S : mjS} {K : Nat} {x y : Int} (h : mRep Z (updS S K y)) : mRep (zSi Z 239 K (i3 x)) (updS S K x) := by
  have e : ∀ f, f ≠ 3 → updS S K y f = updS S K x f := fun f hf => by rw [updS_f hf, updS_f hf]
  unfold mRep sT sA sR at h ⊢
  rw [e 0 (by omega), e 1 (by omega), e 2 (by omega), e 4 (by omega), e 5 (by omega), e 6 (by omega), e 7 (by omega), e 8 (by omega), e 9 (by omega), e 10 (by omega), e 11 (by omega), e 12 (by omega)] at h
  obtain ⟨a1, a2, a3, a4, a5, a6, a7, a8, a9, a10, a11, a12, a13, a14, a15, a16, a17⟩ := h
  rw [si_obj _ _ _ _ (by omega), si_obj _ _ _ _ (by omega), si_obj _ _ _ _ (by omega), si_obj _ _ _ _ (by omega), si_obj _ _ _ _ (by omega), si_obj _ _ _ _ (by omega), si_obj _ _ _ _ (by omega), si_obj _ _ _ _ (by omega), si_obj Z 239 K (i3 x) (a2 := 216) (by omega), si_obj Z 239 K (i3 x) (a2 := 211) (by omega)]
  refine ⟨a1, a2, a3, a4, a5, a6, a7, a8, fun k => ?_, a10, a11, a12, a13, a14, a15, a16, a17⟩
  by_cases q : k = K
  · subst q; rw [si_same, updS_e]
  · rw [si_fld _ _ _ _ (by omega), updS_n q, a9 k, updS_n q]
