/-! WHAT THE MODEL HOLDS, WHAT A BOOK OF THE CLASS HOLDS -/
def mRep (Z : mjZt) (S : mjS) : Prop :=
  (∀ k, Z.1 229 k = i3 (S 0 k)) ∧ (∀ k, Z.1 230 k = i3 (S 1 k)) ∧ (∀ k, Z.1 231 k = i3 (S 2 k)) ∧ (∀ k, Z.1 232 k = i3 (S 4 k)) ∧ (∀ k, Z.1 233 k = i3 (S 5 k)) ∧ (∀ k, Z.1 234 k = i3 (S 6 k)) ∧ (∀ k, Z.1 235 k = i3 (S 7 k)) ∧ (∀ k, Z.1 236 k = i3 (S 8 k)) ∧ (∀ k, Z.1 239 k = i3 (S 3 k)) ∧ (∀ k, Z.1 216 k = i3 (S 9 k)) ∧
  Z.1 211 39 = i3 (sT S) ∧ Z.1 211 40 = i3 (sA S) ∧ Z.1 211 41 = i3 (sR S) ∧ Z.1 211 42 = i3 (S 10 3) ∧ Z.1 211 43 = i3 (S 10 4) ∧
  (∀ k, Z.2.1 237 k = i6 (S 11 k)) ∧ (∀ k, Z.2.1 238 k = i6 (S 12 k))
section MR
variable {Z : mjZt} {S : mjS}
theorem m_tr (h : mRep Z S) (k : Nat) : Z.1 229 k = i3 (S 0 k) := h.1 k
theorem m_ln (h : mRep Z S) (k : Nat) : Z.1 230 k = i3 (S 1 k) := h.2.1 k
theorem m_td (h : mRep Z S) (ho : okS S) {t : Nat} (ht : t < sT S) : Z.1 231 t = i3 (sTd S t) := by
  rw [h.2.2.1 t]
  have := (ok_tm ho ht).2.2.2
  unfold sTd
  rw [Int.toNat_of_nonneg this]
theorem m_ak (h : mRep Z S) (k : Nat) : Z.1 232 k = i3 (S 4 k) := h.2.2.2.1 k
theorem m_at (h : mRep Z S) (k : Nat) : Z.1 233 k = i3 (S 5 k) := h.2.2.2.2.1 k
theorem m_ao (h : mRep Z S) (k : Nat) : Z.1 234 k = i3 (S 6 k) := h.2.2.2.2.2.1 k
theorem m_rk (h : mRep Z S) (k : Nat) : Z.1 235 k = i3 (S 7 k) := h.2.2.2.2.2.2.1 k
theorem m_ca (h : mRep Z S) (k : Nat) : Z.1 236 k = i3 (S 8 k) := h.2.2.2.2.2.2.2.1 k
theorem m_nw (h : mRep Z S) (k : Nat) : Z.1 239 k = i3 (S 3 k) := h.2.2.2.2.2.2.2.2.1 k
theorem m_cd (h : mRep Z S) (k : Nat) : Z.1 216 k = i3 (S 9 k) := h.2.2.2.2.2.2.2.2.2.1 k
theorem m_T (h : mRep Z S) : Z.1 211 39 = i3 (sT S) := h.2.2.2.2.2.2.2.2.2.2.1
theorem m_A (h : mRep Z S) : Z.1 211 40 = i3 (sA S) := h.2.2.2.2.2.2.2.2.2.2.2.1
theorem m_R (h : mRep Z S) : Z.1 211 41 = i3 (sR S) := h.2.2.2.2.2.2.2.2.2.2.2.2.1
theorem m_th (h : mRep Z S) : Z.1 211 42 = i3 (S 10 3) := h.2.2.2.2.2.2.2.2.2.2.2.2.2.1
theorem m_wi (h : mRep Z S) : Z.1 211 43 = i3 (S 10 4) := h.2.2.2.2.2.2.2.2.2.2.2.2.2.2.1
theorem m_nt (h : mRep Z S) (k : Nat) : Z.2.1 237 k = i6 (S 11 k) := h.2.2.2.2.2.2.2.2.2.2.2.2.2.2.2.1 k
theorem m_nr (h : mRep Z S) (k : Nat) : Z.2.1 238 k = i6 (S 12 k) := h.2.2.2.2.2.2.2.2.2.2.2.2.2.2.2.2 k
/-- what of the memory the model's picture rests on -/
def eqM (Z Z2 : mjZt) : Prop := (∀ a, a = 216 ∨ (229 ≤ a ∧ a < 240) → Z2.1 a = Z.1 a ∧ Z2.2.1 a = Z.2.1 a) ∧ ∀ f, 39 ≤ f → f ≤ 43 → Z2.1 211 f = Z.1 211 f
theorem mRep_of {Z2 : mjZt} (h : mRep Z S) (e : eqM Z Z2) : mRep Z2 S := by
  obtain ⟨e1, e2⟩ := e
  unfold mRep
  rw [(e1 229 (by omega)).1, (e1 230 (by omega)).1, (e1 231 (by omega)).1, (e1 232 (by omega)).1, (e1 233 (by omega)).1, (e1 234 (by omega)).1, (e1 235 (by omega)).1, (e1 236 (by omega)).1, (e1 239 (by omega)).1, (e1 216 (by omega)).1, (e1 237 (by omega)).2, (e1 238 (by omega)).2, e2 39 (by omega) (by omega), e2 40 (by omega) (by omega), e2 41 (by omega) (by omega), e2 42 (by omega) (by omega), e2 43 (by omega) (by omega)]
  exact h
theorem eqM_rf : eqM Z Z := ⟨fun _ _ => ⟨rfl, rfl⟩, fun _ _ _ => rfl⟩
theorem eqM_tr {Z2 Z3 : mjZt} (h : eqM Z Z2) (g : eqM Z2 Z3) : eqM Z Z3 := ⟨fun a ha => ⟨(g.1 a ha).1.trans (h.1 a ha).1, (g.1 a ha).2.trans (h.1 a ha).2⟩, fun f h1 h2 => (g.2 f h1 h2).trans (h.2 f h1 h2)⟩
theorem eqM_si {a k : Nat} {v : Int32} (hq : a ≠ 216 ∧ (a < 229 ∨ 240 ≤ a) ∧ (a ≠ 211 ∨ k < 39 ∨ 43 < k)) : eqM Z (zSi Z a k v) :=
  ⟨fun a2 h2 => ⟨si_obj Z a k v (by omega), rfl⟩, fun f h1 h2 => si_fld Z a k v (by omega)⟩
theorem eqM_sl {a k : Nat} {v : Int64} (hq : a ≠ 216 ∧ (a < 229 ∨ 240 ≤ a)) : eqM Z (zSl Z a k v) :=
  ⟨fun a2 h2 => ⟨rfl, sl_obj Z a k v (by omega)⟩, fun f h1 h2 => rfl⟩
theorem mRep_si {a k : Nat} {v : Int32} (h : mRep Z S) (hq : a ≠ 216 ∧ (a < 229 ∨ 240 ≤ a) ∧ (a ≠ 211 ∨ k < 39 ∨ 43 < k)) : mRep (zSi Z a k v) S := mRep_of h (eqM_si hq)
theorem mRep_sl {a k : Nat} {v : Int64} (h : mRep Z S) (hq : a ≠ 216 ∧ (a < 229 ∨ 240 ≤ a)) : mRep (zSl Z a k v) S := mRep_of h (eqM_sl hq)
end MR
/-- bits of a long -/
def b6 (x : Int64) (i : Nat) : Bool := x.toBitVec.getLsbD i
/-- a name: in S 8 bits a letter, the first letter highest; in the class 5 bits a letter, the first letter lowest -/
def nmN : Nat → Int → Nat
  | 0, _ => 0
  | f + 1, w => if w = 0 then 0 else nmN f (w / 256) + 1
def sCvF : Nat → Int → Int
  | 0, _ => 0
  | f + 1, w => if w = 0 then 0 else sCvF f (w / 256) + (w % 256 - 96) * 32 ^ nmN f (w / 256)
def sCv (w : Int) : Int := sCvF 8 w
/-- what a team of the class holds as told -/
def tTold (Z : mjZt) (a : Nat) (S : mjS) (t : Nat) : Prop :=
  Z.1 a 5 = i3 (S 1 t) ∧ Z.1 a 6 = i3 (sTd S t) ∧ Z.2.1 a 4 = i6 (sCv (S 11 t)) ∧ (∀ l, l < sTd S t → Z.1 (a + 1) (l + 1) = i3 (sTn S t l) ∧ Z.1 (a + 2) (l + 1) = i3 (sMt S t l)) ∧ Z.1 (a + 3) 0 = 0 ∧ Z.1 (a + 4) 0 = 0
/-- and what follows -/
def tRun (Z : mjZt) (a : Nat) (S : mjS) (t : Nat) : Prop := ∀ l, l ≤ sTd S t → Z.1 (a + 3) l = i3 (sEn S t l) ∧ Z.1 (a + 4) l = i3 (sPs S t l)
def aRep (Z : mjZt) (o : Nat) (S : mjS) (a : Nat) : Prop := Z.1 o 0 = i3 (sKd S a) ∧ Z.1 o 1 = i3 (sTmA S a) ∧ Z.1 o 2 = i3 (sOt S a) ∧ Z.1 o 3 = i3 (sTe S a) ∧ Z.1 o 4 = i3 (sSz S a)
/-- the told part of a book -/
def cBk (Z : mjZt) (b : Nat) (S : mjS) : Prop :=
  (b = 2 ∨ b = 92) ∧ (∀ k, k < 5 → Z.1 b k = i3 (S 0 k)) ∧ Z.1 b 5 = i3 (sT S) ∧ Z.1 b 6 = i3 (sA S) ∧ Z.1 b 8 = i3 (sR S) ∧ Z.1 b 9 = i3 (S 10 3) ∧ Z.1 b 10 = i3 (S 10 4) ∧
  (∀ t, t < sT S → tTold Z (tmB b t) S t) ∧ (∀ a, a < sA S → aRep Z (acB b a) S a) ∧
  (∀ i, i < 64 → b6 (Z.2.1 b 11) i = decide (i < sA S ∧ S 3 (72 + 3 * i + 2) = 1)) ∧
  (∀ r, r < sR S → Z.1 (b + 11) r = i3 (S 7 r) ∧ Z.2.1 (b + 10) r = i6 (sCv (S 12 r))) ∧
  (∀ t, t < 6 → Z.1 (tmB b t + 3) 0 = 0 ∧ Z.1 (tmB b t + 4) 0 = 0) ∧
  (∀ j k, j ≤ 4 → Z.1 (b + 12 + j) k = 0) ∧ Z.2.1 (b + 12) 4 = 0
/-- and what follows from it -/
def cDr (Z : mjZt) (b : Nat) (S : mjS) : Prop := Z.1 b 7 = i3 (sAll S) ∧ (∀ t, t < sT S → tRun Z (tmB b t) S t) ∧ (∀ a, a < sAll S → aRep Z (acB b a) S a)
section CB
variable {Z : mjZt} {b : Nat} {S : mjS}
theorem b_b (h : cBk Z b S) : b = 2 ∨ b = 92 := h.1
theorem b_tr (h : cBk Z b S) {k : Nat} (hk : k < 5) : Z.1 b k = i3 (S 0 k) := h.2.1 k hk
theorem b_tr0 (h : cBk Z b S) : Z.1 b 0 = i3 (S 0 0) := h.2.1 0 (by omega)
theorem b_tr1 (h : cBk Z b S) : Z.1 b 1 = i3 (S 0 1) := h.2.1 1 (by omega)
theorem b_tr2 (h : cBk Z b S) : Z.1 b 2 = i3 (S 0 2) := h.2.1 2 (by omega)
theorem b_tr3 (h : cBk Z b S) : Z.1 b 3 = i3 (S 0 3) := h.2.1 3 (by omega)
theorem b_tr4 (h : cBk Z b S) : Z.1 b 4 = i3 (S 0 4) := h.2.1 4 (by omega)
theorem b_T (h : cBk Z b S) : Z.1 b 5 = i3 (sT S) := h.2.2.1
theorem b_A (h : cBk Z b S) : Z.1 b 6 = i3 (sA S) := h.2.2.2.1
theorem b_R (h : cBk Z b S) : Z.1 b 8 = i3 (sR S) := h.2.2.2.2.1
theorem b_th (h : cBk Z b S) : Z.1 b 9 = i3 (S 10 3) := h.2.2.2.2.2.1
theorem b_wi (h : cBk Z b S) : Z.1 b 10 = i3 (S 10 4) := h.2.2.2.2.2.2.1
theorem b_tm (h : cBk Z b S) {t : Nat} (ht : t < sT S) : tTold Z (tmB b t) S t := h.2.2.2.2.2.2.2.1 t ht
theorem b_ac (h : cBk Z b S) {a : Nat} (ha : a < sA S) : aRep Z (acB b a) S a := h.2.2.2.2.2.2.2.2.1 a ha
theorem b_wv (h : cBk Z b S) {i : Nat} (hi : i < 64) : b6 (Z.2.1 b 11) i = decide (i < sA S ∧ S 3 (72 + 3 * i + 2) = 1) := h.2.2.2.2.2.2.2.2.2.1 i hi
theorem b_rl (h : cBk Z b S) {r : Nat} (hr : r < sR S) : Z.1 (b + 11) r = i3 (S 7 r) ∧ Z.2.1 (b + 10) r = i6 (sCv (S 12 r)) := h.2.2.2.2.2.2.2.2.2.2.1 r hr
theorem b_z3 (h : cBk Z b S) {t : Nat} (ht : t < 6) : Z.1 (tmB b t + 3) 0 = 0 ∧ Z.1 (tmB b t + 4) 0 = 0 := h.2.2.2.2.2.2.2.2.2.2.2.1 t ht
theorem b_no (h : cBk Z b S) {j : Nat} (hj : j ≤ 4) (k : Nat) : Z.1 (b + 12 + j) k = 0 := h.2.2.2.2.2.2.2.2.2.2.2.2.1 j k hj
theorem b_nn (h : cBk Z b S) : Z.2.1 (b + 12) 4 = 0 := h.2.2.2.2.2.2.2.2.2.2.2.2.2
theorem b_ln (h : cBk Z b S) {t : Nat} (ht : t < sT S) : Z.1 (tmB b t) 5 = i3 (S 1 t) := (b_tm h ht).1
theorem b_td (h : cBk Z b S) {t : Nat} (ht : t < sT S) : Z.1 (tmB b t) 6 = i3 (sTd S t) := (b_tm h ht).2.1
theorem b_tn (h : cBk Z b S) {t l : Nat} (ht : t < sT S) (hl : l < sTd S t) : Z.1 (tmB b t + 1) (l + 1) = i3 (sTn S t l) := ((b_tm h ht).2.2.2.1 l hl).1
theorem b_mt (h : cBk Z b S) {t l : Nat} (ht : t < sT S) (hl : l < sTd S t) : Z.1 (tmB b t + 2) (l + 1) = i3 (sMt S t l) := ((b_tm h ht).2.2.2.1 l hl).2
theorem d_all (h : cDr Z b S) : Z.1 b 7 = i3 (sAll S) := h.1
theorem d_en (h : cDr Z b S) {t l : Nat} (ht : t < sT S) (hl : l ≤ sTd S t) : Z.1 (tmB b t + 3) l = i3 (sEn S t l) := (h.2.1 t ht l hl).1
theorem d_ps (h : cDr Z b S) {t l : Nat} (ht : t < sT S) (hl : l ≤ sTd S t) : Z.1 (tmB b t + 4) l = i3 (sPs S t l) := (h.2.1 t ht l hl).2
theorem d_ac (h : cDr Z b S) {a : Nat} (ha : a < sAll S) : aRep Z (acB b a) S a := h.2.2 a ha
/-- a book rests on its own 90 objects alone -/
def eqB (b : Nat) (Z Z2 : mjZt) : Prop := ∀ a, b ≤ a → a < b + 90 → Z2.1 a = Z.1 a ∧ Z2.2.1 a = Z.2.1 a
theorem eqB_rf : eqB b Z Z := fun _ _ _ => ⟨rfl, rfl⟩
theorem eqB_tr {Z2 Z3 : mjZt} (h : eqB b Z Z2) (g : eqB b Z2 Z3) : eqB b Z Z3 := fun a h1 h2 => ⟨(g a h1 h2).1.trans (h a h1 h2).1, (g a h1 h2).2.trans (h a h1 h2).2⟩
theorem eqB_si {a k : Nat} {v : Int32} (hq : a < b ∨ b + 90 ≤ a) : eqB b Z (zSi Z a k v) := fun a2 h1 h2 => ⟨si_obj Z a k v (by omega), rfl⟩
theorem eqB_sl {a k : Nat} {v : Int64} (hq : a < b ∨ b + 90 ≤ a) : eqB b Z (zSl Z a k v) := fun a2 h1 h2 => ⟨rfl, sl_obj Z a k v (by omega)⟩
theorem aRep_of {Z2 : mjZt} {o a : Nat} (e : Z2.1 o = Z.1 o) (h : aRep Z o S a) : aRep Z2 o S a := by
  unfold aRep at h ⊢; rw [e]; exact h
theorem cBk_of {Z2 : mjZt} (ho : sT S ≤ 6 ∧ sA S ≤ 12) (h : cBk Z b S) (e : eqB b Z Z2) : cBk Z2 b S := by
  obtain ⟨h1, h2, h3, h4, h5, h6, h7, h8, h9, h10, h11, h12, h13, h14⟩ := h
  have e0 := e b (by omega) (by omega)
  have e12 := e (b + 12) (by omega) (by omega)
  unfold cBk
  rw [e0.1, e0.2, e12.2, (e (b + 11) (by omega) (by omega)).1, (e (b + 10) (by omega) (by omega)).2]
  refine ⟨h1, h2, h3, h4, h5, h6, h7, fun t ht => ?_, fun a ha => ?_, h10, h11, fun t ht => ?_, fun j k hj => ?_, h14⟩
  · have h := h8 t ht
    unfold tTold at h ⊢
    rw [(e (tmB b t) (by unfold tmB; omega) (by unfold tmB; omega)).1, (e (tmB b t) (by unfold tmB; omega) (by unfold tmB; omega)).2, (e (tmB b t + 1) (by unfold tmB; omega) (by unfold tmB; omega)).1, (e (tmB b t + 2) (by unfold tmB; omega) (by unfold tmB; omega)).1, (e (tmB b t + 3) (by unfold tmB; omega) (by unfold tmB; omega)).1, (e (tmB b t + 4) (by unfold tmB; omega) (by unfold tmB; omega)).1]
    exact h
  · exact aRep_of (e (acB b a) (by unfold acB; omega) (by unfold acB; omega)).1 (h9 a ha)
  · rw [(e (tmB b t + 3) (by unfold tmB; omega) (by unfold tmB; omega)).1, (e (tmB b t + 4) (by unfold tmB; omega) (by unfold tmB; omega)).1]
    exact h12 t ht
  · rw [(e (b + 12 + j) (by omega) (by omega)).1]
    exact h13 j k hj
theorem cDr_of {Z2 : mjZt} (ho : sT S ≤ 6 ∧ sAll S ≤ 42) (h : cDr Z b S) (e : eqB b Z Z2) : cDr Z2 b S := by
  obtain ⟨h1, h2, h3⟩ := h
  refine ⟨by rw [(e b (by omega) (by omega)).1]; exact h1, fun t ht l hl => ?_, fun a ha => aRep_of (e (acB b a) (by unfold acB; omega) (by unfold acB; omega)).1 (h3 a ha)⟩
  rw [(e (tmB b t + 3) (by unfold tmB; omega) (by unfold tmB; omega)).1, (e (tmB b t + 4) (by unfold tmB; omega) (by unfold tmB; omega)).1]
  exact h2 t ht l hl
end CB
theorem bx_le {S : mjS} (h : okS S) {t : Nat} : sBx S t ≤ 5 := by
  have := ok_sc h
  unfold sBx
  split <;> omega
theorem bs_le {S : mjS} (h : okS S) : ∀ t, sBs S t ≤ 5 * t
  | 0 => by simp [sBs]
  | t + 1 => by
    have h1 := bs_le h t
    have h2 := bx_le h (t := t)
    rw [sBs]; omega
theorem all_le {S : mjS} (h : okS S) : sAll S ≤ 42 := by
  have h1 := bs_le h (sT S)
  have h2 := ok_sc h
  unfold sAll; omega
