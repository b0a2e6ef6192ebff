/-! THE MODEL TAKES OVER WHAT WAS READ -/
section TK
variable {Z Z2 : mjZt} {S : mjS} {m : Nat}
def cpI (d s i M : Nat) (Z Z1 : mjZt) : Prop := (∀ k, i ≤ k → k < M → Z1.1 d k = Z.1 s k) ∧ ∀ k, k < i → Z1.1 d k = Z.1 d k
def cpL (d s i M : Nat) (Z Z1 : mjZt) : Prop := (∀ k, i ≤ k → k < M → Z1.2.1 d k = Z.2.1 s k) ∧ ∀ k, k < i → Z1.2.1 d k = Z.2.1 d k
theorem cpI_st {d s i M : Nat} {Z Z2 Z1 : mjZt} (h : cpI d s (i + 1) M Z2 Z1) (hi : i < M) (e1 : Z2.1 d i = Z.1 s i) (e2 : ∀ k, k ≠ i → Z2.1 d k = Z.1 d k) (e3 : Z2.1 s = Z.1 s) : cpI d s i M Z Z1 := by
  refine ⟨fun k g1 g2 => ?_, fun k g => ?_⟩
  · by_cases q : k = i
    · subst q; rw [h.2 k (by omega), e1]
    · rw [h.1 k (by omega) g2, e3]
  · rw [h.2 k (by omega), e2 k (by omega)]
theorem cpL_st {d s i M : Nat} {Z Z2 Z1 : mjZt} (h : cpL d s (i + 1) M Z2 Z1) (hi : i < M) (e1 : Z2.2.1 d i = Z.2.1 s i) (e2 : ∀ k, k ≠ i → Z2.2.1 d k = Z.2.1 d k) (e3 : Z2.2.1 s = Z.2.1 s) : cpL d s i M Z Z1 := by
  refine ⟨fun k g1 g2 => ?_, fun k g => ?_⟩
  · by_cases q : k = i
    · subst q; rw [h.2 k (by omega), e1]
    · rw [h.1 k (by omega) g2, e3]
  · rw [h.2 k (by omega), e2 k (by omega)]
theorem t264 : ∀ (f i N : Nat) (Z : mjZt), i + f = 108 → f < N → ∃ Z1, f235_takes_h264 N (i3 i) Z = some ((), Z1) ∧ cpI 239 221 i 108 Z Z1 ∧ (∀ a, a ≠ 239 → Z1.1 a = Z.1 a) ∧ Z1.2 = Z.2
  | f, i, 0, _, _, hN => by omega
  | 0, i, N + 1, Z, hf, _ => ⟨Z, by rw [f235_takes_h264, show (108 : Int32) = i3 108 from rfl, if_pos (by rw [c_ge (by omega)]; omega)], ⟨fun k g1 g2 => by omega, fun _ _ => rfl⟩, fun _ _ => rfl, rfl⟩
  | f + 1, i, N + 1, Z, hf, hN => by
    obtain ⟨Z1, a1, a2, a3, a4⟩ := t264 f (i + 1) N (zSi Z 239 i (Z.1 221 i)) (by omega) (by omega)
    refine ⟨Z1, ?_, cpI_st a2 (by omega) (si_same _ _ _ _) (fun k q => si_fld _ _ _ _ (by omega)) (si_obj _ _ _ _ (by omega)), fun a g => ?_, by rw [a4]; rfl⟩
    · rw [f235_takes_h264, show (108 : Int32) = i3 108 from rfl, if_neg (by rw [c_ge (by omega)]; omega), if_pos (in_p (by omega)), ix_nat (by omega), let_eq, i3_s, a1]
    · rw [a3 a g, si_obj _ _ _ _ g]
theorem t236 (hm : m ≤ 700) : ∀ (f i N : Nat) (Z : mjZt), i + f = m → f < N → Z.1 211 17 = i3 m → ∃ Z1, f235_takes_h236 N (i3 i) Z = f235_takes_h264 mjF 0 Z1 ∧ cpI 216 215 i m Z Z1 ∧ (∀ a, a ≠ 216 → Z1.1 a = Z.1 a) ∧ Z1.2 = Z.2
  | f, i, 0, _, _, hN, _ => by omega
  | 0, i, N + 1, Z, hf, _, h17 => ⟨Z, by rw [f235_takes_h236, h17, if_pos (by rw [c_ge (by omega)]; omega)], ⟨fun k g1 g2 => by omega, fun _ _ => rfl⟩, fun _ _ => rfl, rfl⟩
  | f + 1, i, N + 1, Z, hf, hN, h17 => by
    obtain ⟨Z1, a1, a2, a3, a4⟩ := t236 hm f (i + 1) N (zSi Z 216 i (Z.1 215 i)) (by omega) (by omega) (by rw [si_obj _ _ _ _ (by omega)]; exact h17)
    refine ⟨Z1, ?_, cpI_st a2 (by omega) (si_same _ _ _ _) (fun k q => si_fld _ _ _ _ (by omega)) (si_obj _ _ _ _ (by omega)), fun a g => ?_, by rw [a4]; rfl⟩
    · rw [f235_takes_h236, h17, if_neg (by rw [c_ge (by omega)]; omega), if_pos (in_p (by omega)), ix_nat (by omega), let_eq, i3_s, a1]
    · rw [a3 a g, si_obj _ _ _ _ g]
theorem t210 : ∀ (f i N : Nat) (Z : mjZt), i + f = 32 → f < N → ∃ Z1, f235_takes_h210 N (i3 i) Z = f235_takes_h236 mjF 0 Z1 ∧ cpI 236 226 i 32 Z Z1 ∧ (∀ a, a ≠ 236 → Z1.1 a = Z.1 a) ∧ Z1.2 = Z.2
  | f, i, 0, _, _, hN => by omega
  | 0, i, N + 1, Z, hf, _ => ⟨Z, by rw [f235_takes_h210, show (32 : Int32) = i3 32 from rfl, if_pos (by rw [c_ge (by omega)]; omega)], ⟨fun k g1 g2 => by omega, fun _ _ => rfl⟩, fun _ _ => rfl, rfl⟩
  | f + 1, i, N + 1, Z, hf, hN => by
    obtain ⟨Z1, a1, a2, a3, a4⟩ := t210 f (i + 1) N (zSi Z 236 i (Z.1 226 i)) (by omega) (by omega)
    refine ⟨Z1, ?_, cpI_st a2 (by omega) (si_same _ _ _ _) (fun k q => si_fld _ _ _ _ (by omega)) (si_obj _ _ _ _ (by omega)), fun a g => ?_, by rw [a4]; rfl⟩
    · rw [f235_takes_h210, show (32 : Int32) = i3 32 from rfl, if_neg (by rw [c_ge (by omega)]; omega), if_pos (in_p (by omega)), ix_nat (by omega), let_eq, i3_s, a1]
    · rw [a3 a g, si_obj _ _ _ _ g]
theorem t172 : ∀ (f i N : Nat) (Z : mjZt), i + f = 8 → f < N → ∃ Z1, f235_takes_h172 N (i3 i) Z = f235_takes_h210 mjF 0 Z1 ∧ cpI 235 225 i 8 Z Z1 ∧ cpL 238 228 i 8 Z Z1 ∧ (∀ a, a ≠ 235 → Z1.1 a = Z.1 a) ∧ (∀ a, a ≠ 238 → Z1.2.1 a = Z.2.1 a) ∧ Z1.2.2 = Z.2.2
  | f, i, 0, _, _, hN => by omega
  | 0, i, N + 1, Z, hf, _ => ⟨Z, by rw [f235_takes_h172, show (8 : Int32) = i3 8 from rfl, if_pos (by rw [c_ge (by omega)]; omega)], ⟨fun k g1 g2 => by omega, fun _ _ => rfl⟩, ⟨fun k g1 g2 => by omega, fun _ _ => rfl⟩, fun _ _ => rfl, fun _ _ => rfl, rfl⟩
  | f + 1, i, N + 1, Z, hf, hN => by
    obtain ⟨Z1, a1, a2, a2l, a3, a4, a5⟩ := t172 f (i + 1) N (zSl (zSi Z 235 i (Z.1 225 i)) 238 i (Z.2.1 228 i)) (by omega) (by omega)
    refine ⟨Z1, ?_, cpI_st a2 (by omega) (by rw [sl_int, si_same]) (fun k q => by rw [sl_int, si_fld _ _ _ _ (by omega)]) (by rw [sl_int, si_obj _ _ _ _ (by omega)]), cpL_st a2l (by omega) (sl_same _ _ _ _) (fun k q => by rw [sl_fld _ _ _ _ (by omega)]; rfl) (by rw [sl_obj _ _ _ _ (by omega)]; rfl), fun a g => ?_, fun a g => ?_, by rw [a5]; rfl⟩
    · rw [f235_takes_h172, show (8 : Int32) = i3 8 from rfl, if_neg (by rw [c_ge (by omega)]; omega), if_pos (in_p (by omega)), ix_nat (by omega), let_eq, let_eq, i3_s]; exact a1
    · rw [a3 a g, sl_int, si_obj _ _ _ _ g]
    · rw [a4 a g, sl_obj _ _ _ _ g]; rfl
theorem t122 : ∀ (f i N : Nat) (Z : mjZt), i + f = 12 → f < N → ∃ Z1, f235_takes_h122 N (i3 i) Z = f235_takes_h172 mjF 0 Z1 ∧ cpI 232 222 i 12 Z Z1 ∧ cpI 233 223 i 12 Z Z1 ∧ cpI 234 224 i 12 Z Z1 ∧ (∀ a, a ≠ 232 → a ≠ 233 → a ≠ 234 → Z1.1 a = Z.1 a) ∧ Z1.2 = Z.2
  | f, i, 0, _, _, hN => by omega
  | 0, i, N + 1, Z, hf, _ => ⟨Z, by rw [f235_takes_h122, show (12 : Int32) = i3 12 from rfl, if_pos (by rw [c_ge (by omega)]; omega)], ⟨fun k g1 g2 => by omega, fun _ _ => rfl⟩, ⟨fun k g1 g2 => by omega, fun _ _ => rfl⟩, ⟨fun k g1 g2 => by omega, fun _ _ => rfl⟩, fun _ _ _ _ => rfl, rfl⟩
  | f + 1, i, N + 1, Z, hf, hN => by
    obtain ⟨Y, hY⟩ : ∃ Y, Y = zSi (zSi (zSi Z 232 i (Z.1 222 i)) 233 i (Z.1 223 i)) 234 i (Z.1 224 i) := ⟨_, rfl⟩
    obtain ⟨Z1, a1, a2, a2', a2'', a3, a4⟩ := t122 f (i + 1) N Y (by omega) (by omega)
    refine ⟨Z1, ?_, cpI_st a2 (by omega) ?_ (fun k q => ?_) ?_, cpI_st a2' (by omega) ?_ (fun k q => ?_) ?_, cpI_st a2'' (by omega) ?_ (fun k q => ?_) ?_, fun a g g2 g3 => ?_, by rw [a4, hY]; rfl⟩
    · rw [f235_takes_h122, show (12 : Int32) = i3 12 from rfl, if_neg (by rw [c_ge (by omega)]; omega), if_pos (in_p (by omega)), ix_nat (by omega), let_eq, let_eq, let_eq, i3_s, si_obj _ _ _ _ (by omega), si_obj _ _ _ _ (by omega), si_obj _ _ _ _ (by omega), ← hY]; exact a1
    · rw [hY, si_obj _ _ _ _ (by omega), si_obj _ _ _ _ (by omega), si_same]
    · rw [hY, si_obj _ _ _ _ (by omega), si_obj _ _ _ _ (by omega), si_fld _ _ _ _ (by omega)]
    · rw [hY, si_obj _ _ _ _ (by omega), si_obj _ _ _ _ (by omega), si_obj _ _ _ _ (by omega)]
    · rw [hY, si_obj _ _ _ _ (by omega), si_same]
    · rw [hY, si_obj _ _ _ _ (by omega), si_fld _ _ _ _ (by omega), si_obj _ _ _ _ (by omega)]
    · rw [hY, si_obj _ _ _ _ (by omega), si_obj _ _ _ _ (by omega), si_obj _ _ _ _ (by omega)]
    · rw [hY, si_same]
    · rw [hY, si_fld _ _ _ _ (by omega), si_obj _ _ _ _ (by omega), si_obj _ _ _ _ (by omega)]
    · rw [hY, si_obj _ _ _ _ (by omega), si_obj _ _ _ _ (by omega), si_obj _ _ _ _ (by omega)]
    · rw [a3 a g g2 g3, hY, si_obj _ _ _ _ g3, si_obj _ _ _ _ g2, si_obj _ _ _ _ g]
theorem t72 : ∀ (f i N : Nat) (Z : mjZt), i + f = 6 → f < N → ∃ Z1, f235_takes_h72 N (i3 i) Z = f235_takes_h122 mjF 0 Z1 ∧ cpI 230 219 i 6 Z Z1 ∧ cpI 231 220 i 6 Z Z1 ∧ cpL 237 227 i 6 Z Z1 ∧ (∀ a, a ≠ 230 → a ≠ 231 → Z1.1 a = Z.1 a) ∧ (∀ a, a ≠ 237 → Z1.2.1 a = Z.2.1 a) ∧ Z1.2.2 = Z.2.2
  | f, i, 0, _, _, hN => by omega
  | 0, i, N + 1, Z, hf, _ => ⟨Z, by rw [f235_takes_h72, show (6 : Int32) = i3 6 from rfl, if_pos (by rw [c_ge (by omega)]; omega)], ⟨fun k g1 g2 => by omega, fun _ _ => rfl⟩, ⟨fun k g1 g2 => by omega, fun _ _ => rfl⟩, ⟨fun k g1 g2 => by omega, fun _ _ => rfl⟩, fun _ _ _ => rfl, fun _ _ => rfl, rfl⟩
  | f + 1, i, N + 1, Z, hf, hN => by
    obtain ⟨Y, hY⟩ : ∃ Y, Y = zSl (zSi (zSi Z 230 i (Z.1 219 i)) 231 i (Z.1 220 i)) 237 i (Z.2.1 227 i) := ⟨_, rfl⟩
    obtain ⟨Z1, a1, a2, a2', a2l, a3, a4, a5⟩ := t72 f (i + 1) N Y (by omega) (by omega)
    refine ⟨Z1, ?_, cpI_st a2 (by omega) ?_ (fun k q => ?_) ?_, cpI_st a2' (by omega) ?_ (fun k q => ?_) ?_, cpL_st a2l (by omega) ?_ (fun k q => ?_) ?_, fun a g g2 => ?_, fun a g => ?_, by rw [a5, hY]; rfl⟩
    · rw [f235_takes_h72, show (6 : Int32) = i3 6 from rfl, if_neg (by rw [c_ge (by omega)]; omega), if_pos (in_p (by omega)), ix_nat (by omega), let_eq, let_eq, let_eq, i3_s, si_obj _ _ _ _ (by omega), si_lng, si_lng, ← hY]; exact a1
    · rw [hY, sl_int, si_obj _ _ _ _ (by omega), si_same]
    · rw [hY, sl_int, si_obj _ _ _ _ (by omega), si_fld _ _ _ _ (by omega)]
    · rw [hY, sl_int, si_obj _ _ _ _ (by omega), si_obj _ _ _ _ (by omega)]
    · rw [hY, sl_int, si_same]
    · rw [hY, sl_int, si_fld _ _ _ _ (by omega), si_obj _ _ _ _ (by omega)]
    · rw [hY, sl_int, si_obj _ _ _ _ (by omega), si_obj _ _ _ _ (by omega)]
    · rw [hY, sl_same]
    · rw [hY, sl_fld _ _ _ _ (by omega)]; rfl
    · rw [hY, sl_obj _ _ _ _ (by omega)]; rfl
    · rw [a3 a g g2, hY, sl_int, si_obj _ _ _ _ g2, si_obj _ _ _ _ g]
    · rw [a4 a g, hY, sl_obj _ _ _ _ g]; rfl
theorem t47 : ∀ (f i N : Nat) (Z : mjZt), i + f = 5 → f < N → ∃ Z1, f235_takes_h47 N (i3 i) Z = f235_takes_h72 mjF 0 Z1 ∧ cpI 229 218 i 5 Z Z1 ∧ (∀ a, a ≠ 229 → Z1.1 a = Z.1 a) ∧ Z1.2 = Z.2
  | f, i, 0, _, _, hN => by omega
  | 0, i, N + 1, Z, hf, _ => ⟨Z, by rw [f235_takes_h47, show (5 : Int32) = i3 5 from rfl, if_pos (by rw [c_ge (by omega)]; omega)], ⟨fun k g1 g2 => by omega, fun _ _ => rfl⟩, fun _ _ => rfl, rfl⟩
  | f + 1, i, N + 1, Z, hf, hN => by
    obtain ⟨Z1, a1, a2, a3, a4⟩ := t47 f (i + 1) N (zSi Z 229 i (Z.1 218 i)) (by omega) (by omega)
    refine ⟨Z1, ?_, cpI_st a2 (by omega) (si_same _ _ _ _) (fun k q => si_fld _ _ _ _ (by omega)) (si_obj _ _ _ _ (by omega)), fun a g => ?_, by rw [a4]; rfl⟩
    · rw [f235_takes_h47, show (5 : Int32) = i3 5 from rfl, if_neg (by rw [c_ge (by omega)]; omega), if_pos (in_p (by omega)), ix_nat (by omega), let_eq, i3_s, a1]
    · rw [a3 a g, si_obj _ _ _ _ g]
/-- what taking over writes -/
def eqTa (Z Z2 : mjZt) : Prop := Z2.2.2 = Z.2.2 ∧ (∀ a, a ≠ 211 → a ≠ 216 → (a < 229 ∨ 239 < a) → Z2.1 a = Z.1 a ∧ Z2.2.1 a = Z.2.1 a) ∧ (∀ f, (f < 39 ∨ 43 < f) → f ≠ 56 → Z2.1 211 f = Z.1 211 f) ∧ Z2.2.1 211 = Z.2.1 211
def sTk (m : Nat) (S : mjS) (Z : mjZt) : mjS := fun f k =>
  if f = 0 then (if k < 5 then S 0 k else (Z.1 229 k).toInt) else if f = 1 then (if k < 6 then S 1 k else (Z.1 230 k).toInt) else if f = 2 then (if k < 6 then S 2 k else (Z.1 231 k).toInt) else if f = 3 then (if k < 108 then S 3 k else (Z.1 239 k).toInt) else if f = 4 then (if k < 12 then S 4 k else (Z.1 232 k).toInt) else if f = 5 then (if k < 12 then S 5 k else (Z.1 233 k).toInt) else if f = 6 then (if k < 12 then S 6 k else (Z.1 234 k).toInt) else if f = 7 then (if k < 8 then S 7 k else (Z.1 235 k).toInt) else if f = 8 then (if k < 32 then S 8 k else (Z.1 236 k).toInt) else if f = 9 then (if k < m then S 9 k else (Z.1 216 k).toInt)
  else if f = 10 then S 10 k else if f = 11 then (if k < 6 then S 11 k else (Z.2.1 237 k).toInt) else (if k < 8 then S 12 k else (Z.2.1 238 k).toInt)
theorem sTk_ag : agS m S (sTk m S Z) := by
  refine ⟨fun k h => ?_, fun k h => ⟨?_, ?_, ?_⟩, fun k h => ⟨?_, ?_, ?_⟩, fun k h => ⟨?_, ?_⟩, fun k h => ?_, fun k h => ?_, fun k h => ?_, rfl⟩ <;> exact if_pos h
theorem takes (hm : m ≤ 700) (h : rM Z S m) : ∃ Z1, f235_takes Z = some ((), Z1) ∧ mRep Z1 (sTk m S Z1) ∧ Z1.1 211 56 = 0 ∧ eqTa Z Z1 := by
  obtain ⟨h0, h1, h2, h3, h4, h5, h6, h7, h8, h9, ⟨s1, s2, s3, s4, s5⟩, h11, h12, h17, hkf⟩ := h
  obtain ⟨Y, hY⟩ : ∃ Y, Y = zSi (zSi (zSi (zSi (zSi (zSi Z 211 39 (Z.1 211 21)) 211 40 (Z.1 211 22)) 211 41 (Z.1 211 23)) 211 42 (Z.1 211 25)) 211 43 (Z.1 211 26)) 211 56 0 := ⟨_, rfl⟩
  have yo : ∀ a, a ≠ 211 → Y.1 a = Z.1 a := fun a g => by rw [hY, si_obj _ _ _ _ g, si_obj _ _ _ _ g, si_obj _ _ _ _ g, si_obj _ _ _ _ g, si_obj _ _ _ _ g, si_obj _ _ _ _ g]
  have yl : Y.2 = Z.2 := by rw [hY]; rfl
  have yf : ∀ f, (f < 39 ∨ 43 < f) → f ≠ 56 → Y.1 211 f = Z.1 211 f := fun f g g2 => by rw [hY, si_fld _ _ _ _ (by omega), si_fld _ _ _ _ (by omega), si_fld _ _ _ _ (by omega), si_fld _ _ _ _ (by omega), si_fld _ _ _ _ (by omega), si_fld _ _ _ _ (by omega)]
  obtain ⟨Z1, a1, a2, a3, a4⟩ := t47 5 0 mjF Y (by omega) (by unfold mjF; omega)
  obtain ⟨Z2, b1, b2, b2', b2l, b3, b4, b5⟩ := t72 6 0 mjF Z1 (by omega) (by unfold mjF; omega)
  obtain ⟨Z3, c1, c2, c2', c2'', c3, c4⟩ := t122 12 0 mjF Z2 (by omega) (by unfold mjF; omega)
  obtain ⟨Z4, d1, d2, d2l, d3, d4, d5⟩ := t172 8 0 mjF Z3 (by omega) (by unfold mjF; omega)
  obtain ⟨Z5, e1, e2, e3, e4⟩ := t210 32 0 mjF Z4 (by omega) (by unfold mjF; omega)
  have e17 : Z5.1 211 17 = i3 m := by rw [e3 211 (by omega), d3 211 (by omega), c3 211 (by omega) (by omega) (by omega), b3 211 (by omega) (by omega), a3 211 (by omega), yf 17 (by omega) (by omega)]; exact h17
  obtain ⟨Z6, f1, f2, f3, f4⟩ := t236 hm m 0 mjF Z5 (by omega) (by unfold mjF; omega) e17
  obtain ⟨Z7, g1, g2, g3, g4⟩ := t264 108 0 mjF Z6 (by omega) (by unfold mjF; omega)
  have src : ∀ a, a ≠ 211 → a ≠ 216 → (a < 229 ∨ 239 < a) → Z7.1 a = Z.1 a ∧ Z7.2.1 a = Z.2.1 a := fun a q1 q2 q3 => by
    refine ⟨by rw [g3 a (by omega), f3 a (by omega), e3 a (by omega), d3 a (by omega), c3 a (by omega) (by omega) (by omega), b3 a (by omega) (by omega), a3 a (by omega), yo a q1], ?_⟩
    rw [g4, f4, e4, d4 a (by omega), c4, b4 a (by omega), a4, yl]
  have s211 : Z7.1 211 = Y.1 211 := by rw [g3 211 (by omega), f3 211 (by omega), e3 211 (by omega), d3 211 (by omega), c3 211 (by omega) (by omega) (by omega), b3 211 (by omega) (by omega), a3 211 (by omega)]
  have l211 : Z7.2.1 211 = Z.2.1 211 := by rw [g4, f4, e4, d4 211 (by omega), c4, b4 211 (by omega), a4, yl]
  refine ⟨Z7, ?_, ⟨fun k => ?_, fun k => ?_, fun k => ?_, fun k => ?_, fun k => ?_, fun k => ?_, fun k => ?_, fun k => ?_, fun k => ?_, fun k => ?_, ?_, ?_, ?_, ?_, ?_, fun k => ?_, fun k => ?_⟩, ?_, ?_, src, fun f q1 q2 => by rw [s211, yf f q1 q2], l211⟩
  · have x : ∀ (W : mjZt) k (v : Int32) f, f < 39 → 39 ≤ k → (zSi W 211 k v).1 211 f = W.1 211 f := fun W k v f q1 q2 => si_fld _ _ _ _ (by omega)
    unfold f235_takes
    rw [let_eq, let_eq, x _ _ _ _ (by omega) (by omega), let_eq, x _ _ _ _ (by omega) (by omega), x _ _ _ _ (by omega) (by omega), let_eq, x _ _ _ _ (by omega) (by omega), x _ _ _ _ (by omega) (by omega), x _ _ _ _ (by omega) (by omega), let_eq, x _ _ _ _ (by omega) (by omega), x _ _ _ _ (by omega) (by omega), x _ _ _ _ (by omega) (by omega), x _ _ _ _ (by omega) (by omega), let_eq, ← hY]
    have a1' : f235_takes_h47 mjF 0 Y = f235_takes_h72 mjF 0 Z1 := a1
    have b1' : f235_takes_h72 mjF 0 Z1 = f235_takes_h122 mjF 0 Z2 := b1
    have c1' : f235_takes_h122 mjF 0 Z2 = f235_takes_h172 mjF 0 Z3 := c1
    have d1' : f235_takes_h172 mjF 0 Z3 = f235_takes_h210 mjF 0 Z4 := d1
    have e1' : f235_takes_h210 mjF 0 Z4 = f235_takes_h236 mjF 0 Z5 := e1
    have f1' : f235_takes_h236 mjF 0 Z5 = f235_takes_h264 mjF 0 Z6 := f1
    have g1' : f235_takes_h264 mjF 0 Z6 = some ((), Z7) := g1
    rw [a1', b1', c1', d1', e1', f1', g1']
  · show Z7.1 229 k = i3 (if k < 5 then S 0 k else (Z7.1 229 k).toInt)
    split
    · rw [g3 229 (by omega), f3 229 (by omega), e3 229 (by omega), d3 229 (by omega), c3 229 (by omega) (by omega) (by omega), b3 229 (by omega) (by omega), a2.1 k (by omega) (by omega), yo 218 (by omega)]; exact h0 k
    · exact (i3_toInt _).symm
  · show Z7.1 230 k = i3 (if k < 6 then S 1 k else (Z7.1 230 k).toInt)
    split
    · rw [g3 230 (by omega), f3 230 (by omega), e3 230 (by omega), d3 230 (by omega), c3 230 (by omega) (by omega) (by omega), b2.1 k (by omega) (by omega), a3 219 (by omega), yo 219 (by omega)]; exact h1 k
    · exact (i3_toInt _).symm
  · show Z7.1 231 k = i3 (if k < 6 then S 2 k else (Z7.1 231 k).toInt)
    split
    · rw [g3 231 (by omega), f3 231 (by omega), e3 231 (by omega), d3 231 (by omega), c3 231 (by omega) (by omega) (by omega), b2'.1 k (by omega) (by omega), a3 220 (by omega), yo 220 (by omega)]; exact h2 k
    · exact (i3_toInt _).symm
  · show Z7.1 232 k = i3 (if k < 12 then S 4 k else (Z7.1 232 k).toInt)
    split
    · rw [g3 232 (by omega), f3 232 (by omega), e3 232 (by omega), d3 232 (by omega), c2.1 k (by omega) (by omega), b3 222 (by omega) (by omega), a3 222 (by omega), yo 222 (by omega)]; exact h4 k
    · exact (i3_toInt _).symm
  · show Z7.1 233 k = i3 (if k < 12 then S 5 k else (Z7.1 233 k).toInt)
    split
    · rw [g3 233 (by omega), f3 233 (by omega), e3 233 (by omega), d3 233 (by omega), c2'.1 k (by omega) (by omega), b3 223 (by omega) (by omega), a3 223 (by omega), yo 223 (by omega)]; exact h5 k
    · exact (i3_toInt _).symm
  · show Z7.1 234 k = i3 (if k < 12 then S 6 k else (Z7.1 234 k).toInt)
    split
    · rw [g3 234 (by omega), f3 234 (by omega), e3 234 (by omega), d3 234 (by omega), c2''.1 k (by omega) (by omega), b3 224 (by omega) (by omega), a3 224 (by omega), yo 224 (by omega)]; exact h6 k
    · exact (i3_toInt _).symm
  · show Z7.1 235 k = i3 (if k < 8 then S 7 k else (Z7.1 235 k).toInt)
    split
    · rw [g3 235 (by omega), f3 235 (by omega), e3 235 (by omega), d2.1 k (by omega) (by omega), c3 225 (by omega) (by omega) (by omega), b3 225 (by omega) (by omega), a3 225 (by omega), yo 225 (by omega)]; exact h7 k
    · exact (i3_toInt _).symm
  · show Z7.1 236 k = i3 (if k < 32 then S 8 k else (Z7.1 236 k).toInt)
    split
    · rw [g3 236 (by omega), f3 236 (by omega), e2.1 k (by omega) (by omega), d3 226 (by omega), c3 226 (by omega) (by omega) (by omega), b3 226 (by omega) (by omega), a3 226 (by omega), yo 226 (by omega)]; exact h8 k
    · exact (i3_toInt _).symm
  · show Z7.1 239 k = i3 (if k < 108 then S 3 k else (Z7.1 239 k).toInt)
    split
    · rw [g2.1 k (by omega) (by omega), f3 221 (by omega), e3 221 (by omega), d3 221 (by omega), c3 221 (by omega) (by omega) (by omega), b3 221 (by omega) (by omega), a3 221 (by omega), yo 221 (by omega)]; exact h3 k
    · exact (i3_toInt _).symm
  · show Z7.1 216 k = i3 (if k < m then S 9 k else (Z7.1 216 k).toInt)
    split
    · rw [g3 216 (by omega), f2.1 k (by omega) (by omega), e3 215 (by omega), d3 215 (by omega), c3 215 (by omega) (by omega) (by omega), b3 215 (by omega) (by omega), a3 215 (by omega), yo 215 (by omega)]; exact h9 k
    · exact (i3_toInt _).symm
  · rw [s211, hY, si_fld _ _ _ _ (by omega), si_fld _ _ _ _ (by omega), si_fld _ _ _ _ (by omega), si_fld _ _ _ _ (by omega), si_fld _ _ _ _ (by omega), si_same]; exact s1
  · rw [s211, hY, si_fld _ _ _ _ (by omega), si_fld _ _ _ _ (by omega), si_fld _ _ _ _ (by omega), si_fld _ _ _ _ (by omega), si_same]; exact s2
  · rw [s211, hY, si_fld _ _ _ _ (by omega), si_fld _ _ _ _ (by omega), si_fld _ _ _ _ (by omega), si_same]; exact s3
  · rw [s211, hY, si_fld _ _ _ _ (by omega), si_fld _ _ _ _ (by omega), si_same]; exact s4
  · rw [s211, hY, si_fld _ _ _ _ (by omega), si_same]; exact s5
  · show Z7.2.1 237 k = i6 (if k < 6 then S 11 k else (Z7.2.1 237 k).toInt)
    split
    · rw [g4, f4, e4, d4 237 (by omega), c4, b2l.1 k (by omega) (by omega), a4, yl]; exact h11 k
    · exact (i6_toInt _).symm
  · show Z7.2.1 238 k = i6 (if k < 8 then S 12 k else (Z7.2.1 238 k).toInt)
    split
    · rw [g4, f4, e4, d2l.1 k (by omega) (by omega), c4, b4 228 (by omega), a4, yl]; exact h12 k
    · exact (i6_toInt _).symm
  · rw [s211, hY, si_same]
  · rw [g4, f4, e4, d5, c4, b5, a4, yl]
end TK
