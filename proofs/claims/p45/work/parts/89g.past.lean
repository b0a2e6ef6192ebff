/-! THE MODEL'S PAST: what was so before the last ten appeals -/
def eqU (Z Z2 : mjZt) : Prop := Z2.2 = Z.2 ∧ (∀ a, a ≠ 240 → a ≠ 211 → Z2.1 a = Z.1 a) ∧ ∀ f, f ≠ 56 → Z2.1 211 f = Z.1 211 f
/-- P k: the k-th of U, the oldest first -/
def ptR (Z : mjZt) (U : Nat) (P : Nat → Nat → Int) : Prop := Z.1 211 56 = i3 U ∧ ∀ k, k < U → ∀ x, x < 108 → Z.1 240 (108 * k + x) = i3 (P k x)
def psh (U : Nat) (P : Nat → Nat → Int) (h : Nat → Int) : Nat → Nat → Int := fun k => if U < 10 then (if k = U then h else P k) else (if k = 9 then h else P (k + 1))
section PT
variable {Z : mjZt}
theorem eqU_rf : eqU Z Z := ⟨rfl, fun _ _ _ => rfl, fun _ _ => rfl⟩
theorem eqU_tr {Z2 Z3 : mjZt} (h : eqU Z Z2) (g : eqU Z2 Z3) : eqU Z Z3 := ⟨g.1.trans h.1, fun a h1 h2 => (g.2.1 a h1 h2).trans (h.2.1 a h1 h2), fun f h1 => (g.2.2 f h1).trans (h.2.2 f h1)⟩
theorem eqU_p {k : Nat} {v : Int32} : eqU Z (zSi Z 240 k v) := ⟨rfl, fun a h1 _ => si_obj _ _ _ _ h1, fun f _ => by rw [si_obj _ _ _ _ (by omega)]⟩
theorem eqU_u {v : Int32} : eqU Z (zSi Z 211 56 v) := ⟨rfl, fun a _ h2 => si_obj _ _ _ _ h2, fun f h1 => si_fld _ _ _ _ (by omega)⟩
theorem m238b {h : Nat → Int} : ∀ (f i n : Nat) (Z : mjZt) (U : Nat) (P : Nat → Nat → Int), i + f = 108 → f < n → U < 10 → ptR Z U P → (∀ x, x < 108 → Z.1 239 x = i3 (h x)) → (∀ x, x < i → Z.1 240 (108 * U + x) = i3 (h x)) → ∃ Z1, f238_keeps_h52 n (i3 i) Z = some ((), Z1) ∧ eqU Z Z1 ∧ ptR Z1 (U + 1) (psh U P h)
  | f, i, 0, _, _, _, _, hn, _, _, _, _ => by omega
  | 0, i, n + 1, Z, U, P, hf, _, hU, hp, h9, hi => by
    obtain rfl : i = 108 := by omega
    refine ⟨zSi Z 211 56 (i3 ((U + 1 : Nat) : Int)), ?_, eqU_u, si_same _ _ _ _, fun k hk x hx => ?_⟩
    · rw [f238_keeps_h52, if_pos (by decide), hp.1, i3_s, let_eq]
    · rw [si_obj _ _ _ _ (by omega)]
      unfold psh
      rw [if_pos hU]
      by_cases q : k = U
      · subst q; rw [if_pos rfl]; exact hi x hx
      · rw [if_neg q]; exact hp.2 k (by omega) x hx
  | f + 1, i, n + 1, Z, U, P, hf, hn, hU, hp, h9, hi => by
    obtain ⟨Z1, r1, r2, r3⟩ := m238b (h := h) f (i + 1) n (zSi Z 240 (108 * U + i) (i3 (h i))) U P (by omega) (by omega) hU ⟨by rw [si_obj _ _ _ _ (by omega)]; exact hp.1, fun k hk x hx => by
      rw [si_fld _ _ _ _ (by omega)]; exact hp.2 k hk x hx⟩ (fun x hx => by rw [si_obj _ _ _ _ (by omega)]; exact h9 x hx) (fun x hx => by
      by_cases q : x = i
      · subst q; rw [si_same]
      · rw [si_fld _ _ _ _ (by omega)]; exact hi x (by omega))
    refine ⟨Z1, ?_, eqU_tr eqU_p r2, r3⟩
    rw [f238_keeps_h52, show (108 : Int32) = i3 108 from rfl, if_neg (by rw [c_ge (by omega)]; omega), if_pos (in_p (by omega)), hp.1, i3_mul, i3_add, if_pos (in_p (by omega)), ix_i3 (by omega), ix_nat (by omega), show ((108 : Int) * U + i).toNat = 108 * U + i by omega, h9 i (by omega), let_eq, i3_s]
    exact r1
theorem m238a {h : Nat → Int} {P : Nat → Nat → Int} : ∀ (f i n : Nat) (Z : mjZt), i + f = 1080 → 108 ≤ i → f < n → Z.1 211 56 = i3 10 → (∀ x, x < 108 → Z.1 239 x = i3 (h x)) → (∀ k, k < 10 → ∀ x, x < 108 → i ≤ 108 * k + x → Z.1 240 (108 * k + x) = i3 (P k x)) → (∀ k, k < 9 → ∀ x, x < 108 → 108 * k + x + 108 < i → Z.1 240 (108 * k + x) = i3 (P (k + 1) x)) → ∃ Z1, f238_keeps_h12 n (i3 i) Z = some ((), Z1) ∧ eqU Z Z1 ∧ ptR Z1 10 (psh 10 P h)
  | f, i, 0, _, _, _, hn, _, _, _, _ => by omega
  | 0, i, n + 1, Z, hf, _, _, hu, h9, _, hb => by
    obtain rfl : i = 1080 := by omega
    obtain ⟨Z1, r1, r2, r3⟩ := m238b (h := h) 108 0 mjF (zSi Z 211 56 (i3 9)) 9 (fun k => P (k + 1)) (by omega) (by decide) (by omega) ⟨si_same _ _ _ _, fun k hk x hx => by rw [si_obj _ _ _ _ (by omega)]; exact hb k hk x hx (by omega)⟩ (fun x hx => by rw [si_obj _ _ _ _ (by omega)]; exact h9 x hx) (fun x hx => by omega)
    refine ⟨Z1, ?_, eqU_tr eqU_u r2, r3⟩
    rw [f238_keeps_h12, if_pos (by decide), hu, show i3 10 - 1 = i3 9 from rfl, let_eq]
    exact r1
  | f + 1, i, n + 1, Z, hf, h1, hn, hu, h9, ha, hb => by
    have hdi : i = 108 * (i / 108) + i % 108 := (Nat.div_add_mod i 108).symm
    have hmi : i % 108 < 108 := Nat.mod_lt _ (by decide)
    generalize hD : i / 108 = D at *
    generalize hM : i % 108 = M at *
    have hv := ha D (by omega) M hmi (by omega)
    rw [← hdi] at hv
    obtain ⟨Z1, r1, r2, r3⟩ := m238a (h := h) (P := P) f (i + 1) n (zSi Z 240 (i - 108) (i3 (P D M))) (by omega) (by omega) (by omega) (by rw [si_obj _ _ _ _ (by omega)]; exact hu) (fun x hx => by rw [si_obj _ _ _ _ (by omega)]; exact h9 x hx) (fun k hk x hx hix => by
      rw [si_fld _ _ _ _ (by omega)]; exact ha k hk x hx (by omega)) (fun k hk x hx hix => by
      by_cases q : 108 * k + x = i - 108
      · have e1 : k + 1 = D := by omega
        have e2 : x = M := by omega
        rw [q, si_same, e1, e2]
      · rw [si_fld _ _ _ _ (by omega)]; exact hb k hk x hx (by omega))
    refine ⟨Z1, ?_, eqU_tr eqU_p r2, r3⟩
    rw [f238_keeps_h12, show (1080 : Int32) = i3 1080 from rfl, if_neg (by rw [c_ge (by omega)]; omega), if_pos (in_p (by omega)), show (108 : Int32) = i3 108 from rfl, i3_sub, if_pos (in_p (by omega)), ix_i3 (by omega), ix_nat (by omega), show ((i : Int) - 108).toNat = i - 108 by omega, hv, let_eq, i3_s]
    exact r1
theorem m238 {h : Nat → Int} {U : Nat} {P : Nat → Nat → Int} (hU : U ≤ 10) (hp : ptR Z U P) (h9 : ∀ x, x < 108 → Z.1 239 x = i3 (h x)) : ∃ Z1, f238_keeps Z = some ((), Z1) ∧ eqU Z Z1 ∧ ptR Z1 (if U < 10 then U + 1 else 10) (psh U P h) := by
  unfold f238_keeps
  rw [hp.1, show (10 : Int32) = i3 10 from rfl]
  by_cases q : U < 10
  · obtain ⟨Z1, r1, r2, r3⟩ := m238b (h := h) 108 0 mjF Z U P (by omega) (by decide) q hp h9 (fun x hx => by omega)
    refine ⟨Z1, ?_, r2, by rw [if_pos q]; exact r3⟩
    rw [if_pos (by rw [c_ne (by omega)]; omega)]
    exact r1
  · obtain rfl : U = 10 := by omega
    obtain ⟨Z1, r1, r2, r3⟩ := m238a (h := h) (P := P) 972 108 mjF Z (by omega) (by omega) (by decide) hp.1 h9 (fun k hk x hx _ => hp.2 k hk x hx) (fun k hk x hx g => by omega)
    refine ⟨Z1, ?_, r2, by rw [if_neg (by omega)]; exact r3⟩
    rw [if_neg (by decide)]
    exact r1
theorem m239h {V : Nat} {Q : Nat → Int} (hV : V < 10) : ∀ (f i n : Nat) (Z : mjZt), i + f = 108 → f < n → Z.1 211 56 = i3 V → (∀ x, x < 108 → Z.1 240 (108 * V + x) = i3 (Q x)) → (∀ x, x < i → Z.1 239 x = i3 (Q x)) → ∃ Z1, f239_undo_h21 n (i3 i) Z = some (i3 V, Z1) ∧ (Z1.2 = Z.2 ∧ (∀ a, a ≠ 239 → Z1.1 a = Z.1 a) ∧ ∀ x, 108 ≤ x → Z1.1 239 x = Z.1 239 x) ∧ ∀ x, x < 108 → Z1.1 239 x = i3 (Q x)
  | f, i, 0, _, _, hn, _, _, _ => by omega
  | 0, i, n + 1, Z, hf, _, hu, _, hi => by
    obtain rfl : i = 108 := by omega
    exact ⟨Z, by rw [f239_undo_h21, if_pos (by decide), hu], ⟨rfl, fun _ _ => rfl, fun _ _ => rfl⟩, hi⟩
  | f + 1, i, n + 1, Z, hf, hn, hu, hQ, hi => by
    obtain ⟨Z1, r1, ⟨r2, r3, r4⟩, r5⟩ := m239h hV f (i + 1) n (zSi Z 239 i (i3 (Q i))) (by omega) (by omega) (by rw [si_obj _ _ _ _ (by omega)]; exact hu) (fun x hx => by rw [si_obj _ _ _ _ (by omega)]; exact hQ x hx) (fun x hx => by
      by_cases q : x = i
      · subst q; rw [si_same]
      · rw [si_fld _ _ _ _ (by omega)]; exact hi x (by omega))
    refine ⟨Z1, ?_, ⟨r2, fun a ha => by rw [r3 a ha, si_obj _ _ _ _ ha], fun x hx => by rw [r4 x hx, si_fld _ _ _ _ (by omega)]⟩, r5⟩
    rw [f239_undo_h21, show (108 : Int32) = i3 108 from rfl, if_neg (by rw [c_ge (by omega)]; omega), hu, i3_mul, i3_add, if_pos (in_p (by omega)), if_pos (in_p (by omega)), ix_nat (by omega), ix_i3 (by omega), show ((108 : Int) * V + i).toNat = 108 * V + i by omega, hQ i (by omega), let_eq, i3_s]
    exact r1
theorem m239 {U : Nat} {P : Nat → Nat → Int} (hU : U < 10) (hp : ptR Z (U + 1) P) : ∃ Z1, f239_undo Z = some (i3 U, Z1) ∧ (Z1.2 = Z.2 ∧ (∀ a, a ≠ 239 → a ≠ 211 → Z1.1 a = Z.1 a) ∧ (∀ f, f ≠ 56 → Z1.1 211 f = Z.1 211 f) ∧ ∀ x, 108 ≤ x → Z1.1 239 x = Z.1 239 x) ∧ ptR Z1 U P ∧ ∀ x, x < 108 → Z1.1 239 x = i3 (P U x) := by
  obtain ⟨Z1, r1, ⟨r2, r3, r4⟩, r5⟩ := m239h (V := U) (Q := P U) hU 108 0 mjF (zSi Z 211 56 (i3 U)) (by omega) (by decide) (si_same _ _ _ _) (fun x hx => by rw [si_obj _ _ _ _ (by omega)]; exact hp.2 U (by omega) x hx) (fun x hx => by omega)
  refine ⟨Z1, ?_, ⟨r2, fun a h1 h2 => by rw [r3 a h1, si_obj _ _ _ _ h2], fun f h1 => by rw [r3 211 (by omega), si_fld _ _ _ _ (by omega)], fun x hx => by rw [r4 x hx, si_obj _ _ _ _ (by omega)]⟩, ⟨by rw [r3 211 (by omega), si_same], fun k hk x hx => by rw [r3 240 (by omega), si_obj _ _ _ _ (by omega)]; exact hp.2 k (by omega) x hx⟩, r5⟩
  unfold f239_undo
  rw [hp.1, show (0 : Int32) = i3 0 from rfl, if_pos (by rw [c_ne (by omega)]; omega), i3_p, show ((U + 1 : Nat) : Int) - 1 = (U : Int) by omega, let_eq]
  exact r1
theorem m239n {P : Nat → Nat → Int} (hp : ptR Z 0 P) : f239_undo Z = some (i3 (-1), Z) := by
  unfold f239_undo
  rw [hp.1, if_neg (by decide)]; rfl
end PT
