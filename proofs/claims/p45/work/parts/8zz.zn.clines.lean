/-! the class reads lines: what of its book decides on faults -/
def cT9 (k : Nat) : Nat := cvN 8 (29793 + k)
def cR9 (k : Nat) : Nat := cvN 8 (29281 + k)
theorem nm9_ok : ∀ k, k < 4 → cT9 k < 2 ^ 40 ∧ cR9 k < 2 ^ 40 ∧ kpB (29793 + k) = false ∧ kpB (29281 + k) = false := by decide
theorem nm9_T : ∀ T, T ≤ 3 → (∀ k, k < T → fI (fun j => decide (cT9 j = cT9 k)) T 0 = ((k : Nat) : Int)) ∧ fI (fun j => decide (cT9 j = cT9 T)) T 0 = -1 ∧ ∀ r, r < 3 → fI (fun j => decide (cT9 j = cR9 r)) T 0 = -1 := by decide
theorem nm9_R : ∀ R, R ≤ 2 → (∀ k, k < 4 → fI (fun j => decide (cR9 j = cT9 k)) R 0 = -1) ∧ fI (fun j => decide (cR9 j = cR9 R)) R 0 = -1 := by decide
def MI9 (a : mjK) (Z : mjZt) (b Lg : Nat) : Prop := a.1.length ≤ 3 ∧ a.2.2.2.1 ≤ 2 ∧ a.2.2.1 ≤ 12 ∧ Z.1 b 0 = i3 (Lg : Nat) ∧ Z.1 b 5 = i3 (a.1.length : Nat) ∧ Z.1 b 6 = i3 (a.2.2.1 : Nat) ∧ Z.1 b 8 = i3 (a.2.2.2.1 : Nat) ∧ (∀ j, j < a.1.length → Z.1 (tmB b j) 5 = i3 (a.1.getD j 0 : Nat) ∧ 1 ≤ a.1.getD j 0 ∧ a.1.getD j 0 ≤ 9 ∧ Z.1 (tmB b j) 6 = i3 (a.2.1 j : Nat) ∧ a.2.1 j ≤ Lg ∧ Z.2.1 (tmB b j) 4 = i6 (cT9 j : Nat)) ∧ (∀ r, r < a.2.2.2.1 → Z.2.1 (b + 10) r = i6 (cR9 r : Nat)) ∧ Z.1 182 2 = bI a.2.2.2.2.1 ∧ Z.1 182 3 = bI a.2.2.2.2.2 ∧ Z.1 182 5 = 0 ∧ ∃ m : Nat, m ≤ 700 ∧ Z.1 (b + 1) 7 = i3 (m : Nat)
section CL9
variable {X : Nat → Nat} {n b p q N s Lg : Nat} {Z Z1 Z2 : mjZt} {a a2 : mjK} {ts us : List (Nat × Nat)}
theorem fI_no {pp : Nat → Bool} : ∀ f i, (∀ j, i ≤ j → j < i + f → pp j = false) → fI pp f i = -1
  | 0, _, _ => rfl
  | f + 1, i, h => by rw [fI, h i (by omega) (by omega), if_neg (by decide), fI_no f (i + 1) (fun j g1 g2 => h j (by omega) (by omega))]
theorem MI_of (h : MI9 a Z b Lg) (hb : b = 2 ∨ b = 92) (e : ∀ c, b ≤ c → c < b + 90 → Z2.1 c = Z.1 c ∧ Z2.2.1 c = Z.2.1 c) (e2 : Z2.1 182 2 = Z.1 182 2 ∧ Z2.1 182 3 = Z.1 182 3 ∧ Z2.1 182 5 = Z.1 182 5) : MI9 a Z2 b Lg := by
  obtain ⟨h1, h2, h3, h4, h5, h6, h7, h8, h9, h10, h11, h12, h13⟩ := h
  have tB : ∀ t, tmB b t = b + 18 + 5 * t := fun t => rfl
  refine ⟨h1, h2, h3, by rw [(e b (by omega) (by omega)).1]; exact h4, by rw [(e b (by omega) (by omega)).1]; exact h5, by rw [(e b (by omega) (by omega)).1]; exact h6, by rw [(e b (by omega) (by omega)).1]; exact h7, fun j hj => ?_, fun r hr => by rw [(e (b + 10) (by omega) (by omega)).2]; exact h9 r hr, by rw [e2.1]; exact h10, by rw [e2.2.1]; exact h11, by rw [e2.2.2]; exact h12, ?_⟩
  · have := tB j
    obtain ⟨g1, g2⟩ := e (tmB b j) (by omega) (by omega)
    rw [g1, g2]; exact h8 j hj
  · rw [(e (b + 1) (by omega) (by omega)).1]; exact h13
theorem MI_T2 (h : MI9 a Z b Lg) (hb : b = 2 ∨ b = 92) (e : eqT2 Z Z2) : MI9 a Z2 b Lg := MI_of h hb (fun c g1 g2 => e.2.1 c (by omega) (by omega)) ⟨e.2.2 2 (by omega), e.2.2 3 (by omega), e.2.2 5 (by omega)⟩
theorem MI_Tk (h : MI9 a Z b Lg) (hb : b = 2 ∨ b = 92) (e : eqTk Z Z2) : MI9 a Z2 b Lg := MI_T2 h hb (eqTk_2 e)
/-- teams and rules by name, lanes -/
theorem r8 (h : MI9 a Z b Lg) (hb : b = 2 ∨ b = 92) {j : Nat} (hj : j < a.1.length) : f8_runner b (i3 (j : Nat)) Z = some (tmB b j) := e8T hb h.2.2.2.2.1 hj (by have := h.1; omega)
theorem r25h (h : MI9 a Z b Lg) (hb : b = 2 ∨ b = 92) {W : Nat} (hW : W < 2 ^ 40) : ∀ f i N, i + f = a.1.length → f < N → f25_teamOfName_h2 N b (i6 (W : Nat)) (i3 (i : Nat)) Z = some (i3 (fI (fun j => decide (cT9 j = W)) f i))
  | 0, i, N, he, hN => by
    obtain ⟨N, rfl⟩ : ∃ N0, N = N0 + 1 := ⟨N - 1, by omega⟩
    have h1 := h.1
    rw [f25_teamOfName_h2, if_pos (is_b hb), h.2.2.2.2.1, if_pos (by rw [c_ge (by omega)]; omega)]
    rfl
  | f + 1, i, N, he, hN => by
    obtain ⟨N, rfl⟩ : ∃ N0, N = N0 + 1 := ⟨N - 1, by omega⟩
    have h1 := h.1
    obtain ⟨g1, g2, g3, g4, g5, g6⟩ := h.2.2.2.2.2.2.2.1 i (by omega)
    have c1 := (nm9_ok i (by omega)).1
    have p40 : (2 : Nat) ^ 40 = 1099511627776 := by decide
    rw [f25_teamOfName_h2, if_pos (is_b hb), h.2.2.2.2.1, if_neg (by rw [c_ge (by omega)]; omega), r8 h hb (by omega), mjBp_some, if_pos (is_tm hb i (by omega)), g6, fI]
    by_cases w : cT9 i = W
    · rw [if_neg (by rw [lg_ne6 (by omega)]; omega), if_pos (decide_eq_true w)]
    · rw [if_pos (by rw [lg_ne6 (by omega)]; omega), if_neg (by rw [decide_eq_false w]; decide), i3_s, r25h h hb hW f (i + 1) N (by omega) (by omega)]
theorem r25 (h : MI9 a Z b Lg) (hb : b = 2 ∨ b = 92) {W : Nat} (hW : W < 2 ^ 40) : f25_teamOfName b (i6 (W : Nat)) Z = some (i3 (fI (fun j => decide (cT9 j = W)) a.1.length 0)) := r25h h hb hW a.1.length 0 mjF (by omega) (by have := h.1; unfold mjF; omega)
theorem r26h (h : MI9 a Z b Lg) (hb : b = 2 ∨ b = 92) {W : Nat} (hW : W < 2 ^ 40) (hno : fI (fun j => decide (cR9 j = W)) a.2.2.2.1 0 = -1) : ∀ f i N, i + f = a.2.2.2.1 → f < N → fI (fun j => decide (cR9 j = W)) f i = -1 → f26_isNameTaken_h13 N b (i6 (W : Nat)) (i3 (i : Nat)) Z = some 0
  | 0, i, N, he, hN, hf => by
    obtain ⟨N, rfl⟩ : ∃ N0, N = N0 + 1 := ⟨N - 1, by omega⟩
    have h1 := h.2.1
    rw [f26_isNameTaken_h13, if_pos (is_b hb), h.2.2.2.2.2.2.1, if_pos (by rw [c_ge (by omega)]; omega)]
  | f + 1, i, N, he, hN, hf => by
    obtain ⟨N, rfl⟩ : ∃ N0, N = N0 + 1 := ⟨N - 1, by omega⟩
    have h1 := h.2.1
    have g9 := h.2.2.2.2.2.2.2.2.1 i (by omega)
    have c1 := (nm9_ok i (by omega)).2.1
    have p40 : (2 : Nat) ^ 40 = 1099511627776 := by decide
    have e22 : f22_nameOfRule b (i3 (i : Nat)) Z = some (i6 (cR9 i : Nat)) := by
      unfold f22_nameOfRule
      rw [if_pos (is_b hb), e21 (is_b10 hb).1 (is_b10 hb).2 (by omega) (by omega), mjBp_some, Int.toNat_natCast, g9]
    rw [fI] at hf
    have w : ¬ cR9 i = W := fun w => by
      rw [if_pos (decide_eq_true w)] at hf
      omega
    rw [if_neg (by rw [decide_eq_false w]; decide)] at hf
    rw [f26_isNameTaken_h13, if_pos (is_b hb), h.2.2.2.2.2.2.1, if_neg (by rw [c_ge (by omega)]; omega), e22, mjBp_some, if_pos (by rw [lg_ne6 (by omega)]; omega), i3_s]
    exact r26h h hb hW hno f (i + 1) N (by omega) (by omega) hf
theorem r26 (h : MI9 a Z b Lg) (hb : b = 2 ∨ b = 92) {W : Nat} (hW : W < 2 ^ 40) (h1 : fI (fun j => decide (cT9 j = W)) a.1.length 0 = -1) (h2 : fI (fun j => decide (cR9 j = W)) a.2.2.2.1 0 = -1) : f26_isNameTaken b (i6 (W : Nat)) Z = some 0 := by
  unfold f26_isNameTaken
  rw [if_pos (is_b hb), r25 h hb hW, mjBp_some, h1, if_pos (by decide)]
  exact r26h h hb hW h2 a.2.2.2.1 0 mjF (by omega) (by have := h.2.1; unfold mjF; omega) h2
theorem r24h (h : MI9 a Z b Lg) (hb : b = 2 ∨ b = 92) {l : Nat} (hl : l ≤ 9) (hno : ∀ j, j < a.1.length → a.1.getD j 0 ≠ l) : ∀ f i N, i + f = a.1.length → f < N → f24_teamInLane_h2 N b (i3 (l : Nat)) (i3 (i : Nat)) Z = some (i3 (-1))
  | 0, i, N, he, hN => by
    obtain ⟨N, rfl⟩ : ∃ N0, N = N0 + 1 := ⟨N - 1, by omega⟩
    have h1 := h.1
    rw [f24_teamInLane_h2, if_pos (is_b hb), h.2.2.2.2.1, if_pos (by rw [c_ge (by omega)]; omega)]
    rfl
  | f + 1, i, N, he, hN => by
    obtain ⟨N, rfl⟩ : ∃ N0, N = N0 + 1 := ⟨N - 1, by omega⟩
    have h1 := h.1
    obtain ⟨g1, g2, g3, g4, g5, g6⟩ := h.2.2.2.2.2.2.2.1 i (by omega)
    have w := hno i (by omega)
    rw [f24_teamInLane_h2, if_pos (is_b hb), h.2.2.2.2.1, if_neg (by rw [c_ge (by omega)]; omega), r8 h hb (by omega), mjBp_some, if_pos (is_tm hb i (by omega)), g1, if_pos (by rw [c_ne (by omega)]; omega), i3_s]
    exact r24h h hb hl hno f (i + 1) N (by omega) (by omega)
theorem r24 (h : MI9 a Z b Lg) (hb : b = 2 ∨ b = 92) {l : Nat} (hl : l ≤ 9) (hno : ∀ j, j < a.1.length → a.1.getD j 0 ≠ l) : f24_teamInLane b (i3 (l : Nat)) Z = some (-1) := r24h h hb hl hno a.1.length 0 mjF (by omega) (by have := h.1; unfold mjF; omega)
/-! tokens taken -/
theorem a_adv (hn : n ≤ 700) (hX : ∀ k, X k ≤ 255) {t : Nat × Nat} (hk : tkC X n Z p) (hp : p ≤ n) (hr : rdT X n p (t :: ts) q) : ∃ Z1, f68_advance Z = some ((), Z1) ∧ tkC X n Z1 (jE X n p) ∧ rdT X n (jE X n p) ts q ∧ jE X n p ≤ n ∧ eqTk Z Z1 := by
  obtain ⟨Z1, a1, a2, a3⟩ := adv hk hn hX hp
  exact ⟨Z1, a1, a2, hr.2.2, (jE_bd (X := X) hp).2.2.1, a3⟩
theorem a_num (hn : n ≤ 700) (hX : ∀ k, X k ≤ 255) {v : Nat} {lo hi : Int} (hk : tkC X n Z p) (hp : p ≤ n) (hr : rdT X n p ((2, v) :: ts) q) (hl : 0 ≤ lo ∧ hi ≤ 9999 ∧ 0 ≤ hi ∧ lo ≤ 9999) (hv : lo ≤ v ∧ (v : Int) ≤ hi) : ∃ Z1, f116_takeNumber (i3 lo) (i3 hi) Z = some (1, Z1) ∧ Z1.1 182 4 = i3 (v : Nat) ∧ tkC X n Z1 (jE X n p) ∧ rdT X n (jE X n p) ts q ∧ jE X n p ≤ n ∧ eqT2 Z Z1 := by
  obtain ⟨r1, r2, r3⟩ := hr
  have e : jV X n p = v := r2
  obtain ⟨Z1, a1, a2, a3, a4⟩ := c_num hk hn hX hp r1 hl (by rw [e]; exact hv)
  rw [e] at a2
  exact ⟨Z1, a1, a2, a3, r3, (jE_bd (X := X) hp).2.2.1, a4⟩
theorem a_kd {t : Nat × Nat} (hk : tkC X n Z p) (hr : rdT X n p (t :: ts) q) (ht : t.1 = 1 ∨ t.1 = 2 ∨ t.1 = 3) : Z.1 183 3 = i3 ((if t.1 = 3 then t.2 else t.1 : Nat) : Int) := by
  have h3 : Z.1 183 3 = i3 (kd X n p) := hk.2.2.1
  rw [h3, kd_tok hr.1 hr.2.1 ht]
theorem a_sgn (hn : n ≤ 700) (hX : ∀ k, X k ≤ 255) {c : Nat} (hk : tkC X n Z p) (hp : p ≤ n) (hr : rdT X n p ((3, c) :: ts) q) : ∃ Z1, f117_takeSign (i3 (c : Nat)) Z = some (1, Z1) ∧ tkC X n Z1 (jE X n p) ∧ rdT X n (jE X n p) ts q ∧ jE X n p ≤ n ∧ eqTk Z Z1 := by
  obtain ⟨Z1, a1, a2, a3, a4, a5⟩ := a_adv hn hX hk hp hr
  refine ⟨Z1, ?_, a2, a3, a4, a5⟩
  have k := a_kd hk hr (Or.inr (Or.inr rfl))
  have k' : Z.1 183 3 = i3 (c : Nat) := k
  unfold f117_takeSign
  rw [k', if_pos (show mjCmp .eq (i3 (c : Nat)) (i3 (c : Nat)) = true from decide_eq_true rfl), a1, mjBd_some]
/-- a name -/
theorem a_nm (hX : ∀ k, X k ≤ 255) {W : Nat} (hk : tkC X n Z p) (hr : rdT X n p ((1, W) :: ts) q) (hw : kpB W = false) : f119_isName Z = some 1 ∧ Z.2.1 183 6 = i6 (cvN 8 W : Nat) := by
  obtain ⟨r1, r2, r3⟩ := hr
  have e : jN X n p = W := r2
  have s1 : jS X n p = 1 := r1
  refine ⟨?_, ?_⟩
  · rw [e119 hk hX]
    unfold isNm
    rw [s1, e, hw]
    rfl
  · have := hk.2.2.2.2.2 s1
    rw [e] at this
    exact this
/-- one of a group of words -/
theorem a_ix {L : List Nat} {M k W : Nat} (hr : rdT X n p ((1, W) :: ts) q) (hW : gX L M W = ((k : Nat) : Int)) : ixT X n p L M = ((k : Nat) : Int) := by
  obtain ⟨r1, r2, r3⟩ := hr
  have e : jN X n p = W := r2
  have s1 : jS X n p = 1 := r1
  unfold ixT
  rw [if_pos s1, e, hW]
end CL9
