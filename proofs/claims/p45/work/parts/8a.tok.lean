/-! THE TEXT AS TOKENS: sort (0 over, 1 word, 2 number, 3 sign, 4 bad), place, end, value, word -/
def wsF (X : Nat → Nat) (n : Nat) : Nat → Nat → Nat
  | 0, p => p
  | f + 1, p => if p < n ∧ (X p = 32 ∨ X p = 10) then wsF X n f (p + 1) else p
def runF (X : Nat → Nat) (n lo hi : Nat) : Nat → Nat → Nat
  | 0, _ => 0
  | f + 1, p => if p < n ∧ lo ≤ X p ∧ X p ≤ hi then runF X n lo hi f (p + 1) + 1 else 0
def wdF (X : Nat → Nat) (p : Nat) : Nat → Nat
  | 0 => 0
  | k + 1 => wdF X p k * 256 + X (p + k)
def cwF (X : Nat → Nat) (p : Nat) : Nat → Nat
  | 0 => 0
  | k + 1 => cwF X p k + (X (p + k) - 96) * 32 ^ k
def nuF (X : Nat → Nat) (p : Nat) : Nat → Nat
  | 0 => 0
  | k + 1 => nuF X p k * 10 + (X (p + k) - 48)
def isSg (c : Nat) : Bool := decide (c = 59 ∨ c = 43 ∨ c = 45 ∨ c = 42 ∨ c = 40 ∨ c = 41 ∨ c = 123 ∨ c = 125 ∨ c = 60 ∨ c = 62 ∨ c = 61)
def jQ (X : Nat → Nat) (n p : Nat) : Nat := wsF X n (n - p) p
def jLr (X : Nat → Nat) (n q : Nat) : Nat := runF X n 97 122 (n - q) q
def jDr (X : Nat → Nat) (n q : Nat) : Nat := runF X n 48 57 (n - q) q
def isLe (c : Nat) : Bool := decide (97 ≤ c ∧ c ≤ 122)
def isDi (c : Nat) : Bool := decide (48 ≤ c ∧ c ≤ 57)
/-- of the token at q -/
def uS (X : Nat → Nat) (n q : Nat) : Nat := if n ≤ q then 0 else if isLe (X q) = true then (if 8 < jLr X n q then 4 else 1) else if isDi (X q) = true then (if 4 < jDr X n q then 4 else 2) else if isSg (X q) = true then 3 else 4
def uE (X : Nat → Nat) (n q : Nat) : Nat := if n ≤ q then q else if isLe (X q) = true then q + jLr X n q else if isDi (X q) = true then q + jDr X n q else q + 1
def uV (X : Nat → Nat) (n q : Nat) : Nat := if n ≤ q then 0 else if isLe (X q) = true then 0 else if isDi (X q) = true then nuF X q (min (jDr X n q) 4) else X q
def uN (X : Nat → Nat) (n q : Nat) : Nat := if n ≤ q then 0 else if isLe (X q) = true then wdF X q (min (jLr X n q) 8) else 0
/-- of the token that is read from p on -/
def jS (X : Nat → Nat) (n p : Nat) : Nat := uS X n (jQ X n p)
def jE (X : Nat → Nat) (n p : Nat) : Nat := uE X n (jQ X n p)
def jV (X : Nat → Nat) (n p : Nat) : Nat := uV X n (jQ X n p)
def jN (X : Nat → Nat) (n p : Nat) : Nat := uN X n (jQ X n p)
theorem ws_bd (X : Nat → Nat) (n : Nat) : ∀ f p, p ≤ wsF X n f p ∧ wsF X n f p ≤ p + f
  | 0, p => ⟨Nat.le_refl _, Nat.le_refl _⟩
  | f + 1, p => by
    have h := ws_bd X n f (p + 1)
    rw [wsF]
    split <;> omega
theorem ws_no {X : Nat → Nat} {n : Nat} : ∀ f p, p + f = n → wsF X n f p < n → X (wsF X n f p) ≠ 32 ∧ X (wsF X n f p) ≠ 10
  | 0, p, h, g => by rw [wsF] at g; omega
  | f + 1, p, h, g => by
    rw [wsF] at g ⊢
    by_cases q : p < n ∧ (X p = 32 ∨ X p = 10)
    · rw [if_pos q] at g ⊢
      exact ws_no f (p + 1) (by omega) g
    · rw [if_neg q] at g ⊢
      omega
theorem run_bd (X : Nat → Nat) (n lo hi : Nat) : ∀ f p, runF X n lo hi f p ≤ f
  | 0, p => Nat.le_refl _
  | f + 1, p => by
    have h := run_bd X n lo hi f (p + 1)
    rw [runF]
    split <;> omega
theorem run_all {X : Nat → Nat} {n lo hi : Nat} : ∀ f p j, j < runF X n lo hi f p → p + j < n ∧ lo ≤ X (p + j) ∧ X (p + j) ≤ hi
  | 0, p, j, h => by rw [runF] at h; omega
  | f + 1, p, j, h => by
    rw [runF] at h
    by_cases q : p < n ∧ lo ≤ X p ∧ X p ≤ hi
    · rw [if_pos q] at h
      cases j with
      | zero => exact q
      | succ j =>
        have := run_all (X := X) (n := n) (lo := lo) (hi := hi) f (p + 1) j (by omega)
        rw [show p + 1 + j = p + (j + 1) by omega] at this
        exact this
    · rw [if_neg q] at h; omega
theorem run_pos {X : Nat → Nat} {n lo hi : Nat} {q : Nat} (h : q < n) (h1 : lo ≤ X q ∧ X q ≤ hi) : 1 ≤ runF X n lo hi (n - q) q := by
  obtain ⟨f, hf⟩ : ∃ f, n - q = f + 1 := ⟨n - q - 1, by omega⟩
  rw [hf, runF, if_pos ⟨h, h1⟩]; omega
theorem jQ_bd {X : Nat → Nat} {n p : Nat} (h : p ≤ n) : p ≤ jQ X n p ∧ jQ X n p ≤ n := by
  have := ws_bd X n (n - p) p
  unfold jQ; omega
theorem uE_bd {X : Nat → Nat} {n q : Nat} (h : q ≤ n) : q ≤ uE X n q ∧ uE X n q ≤ n ∧ (q < n → q < uE X n q) := by
  unfold uE
  by_cases q0 : n ≤ q
  · rw [if_pos q0]; omega
  · rw [if_neg q0]
    cases q1 : isLe (X q) with
    | true =>
      have h1 : 97 ≤ X q ∧ X q ≤ 122 := of_decide_eq_true q1
      have h2 := run_pos (n := n) (by omega) h1
      have h3 := run_bd X n 97 122 (n - q) q
      rw [if_pos rfl]; unfold jLr; omega
    | false =>
      rw [if_neg (by decide)]
      cases q2 : isDi (X q) with
      | true =>
        have h1 : 48 ≤ X q ∧ X q ≤ 57 := of_decide_eq_true q2
        have h2 := run_pos (n := n) (by omega) h1
        have h3 := run_bd X n 48 57 (n - q) q
        rw [if_pos rfl]; unfold jDr; omega
      | false => rw [if_neg (by decide)]; omega
theorem jE_bd {X : Nat → Nat} {n p : Nat} (h : p ≤ n) : jQ X n p ≤ jE X n p ∧ p ≤ jE X n p ∧ jE X n p ≤ n ∧ (jS X n p ≠ 0 → p < jE X n p) := by
  have h1 := jQ_bd (X := X) h
  have h2 := uE_bd (X := X) h1.2
  refine ⟨h2.1, by unfold jE; omega, h2.2.1, fun g => ?_⟩
  have : jQ X n p < n := by
    rcases Nat.lt_or_ge (jQ X n p) n with q | q
    · exact q
    · exact absurd (by unfold jS uS; rw [if_pos q]) g
  unfold jE
  omega
theorem nu_bd {X : Nat → Nat} {p : Nat} : ∀ k, (∀ j, j < k → X (p + j) ≤ 57) → nuF X p k < 10 ^ k
  | 0, _ => by rw [nuF]; decide
  | k + 1, h => by
    have h1 := nu_bd k (fun j hj => h j (by omega))
    have h2 := h k (by omega)
    rw [nuF, Nat.pow_succ]
    omega
theorem jV_bd {X : Nat → Nat} {n p : Nat} (hX : ∀ k, X k ≤ 255) : jV X n p ≤ 9999 := by
  unfold jV uV
  split
  · omega
  · split
    · omega
    · split
      · have := nu_bd (X := X) (p := jQ X n p) (min (jDr X n (jQ X n p)) 4) (fun j hj => (run_all (X := X) (n := n) (lo := 48) (hi := 57) (n - jQ X n p) (jQ X n p) j (by unfold jDr at hj; omega)).2.2)
        have h2 : 10 ^ min (jDr X n (jQ X n p)) 4 ≤ 10 ^ 4 := Nat.pow_le_pow_right (by decide) (by omega)
        omega
      · have := hX (jQ X n p); omega
/-! words: of 8 bits, of 5 bits a letter -/
theorem wd_nm {X : Nat → Nat} {p : Nat} : ∀ k, (∀ j, j < k → 97 ≤ X (p + j) ∧ X (p + j) ≤ 122) → nmF k (wdF X p k) ∧ nmL k (wdF X p k) = k ∧ cvN k (wdF X p k) = cwF X p k ∧ (0 < k → 0 < wdF X p k)
  | 0, _ => ⟨rfl, rfl, rfl, fun h => by omega⟩
  | k + 1, h => by
    obtain ⟨h1, h2, h3, h4⟩ := wd_nm k (fun j hj => h j (by omega))
    have h5 := h k (by omega)
    have e1 : wdF X p (k + 1) / 256 = wdF X p k := by rw [wdF]; omega
    have e2 : wdF X p (k + 1) % 256 = X (p + k) := by rw [wdF]; omega
    have e3 : wdF X p (k + 1) ≠ 0 := by rw [wdF]; omega
    refine ⟨Or.inr ⟨by omega, by omega, by rw [e1]; exact h1⟩, ?_, ?_, fun _ => by omega⟩
    · rw [nmL, if_neg e3, e1, h2]
    · rw [cvN, if_neg e3, e1, e2, h2, h3, cwF]
theorem nm_up : ∀ f g w, f ≤ g → nmF f w → nmF g w ∧ nmL g w = nmL f w ∧ cvN g w = cvN f w
  | 0, g, w, _, h => by
    have h0 : w = 0 := h
    subst h0
    refine ⟨nm_0 g, ?_, ?_⟩
    · cases g with
      | zero => rfl
      | succ g => rfl
    · cases g with
      | zero => rfl
      | succ g => rfl
  | f + 1, 0, w, hg, _ => by omega
  | f + 1, g + 1, w, hg, h => by
    by_cases q : w = 0
    · subst q
      exact ⟨nm_0 _, by rw [nmL, nmL, if_pos rfl, if_pos rfl], by rw [cvN, cvN, if_pos rfl, if_pos rfl]⟩
    · rcases h with h | ⟨h1, h2, h3⟩
      · exact absurd h q
      · obtain ⟨i1, i2, i3'⟩ := nm_up f g (w / 256) (by omega) h3
        exact ⟨Or.inr ⟨h1, h2, i1⟩, by rw [nmL, nmL, if_neg q, if_neg q, i2], by rw [cvN, cvN, if_neg q, if_neg q, i2, i3']⟩
theorem wd_8 {X : Nat → Nat} {p k : Nat} (hk : k ≤ 8) (h : ∀ j, j < k → 97 ≤ X (p + j) ∧ X (p + j) ≤ 122) : nmF 8 (wdF X p k) ∧ cvN 8 (wdF X p k) = cwF X p k ∧ (0 < k → 0 < wdF X p k) := by
  obtain ⟨h1, h2, h3, h4⟩ := wd_nm k h
  obtain ⟨g1, g2, g3⟩ := nm_up k 8 _ hk h1
  exact ⟨g1, by rw [g3, h3], h4⟩
theorem cw_lt {X : Nat → Nat} {p : Nat} : ∀ k, (∀ j, j < k → X (p + j) ≤ 122) → cwF X p k < 32 ^ k
  | 0, _ => by rw [cwF]; decide
  | k + 1, h => by
    have h1 := cw_lt k (fun j hj => h j (by omega))
    have h2 := h k (by omega)
    have h4 := Nat.mul_le_mul_right (32 ^ k) (show X (p + k) - 96 ≤ 26 by omega)
    rw [cwF, Nat.pow_succ]
    generalize 32 ^ k = P at *
    omega
theorem wd_lt {X : Nat → Nat} {p : Nat} : ∀ k, (∀ j, j < k → X (p + j) ≤ 122) → wdF X p k < 256 ^ k
  | 0, _ => by rw [wdF]; decide
  | k + 1, h => by
    have h1 := wd_lt k (fun j hj => h j (by omega))
    have h2 := h k (by omega)
    rw [wdF, Nat.pow_succ]
    generalize 256 ^ k = P at *
    omega
theorem cv_lo : ∀ f w, nmF f w → w ≠ 0 → 32 ^ (nmL f w - 1) ≤ cvN f w
  | 0, w, h, q => absurd h q
  | f + 1, w, h, q => by
    rcases h with h | ⟨h1, h2, h3⟩
    · exact absurd h q
    · rw [nmL, if_neg q, cvN, if_neg q, Nat.add_sub_cancel]
      have := Nat.mul_le_mul_right (32 ^ nmL f (w / 256)) (show 1 ≤ w % 256 - 96 by omega)
      omega
theorem cv_inj : ∀ f w v, nmF f w → nmF f v → cvN f w = cvN f v → w = v
  | 0, w, v, h, g, _ => by
    have h1 : w = 0 := h
    have g1 : v = 0 := g
    omega
  | f + 1, w, v, h, g, e => by
    by_cases q : w = 0
    · by_cases r : v = 0
      · omega
      · have := cv_lo (f + 1) v g r
        have p := Nat.pow_pos (n := nmL (f + 1) v - 1) (show 0 < 32 by decide)
        rw [q, cvN, if_pos rfl] at e
        omega
    · by_cases r : v = 0
      · have := cv_lo (f + 1) w h q
        have p := Nat.pow_pos (n := nmL (f + 1) w - 1) (show 0 < 32 by decide)
        rw [r, show cvN (f + 1) 0 = 0 by rw [cvN, if_pos rfl]] at e
        omega
      · rcases h with h | ⟨h1, h2, h3⟩
        · exact absurd h q
        · rcases g with g | ⟨g1, g2, g3⟩
          · exact absurd g r
          · rw [cvN, cvN, if_neg q, if_neg r] at e
            have lA := cv_lt f _ h3
            have lB := cv_lt f _ g3
            have ih := cv_inj f (w / 256) (v / 256) h3 g3
            generalize hA : cvN f (w / 256) = A at *
            generalize hB : cvN f (v / 256) = B at *
            generalize hn : nmL f (w / 256) = a at *
            generalize hm : nmL f (v / 256) = b at *
            have ab : a = b := by
              rcases Nat.lt_trichotomy a b with k | k | k
              · have h6 : 32 ^ (a + 1) ≤ 32 ^ b := Nat.pow_le_pow_right (by decide) (by omega)
                have h7 := Nat.mul_le_mul_right (32 ^ a) (show w % 256 - 96 ≤ 26 by omega)
                have h8 := Nat.mul_le_mul_right (32 ^ b) (show 1 ≤ v % 256 - 96 by omega)
                rw [Nat.pow_succ] at h6
                generalize 32 ^ a = P at *
                generalize 32 ^ b = Q at *
                omega
              · exact k
              · have h6 : 32 ^ (b + 1) ≤ 32 ^ a := Nat.pow_le_pow_right (by decide) (by omega)
                have h7 := Nat.mul_le_mul_right (32 ^ b) (show v % 256 - 96 ≤ 26 by omega)
                have h8 := Nat.mul_le_mul_right (32 ^ a) (show 1 ≤ w % 256 - 96 by omega)
                rw [Nat.pow_succ] at h6
                generalize 32 ^ a = P at *
                generalize 32 ^ b = Q at *
                omega
            subst ab
            have m1 : A = B := by
              have := congrArg (· % 32 ^ a) e
              simpa [Nat.add_mul_mod_self_right, Nat.mod_eq_of_lt lA, Nat.mod_eq_of_lt lB] using this
            have m2 : w % 256 - 96 = v % 256 - 96 := by
              rw [m1] at e
              exact Nat.eq_of_mul_eq_mul_right (Nat.pow_pos (n := a) (show 0 < 32 by decide)) (Nat.add_left_cancel e)
            have := ih m1
            omega
theorem or_shl {a c k : Nat} (hk : k < 64) (ha : a < 2 ^ k) : i6 (a : Int) ||| (i6 (c : Int) <<< ((i3 (k : Int)).toInt64 &&& 63)) = i6 ((a + c * 2 ^ k : Nat) : Int) := by
  refine b6_ext (fun j hj => ?_)
  rw [b6_or, b6_shl hk _ hj, b6_nat hj, b6_nat hj, Nat.add_comm a, Nat.mul_comm c, Nat.testBit_two_pow_mul_add _ ha]
  by_cases q : j < k
  · rw [if_pos q, decide_eq_false (by omega), Bool.false_and, Bool.or_false]
  · rw [if_neg q, decide_eq_true (by omega), Bool.true_and, b6_nat (by omega), tb_big ha (by omega), Bool.false_or]
theorem lg_ne6 {a b : Int} (h : -9223372036854775808 ≤ a ∧ a ≤ 9223372036854775807 ∧ -9223372036854775808 ≤ b ∧ b ≤ 9223372036854775807) : (mjCmp .ne (lg_cmp (i6 a) (i6 b)) 0 = true) = ¬ (a = b) := by
  rcases Int.lt_trichotomy a b with q | q | q
  · rw [lg6_lt (by omega)]; exact propext ⟨fun _ => by omega, fun _ => by decide⟩
  · rw [lg6_eq q]; exact propext ⟨fun g => absurd g (by decide), fun g => absurd q g⟩
  · rw [lg6_gt (by omega)]; exact propext ⟨fun _ => by omega, fun _ => by decide⟩
theorem lg_eq6 {a b : Int} (h : -9223372036854775808 ≤ a ∧ a ≤ 9223372036854775807 ∧ -9223372036854775808 ≤ b ∧ b ≤ 9223372036854775807) : (mjCmp .eq (lg_cmp (i6 a) (i6 b)) 0 = true) = (a = b) := by
  rcases Int.lt_trichotomy a b with q | q | q
  · rw [lg6_lt (by omega)]; exact propext ⟨fun g => absurd g (by decide), fun g => by omega⟩
  · rw [lg6_eq q]; exact propext ⟨fun _ => q, fun _ => by decide⟩
  · rw [lg6_gt (by omega)]; exact propext ⟨fun g => absurd g (by decide), fun g => by omega⟩
theorem zs_self (Z : mjZt) (a k : Nat) : zSi Z a k (Z.1 a k) = Z := by
  refine Prod.ext ?_ rfl
  funext i j
  show (if i = a then (if j = k then Z.1 a k else Z.1 i j) else Z.1 i j) = Z.1 i j
  split
  · rename_i h; subst h; split
    · rename_i g; subst g; rfl
    · rfl
  · rfl
theorem zs_si (Z : mjZt) (a k : Nat) (v w : Int32) : zSi (zSi Z a k v) a k w = zSi Z a k w := by
  refine Prod.ext ?_ rfl
  funext i j
  show (if i = a then (if j = k then w else (if i = a then (if j = k then v else Z.1 i j) else Z.1 i j)) else (if i = a then (if j = k then v else Z.1 i j) else Z.1 i j)) = (if i = a then (if j = k then w else Z.1 i j) else Z.1 i j)
  split
  · split <;> rfl
  · rfl
def bI (b : Bool) : Int32 := if b = true then 1 else 0
theorem zl_zl (Z : mjZt) (a k : Nat) (v w : Int64) : zSl (zSl Z a k v) a k w = zSl Z a k w := by
  refine Prod.ext rfl (Prod.ext ?_ rfl)
  funext i j
  show (if i = a then (if j = k then w else (if i = a then (if j = k then v else Z.2.1 i j) else Z.2.1 i j)) else (if i = a then (if j = k then v else Z.2.1 i j) else Z.2.1 i j)) = (if i = a then (if j = k then w else Z.2.1 i j) else Z.2.1 i j)
  split
  · split <;> rfl
  · rfl
