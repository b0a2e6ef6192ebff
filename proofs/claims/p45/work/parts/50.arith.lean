/-! NUMBERS: an Int32, an Int64 as the Int that it is -/
def i3 (z : Int) : Int32 := Int32.ofInt z
def i6 (z : Int) : Int64 := Int64.ofInt z
theorem i3_ex (x : Int32) : ∃ z : Int, x = i3 z ∧ -2147483648 ≤ z ∧ z ≤ 2147483647 := ⟨x.toInt, (Int32.ofInt_toInt x).symm, by have := x.le_toInt; omega, by have := x.toInt_lt; omega⟩
theorem i3_toInt (x : Int32) : i3 x.toInt = x := Int32.ofInt_toInt x
theorem i3_int {z : Int} (h : -2147483648 ≤ z ∧ z ≤ 2147483647) : (i3 z).toInt = z := Int32.toInt_ofInt_of_le (by omega) (by omega)
theorem i6_int {z : Int} (h : -9223372036854775808 ≤ z ∧ z ≤ 9223372036854775807) : (i6 z).toInt = z := Int64.toInt_ofInt_of_le (by omega) (by omega)
theorem i6_toInt (x : Int64) : i6 x.toInt = x := Int64.ofInt_toInt x
theorem i3_inj {a b : Int} (h : -2147483648 ≤ a ∧ a ≤ 2147483647 ∧ -2147483648 ≤ b ∧ b ≤ 2147483647) : i3 a = i3 b ↔ a = b := ⟨fun e => by
  have := congrArg Int32.toInt e
  rwa [i3_int (by omega), i3_int (by omega)] at this, fun e => by rw [e]⟩
theorem i6_inj {a b : Int} (h : -9223372036854775808 ≤ a ∧ a ≤ 9223372036854775807 ∧ -9223372036854775808 ≤ b ∧ b ≤ 9223372036854775807) : i6 a = i6 b ↔ a = b := ⟨fun e => by
  have := congrArg Int64.toInt e
  rwa [i6_int (by omega), i6_int (by omega)] at this, fun e => by rw [e]⟩
theorem i3_add (a b : Int) : i3 a + i3 b = i3 (a + b) := (Int32.ofInt_add a b).symm
theorem i3_sub (a b : Int) : i3 a - i3 b = i3 (a - b) := (Int32.ofInt_sub a b).symm
theorem i3_mul (a b : Int) : i3 a * i3 b = i3 (a * b) := (Int32.ofInt_mul a b).symm
theorem i3_neg (a : Int) : -(i3 a) = i3 (-a) := (Int32.ofInt_neg a).symm
theorem i6_add (a b : Int) : i6 a + i6 b = i6 (a + b) := (Int64.ofInt_add a b).symm
theorem i6_sub (a b : Int) : i6 a - i6 b = i6 (a - b) := (Int64.ofInt_sub a b).symm
theorem i6_mul (a b : Int) : i6 a * i6 b = i6 (a * b) := (Int64.ofInt_mul a b).symm
theorem i6_neg (a : Int) : -(i6 a) = i6 (-a) := (Int64.ofInt_neg a).symm
theorem i3_div {a b : Int} (h : 0 ≤ a ∧ a ≤ 2147483647 ∧ 0 < b ∧ b ≤ 2147483647) : i3 a / i3 b = i3 (a / b) := by
  have e1 : Int32.minValue.toInt = -2147483648 := by decide
  have e2 : Int32.maxValue.toInt = 2147483647 := by decide
  have := Int32.ofInt_tdiv (a := a) (b := b) (by omega) (by omega) (by omega) (by omega)
  rw [Int.tdiv_eq_ediv_of_nonneg h.1] at this
  exact this.symm
theorem i3_ofNat (n : Nat) : Int32.ofNat n = i3 (n : Int) := Int32.ofInt_eq_ofNat.symm
theorem i36 {z : Int} (h : -2147483648 ≤ z ∧ z ≤ 2147483647) : (i3 z).toInt64 = i6 z := by
  apply Int64.toInt.inj
  rw [Int32.toInt_toInt64, i3_int h, i6_int (by omega)]
theorem i63 (z : Int) : (i6 z).toInt32 = i3 z := Int64.toInt32_ofInt
theorem c_lt {a b : Int} (h : -2147483648 ≤ a ∧ a ≤ 2147483647 ∧ -2147483648 ≤ b ∧ b ≤ 2147483647) : (mjCmp .lt (i3 a) (i3 b) = true) = (a < b) := by
  simp only [mjCmp, decide_eq_true_eq, Int32.lt_iff_toInt_lt, i3_int ⟨h.1, h.2.1⟩, i3_int h.2.2]
theorem c_ge {a b : Int} (h : -2147483648 ≤ a ∧ a ≤ 2147483647 ∧ -2147483648 ≤ b ∧ b ≤ 2147483647) : (mjCmp .ge (i3 a) (i3 b) = true) = (b ≤ a) := by
  simp only [mjCmp, decide_eq_true_eq, Int32.le_iff_toInt_le, i3_int ⟨h.1, h.2.1⟩, i3_int h.2.2]
theorem c_gt {a b : Int} (h : -2147483648 ≤ a ∧ a ≤ 2147483647 ∧ -2147483648 ≤ b ∧ b ≤ 2147483647) : (mjCmp .gt (i3 a) (i3 b) = true) = (b < a) := by
  simp only [mjCmp, decide_eq_true_eq, Int32.lt_iff_toInt_lt, i3_int ⟨h.1, h.2.1⟩, i3_int h.2.2]
theorem c_le {a b : Int} (h : -2147483648 ≤ a ∧ a ≤ 2147483647 ∧ -2147483648 ≤ b ∧ b ≤ 2147483647) : (mjCmp .le (i3 a) (i3 b) = true) = (a ≤ b) := by
  simp only [mjCmp, decide_eq_true_eq, Int32.le_iff_toInt_le, i3_int ⟨h.1, h.2.1⟩, i3_int h.2.2]
theorem c_eq {a b : Int} (h : -2147483648 ≤ a ∧ a ≤ 2147483647 ∧ -2147483648 ≤ b ∧ b ≤ 2147483647) : (mjCmp .eq (i3 a) (i3 b) = true) = (a = b) := by
  simp only [mjCmp, decide_eq_true_eq, i3_inj h]
theorem c_ne {a b : Int} (h : -2147483648 ≤ a ∧ a ≤ 2147483647 ∧ -2147483648 ≤ b ∧ b ≤ 2147483647) : (mjCmp .ne (i3 a) (i3 b) = true) = (¬ a = b) := by
  simp only [mjCmp, decide_eq_true_eq, i3_inj h, ne_eq]
/-- the conditions, told: true (t), false (f) -/
theorem c_lt_t {a b : Int} (h : -2147483648 ≤ a ∧ b ≤ 2147483647 ∧ a < b) : (mjCmp .lt (i3 a) (i3 b) = true) = True := by
  rw [c_lt (by omega)]; exact eq_true h.2.2
theorem c_lt_f {a b : Int} (h : a ≤ 2147483647 ∧ -2147483648 ≤ b ∧ b ≤ a) : (mjCmp .lt (i3 a) (i3 b) = true) = False := by
  rw [c_lt (by omega)]; exact eq_false (by omega)
theorem c_ge_t {a b : Int} (h : a ≤ 2147483647 ∧ -2147483648 ≤ b ∧ b ≤ a) : (mjCmp .ge (i3 a) (i3 b) = true) = True := by
  rw [c_ge (by omega)]; exact eq_true h.2.2
theorem c_ge_f {a b : Int} (h : -2147483648 ≤ a ∧ b ≤ 2147483647 ∧ a < b) : (mjCmp .ge (i3 a) (i3 b) = true) = False := by
  rw [c_ge (by omega)]; exact eq_false (by omega)
theorem c_gt_t {a b : Int} (h : a ≤ 2147483647 ∧ -2147483648 ≤ b ∧ b < a) : (mjCmp .gt (i3 a) (i3 b) = true) = True := by
  rw [c_gt (by omega)]; exact eq_true h.2.2
theorem c_gt_f {a b : Int} (h : -2147483648 ≤ a ∧ b ≤ 2147483647 ∧ a ≤ b) : (mjCmp .gt (i3 a) (i3 b) = true) = False := by
  rw [c_gt (by omega)]; exact eq_false (by omega)
theorem c_le_t {a b : Int} (h : -2147483648 ≤ a ∧ b ≤ 2147483647 ∧ a ≤ b) : (mjCmp .le (i3 a) (i3 b) = true) = True := by
  rw [c_le (by omega)]; exact eq_true h.2.2
theorem c_le_f {a b : Int} (h : a ≤ 2147483647 ∧ -2147483648 ≤ b ∧ b < a) : (mjCmp .le (i3 a) (i3 b) = true) = False := by
  rw [c_le (by omega)]; exact eq_false (by omega)
theorem c_eq_t {a b : Int} (h : a = b) : (mjCmp .eq (i3 a) (i3 b) = true) = True := by
  rw [h]; simp [mjCmp]
theorem c_eq_f {a b : Int} (h : -2147483648 ≤ a ∧ a ≤ 2147483647 ∧ -2147483648 ≤ b ∧ b ≤ 2147483647 ∧ ¬ a = b) : (mjCmp .eq (i3 a) (i3 b) = true) = False := by
  rw [c_eq (by omega)]; exact eq_false (by omega)
theorem c_ne_t {a b : Int} (h : -2147483648 ≤ a ∧ a ≤ 2147483647 ∧ -2147483648 ≤ b ∧ b ≤ 2147483647 ∧ ¬ a = b) : (mjCmp .ne (i3 a) (i3 b) = true) = True := by
  rw [c_ne (by omega)]; exact eq_true (by omega)
theorem c_ne_f {a b : Int} (h : a = b) : (mjCmp .ne (i3 a) (i3 b) = true) = False := by
  rw [h]; simp [mjCmp]
theorem in_t {a : Int} {n : Nat} (h : 0 ≤ a ∧ a < n ∧ a ≤ 2147483647) : (mjIn (i3 a) n = true) = True := by
  simp only [mjIn, decide_eq_true_eq, i3_int (z := a) (by omega)]; exact eq_true ⟨h.1, h.2.1⟩
theorem ix_i3 {a : Int} (h : 0 ≤ a ∧ a ≤ 2147483647) : mjIx (i3 a) = a.toNat := by
  rw [mjIx, i3_int (by omega)]
theorem ix_nat {a : Nat} (h : (a : Int) ≤ 2147483647) : mjIx (i3 (a : Int)) = a := by
  rw [ix_i3 (by omega)]; omega
theorem max_i3 {a b : Int} (h : -2147483648 ≤ a ∧ a ≤ 2147483647 ∧ -2147483648 ≤ b ∧ b ≤ 2147483647) : mjMax (i3 a) (i3 b) = i3 (max a b) := by
  rw [mjMax]
  simp only [Int32.lt_iff_toInt_lt, i3_int ⟨h.1, h.2.1⟩, i3_int h.2.2]
  split
  · rw [Int.max_eq_right (by omega)]
  · rw [Int.max_eq_left (by omega)]
theorem min_i3 {a b : Int} (h : -2147483648 ≤ a ∧ a ≤ 2147483647 ∧ -2147483648 ≤ b ∧ b ≤ 2147483647) : mjMin (i3 a) (i3 b) = i3 (min a b) := by
  rw [mjMin]
  simp only [Int32.lt_iff_toInt_lt, i3_int ⟨h.1, h.2.1⟩, i3_int h.2.2]
  split
  · rw [Int.min_eq_right (by omega)]
  · rw [Int.min_eq_left (by omega)]
theorem let_eq {α β : Type} (x : α) (f : α → β) : mjLet x f = f x := rfl
theorem n_lit (n : Nat) : (@OfNat.ofNat Int32 n _) = i3 (n : Int) := by
  exact (Int32.ofInt_eq_ofNat).symm
theorem e3_t {a b : Int} (h : a = b) : (i3 a = i3 b) = True := by rw [h]; exact eq_self _
theorem e3_f {a b : Int} (h : -2147483648 ≤ a ∧ a ≤ 2147483647 ∧ -2147483648 ≤ b ∧ b ≤ 2147483647 ∧ ¬ a = b) : (i3 a = i3 b) = False := by
  rw [i3_inj (by omega)]; exact eq_false (by omega)
theorem sw_t {k lo hi : Int} (h : -2147483648 ≤ k ∧ k ≤ 2147483647 ∧ (k < lo ∨ hi < k)) : ((i3 k).toInt < lo ∨ hi < (i3 k).toInt) = True := by
  rw [i3_int (by omega)]; exact eq_true h.2.2
theorem sw_f {k lo hi : Int} (h : -2147483648 ≤ k ∧ k ≤ 2147483647 ∧ lo ≤ k ∧ k ≤ hi) : ((i3 k).toInt < lo ∨ hi < (i3 k).toInt) = False := by
  rw [i3_int (by omega)]; exact eq_false (by omega)
theorem sj_t {k lo : Int} {j : Nat} (h : -2147483648 ≤ k ∧ k ≤ 2147483647 ∧ k = lo + j) : (((i3 k).toInt - lo).toNat = j) = True := by
  rw [i3_int (by omega)]; exact eq_true (by omega)
theorem sj_f {k lo : Int} {j : Nat} (h : -2147483648 ≤ k ∧ k ≤ 2147483647 ∧ lo ≤ k ∧ ¬ k = lo + j) : (((i3 k).toInt - lo).toNat = j) = False := by
  rw [i3_int (by omega)]; exact eq_false (by omega)
theorem lg6_lt {a b : Int} (h : -9223372036854775808 ≤ a ∧ b ≤ 9223372036854775807 ∧ a < b) : lg_cmp (i6 a) (i6 b) = i3 (-1) := by
  unfold lg_cmp
  simp only [gt_iff_lt, Int64.lt_iff_toInt_lt, ← Int64.toInt_inj, i6_int (z := a) (by omega), i6_int (z := b) (by omega)]
  rw [if_neg (by omega), if_neg (by omega)]; rfl
theorem lg6_eq {a b : Int} (h : a = b) : lg_cmp (i6 a) (i6 b) = i3 0 := by
  subst h
  unfold lg_cmp
  simp only [gt_iff_lt, Int64.lt_iff_toInt_lt]
  rw [if_neg (by omega), if_pos trivial]; rfl
theorem lg6_gt {a b : Int} (h : -9223372036854775808 ≤ b ∧ a ≤ 9223372036854775807 ∧ b < a) : lg_cmp (i6 a) (i6 b) = i3 1 := by
  unfold lg_cmp
  simp only [gt_iff_lt, Int64.lt_iff_toInt_lt, i6_int (z := a) (by omega), i6_int (z := b) (by omega)]
  rw [if_pos (by omega)]; rfl
/-- reads behind writes -/
theorem si_same (Z : mjZt) (a k : Nat) (v : Int32) : (zSi Z a k v).1 a k = v := by simp [zSi]
theorem si_obj (Z : mjZt) (a k : Nat) (v : Int32) {a2 : Nat} (h : ¬ a2 = a) : (zSi Z a k v).1 a2 = Z.1 a2 := by simp [zSi, h]
theorem si_fld (Z : mjZt) (a k : Nat) (v : Int32) {a2 k2 : Nat} (h : ¬ (a2 = a ∧ k2 = k)) : (zSi Z a k v).1 a2 k2 = Z.1 a2 k2 := by
  simp only [zSi]
  by_cases h1 : a2 = a
  · rw [if_pos h1, if_neg (fun h2 => h ⟨h1, h2⟩)]
  · rw [if_neg h1]
theorem si_lng (Z : mjZt) (a k : Nat) (v : Int32) : (zSi Z a k v).2 = Z.2 := rfl
theorem sl_int (Z : mjZt) (a k : Nat) (v : Int64) : (zSl Z a k v).1 = Z.1 := rfl
theorem sl_ref (Z : mjZt) (a k : Nat) (v : Int64) : (zSl Z a k v).2.2 = Z.2.2 := rfl
theorem sl_same (Z : mjZt) (a k : Nat) (v : Int64) : (zSl Z a k v).2.1 a k = v := by simp [zSl]
theorem sl_obj (Z : mjZt) (a k : Nat) (v : Int64) {a2 : Nat} (h : ¬ a2 = a) : (zSl Z a k v).2.1 a2 = Z.2.1 a2 := by simp [zSl, h]
theorem sl_fld (Z : mjZt) (a k : Nat) (v : Int64) {a2 k2 : Nat} (h : ¬ (a2 = a ∧ k2 = k)) : (zSl Z a k v).2.1 a2 k2 = Z.2.1 a2 k2 := by
  simp only [zSl]
  by_cases h1 : a2 = a
  · rw [if_pos h1, if_neg (fun h2 => h ⟨h1, h2⟩)]
  · rw [if_neg h1]
/-! the layout of a book (b: 2 or 92), of its teams and acts -/
def tmB (b t : Nat) : Nat := b + 18 + 5 * t
def acB (b a : Nat) : Nat := b + 48 + a
theorem is_b {b : Nat} (hb : b = 2 ∨ b = 92) : mjIs b 211 2 = true := by rcases hb with rfl | rfl <;> rfl
theorem is_b1 {b : Nat} (hb : b = 2 ∨ b = 92) : mjIs (b + 1) 211 8 = true := by rcases hb with rfl | rfl <;> rfl
theorem is_b2 {b : Nat} (hb : b = 2 ∨ b = 92) : ∀ j, j < 6 → mjIs (b + 1 + (j + 1)) 211 13 = true := by rcases hb with rfl | rfl <;> decide
theorem is_b8 {b : Nat} (hb : b = 2 ∨ b = 92) : mjIs (b + 8) 211 16 = true ∧ (mjLay (b + 8)).2 = 6 := by rcases hb with rfl | rfl <;> decide
theorem is_b9 {b : Nat} (hb : b = 2 ∨ b = 92) : mjIs (b + 9) 211 17 = true ∧ (mjLay (b + 9)).2 = 42 := by rcases hb with rfl | rfl <;> decide
theorem is_b10 {b : Nat} (hb : b = 2 ∨ b = 92) : mjIs (b + 10) 211 14 = true ∧ (mjLay (b + 10)).2 = 8 := by rcases hb with rfl | rfl <;> decide
theorem is_b11 {b : Nat} (hb : b = 2 ∨ b = 92) : mjIs (b + 11) 211 13 = true ∧ (mjLay (b + 11)).2 = 8 := by rcases hb with rfl | rfl <;> decide
theorem is_b12 {b : Nat} (hb : b = 2 ∨ b = 92) : mjIs (b + 12) 211 7 = true := by rcases hb with rfl | rfl <;> rfl
theorem is_b12r {b : Nat} (hb : b = 2 ∨ b = 92) : ∀ j, j < 4 → mjIs (b + 12 + (j + 1)) 211 13 = true ∧ (mjLay (b + 12 + (j + 1))).2 = 7 := by rcases hb with rfl | rfl <;> decide
theorem is_b17 {b : Nat} (hb : b = 2 ∨ b = 92) : mjIs (b + 17) 211 0 = true := by rcases hb with rfl | rfl <;> rfl
theorem is_tm {b : Nat} (hb : b = 2 ∨ b = 92) : ∀ t, t < 6 → mjIs (tmB b t) 211 7 = true := by rcases hb with rfl | rfl <;> decide
theorem is_tmr {b : Nat} (hb : b = 2 ∨ b = 92) : ∀ t, t < 6 → ∀ j, j < 4 → mjIs (tmB b t + (j + 1)) 211 13 = true ∧ (mjLay (tmB b t + (j + 1))).2 = 7 := by rcases hb with rfl | rfl <;> decide
theorem is_ac {b : Nat} (hb : b = 2 ∨ b = 92) : ∀ a, a < 42 → mjIs (acB b a) 211 0 = true := by rcases hb with rfl | rfl <;> decide
theorem is_trm {b : Nat} (hb : b = 2 ∨ b = 92) : (∀ j, j < 3 → (mjLay (b + 1 + (j + 1))).2 = 700) ∧ (∀ j, j < 3 → (mjLay (b + 1 + (j + 4))).2 = 16) := by rcases hb with rfl | rfl <;> decide
theorem n_0 : (0 : Int32) = i3 0 := rfl
theorem n_1 : (1 : Int32) = i3 1 := rfl
theorem n_2 : (2 : Int32) = i3 2 := rfl
theorem n_3 : (3 : Int32) = i3 3 := rfl
theorem n_4 : (4 : Int32) = i3 4 := rfl
theorem n_5 : (5 : Int32) = i3 5 := rfl
theorem n_6 : (6 : Int32) = i3 6 := rfl
theorem n_7 : (7 : Int32) = i3 7 := rfl
theorem n_8 : (8 : Int32) = i3 8 := rfl
theorem n_9 : (9 : Int32) = i3 9 := rfl
theorem n_10 : (10 : Int32) = i3 10 := rfl
theorem n_11 : (11 : Int32) = i3 11 := rfl
theorem n_12 : (12 : Int32) = i3 12 := rfl
theorem n_13 : (13 : Int32) = i3 13 := rfl
theorem n_16 : (16 : Int32) = i3 16 := rfl
theorem n_20 : (20 : Int32) = i3 20 := rfl
theorem n_21 : (21 : Int32) = i3 21 := rfl
theorem n_22 : (22 : Int32) = i3 22 := rfl
theorem n_23 : (23 : Int32) = i3 23 := rfl
theorem n_30 : (30 : Int32) = i3 30 := rfl
theorem n_31 : (31 : Int32) = i3 31 := rfl
theorem n_32 : (32 : Int32) = i3 32 := rfl
theorem n_40 : (40 : Int32) = i3 40 := rfl
theorem n_41 : (41 : Int32) = i3 41 := rfl
theorem n_42 : (42 : Int32) = i3 42 := rfl
theorem n_43 : (43 : Int32) = i3 43 := rfl
theorem n_45 : (45 : Int32) = i3 45 := rfl
theorem n_48 : (48 : Int32) = i3 48 := rfl
theorem n_50 : (50 : Int32) = i3 50 := rfl
theorem n_51 : (51 : Int32) = i3 51 := rfl
theorem n_52 : (52 : Int32) = i3 52 := rfl
theorem n_57 : (57 : Int32) = i3 57 := rfl
theorem n_59 : (59 : Int32) = i3 59 := rfl
theorem n_60 : (60 : Int32) = i3 60 := rfl
theorem n_61 : (61 : Int32) = i3 61 := rfl
theorem n_62 : (62 : Int32) = i3 62 := rfl
theorem n_63 : (63 : Int32) = i3 63 := rfl
theorem n_72 : (72 : Int32) = i3 72 := rfl
theorem n_97 : (97 : Int32) = i3 97 := rfl
theorem n_99 : (99 : Int32) = i3 99 := rfl
theorem n_100 : (100 : Int32) = i3 100 := rfl
theorem n_108 : (108 : Int32) = i3 108 := rfl
theorem n_120 : (120 : Int32) = i3 120 := rfl
theorem n_122 : (122 : Int32) = i3 122 := rfl
theorem n_123 : (123 : Int32) = i3 123 := rfl
theorem n_125 : (125 : Int32) = i3 125 := rfl
theorem n_127 : (127 : Int32) = i3 127 := rfl
theorem n_180 : (180 : Int32) = i3 180 := rfl
theorem n_255 : (255 : Int32) = i3 255 := rfl
theorem n_400 : (400 : Int32) = i3 400 := rfl
theorem n_700 : (700 : Int32) = i3 700 := rfl
theorem n_999 : (999 : Int32) = i3 999 := rfl
theorem n_9999 : (9999 : Int32) = i3 9999 := rfl
theorem n_2000000 : (2000000 : Int32) = i3 2000000 := rfl
theorem n_2147483647 : (2147483647 : Int32) = i3 2147483647 := rfl
theorem l_0 : (0 : Int64) = i6 0 := rfl
theorem l_1 : (1 : Int64) = i6 1 := rfl
theorem l_2 : (2 : Int64) = i6 2 := rfl
theorem l_3 : (3 : Int64) = i6 3 := rfl
theorem l_4 : (4 : Int64) = i6 4 := rfl
theorem l_5 : (5 : Int64) = i6 5 := rfl
theorem l_10 : (10 : Int64) = i6 10 := rfl
theorem l_9999 : (9999 : Int64) = i6 9999 := rfl
