/-! BITS of ints and longs (the first rows after the kit's BITS.to-paste), counts of bits -/
def bt (x : Int32) (i : Nat) : Bool := x.toBitVec.getLsbD i
theorem bt_ext {x y : Int32} (h : ∀ i, i < 32 → bt x i = bt y i) : x = y := Int32.toBitVec_inj.mp (BitVec.eq_of_getLsbD_eq (fun i hi => h i hi))
theorem bt_or (x y : Int32) (i : Nat) : bt (x ||| y) i = (bt x i || bt y i) := by unfold bt; rw [Int32.toBitVec_or, BitVec.getLsbD_or]
theorem bt_and (x y : Int32) (i : Nat) : bt (x &&& y) i = (bt x i && bt y i) := by unfold bt; rw [Int32.toBitVec_and, BitVec.getLsbD_and]
theorem bt_xor (x y : Int32) (i : Nat) : bt (x ^^^ y) i = (bt x i ^^ bt y i) := by unfold bt; rw [Int32.toBitVec_xor, BitVec.getLsbD_xor]
theorem bt_big {x : Int32} {i : Nat} (h : 32 ≤ i) : bt x i = false := BitVec.getLsbD_of_ge _ _ h
theorem bt_0 (i : Nat) : bt (i3 0) i = false := by
  show bt 0 i = false
  exact BitVec.getLsbD_zero
theorem bt_m1 : ∀ i, i < 32 → bt (i3 (-1)) i = true := by decide +kernel
theorem bt_one (i : Nat) : bt (i3 1) i = decide (i = 0) := by
  rcases Nat.lt_or_ge i 32 with h | h
  · exact (by decide +kernel : ∀ i, i < 32 → bt (i3 1) i = decide (i = 0)) i h
  · rw [bt_big h, decide_eq_false (by omega)]
theorem sml3 : ∀ n, n < 32 → ((i3 ((n : Nat) : Int) &&& 31).toBitVec.smod 32).toNat = n := by decide +kernel
theorem bt_shl {n : Nat} (hn : n < 32) (x : Int32) {i : Nat} (hi : i < 32) : bt (x <<< (i3 n &&& 31)) i = (decide (n ≤ i) && bt x (i - n)) := by
  unfold bt
  rw [Int32.toBitVec_shiftLeft]
  show (x.toBitVec <<< ((i3 n &&& 31).toBitVec.smod 32).toNat).getLsbD i = _
  rw [sml3 n hn, BitVec.getLsbD_shiftLeft]
  rcases Nat.lt_or_ge i n with h | h
  · simp [h, Nat.not_le.mpr h]
  · simp [hi, h, Nat.not_lt.mpr h]
theorem bt_shr {n : Nat} (hn : n < 32) (x : Int32) {i : Nat} (hi : i < 32) : bt (x >>> (i3 n &&& 31)) i = if n + i < 32 then bt x (n + i) else bt x 31 := by
  unfold bt
  rw [Int32.toBitVec_shiftRight]
  show (x.toBitVec.sshiftRight ((i3 n &&& 31).toBitVec.smod 32).toNat).getLsbD i = _
  rw [sml3 n hn, BitVec.getLsbD_sshiftRight, BitVec.msb_eq_getLsbD_last]
  simp [hi]
/-- one bit -/
theorem bt_single {n : Nat} (hn : n < 32) {i : Nat} (hi : i < 32) : bt (i3 1 <<< (i3 n &&& 31)) i = decide (i = n) := by
  rw [bt_shl hn _ hi, bt_one]
  by_cases q : i = n
  · subst q; simp
  · rw [decide_eq_false q]
    by_cases q2 : n ≤ i
    · rw [decide_eq_false (p := i - n = 0) (by omega), Bool.and_false]
    · rw [decide_eq_false q2, Bool.false_and]
theorem bt_test {n : Nat} (hn : n < 32) (x : Int32) : (x >>> (i3 n &&& 31)) &&& i3 1 = i3 (if bt x n = true then 1 else 0) := by
  apply bt_ext
  intro i hi
  rw [bt_and, bt_shr hn _ hi, bt_one]
  by_cases q : i = 0
  · subst q
    rw [if_pos (by omega), Nat.add_zero]
    cases bt x n
    · rfl
    · rfl
  · rw [decide_eq_false q, Bool.and_false]
    cases bt x n
    · exact (bt_0 i).symm
    · show false = bt (i3 1) i
      rw [bt_one, decide_eq_false q]
/-! longs -/
theorem b6_ext {x y : Int64} (h : ∀ i, i < 64 → b6 x i = b6 y i) : x = y := Int64.toBitVec_inj.mp (BitVec.eq_of_getLsbD_eq (fun i hi => h i hi))
theorem b6_or (x y : Int64) (i : Nat) : b6 (x ||| y) i = (b6 x i || b6 y i) := by unfold b6; rw [Int64.toBitVec_or, BitVec.getLsbD_or]
theorem b6_and (x y : Int64) (i : Nat) : b6 (x &&& y) i = (b6 x i && b6 y i) := by unfold b6; rw [Int64.toBitVec_and, BitVec.getLsbD_and]
theorem b6_xor (x y : Int64) (i : Nat) : b6 (x ^^^ y) i = (b6 x i ^^ b6 y i) := by unfold b6; rw [Int64.toBitVec_xor, BitVec.getLsbD_xor]
theorem b6_big {x : Int64} {i : Nat} (h : 64 ≤ i) : b6 x i = false := BitVec.getLsbD_of_ge _ _ h
theorem b6_0 (i : Nat) : b6 (i6 0) i = false := by
  show b6 0 i = false
  exact BitVec.getLsbD_zero
theorem b6_m1 : ∀ i, i < 64 → b6 (i6 (-1)) i = true := by decide +kernel
theorem b6_one (i : Nat) : b6 (i6 1) i = decide (i = 0) := by
  rcases Nat.lt_or_ge i 64 with h | h
  · exact (by decide +kernel : ∀ i, i < 64 → b6 (i6 1) i = decide (i = 0)) i h
  · rw [b6_big h, decide_eq_false (by omega)]
theorem sml6 : ∀ n, n < 64 → (((i3 ((n : Nat) : Int)).toInt64 &&& 63).toBitVec.smod 64).toNat = n := by decide +kernel
theorem b6_shl {n : Nat} (hn : n < 64) (x : Int64) {i : Nat} (hi : i < 64) : b6 (x <<< ((i3 n).toInt64 &&& 63)) i = (decide (n ≤ i) && b6 x (i - n)) := by
  unfold b6
  rw [Int64.toBitVec_shiftLeft]
  show (x.toBitVec <<< (((i3 n).toInt64 &&& 63).toBitVec.smod 64).toNat).getLsbD i = _
  rw [sml6 n hn, BitVec.getLsbD_shiftLeft]
  rcases Nat.lt_or_ge i n with h | h
  · simp [h, Nat.not_le.mpr h]
  · simp [hi, h, Nat.not_lt.mpr h]
theorem b6_shr {n : Nat} (hn : n < 64) (x : Int64) {i : Nat} (hi : i < 64) : b6 (x >>> ((i3 n).toInt64 &&& 63)) i = if n + i < 64 then b6 x (n + i) else b6 x 63 := by
  unfold b6
  rw [Int64.toBitVec_shiftRight]
  show (x.toBitVec.sshiftRight (((i3 n).toInt64 &&& 63).toBitVec.smod 64).toNat).getLsbD i = _
  rw [sml6 n hn, BitVec.getLsbD_sshiftRight, BitVec.msb_eq_getLsbD_last]
  simp [hi]
theorem b6_single {n : Nat} (hn : n < 64) {i : Nat} (hi : i < 64) : b6 (i6 1 <<< ((i3 n).toInt64 &&& 63)) i = decide (i = n) := by
  rw [b6_shl hn _ hi, b6_one]
  by_cases q : i = n
  · subst q; simp
  · rw [decide_eq_false q]
    by_cases q2 : n ≤ i
    · rw [decide_eq_false (p := i - n = 0) (by omega), Bool.and_false]
    · rw [decide_eq_false q2, Bool.false_and]
theorem b6_test {n : Nat} (hn : n < 64) (x : Int64) : (x >>> ((i3 n).toInt64 &&& 63)) &&& i6 1 = i6 (if b6 x n = true then 1 else 0) := by
  apply b6_ext
  intro i hi
  rw [b6_and, b6_shr hn _ hi, b6_one]
  by_cases q : i = 0
  · subst q
    rw [if_pos (by omega), Nat.add_zero]
    cases b6 x n
    · rfl
    · rfl
  · rw [decide_eq_false q, Bool.and_false]
    cases b6 x n
    · exact (b6_0 i).symm
    · show false = b6 (i6 1) i
      rw [b6_one, decide_eq_false q]
/-! how many bits: the JDK's way -/
def dg (B : Nat) : List Nat → Nat
  | [] => 0
  | a :: l => a + B * dg B l
def lsum : List Nat → Nat
  | [] => 0
  | a :: l => a + lsum l
theorem and_split {j a b c d : Nat} (ha : a < 2 ^ j) (hc : c < 2 ^ j) : (a + 2 ^ j * b) &&& (c + 2 ^ j * d) = (a &&& c) + 2 ^ j * (b &&& d) := by
  have h1 : (a &&& c) < 2 ^ j := Nat.lt_of_le_of_lt Nat.and_le_left ha
  apply Nat.eq_of_testBit_eq
  intro i
  rw [Nat.testBit_and, Nat.add_comm a, Nat.add_comm c, Nat.add_comm (a &&& c), Nat.testBit_two_pow_mul_add _ ha, Nat.testBit_two_pow_mul_add _ hc, Nat.testBit_two_pow_mul_add _ h1]
  split
  · rw [Nat.testBit_and]
  · rw [Nat.testBit_and]
theorem dg_and {k : Nat} : ∀ l : List Nat, (∀ d ∈ l, d < 2 ^ k * 2 ^ k) → dg (2 ^ k * 2 ^ k) l &&& dg (2 ^ k * 2 ^ k) (l.map fun _ => 2 ^ k - 1) = dg (2 ^ k * 2 ^ k) (l.map (· % 2 ^ k))
  | [], _ => by simp [dg]
  | a :: l, h => by
    have ih := dg_and l (fun d hd => h d (List.mem_cons_of_mem _ hd))
    have h1 := h a List.mem_cons_self
    have p : 0 < 2 ^ k := Nat.two_pow_pos k
    have e : 2 ^ k * 2 ^ k = 2 ^ (k + k) := (Nat.pow_add 2 k k).symm
    have h2 : 2 ^ k ≤ 2 ^ k * 2 ^ k := Nat.le_mul_of_pos_left _ p
    simp only [List.map_cons, dg]
    rw [e] at ih h1 h2 ⊢
    rw [and_split h1 (by omega), ih, Nat.and_two_pow_sub_one_eq_mod]
theorem dg_shr {k : Nat} : ∀ l : List Nat, (∀ d ∈ l, d < 2 ^ k * 2 ^ k) → (dg (2 ^ k * 2 ^ k) l / 2 ^ k) &&& dg (2 ^ k * 2 ^ k) (l.map fun _ => 2 ^ k - 1) = dg (2 ^ k * 2 ^ k) (l.map (· / 2 ^ k))
  | [], _ => by simp [dg]
  | a :: l, h => by
    have ih := dg_shr l (fun d hd => h d (List.mem_cons_of_mem _ hd))
    have h1 := h a List.mem_cons_self
    have p : 0 < 2 ^ k := Nat.two_pow_pos k
    have e : 2 ^ k * 2 ^ k = 2 ^ (k + k) := (Nat.pow_add 2 k k).symm
    have h2 : 2 ^ k ≤ 2 ^ k * 2 ^ k := Nat.le_mul_of_pos_left _ p
    have h3 : a / 2 ^ k < 2 ^ k := (Nat.div_lt_iff_lt_mul p).mpr h1
    simp only [List.map_cons, dg]
    generalize dg (2 ^ k * 2 ^ k) l = T at ih ⊢
    have e2 : (a + 2 ^ k * 2 ^ k * T) / 2 ^ k = (a / 2 ^ k + 2 ^ k * (T % 2 ^ k)) + 2 ^ k * 2 ^ k * (T / 2 ^ k) := by
      rw [Nat.mul_assoc, Nat.add_mul_div_left _ _ p]
      have := Nat.div_add_mod T (2 ^ k)
      calc a / 2 ^ k + 2 ^ k * T = a / 2 ^ k + 2 ^ k * (2 ^ k * (T / 2 ^ k) + T % 2 ^ k) := by rw [this]
        _ = _ := by rw [Nat.mul_add, ← Nat.mul_assoc]; omega
    have h4 : T % 2 ^ k < 2 ^ k := Nat.mod_lt _ p
    have h5 : a / 2 ^ k + 2 ^ k * (T % 2 ^ k) < 2 ^ k * 2 ^ k := by
      have : 2 ^ k * (T % 2 ^ k) ≤ 2 ^ k * (2 ^ k - 1) := Nat.mul_le_mul_left _ (by omega)
      rw [Nat.mul_sub_one] at this
      omega
    rw [e2]
    rw [e] at ih h5 h2 ⊢
    rw [and_split h5 (by omega), ih, Nat.and_two_pow_sub_one_eq_mod, Nat.add_mul_mod_self_left, Nat.mod_eq_of_lt h3]
theorem dg_map_add {B : Nat} (f g : Nat → Nat) : ∀ l : List Nat, dg B (l.map f) + dg B (l.map g) = dg B (l.map fun d => f d + g d)
  | [] => rfl
  | a :: l => by
    have ih := dg_map_add (B := B) f g l
    simp only [List.map_cons, dg]
    rw [← ih, Nat.mul_add]
    omega
def prl (B : Nat) : List Nat → List Nat
  | a :: b :: l => (a + B * b) :: prl B l
  | l => l
theorem prl_spec {B : Nat} : ∀ (n : Nat) (l : List Nat), l.length = 2 * n → dg (B * B) (prl B l) = dg B l ∧ (prl B l).length = n ∧ (∀ m, m ≤ B → (∀ d ∈ l, d < m) → lsum ((prl B l).map fun d => d % B + d / B) = lsum l ∧ ∀ d ∈ prl B l, ∃ x y, x < m ∧ y < m ∧ d = x + B * y)
  | 0, l, h => by
    obtain rfl : l = [] := List.eq_nil_of_length_eq_zero (by omega)
    exact ⟨rfl, rfl, (fun m _ _ => ⟨rfl, (fun d hd => by cases hd)⟩)⟩
  | n + 1, [], h => by simp at h
  | n + 1, [a], h => by simp at h; omega
  | n + 1, a :: b :: l, h => by
    obtain ⟨h1, h2, h3⟩ := prl_spec (B := B) n l (by simp at h; omega)
    refine ⟨?_, by simp [prl, h2], fun m hm hd => ?_⟩
    · simp only [prl, dg, h1]
      rw [Nat.mul_add, Nat.mul_assoc]; omega
    · have ha := hd a List.mem_cons_self
      have hb := hd b (List.mem_cons_of_mem _ List.mem_cons_self)
      obtain ⟨h4, h5⟩ := h3 m hm (fun d h => hd d (List.mem_cons_of_mem _ (List.mem_cons_of_mem _ h)))
      constructor
      · simp only [prl, List.map_cons, lsum, h4]
        rw [Nat.add_mul_mod_self_left, Nat.mod_eq_of_lt (by omega), Nat.add_mul_div_left _ _ (by omega), Nat.div_eq_of_lt (by omega)]
        omega
      · intro d hd2
        simp only [prl, List.mem_cons] at hd2
        rcases hd2 with rfl | hd2
        · exact ⟨a, b, ha, hb, rfl⟩
        · exact h5 d hd2
theorem dg_of (B : Nat) (hB : 0 < B) : ∀ (n X : Nat), X < B ^ n → ∃ l : List Nat, l.length = n ∧ (∀ d ∈ l, d < B) ∧ dg B l = X
  | 0, X, h => ⟨[], rfl, (fun d hd => by cases hd), (by simp at h; simp [dg, h])⟩
  | n + 1, X, h => by
    obtain ⟨l, h1, h2, h3⟩ := dg_of B hB n (X / B) (by rw [Nat.div_lt_iff_lt_mul hB, ← Nat.pow_succ]; exact h)
    refine ⟨X % B :: l, by simp [h1], fun d hd => ?_, ?_⟩
    · rcases List.mem_cons.mp hd with rfl | hd
      · exact Nat.mod_lt _ hB
      · exact h2 d hd
    · rw [dg, h3]
      exact Nat.mod_add_div X B
/-- bits counted -/
def cb : Nat → Nat → Nat
  | 0, _ => 0
  | n + 1, X => X % 2 + cb n (X / 2)
theorem cb_cN : ∀ n X, (cb n X : Int) = cN (fun i => X.testBit i) n
  | 0, X => rfl
  | n + 1, X => by
    have shift : ∀ (p : Nat → Bool) n, cN p (n + 1) = (if p 0 = true then 1 else 0) + cN (fun i => p (i + 1)) n := by
      intro p n
      induction n with
      | zero => simp [cN]
      | succ n ih => rw [cN, ih, cN]; omega
    rw [cb, shift, Int.natCast_add, cb_cN n (X / 2)]
    congr 1
    · rw [Nat.testBit_zero]
      rcases Nat.mod_two_eq_zero_or_one X with h | h <;> simp [h]
    · refine cN_congr n (fun i _ => ?_)
      rw [Nat.testBit_succ]
theorem cb_dg : ∀ l : List Nat, (∀ d ∈ l, d < 4) → cb (2 * l.length) (dg 4 l) = lsum (l.map fun d => d % 2 + d / 2)
  | [], _ => rfl
  | a :: l, h => by
    have ih := cb_dg l (fun d hd => h d (List.mem_cons_of_mem _ hd))
    have h1 := h a List.mem_cons_self
    rw [show 2 * (a :: l).length = (2 * l.length + 1) + 1 by simp; omega, cb, cb, dg, List.map_cons, lsum, ← ih]
    have e1 : (a + 4 * dg 4 l) / 2 / 2 = dg 4 l := by omega
    rw [e1]; omega
theorem lsum_le {m : Nat} : ∀ l : List Nat, (∀ d ∈ l, d ≤ m) → lsum l ≤ m * l.length
  | [], _ => by simp [lsum]
  | a :: l, h => by
    have ih := lsum_le l (fun d hd => h d (List.mem_cons_of_mem _ hd))
    have h1 := h a List.mem_cons_self
    rw [lsum, List.length_cons, Nat.mul_add]; omega
/-- nibbles: no carry between them -/
theorem dg_nib : ∀ l : List Nat, (∀ d ∈ l, ∃ x y, x < 5 ∧ y < 5 ∧ d = x + 16 * y) → (dg 256 l + dg 256 l / 16) &&& dg 256 (l.map fun _ => 15) = dg 256 (l.map fun d => d % 16 + d / 16)
  | [], _ => rfl
  | a :: l, h => by
    have ih := dg_nib l (fun d hd => h d (List.mem_cons_of_mem _ hd))
    obtain ⟨x, y, hx, hy, rfl⟩ := h a List.mem_cons_self
    have hT : dg 256 l % 16 < 5 := by
      cases l with
      | nil => simp [dg]
      | cons b l =>
        obtain ⟨x, y, hx, hy, rfl⟩ := h b (List.mem_cons_of_mem _ List.mem_cons_self)
        rw [dg]; omega
    simp only [List.map_cons, dg]
    generalize dg 256 l = T at ih hT ⊢
    have e : x + 16 * y + 256 * T + (x + 16 * y + 256 * T) / 16 = (x + 16 * y + y + 16 * (T % 16)) + 2 ^ 8 * (T + T / 16) := by omega
    rw [e, show 15 + 256 * dg 256 (l.map fun _ => 15) = 15 + 2 ^ 8 * dg 256 (l.map fun _ => 15) from rfl, and_split (by omega) (by omega), ih, show (15 : Nat) = 2 ^ 4 - 1 from rfl, Nat.and_two_pow_sub_one_eq_mod]
    omega
/-- the sum of eight bytes -/
theorem dv256 {a b : Nat} (h : a < 256) : (a + 256 * b) / 256 = b := by omega
theorem ad2 {a b x y p q : Nat} (h1 : a = x + 256 * p) (h2 : b = y + 256 * q) : a + b = (x + y) + 256 * (p + q) := by omega
theorem ad4 {a b c d x y z t p q r s : Nat} (h1 : a = x + 256 * p) (h2 : b = y + 256 * q) (h3 : c = z + 256 * r) (h4 : d = t + 256 * s) : a + b + (c + d) = (x + y + z + t) + 256 * (p + q + (r + s)) := by omega
theorem bst8 {a e b B : Nat} (h1 : a = e + 256 * b) (h2 : e ≤ 8) (h3 : b ≤ B) : a ≤ 8 + 256 * B := by omega
theorem sm4 {a b c d : Nat} (h1 : a ≤ 8) (h2 : b ≤ 8) (h3 : c ≤ 8) (h4 : d ≤ 8) : a + b + c + d < 256 := by omega
theorem sm2 {a b : Nat} (h1 : a ≤ 8) (h2 : b ≤ 8) : a + b < 256 := by omega
theorem sm8 {a b c d e f g h : Nat} (h1 : a ≤ 8) (h2 : b ≤ 8) (h3 : c ≤ 8) (h4 : d ≤ 8) (h5 : e ≤ 8) (h6 : f ≤ 8) (h7 : g ≤ 8) (h8 : h ≤ 8) : a + b + c + d + e + f + g + h ≤ 64 := by omega
theorem fin8 {x y A B : Nat} : x + 256 * A + (y + 256 * B) = (x + y) + 256 * (A + B) := by omega
theorem bdd {w u v t W : Nat} (h : w ≤ W) (hW : W < 2 ^ 60) (hu : u = w + w / 256) (hv : v = u + u / 65536) (ht : t = v + v / 4294967296) : u < 2 ^ 61 ∧ v < 2 ^ 62 ∧ t < 2 ^ 63 := by omega
theorem dg_fold {e0 e1 e2 e3 e4 e5 e6 e7 w w1 w2 w3 w4 w5 w6 : Nat} (h0 : e0 ≤ 8) (h1 : e1 ≤ 8) (h2 : e2 ≤ 8) (h3 : e3 ≤ 8) (h4 : e4 ≤ 8) (h5 : e5 ≤ 8) (h6 : e6 ≤ 8) (h7 : e7 ≤ 8) (q6 : w6 = e6 + 256 * e7) (q5 : w5 = e5 + 256 * w6) (q4 : w4 = e4 + 256 * w5) (q3 : w3 = e3 + 256 * w4) (q2 : w2 = e2 + 256 * w3) (q1 : w1 = e1 + 256 * w2) (q0 : w = e0 + 256 * w1) {u v t : Nat} (hu : u = w + w / 256) (hv : v = u + u / 65536) (ht : t = v + v / 4294967296) : t % 256 = e0 + e1 + e2 + e3 + e4 + e5 + e6 + e7 ∧ w < 2 ^ 60 ∧ u < 2 ^ 61 ∧ v < 2 ^ 62 ∧ t < 2 ^ 63 := by
  have bw := bst8 q0 h0 (bst8 q1 h1 (bst8 q2 h2 (bst8 q3 h3 (bst8 q4 h4 (bst8 q5 h5 (bst8 q6 h6 h7))))))
  have bb := bdd bw (by decide) hu hv ht
  have q7 : e7 = e7 + 256 * 0 := rfl
  have u1 : w / 256 = w1 := by rw [q0]; exact dv256 (Nat.lt_of_le_of_lt h0 (by decide))
  have u2 : u = w + w1 := by rw [hu, u1]
  have v3 : u / 65536 = w2 + w3 := by
    rw [u2, show (65536 : Nat) = 256 * 256 from rfl, ← Nat.div_div_eq_div_mul, ad2 q0 q1, dv256 (sm2 h0 h1), ad2 q1 q2, dv256 (sm2 h1 h2)]
  have v4 : v = w + w1 + (w2 + w3) := by rw [hv, v3, u2]
  have t1 : v / 4294967296 = w4 + w5 + (w6 + e7) := by
    rw [v4, show (4294967296 : Nat) = 256 * 256 * 256 * 256 from rfl, ← Nat.div_div_eq_div_mul, ← Nat.div_div_eq_div_mul, ← Nat.div_div_eq_div_mul, ad4 q0 q1 q2 q3, dv256 (sm4 h0 h1 h2 h3), ad4 q1 q2 q3 q4, dv256 (sm4 h1 h2 h3 h4), ad4 q2 q3 q4 q5, dv256 (sm4 h2 h3 h4 h5), ad4 q3 q4 q5 q6, dv256 (sm4 h3 h4 h5 h6)]
  have t2 : t = (e0 + e1 + e2 + e3 + (e4 + e5 + e6 + e7)) + 256 * (w1 + w2 + (w3 + w4) + (w5 + w6 + (e7 + 0))) := by
    rw [ht, t1, v4, ad4 q0 q1 q2 q3, ad4 q4 q5 q6 q7, fin8]
  have s8 := sm8 h0 h1 h2 h3 h4 h5 h6 h7
  refine ⟨?_, Nat.lt_of_le_of_lt bw (by decide), bb⟩
  rw [t2, Nat.add_mul_mod_self_left, ← Nat.add_assoc, ← Nat.add_assoc, ← Nat.add_assoc]
  exact Nat.mod_eq_of_lt (Nat.lt_of_le_of_lt s8 (by decide))
theorem map_self {f : Nat → Nat} : ∀ l : List Nat, (∀ d ∈ l, f d = d) → l.map f = l
  | [], _ => rfl
  | a :: l, h => by rw [List.map_cons, h a List.mem_cons_self, map_self l (fun d hd => h d (List.mem_cons_of_mem _ hd))]
theorem swar {X : Nat} (hX : X < 2 ^ 64) : ∃ y z w u v t, y = X - ((X / 2) &&& 6148914691236517205) ∧ ((X / 2) &&& 6148914691236517205) ≤ X ∧ z = (y &&& 3689348814741910323) + ((y / 4) &&& 3689348814741910323) ∧ z < 2 ^ 63 ∧ w = (z + z / 16) &&& 1085102592571150095 ∧ z + z / 16 < 2 ^ 64 ∧ u = w + w / 256 ∧ u < 2 ^ 64 ∧ v = u + u / 65536 ∧ v < 2 ^ 64 ∧ t = v + v / 4294967296 ∧ t < 2 ^ 64 ∧ t % 128 = cb 64 X ∧ cb 64 X ≤ 64 := by
  obtain ⟨l, l1, l2, rfl⟩ := dg_of 4 (by decide) 32 X hX
  have hc := cb_dg l l2
  rw [l1] at hc
  have k1 := dg_shr (k := 1) l l2
  have m1 : dg (2 ^ 1 * 2 ^ 1) (l.map fun _ => 2 ^ 1 - 1) = 6148914691236517205 := by
    have : l.map (fun _ => 2 ^ 1 - 1) = List.replicate 32 1 := by rw [List.map_const', l1]
    rw [this]; rfl
  rw [m1] at k1
  have k2 : dg 4 (l.map fun d => d % 2 + d / 2) + dg 4 (l.map (· / 2 ^ 1)) = dg 4 l := by
    rw [dg_map_add, map_self l (fun d hd => by have := l2 d hd; omega)]
  generalize hl2 : (l.map fun d => d % 2 + d / 2) = c at hc k2
  have c1 : c.length = 2 * 16 := by rw [← hl2, List.length_map, l1]
  have c2 : ∀ d ∈ c, d < 3 := by
    intro d hd
    rw [← hl2] at hd
    obtain ⟨e, he, rfl⟩ := List.mem_map.mp hd
    have := l2 e he
    omega
  obtain ⟨p1, p2, p3⟩ := prl_spec (B := 4) 16 c c1
  obtain ⟨p4, p5⟩ := p3 3 (by decide) c2
  generalize prl 4 c = c' at p1 p2 p4 p5
  have c3 : ∀ d ∈ c', d < 2 ^ 2 * 2 ^ 2 := by
    intro d hd
    obtain ⟨x, y, hx, hy, rfl⟩ := p5 d hd
    omega
  have m2 : dg (2 ^ 2 * 2 ^ 2) (c'.map fun _ => 2 ^ 2 - 1) = 3689348814741910323 := by
    have : c'.map (fun _ => 2 ^ 2 - 1) = List.replicate 16 3 := by rw [List.map_const', p2]
    rw [this]; rfl
  have k3 := dg_and (k := 2) c' c3
  have k4 := dg_shr (k := 2) c' c3
  rw [m2] at k3 k4
  have k5 := dg_map_add (B := 2 ^ 2 * 2 ^ 2) (· % 2 ^ 2) (· / 2 ^ 2) c'
  generalize hl3 : (c'.map fun d => d % 4 + d / 4) = e at p4
  have e1 : e.length = 2 * 8 := by rw [← hl3, List.length_map, p2]
  have e2 : ∀ d ∈ e, d < 5 := by
    intro d hd
    rw [← hl3] at hd
    obtain ⟨q, hq, rfl⟩ := List.mem_map.mp hd
    obtain ⟨x, y, hx, hy, rfl⟩ := p5 q hq
    omega
  obtain ⟨q1, q2, q3⟩ := prl_spec (B := 16) 8 e e1
  obtain ⟨q4, q5⟩ := q3 5 (by decide) e2
  generalize prl 16 e = e' at q1 q2 q4 q5
  have k6 := dg_nib e' q5
  have m3 : dg 256 (e'.map fun _ => 15) = 1085102592571150095 := by
    have : e'.map (fun _ => 15) = List.replicate 8 15 := by rw [List.map_const', q2]
    rw [this]; rfl
  rw [m3] at k6
  have f2 : ∀ d ∈ e'.map (fun d => d % 16 + d / 16), d ≤ 8 := by
    intro d hd
    obtain ⟨q, hq, rfl⟩ := List.mem_map.mp hd
    obtain ⟨x, y, hx, hy, rfl⟩ := q5 q hq
    omega
  have zb : dg 256 e' < 2 ^ 63 := by
    match e', q2, q5 with
    | [a0, a1, a2, a3, a4, a5, a6, a7], _, q5 =>
      have b : ∀ d ∈ [a0, a1, a2, a3, a4, a5, a6, a7], d ≤ 68 := fun d hd => by
        obtain ⟨x, y, hx, hy, rfl⟩ := q5 d hd
        omega
      have b0 := b a0 (by simp)
      have b1 := b a1 (by simp)
      have b2 := b a2 (by simp)
      have b3 := b a3 (by simp)
      have b4 := b a4 (by simp)
      have b5 := b a5 (by simp)
      have b6 := b a6 (by simp)
      have b7 := b a7 (by simp)
      have st : ∀ (a : Nat) (l : List Nat) (B : Nat), a ≤ 68 → dg 256 l ≤ B → dg 256 (a :: l) ≤ 68 + 256 * B := fun a l B h1 h2 => by rw [dg]; omega
      exact Nat.lt_of_le_of_lt (st a0 _ _ b0 (st a1 _ _ b1 (st a2 _ _ b2 (st a3 _ _ b3 (st a4 _ _ b4 (st a5 _ _ b5 (st a6 _ _ b6 (st a7 [] 0 b7 (Nat.le_refl 0))))))))) (by decide)
  have hy : dg 4 l - ((dg 4 l / 2) &&& 6148914691236517205) = dg 4 c := by
    rw [show dg 4 l / 2 = dg (2 ^ 1 * 2 ^ 1) l / 2 ^ 1 from rfl, k1]
    show dg 4 l - dg 4 (l.map (· / 2 ^ 1)) = dg 4 c
    omega
  have hle : ((dg 4 l / 2) &&& 6148914691236517205) ≤ dg 4 l := Nat.le_trans Nat.and_le_left (Nat.div_le_self _ _)
  have hz : (dg 4 c &&& 3689348814741910323) + ((dg 4 c / 4) &&& 3689348814741910323) = dg 256 e' := by
    rw [← p1]
    show (dg (2 ^ 2 * 2 ^ 2) c' &&& 3689348814741910323) + ((dg (2 ^ 2 * 2 ^ 2) c' / 2 ^ 2) &&& 3689348814741910323) = dg 256 e'
    rw [k3, k4, k5]
    show dg 16 (c'.map fun d => d % 4 + d / 4) = dg (16 * 16) e'
    rw [hl3, q1]
  generalize hl4 : (e'.map fun d => d % 16 + d / 16) = g at k6 q4 f2
  have g1 : g.length = 8 := by rw [← hl4, List.length_map, q2]
  match g, g1, f2, k6, q4 with
  | [a0, a1, a2, a3, a4, a5, a6, a7], _, f2, k6, q4 =>
    have b0 := f2 a0 (by simp)
    have b1 := f2 a1 (by simp)
    have b2 := f2 a2 (by simp)
    have b3 := f2 a3 (by simp)
    have b4 := f2 a4 (by simp)
    have b5 := f2 a5 (by simp)
    have b6 := f2 a6 (by simp)
    have b7 := f2 a7 (by simp)
    have hw : dg 256 [a0, a1, a2, a3, a4, a5, a6, a7] = a0 + 256 * (a1 + 256 * (a2 + 256 * (a3 + 256 * (a4 + 256 * (a5 + 256 * (a6 + 256 * a7)))))) := by simp only [dg, Nat.mul_zero, Nat.add_zero]
    obtain ⟨r1, r2, r3, r4, r5⟩ := dg_fold b0 b1 b2 b3 b4 b5 b6 b7 rfl rfl rfl rfl rfl rfl hw rfl rfl rfl
    generalize dg 256 [a0, a1, a2, a3, a4, a5, a6, a7] = w at k6 r1 r2 r3 r4 r5
    clear hw
    have hs : a0 + a1 + a2 + a3 + a4 + a5 + a6 + a7 = cb 64 (dg 4 l) := by
      have : 2 * 32 = 64 := rfl
      rw [← this, hc, ← p4, ← q4]
      simp only [lsum, Nat.add_zero, Nat.add_assoc]
    have s8 := sm8 b0 b1 b2 b3 b4 b5 b6 b7
    rw [hs] at s8 r1
    have zz : dg 256 e' + dg 256 e' / 16 < 2 ^ 64 := by clear r1 r2 r3 r4 r5 s8 hs k6 q4 f2 hz hy; omega
    refine ⟨dg 4 c, dg 256 e', w, _, _, _, hy.symm, hle, hz.symm, zb, k6.symm, zz, rfl, Nat.lt_trans r3 (by decide), rfl, Nat.lt_trans r4 (by decide), rfl, Nat.lt_trans r5 (by decide), ?_, s8⟩
    generalize w + w / 256 + (w + w / 256) / 65536 + (w + w / 256 + (w + w / 256) / 65536) / 4294967296 = tt at r1 ⊢
    clear r2 r3 r4 r5 zz hs k6 q4 f2 hz hy zb
    omega
