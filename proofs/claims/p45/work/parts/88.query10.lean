/-! QUERIES: again -/
theorem i3_tn (x : Int32) : x = i3 (x.toBitVec.toNat : Int) := by
  apply Int32.toBitVec_inj.mp
  show x.toBitVec = (Int32.ofInt (x.toBitVec.toNat : Int)).toBitVec
  rw [Int32.toBitVec_ofInt]
  simp
theorem small {y : Int32} {k : Nat} (hk : k ≤ 32) (h : ∀ j, k ≤ j → j < 32 → bt y j = false) : ∃ n : Nat, n < 2 ^ k ∧ y = i3 n := by
  refine ⟨y.toBitVec.toNat, ?_, i3_tn y⟩
  refine Nat.lt_pow_two_of_testBit _ (fun i hi => ?_)
  have e : y.toBitVec.toNat.testBit i = bt y i := rfl
  rw [e]
  by_cases q : i < 32
  · exact h i hi q
  · exact bt_big (by omega)
theorem any_none {p : Nat → Bool} : ∀ n, anyN p n = false → ∀ j, j < n → p j = false
  | 0, _, j, hj => by omega
  | n + 1, h, j, hj => by
    rw [anyN, Bool.or_eq_false_iff] at h
    by_cases q : j = n
    · subst q; exact h.2
    · exact any_none n h.1 j (by omega)
theorem any_of {p : Nat → Bool} : ∀ n, (∀ j, j < n → p j = false) → anyN p n = false
  | 0, _ => rfl
  | n + 1, h => by rw [anyN, any_of n (fun j hj => h j (by omega)), h n (by omega)]; rfl
theorem bt_any {y : Int32} {p : Nat → Bool} {T : Nat} (hT : T ≤ 32) (h : ∀ j, j < 32 → bt y j = p j) (hp : ∀ j, T ≤ j → j < 32 → p j = false) : (y = i3 0) = (anyN p T = false) := by
  apply propext
  constructor
  · intro e
    subst e
    exact any_of T (fun j hj => by rw [← h j (by omega), bt_0])
  · intro e
    refine bt_ext (fun j hj => ?_)
    rw [h j hj, bt_0]
    by_cases q : j < T
    · exact any_none T e j q
    · exact hp j (by omega) hj
theorem ne_c {y : Int32} : (mjCmp .ne y 0 = true) = ¬ (y = i3 0) := by
  obtain ⟨z, rfl, z1, z2⟩ := i3_ex y
  rw [show (0 : Int32) = i3 0 from rfl, c_ne (by omega)]
  apply propext
  constructor
  · intro g e
    have := congrArg Int32.toInt e
    rw [i3_int (by omega), i3_int (by omega)] at this
    exact g this
  · intro g e; exact g (by rw [e])
theorem eq_c {y : Int32} : (mjCmp .eq y 0 = true) = (y = i3 0) := by
  obtain ⟨z, rfl, z1, z2⟩ := i3_ex y
  rw [show (0 : Int32) = i3 0 from rfl, c_eq (by omega)]
  apply propext
  constructor
  · intro e; rw [e]
  · intro e
    have := congrArg Int32.toInt e
    rw [i3_int (by omega), i3_int (by omega)] at this
    exact this
/-- the count of bits of a small number -/
def bc3 (p0 : Int32) : Int32 :=
  mjLet (p0 - ((((p0 : Int32).toUInt32 >>> ((1 : Int32).toUInt32 &&& Int32.toUInt32 31)).toInt32) &&& 1431655765) : Int32) fun x_101 =>
  mjLet ((x_101 &&& 858993459) + ((((x_101 : Int32).toUInt32 >>> ((2 : Int32).toUInt32 &&& Int32.toUInt32 31)).toInt32) &&& 858993459) : Int32) fun x_102 =>
  mjLet ((x_102 + (((x_102 : Int32).toUInt32 >>> ((4 : Int32).toUInt32 &&& Int32.toUInt32 31)).toInt32)) &&& 252645135 : Int32) fun x_103 =>
  mjLet (x_103 + (((x_103 : Int32).toUInt32 >>> ((8 : Int32).toUInt32 &&& Int32.toUInt32 31)).toInt32) : Int32) fun x_104 =>
  mjLet (x_104 + (((x_104 : Int32).toUInt32 >>> ((16 : Int32).toUInt32 &&& Int32.toUInt32 31)).toInt32) : Int32) fun x_105 =>
  (x_105 &&& 63)
theorem e323 (x : Int32) (Z : mjZt) : f323_bitCount x Z = some (bc3 x) := by
  unfold f323_bitCount bc3
  simp only [let_eq]
theorem bc_64 : ∀ n : Nat, n < 64 → (mjCmp .lt (bc3 (i3 n)) 2 = true) = ¬ (mjCmp .ne (i3 n &&& (i3 n - 1)) 0 = true) := by
  have : ∀ n : Nat, n < 64 → mjCmp .lt (bc3 (i3 n)) 2 = !(mjCmp .ne (i3 n &&& (i3 n - 1)) 0) := by decide +kernel
  intro n hn
  rw [this n hn]
  cases mjCmp .ne (i3 (n : Int) &&& (i3 n - 1)) 0 <;> simp
section Q88
variable {b o : Nat} {S : mjS} {W : Nat → Bool} {Z Zm : mjZt}
def clT (S : mjS) (W : Nat → Bool) (t : Nat) : Bool := sWh S t && (!(sHi S W (sAll S) t) && !(sIp S W (sAll S) t))
def agR (S : mjS) (W : Nat → Bool) (y : Int32) : Int32 := if mjCmp .ne (y &&& (y - 1)) 0 = true then i3 1 else if anyN (sWh S) (sT S) = false then i3 0 else if anyN (clT S W) (sT S) = true then i3 0 else i3 1
theorem m316h (hk : okS S) (hm : mRep Z S) (hV : mVd Z S W (sAll S)) (y : Int32) : ∀ f i n, i + f = sT S → f < n → f316_again_h16 n y (i3 (if anyN (sWh S) i = true then 1 else 0)) (i3 (if anyN (clT S W) i = true then 1 else 0)) (i3 i) Z = some (agR S W y, Z)
  | f, i, 0, _, hn => by omega
  | 0, i, n + 1, hf, _ => by
    obtain rfl : i = sT S := by omega
    have o1 := ok_sc hk
    rw [f316_again_h16, m_T hm, if_pos (by rw [c_ge (by omega)]; omega)]
    unfold agR
    by_cases q : mjCmp .ne (y &&& (y - 1)) 0 = true
    · rw [if_pos q, if_pos q, show (1 : Int32) = i3 1 from rfl, m196_1, mjBp_some]
    · rw [if_neg q, if_neg q]
      cases q1 : anyN (sWh S) (sT S)
      · rw [if_pos (by decide), if_pos rfl, show (0 : Int32) = i3 0 from rfl, m196_0, mjBp_some]
      · rw [if_neg (show ¬ (true = false) by decide), if_neg (show ¬ (mjCmp .eq (i3 (if true = true then 1 else 0)) 0 = true) by decide)]
        cases q2 : anyN (clT S W) (sT S)
        · rw [if_neg (by decide), if_neg (by decide), show (1 : Int32) = i3 1 from rfl, m196_1, mjBp_some]
        · rw [if_pos (by decide), if_pos rfl, show (0 : Int32) = i3 0 from rfl, m196_0, mjBp_some]
  | f + 1, i, n + 1, hf, hn => by
    have o1 := ok_sc hk
    have hi : i < sT S := by omega
    have ih := m316h hk hm hV y f (i + 1) n (by omega) (by omega)
    rw [anyN, anyN] at ih
    obtain ⟨v1, v2, v3⟩ := hV.2 i hi
    have hw : (if sTd S i = sLg S then (1 : Int) else 0) = if sWh S i = true then 1 else 0 := by
      by_cases q : sTd S i = sLg S
      · rw [if_pos q, show sWh S i = true from decide_eq_true ⟨hi, q⟩]; rfl
      · rw [if_neg q, show sWh S i = false from decide_eq_false (fun g => q g.2)]; rfl
    have h7 := m247 hm hk hi
    rw [hw] at h7
    have j43 : f316_again_j43 (f316_again_h16 n) y (i3 (if anyN (clT S W) i = true then 1 else 0)) (i3 i) (i3 (if (anyN (sWh S) i || sWh S i) = true then 1 else 0)) Z = some (agR S W y, Z) := by
      unfold f316_again_j43
      rw [i3_s]
      cases q1 : anyN (clT S W) i
      · rw [q1, Bool.false_or] at ih
        rw [if_neg (by decide), h7, mjBp_some, if_pos (in_p (by omega)), ix_nat (by omega), v1, v2]
        unfold clT at ih
        cases q2 : sWh S i
        · rw [q2, Bool.false_and] at ih
          rw [if_pos (by decide)]; exact ih
        · rw [q2, Bool.true_and] at ih
          rw [if_neg (by decide)]
          cases q3 : sHi S W (sAll S) i
          · rw [q3] at ih
            rw [if_neg (by decide)]
            cases q4 : sIp S W (sAll S) i
            · rw [q4] at ih
              rw [if_neg (by decide)]; exact ih
            · rw [q4] at ih
              rw [if_pos (by decide)]; exact ih
          · rw [q3] at ih
            rw [if_pos (by decide)]; exact ih
      · rw [q1, Bool.true_or] at ih
        rw [if_pos (by decide)]; exact ih
    rw [f316_again_h16, m_T hm, if_neg (by rw [c_ge (by omega)]; omega)]
    cases q1 : anyN (sWh S) i
    · rw [q1, Bool.false_or] at j43
      rw [if_neg (by decide), h7, mjBp_some]
      cases q2 : sWh S i
      · rw [q2] at j43
        rw [if_pos (by decide)]; exact j43
      · rw [q2] at j43
        rw [if_neg (by decide)]
        exact j43
    · rw [q1, Bool.true_or] at j43
      rw [if_pos (by decide)]
      exact j43
theorem wh_big {t : Nat} (ht : sT S ≤ t) : sWh S t = false := decide_eq_false (by omega)
theorem q_again (ho : okS S) (hoc : okC S) (hm : mRep Zm S) (hW : mWv Zm S (sW S)) (hv : vRep Z 199 S (sW S)) : ∃ v, f187_again Z = some v ∧ ∃ Z2, f316_again Zm = some (v, Z2) ∧ eqQ Zm Z2 := by
  have o1 := ok_sc ho
  obtain ⟨Z1, r1, r2, r3⟩ := m302 ho hoc hm hW
  obtain ⟨y, s1, s2⟩ := m313 ho (mRep_q hm r2) r3
  have e := m316h ho (mRep_q hm r2) r3 y (sT S) 0 mjF (by omega) (by unfold mjF; omega)
  refine ⟨agR S (sW S) y, ?_, Z1, ?_, r2⟩
  · obtain ⟨v1, v2, v3, v4⟩ := hv
    have h7 : Z.1 199 7 = y := bt_ext (fun j hj => by
      rw [(v4 j hj).2.2.2.1, s2 j hj]
      by_cases q : j < sT S
      · rw [decide_eq_true q, Bool.true_and]
      · have : sBe S (sW S) j = false := by
          cases q2 : sBe S (sW S) j
          · rfl
          · have := (in_lt (be_in q2)).1; omega
        rw [this, Bool.and_false])
    have h8 := bt_any (y := Z.1 199 8) (p := sWh S) (T := sT S) (by omega) (fun j hj => (v4 j hj).2.2.2.2) (fun j h1 _ => wh_big h1)
    have hx := bt_any (y := (((Z.1 199 8) &&& ((Z.1 199 4) ^^^ ((-1)))) &&& ((Z.1 199 6) ^^^ ((-1))))) (p := clT S (sW S)) (T := sT S) (by omega) (fun j hj => by
      rw [bt_and, bt_and, bt_xor, bt_xor, (v4 j hj).1, (v4 j hj).2.2.1, (v4 j hj).2.2.2.2, show (-1 : Int32) = i3 (-1) from rfl, bt_m1 j hj]
      unfold clT
      cases sWh S j <;> cases sHi S (sW S) (sAll S) j <;> cases sIp S (sW S) (sAll S) j <;> rfl) (fun j h1 _ => by unfold clT; rw [wh_big h1]; rfl)
    obtain ⟨N, hN, hy⟩ := small (y := y) (k := 6) (by omega) (fun j h1 h2 => by rw [s2 j h2, decide_eq_false (by omega), Bool.false_and])
    have hbc := bc_64 N hN
    rw [← hy] at hbc
    have hany : mjCmp .ne (y &&& (y - 1)) 0 = true → anyN (sWh S) (sT S) = true := by
      intro g
      cases q : anyN (sWh S) (sT S)
      · exfalso
        have z : y = i3 0 := bt_ext (fun j hj => by
          rw [s2 j hj, bt_0]
          by_cases q2 : j < sT S
          · have := any_none _ q j q2
            cases q3 : sBe S (sW S) j
            · simp
            · have g4 := in_lt (be_in q3)
              have : sWh S j = true := decide_eq_true ⟨g4.1, g4.2.1⟩
              simp_all
          · rw [decide_eq_false q2, Bool.false_and])
        rw [z] at g
        exact absurd g (by decide)
      · rfl
    have fin : ∀ u : Int32, u = agR S (sW S) y → (∃ w, f141_isRunAgain 199 Z = some w ∧ ((w = i3 0 ∧ u = i3 0) ∨ (w = i3 1 ∧ u = i3 1))) → f187_again Z = some (agR S (sW S) y) := by
      intro u hu ⟨w, g1, g2⟩
      unfold f187_again
      rw [g1, mjBp_some, ← hu]
      rcases g2 with ⟨rfl, rfl⟩ | ⟨rfl, rfl⟩
      · rw [if_pos (by decide)]; rfl
      · rw [if_neg (by decide)]; rfl
    refine fin _ rfl ?_
    have j26 : ∀ c : Bool, anyN (clT S (sW S)) (sT S) = c → ∃ w, f141_isRunAgain_j26 199 (if c = true then 0 else 1) Z = some w ∧ ((w = i3 0 ∧ agR S (sW S) y = i3 0) ∨ (w = i3 1 ∧ agR S (sW S) y = i3 1)) := by
      intro c hc
      unfold f141_isRunAgain_j26 agR
      rw [if_pos (by decide), h7, e323, mjBp_some, hc]
      cases q1 : anyN (sWh S) (sT S)
      · have n1 : ¬ mjCmp .ne (y &&& (y - 1)) 0 = true := fun g => by have := hany g; rw [q1] at this; exact absurd this (by decide)
        refine ⟨0, ?_, Or.inl ⟨rfl, ?_⟩⟩
        · rw [if_pos (by rw [eq_c, h8]; exact q1)]
        · rw [if_neg n1, if_pos rfl]
      · have n2 : ¬ mjCmp .eq (Z.1 199 8) 0 = true := by rw [eq_c, h8, q1]; decide
        by_cases q2 : mjCmp .ne (y &&& (y - 1)) 0 = true
        · refine ⟨1, ?_, Or.inr ⟨rfl, ?_⟩⟩
          · rw [if_neg n2]
            cases c
            · rw [if_pos (by decide)]
            · rw [if_neg (by decide), if_neg (by rw [hbc]; exact fun g => g q2)]
          · rw [if_pos q2]
        · cases c
          · refine ⟨1, ?_, Or.inr ⟨rfl, ?_⟩⟩
            · rw [if_neg n2, if_pos (by decide)]
            · rw [if_neg q2, if_neg (by decide), if_neg (by decide)]
          · refine ⟨0, ?_, Or.inl ⟨rfl, ?_⟩⟩
            · rw [if_neg n2, if_neg (by decide), if_pos (by rw [hbc]; exact q2)]
            · rw [if_neg q2, if_neg (by decide), if_pos rfl]
    unfold f141_isRunAgain
    rw [if_pos (by decide)]
    cases q1 : anyN (clT S (sW S)) (sT S)
    · rw [if_neg (by rw [ne_c, hx, q1]; decide)]
      exact j26 false q1
    · rw [if_pos (by rw [ne_c, hx, q1]; decide)]
      exact j26 true q1
  · unfold f316_again
    rw [r1, mjBd_some, s1, mjBp_some]
    exact e
end Q88
