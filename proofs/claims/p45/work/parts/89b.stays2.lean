/-! STAYS: the sets of told acts, one after another -/
theorem bt_nat {m j : Nat} (hj : j < 32) : bt (i3 m) j = m.testBit j := by
  show (BitVec.ofInt 32 (m : Int)).getLsbD j = m.testBit j
  rw [BitVec.ofInt_natCast, BitVec.getLsbD_ofNat, decide_eq_true hj, Bool.true_and]
theorem b6_nat {m j : Nat} (hj : j < 64) : b6 (i6 m) j = m.testBit j := by
  show (BitVec.ofInt 64 (m : Int)).getLsbD j = m.testBit j
  rw [BitVec.ofInt_natCast, BitVec.getLsbD_ofNat, decide_eq_true hj, Bool.true_and]
theorem tb_big {m k j : Nat} (hm : m < 2 ^ k) (hj : k ≤ j) : m.testBit j = false := Nat.testBit_lt_two_pow (Nat.lt_of_lt_of_le hm (Nat.pow_le_pow_right (by decide) hj))
theorem pw_le {k : Nat} (hk : k ≤ 12) : 2 ^ k ≤ 4096 := Nat.pow_le_pow_right (by decide) hk
theorem cnt12 {m : Nat} (hm : m < 4096) : cN (b6 (i6 m)) 64 = cb 12 m := by
  rw [cN_ext (n := 12) 64 (by omega) (fun i h1 h2 => by rw [b6_nat h2]; exact tb_big (k := 12) hm h1), cb_cN]
  exact cN_congr 12 (fun i hi => b6_nat (by omega))
theorem bc_12x : ∀ x : Nat, x < 64 → ∀ y : Nat, y < 64 → bc3 (i3 ((64 * x + y : Nat) : Int)) = i3 ((cb 12 (64 * x + y) : Nat) : Int) := by decide +kernel
theorem bc_12 (m : Nat) (hm : m < 4096) : bc3 (i3 m) = i3 ((cb 12 m : Nat) : Int) := by
  have e := bc_12x (m / 64) (by omega) (m % 64) (by omega)
  rw [show 64 * (m / 64) + m % 64 = m by omega] at e
  exact e
theorem sh_12 : ∀ n : Nat, n < 13 → (1 : Int32) <<< (i3 n &&& 31) = i3 ((2 ^ n : Nat) : Int) ∧ mjMin (i3 n) 12 = i3 n := by decide +kernel
theorem cb_le : ∀ n X, cb n X ≤ n
  | 0, _ => Nat.le_refl _
  | n + 1, X => by
    have := cb_le n (X / 2)
    rw [cb]
    omega
section SZ
variable {b : Nat} {S : mjS} {W : Nat → Bool} {Z Zm : mjZt}
def wM (S : mjS) (m a : Nat) : Bool := decide (a < sA S ∧ (S 3 (72 + 3 * a + 2) = 1 ∨ bt (i3 m) a = true))
def cmW (S : mjS) (m : Nat) : Bool := anyN (fun j => m.testBit j && sW S j) (sA S)
def bC (S : mjS) (t : Nat) : Nat → Int
  | 0 => 13
  | m + 1 => if cmW S m = false ∧ (cb 12 m : Int) < bC S t m ∧ unF S (wM S m) t (sAll S) 0 = true then (cb 12 m : Int) else bC S t m
def bSt (S : mjS) (t : Nat) : Nat → Int
  | 0 => -2
  | m + 1 => if cmW S m = false ∧ (cb 12 m : Int) < bC S t m ∧ unF S (wM S m) t (sAll S) 0 = true then (m : Int) else bSt S t m
theorem bC_bd (t : Nat) : ∀ m, 0 ≤ bC S t m ∧ bC S t m ≤ 13 ∧ (bSt S t m = -2 ∨ (0 ≤ bSt S t m ∧ bSt S t m < m ∧ bC S t m = cb 12 (bSt S t m).toNat))
  | 0 => by simp [bC, bSt]
  | m + 1 => by
    have h := bC_bd t m
    have c := cb_le 12 m
    rw [bC, bSt]
    by_cases q : cmW S m = false ∧ (cb 12 m : Int) < bC S t m ∧ unF S (wM S m) t (sAll S) 0 = true
    · rw [if_pos q, if_pos q, Int.toNat_natCast]; omega
    · rw [if_neg q, if_neg q]; omega
theorem wM_c (h : cBk Z b S) (ho : okS S) {m : Nat} (hm : m < 2 ^ sA S) : ∀ j, j < sAll S → b6 (Z.2.1 b 11 ||| i6 m) j = wM S m j := by
  intro j hj
  have o1 := ok_sc ho
  have oa := all_le ho
  rw [b6_or, wv_bit h (by omega), b6_nat (by omega)]
  unfold wM sW
  by_cases q : j < sA S
  · rw [bt_nat (by omega)]
    simp [q]
  · rw [tb_big hm (by omega)]
    simp [q]
theorem cm_c (h : cBk Z b S) (ho : okS S) {m : Nat} (hm : m < 2 ^ sA S) : (mjCmp .ne (lg_cmp (i6 m &&& Z.2.1 b 11) 0) 0 = true) = ¬ (cmW S m = false) := by
  have o1 := ok_sc ho
  rw [lg_ne]
  have key : (i6 (m : Int) &&& Z.2.1 b 11 = i6 0) = (cmW S m = false) := by
    apply propext
    constructor
    · intro g
      refine any_of _ (fun j hj => ?_)
      have e := congrArg (fun y => b6 y j) g
      simp only [b6_and, b6_0] at e
      rw [b6_nat (by omega), wv_bit h (by omega)] at e
      exact e
    · intro g
      refine b6_ext (fun j hj => ?_)
      rw [b6_and, b6_nat hj, wv_bit h hj, b6_0]
      by_cases q : j < sA S
      · exact any_none _ g j q
      · rw [tb_big hm (by omega), Bool.false_and]
  rw [key]
theorem e96h (ho : okS S) (hoc : okC S) {t : Nat} (ht : t < 6) : ∀ f m n (Z : mjZt), m + f = 2 ^ sA S → f < n → cBk Z b S → cDr Z b S → cTr Z b S → mE Z S → mM Z S → ∃ Z1, f96_fewestWaived_h91 n b (i3 t) (i3 ((2 ^ sA S : Nat) : Int)) (i3 (bC S t m)) (i3 (bSt S t m)) (i3 m) Z = some (i3 (bSt S t (2 ^ sA S)), Z1) ∧ eqQ Z Z1
  | f, m, 0, _, _, hn, _, _, _, _, _ => by omega
  | 0, m, n + 1, Z, hf, _, h, hd, _, hE, hM => by
    have o1 := ok_sc ho
    have hp := pw_le (k := sA S) (by omega)
    generalize hN : 2 ^ sA S = N at *
    obtain rfl : m = N := by omega
    exact ⟨Z, by rw [f96_fewestWaived_h91, if_pos (by rw [c_ge (by omega)]; omega)], eqQ_rf⟩
  | f + 1, m, n + 1, Z, hf, hn, h, hd, htr, hE, hM => by
    have o1 := ok_sc ho
    have hb := b_b h
    have hp := pw_le (k := sA S) (by omega)
    have hm : m < 2 ^ sA S := by omega
    have bb := bC_bd (S := S) t m
    have cc := cb_le 12 m
    have c1 := cm_c h ho hm
    have w1 := wM_c h ho hm
    have ih := fun Z2 hB hD hT hE2 hM2 => e96h ho hoc ht f (m + 1) n Z2 (by omega) (by omega) hB hD hT hE2 hM2
    have i64 : (i3 (m : Int)).toInt64 = i6 m := i36 (by omega)
    have g1 : ¬ mjCmp .ge (i3 (m : Int)) (i3 ((2 ^ sA S : Nat) : Int)) = true := by rw [c_ge (by omega)]; omega
    rw [f96_fewestWaived_h91, if_neg g1, e323, mjBp_some, bc_12 m (by omega), if_pos (is_b hb), i64, i3_s]
    rw [bC, bSt] at ih
    by_cases q1 : cmW S m = false
    · rw [if_neg (by rw [c1]; exact fun g => g q1)]
      by_cases q2 : (cb 12 m : Int) < bC S t m
      · obtain ⟨Z1, r1, r2, r3, r4⟩ := e95h ho hoc w1 ht (sAll S) 0 mjF Z (by omega) (by have := all_le ho; unfold mjF; omega) h hd htr hE hM
        have st := ih Z1 (cBk_q ho h r2) (cDr_q ho hb hd r2) (cTr_of htr (eqQ_B hb r2)) r3 r4
        rw [if_neg (by rw [c_ge (by omega)]; omega)]
        unfold f95_isUnstruck
        rw [show i3 ((0 : Nat) : Int) = (0 : Int32) from rfl] at r1
        rw [r1, mjBd_some]
        by_cases q3 : unF S (wM S m) t (sAll S) 0 = true
        · rw [if_pos ⟨q1, q2, q3⟩, if_pos ⟨q1, q2, q3⟩] at st
          obtain ⟨Z2, s1, s2⟩ := st
          exact ⟨Z2, by rw [if_neg (by rw [q3]; decide)]; exact s1, eqQ_tr r2 s2⟩
        · rw [if_neg (fun g => q3 g.2.2), if_neg (fun g => q3 g.2.2)] at st
          obtain ⟨Z2, s1, s2⟩ := st
          have q4 : unF S (wM S m) t (sAll S) 0 = false := by simpa using q3
          exact ⟨Z2, by rw [if_pos (by rw [q4]; decide)]; exact s1, eqQ_tr r2 s2⟩
      · have st := ih Z h hd htr hE hM
        rw [if_neg (fun g => q2 g.2.1), if_neg (fun g => q2 g.2.1)] at st
        rw [if_pos (by rw [c_ge (by omega)]; omega)]
        exact st
    · have st := ih Z h hd htr hE hM
      rw [if_neg (fun g => q1 g.1), if_neg (fun g => q1 g.1)] at st
      rw [if_pos (by rw [c1]; exact q1)]
      exact st
/-! filling -/
theorem e326h {o N : Nat} (h1 : mjIs o 211 14 = true) (h2 : (mjLay o).2 = N) (hN : N ≤ 1000) (v : Int64) : ∀ f i n (Z : mjZt), i + f = N → f < n → (∀ k, k < i → Z.2.1 o k = v) → ∃ Z1, f326_fill_h6 n o v (i3 i) (i3 N) Z = some ((), Z1) ∧ Z1.1 = Z.1 ∧ Z1.2.2 = Z.2.2 ∧ (∀ a, a ≠ o → Z1.2.1 a = Z.2.1 a) ∧ ∀ k, k < N → Z1.2.1 o k = v
  | f, i, 0, _, _, hn, _ => by omega
  | 0, i, n + 1, Z, hf, _, hp => by
    obtain rfl : i = N := by omega
    exact ⟨Z, by rw [f326_fill_h6, if_pos (by rw [c_ge (by omega)]; omega)], rfl, rfl, fun _ _ => rfl, hp⟩
  | f + 1, i, n + 1, Z, hf, hn, hp => by
    obtain ⟨Z1, r1, r2, r3, r4, r5⟩ := e326h h1 h2 hN v f (i + 1) n (zSl Z o i v) (by omega) (by omega) (fun k hk => by
      by_cases q : k = i
      · subst q; rw [sl_same]
      · rw [sl_fld _ _ _ _ (by omega)]; exact hp k (by omega))
    refine ⟨Z1, ?_, r2, r3, fun a ha => by rw [r4 a ha, sl_obj _ _ _ _ ha], r5⟩
    rw [f326_fill_h6, if_neg (by rw [c_ge (by omega)]; omega), if_pos h1, h2, if_pos (in_p (by omega)), ix_nat (by omega), let_eq, i3_s]
    exact r1
theorem e326 {o N : Nat} (h1 : mjIs o 211 14 = true) (h2 : (mjLay o).2 = N) (hN : N ≤ 1000) (v : Int64) (Z : mjZt) : ∃ Z1, f326_fill o v Z = some ((), Z1) ∧ Z1.1 = Z.1 ∧ Z1.2.2 = Z.2.2 ∧ (∀ a, a ≠ o → Z1.2.1 a = Z.2.1 a) ∧ ∀ k, k < N → Z1.2.1 o k = v := by
  obtain ⟨Z1, r1, r2⟩ := e326h h1 h2 hN v N 0 mjF Z (by omega) (by unfold mjF; omega) (fun k hk => by omega)
  refine ⟨Z1, ?_, r2⟩
  unfold f326_fill
  rw [if_pos h1, h2, i3_ofNat]
  exact r1
/-! the rows of who is earlier, who forces: of acts that there aren't, anything -/
theorem e41t (h : cBk Z b S) (hd : cDr Z b S) (ho : okS S) {a : Nat} (ha : a < 42) (te : Int32) : ∃ y, f41_earlier b (i3 a) te Z = some y := by
  have hb := b_b h
  have oa := all_le ho
  have key : ∀ f i n (x : Int64), i + f = sAll S → f < n → ∃ y, f41_earlier_h12 n b (i3 a) te (acB b a) x (i3 i) Z = some y := by
    intro f
    induction f with
    | zero =>
      intro i n x hf hn
      cases n with
      | zero => omega
      | succ n =>
        obtain rfl : i = sAll S := by omega
        exact ⟨x, by rw [f41_earlier_h12, if_pos (is_b hb), hd.1, if_pos (by rw [c_ge (by omega)]; omega)]⟩
    | succ f ih =>
      intro i n x hf hn
      cases n with
      | zero => omega
      | succ n =>
        have nx : ∀ x, ∃ y, f41_earlier_h12 n b (i3 a) te (acB b a) x (i3 i + 1) Z = some y := fun x => by rw [i3_s]; exact ih (i + 1) n x (by omega) (by omega)
        rw [f41_earlier_h12, if_pos (is_b hb), hd.1, if_neg (by rw [c_ge (by omega)]; omega), e6 hb (by omega), mjBp_some, if_pos (is_ac hb i (by omega))]
        unfold f41_earlier_j53 f41_earlier_j57 f41_earlier_j58
        rw [if_pos (is_ac hb i (by omega)), if_pos (is_ac hb a ha)]
        repeat' split
        all_goals exact nx _
  obtain ⟨y, hy⟩ := key (sAll S) 0 mjF 0 (by omega) (by unfold mjF; omega)
  refine ⟨y, ?_⟩
  unfold f41_earlier
  rw [if_pos (is_b hb), e6 hb ha, mjBp_some]
  exact hy
theorem e42t (h : cBk Z b S) (ho : okS S) {a : Nat} (ha : a < 42) (te : Int32) : ∃ y, f42_forcers b (i3 a) te Z = some y := by
  have hb := b_b h
  have o1 := ok_sc ho
  have key : ∀ f i n (x : Int64) (w : Int32), i + f = sA S → f < n → ∃ y, f42_forcers_h15 n b te w x (i3 i) Z = some y := by
    intro f
    induction f with
    | zero =>
      intro i n x w hf hn
      cases n with
      | zero => omega
      | succ n =>
        obtain rfl : i = sA S := by omega
        exact ⟨x, by rw [f42_forcers_h15, if_pos (is_b hb), b_A h, if_pos (by rw [c_ge (by omega)]; omega)]⟩
    | succ f ih =>
      intro i n x w hf hn
      cases n with
      | zero => omega
      | succ n =>
        have nx : ∀ x, ∃ y, f42_forcers_h15 n b te w x (i3 i + 1) Z = some y := fun x => by rw [i3_s]; exact ih (i + 1) n x w (by omega) (by omega)
        rw [f42_forcers_h15, if_pos (is_b hb), b_A h, if_neg (by rw [c_ge (by omega)]; omega), e6 hb (by omega), mjBp_some, if_pos (is_ac hb i (by omega))]
        unfold f42_forcers_j57 f42_forcers_j58
        rw [if_pos (is_ac hb i (by omega))]
        repeat' split
        all_goals exact nx _
  obtain ⟨y, hy⟩ := key (sA S) 0 mjF 0 (Z.1 (acB b a) 1) (by omega) (by unfold mjF; omega)
  refine ⟨y, ?_⟩
  unfold f42_forcers
  rw [if_pos (is_b hb), e6 hb ha, mjBp_some, if_pos (is_ac hb a ha)]
  exact hy
end SZ
