/-! THE VERDICT: what it is, of the class -/
def anyN (p : Nat → Bool) : Nat → Bool
  | 0 => false
  | n + 1 => anyN p n || p n
def stk (S : mjS) (W : Nat → Bool) (a : Nat) : Bool := decide (fRu S W a (sTe S a) (sSz S a) ≠ -1)
def sHi (S : mjS) (W : Nat → Bool) (n t : Nat) : Bool := anyN (fun a => stk S W a && decide (sTmA S a = t)) n
def sIp (S : mjS) (W : Nat → Bool) (n t : Nat) : Bool := anyN (fun a => stk S W a && decide (sKd S a = 3 ∧ sOt S a = t)) n
def sWd (S : mjS) (W : Nat → Bool) (t : Nat) : Nat → Int
  | 0 => sTm S t
  | n + 1 => sWd S W t n - (if stk S W n = true ∧ sKd S n = 3 ∧ sOt S n = t then sSz S n else 0)
def sIn (S : mjS) (W : Nat → Bool) (t : Nat) : Bool := decide (t < sT S) && (decide (sTd S t = sLg S) && !(sHi S W (sAll S) t))
def sWo (S : mjS) (W : Nat → Bool) (t : Nat) : Int := sWd S W t (sAll S)
def sRk (S : mjS) (W : Nat → Bool) (t : Nat) : Int := 1 + cN (fun o => sIn S W o && decide (sTm S o < sTm S t)) (sT S)
def sThr (S : mjS) (W : Nat → Bool) (t : Nat) : Bool := sIn S W t && decide (sRk S W t ≤ sTh S)
def laN (S : mjS) (W : Nat → Bool) : Nat → Int
  | 0 => 0
  | n + 1 => if sThr S W n = true ∧ laN S W n < sTm S n then sTm S n else laN S W n
def sBe (S : mjS) (W : Nat → Bool) (t : Nat) : Bool := sIn S W t && (sIp S W (sAll S) t && (!(sThr S W t) && decide (sWo S W t ≤ laN S W (sT S) + sWi S)))
def sWh (S : mjS) (t : Nat) : Bool := decide (t < sT S ∧ sTd S t = sLg S)
/-- the class's picture of a verdict -/
def vRep (Z : mjZt) (o : Nat) (S : mjS) (W : Nat → Bool) : Prop :=
  (∀ a, a < sAll S → ∀ j, j < 32 → bt (Z.1 (o + 1) a) j = (decide (j < sR S) && sSt S W a (sTe S a) (sSz S a) j)) ∧ (∀ t, t < sT S → Z.1 (o + 2) t = i3 (sWo S W t)) ∧
  (0 < sT S → ∀ t, t < 6 → Z.1 (o + 3) t = i3 (if sIn S W t = true then sTm S t else 2147483647) ∧ Z.1 (o + 4) t = i3 (if sIn S W t = true then sWo S W t else 2147483647)) ∧
  (∀ j, j < 32 → bt (Z.1 o 4) j = sHi S W (sAll S) j ∧ bt (Z.1 o 5) j = sThr S W j ∧ bt (Z.1 o 6) j = sIp S W (sAll S) j ∧ bt (Z.1 o 7) j = sBe S W j ∧ bt (Z.1 o 8) j = sWh S j)
def eqW (o : Nat) (Z Z2 : mjZt) : Prop := Z2.2.2 = Z.2.2 ∧ ∀ a, a ≠ 191 → a ≠ 192 → (a < o ∨ o + 4 < a) → Z2.1 a = Z.1 a ∧ Z2.2.1 a = Z.2.1 a
theorem eqW_rf {o : Nat} {Z : mjZt} : eqW o Z Z := ⟨rfl, fun _ _ _ _ => ⟨rfl, rfl⟩⟩
theorem eqW_tr {o : Nat} {Z Z2 Z3 : mjZt} (h : eqW o Z Z2) (g : eqW o Z2 Z3) : eqW o Z Z3 := ⟨g.1.trans h.1, fun a h1 h2 h3 => ⟨(g.2 a h1 h2 h3).1.trans (h.2 a h1 h2 h3).1, (g.2 a h1 h2 h3).2.trans (h.2 a h1 h2 h3).2⟩⟩
theorem eqW_si {o : Nat} {Z : mjZt} {a k : Nat} {v : Int32} (h : o ≤ a ∧ a ≤ o + 4) : eqW o Z (zSi Z a k v) := ⟨rfl, fun c _ _ h3 => ⟨si_obj _ _ _ _ (by omega), rfl⟩⟩
theorem eqW_B {o b : Nat} {Z Z2 : mjZt} (ho : 182 ≤ o) (hb : b = 2 ∨ b = 92) (h : eqW o Z Z2) : eqB b Z Z2 := fun a h1 h2 => h.2 a (by omega) (by omega) (by omega)
theorem sl_eta {Z Z2 : mjZt} (h1 : Z2.1 = Z.1) (h2 : Z2.2.1 = Z.2.1) (h3 : Z2.2.2 = Z.2.2) : Z2 = Z := Prod.ext h1 (Prod.ext h2 h3)
section VD
variable {b o : Nat} {S : mjS} {W : Nat → Bool} {Z : mjZt}
theorem is_o (ho : o = 199 ∨ o = 204) : mjIs o 211 10 = true ∧ mjIs (o + 1) 211 13 = true ∧ mjIs (o + 2) 211 13 = true ∧ mjIs (o + 3) 211 13 = true ∧ mjIs (o + 4) 211 13 = true ∧ (mjLay (o + 1)).2 = 42 ∧ (mjLay (o + 2)).2 = 6 ∧ (mjLay (o + 3)).2 = 6 ∧ (mjLay (o + 4)).2 = 6 := by
  rcases ho with rfl | rfl <;> decide
theorem wd_bd (hk : okS S) (t : Nat) (ht : t < sT S) : ∀ n, n ≤ sAll S → -99 * (n : Int) ≤ sWd S W t n ∧ sWd S W t n ≤ 5994
  | 0, _ => by have := tm_bd hk ht; rw [sWd]; omega
  | n + 1, hn => by
    have h1 := wd_bd hk t ht n (by omega)
    have h2 := sz_bd hk (a := n) (by omega)
    rw [sWd]
    split <;> omega
theorem hi_big (hk : okS S) {t : Nat} (ht : sT S ≤ t) : ∀ n, n ≤ sAll S → sHi S W n t = false
  | 0, _ => rfl
  | n + 1, hn => by
    have h1 := hi_big hk ht n (by omega)
    have h2 := tmA_lt hk (a := n) (by omega)
    unfold sHi at h1 ⊢
    rw [anyN, h1, decide_eq_false (by omega), Bool.and_false, Bool.or_false]
theorem ip_big (hk : okS S) {t : Nat} (ht : sT S ≤ t) : ∀ n, n ≤ sAll S → sIp S W n t = false
  | 0, _ => rfl
  | n + 1, hn => by
    have h1 := ip_big hk ht n (by omega)
    have h2 := ot_cases hk (a := n)
    unfold sIp at h1 ⊢
    rw [anyN, h1, decide_eq_false (by rcases h2 with ⟨q, _⟩ | ⟨c, q, q2, _⟩ <;> omega), Bool.and_false, Bool.or_false]
def tZ (S : mjS) (t : Nat) : Int := if t < sT S then sTm S t else 0
theorem e99z (h : cBk Z b S) (hd : cDr Z b S) (hk : okS S) {t : Nat} (ht : t < 6) : ∃ r, f8_runner b (i3 t) Z = some r ∧ mjIs r 211 7 = true ∧ f99_time r Z = some (i3 (tZ S t)) := by
  have hb := b_b h
  have o1 := ok_sc hk
  unfold tZ
  by_cases q : t < sT S
  · exact ⟨tmB b t, e8 h hk q, is_tm hb t ht, by rw [if_pos q]; exact e99 h hd hk q⟩
  · refine ⟨b + 12, e8n h hk (by omega) (by omega), is_b12 hb, ?_⟩
    have z6 := b_no h (j := 0) (by omega) 6
    have z0 := b_no h (j := 3) (by omega) 0
    unfold f99_time
    rw [if_neg q, if_pos (is_b12 hb), show b + 12 = b + 12 + 0 from rfl, z6, show b + 12 + 0 + 3 = b + 12 + (2 + 1) from rfl, show (0 : Int32) = i3 0 from rfl, e5 (is_b12r hb 2 (by omega)).1 (is_b12r hb 2 (by omega)).2 (by omega) (by omega), mjBp_some]
    exact congrArg some z0
theorem v13 (ho : o = 199 ∨ o = 204) (hk : okS S) (w : Int64) : ∀ f i n (Z : mjZt), i + f = 6 → f < n → cBk Z b S → cDr Z b S → (∀ t, t < i → Z.1 (o + 2) t = i3 (tZ S t)) → ∃ Z1, f136_decide_h13 n o b w (i3 i) Z = f136_decide_h45 mjF o b w (i3 0) Z1 ∧ eqW o Z Z1 ∧ (∀ t, t < 6 → Z1.1 (o + 2) t = i3 (tZ S t)) ∧ Z1.1 o = Z.1 o
  | f, i, 0, _, _, hn, _, _, _ => by omega
  | 0, i, n + 1, Z, hf, _, _, _, hp => by
    obtain rfl : i = 6 := by omega
    exact ⟨Z, by rw [f136_decide_h13, if_pos (by decide)]; rfl, eqW_rf, hp, rfl⟩
  | f + 1, i, n + 1, Z, hf, hn, h, hd, hp => by
    obtain ⟨p0, p1, p2, p3, p4, l1, l2, l3, l4⟩ := is_o ho
    have hb := b_b h
    obtain ⟨r, r1, r2, r3⟩ := e99z h hd hk (t := i) (by omega)
    have e : eqW o Z (zSi Z (o + 2) i (i3 (tZ S i))) := eqW_si (by omega)
    obtain ⟨Z1, s1, s2, s3, s4⟩ := v13 ho hk w f (i + 1) n (zSi Z (o + 2) i (i3 (tZ S i))) (by omega) (by omega) (cBk_of ⟨(ok_sc hk).1, (ok_sc hk).2.1⟩ h (eqW_B (by omega) hb e)) (cDr_of ⟨(ok_sc hk).1, all_le hk⟩ hd (eqW_B (by omega) hb e)) (fun t ht => by
      by_cases q : t = i
      · subst q; rw [si_same]
      · rw [si_fld _ _ _ _ (by omega)]; exact hp t (by omega))
    refine ⟨Z1, ?_, eqW_tr e s2, s3, by rw [s4, si_obj _ _ _ _ (by omega)]⟩
    rw [f136_decide_h13, show (6 : Int32) = i3 6 from rfl, if_neg (by rw [c_ge (by omega)]; omega), if_pos p0, if_pos (is_b hb), r1, mjBp_some, if_pos r2, r3, mjBp_some, if_pos p2, l2, if_pos (in_p (by omega)), ix_nat (by omega), let_eq, i3_s]
    exact s1
/-- what the loop over the acts keeps -/
def vJ (Z : mjZt) (o : Nat) (S : mjS) (W : Nat → Bool) (n : Nat) : Prop :=
  (∀ a, a < n → ∀ j, j < 32 → bt (Z.1 (o + 1) a) j = (decide (j < sR S) && sSt S W a (sTe S a) (sSz S a) j)) ∧ (∀ t, t < sT S → Z.1 (o + 2) t = i3 (sWd S W t n)) ∧
  (∀ j, j < 32 → bt (Z.1 o 4) j = sHi S W n j ∧ bt (Z.1 o 6) j = sIp S W n j)
theorem vJ_of {Z2 : mjZt} {n : Nat} (h : vJ Z o S W n) (e1 : Z2.1 (o + 1) = Z.1 (o + 1)) (e2 : Z2.1 (o + 2) = Z.1 (o + 2)) (e3 : Z2.1 o = Z.1 o) : vJ Z2 o S W n := by
  unfold vJ
  rw [e1, e2, e3]
  exact h
theorem e132 (ho : o = 199 ∨ o = 204) (hk : okS S) (hb : b = 2 ∨ b = 92) {a : Nat} (ha : a < sAll S) (hA : aRep Z (acB b a) S a) (hs : stk S W a = true) (hy : ∀ j, j < 32 → bt (Z.1 (o + 1) a) j = (decide (j < sR S) && sSt S W a (sTe S a) (sSz S a) j)) (hJ : vJ Z o S W a) : ∃ Z1, f132_strike o (acB b a) Z = some ((), Z1) ∧ eqW o Z Z1 ∧ vJ Z1 o S W (a + 1) := by
  obtain ⟨p0, p1, p2, p3, p4, l1, l2, l3, l4⟩ := is_o ho
  obtain ⟨j1, j2, j3⟩ := hJ
  have o1 := ok_sc hk
  have oa := all_le hk
  have t2 := tmA_lt hk ha
  have kb := kd_bd hk (a := a)
  have hob : ¬ acB b a = o := by unfold acB; omega
  have hob2 : ¬ acB b a = o + 2 := by unfold acB; omega
  obtain ⟨a0, a1, a2, a3, a4⟩ := hA
  have hi1 : ∀ j, sHi S W (a + 1) j = (sHi S W a j || decide (sTmA S a = j)) := fun j => by unfold sHi; rw [anyN, hs, Bool.true_and]
  have ip1 : ∀ j, sIp S W (a + 1) j = (sIp S W a j || decide (sKd S a = 3 ∧ sOt S a = j)) := fun j => by unfold sIp; rw [anyN, hs, Bool.true_and]
  have wd1 : ∀ t, sWd S W t (a + 1) = sWd S W t a - (if sKd S a = 3 ∧ sOt S a = t then sSz S a else 0) := fun t => by rw [sWd, hs]; simp
  have h4 : ∀ j, j < 32 → bt (Z.1 o 4 ||| i3 1 <<< (i3 (sTmA S a : Int) &&& 31)) j = sHi S W (a + 1) j := fun j hj => by
    rw [bt_or, (j3 j hj).1, bt_single (by omega) hj, hi1]
    by_cases q : j = sTmA S a <;> simp [q, eq_comm]
  unfold f132_strike
  rw [if_pos p0, if_pos (is_ac hb a (by omega)), a1, let_eq, si_obj _ _ _ _ hob, a0, a2, show (3 : Int32) = i3 3 from rfl, show (1 : Int32) = i3 1 from rfl]
  rcases ot_cases hk (a := a) with ⟨q1, q2⟩ | ⟨c, q1, q2, q3, q4, q5⟩
  · refine ⟨_, by rw [if_pos (by rw [c_ne (by omega)]; omega)], eqW_si (by omega), ?_, ?_, ?_⟩
    · intro x hx j hj
      rw [si_obj _ _ _ _ (by omega)]
      rcases (by omega : x < a ∨ x = a) with q | rfl
      · exact j1 x q j hj
      · exact hy j hj
    · intro t ht
      rw [si_obj _ _ _ _ (by omega), wd1, if_neg (by omega), Int.sub_zero]
      exact j2 t ht
    · intro j hj
      rw [si_same, si_fld _ _ _ _ (by omega), h4 j hj, (j3 j hj).2, ip1, decide_eq_false (by omega), Bool.or_false]
      exact ⟨rfl, rfl⟩
  · have w2 := wd_bd (W := W) hk c q2 a (by omega)
    refine ⟨zSi (zSi (zSi Z o 4 (Z.1 o 4 ||| i3 1 <<< (i3 (sTmA S a : Int) &&& 31))) o 6 (Z.1 o 6 ||| i3 1 <<< (i3 (c : Int) &&& 31))) (o + 2) c (i3 (sWd S W c a - sSz S a)), ?_, eqW_tr (eqW_si (by omega)) (eqW_tr (eqW_si (by omega)) (eqW_si (by omega))), ?_, ?_, ?_⟩
    · rw [q1, if_neg (by rw [c_ne (by omega)]; omega), show (0 : Int32) = i3 0 from rfl, if_neg (by rw [c_lt (by omega)]; omega), show (6 : Int32) = i3 6 from rfl, if_neg (by rw [c_ge (by omega)]; omega), let_eq, if_pos p2]
      simp only [si_obj _ _ _ _ hob, si_obj _ _ _ _ (show ¬ (o + 2 = o) by omega), si_fld _ o 4 _ (a2 := o) (k2 := 6) (by omega), a2, a4, q1, l2, j2 c q2, ix_nat (show ((c : Nat) : Int) ≤ 2147483647 by omega), i3_sub]
      rw [if_pos (in_p (by omega)), let_eq]
    · intro x hx j hj
      rw [si_obj _ _ _ _ (by omega), si_obj _ _ _ _ (by omega), si_obj _ _ _ _ (by omega)]
      rcases (by omega : x < a ∨ x = a) with q | rfl
      · exact j1 x q j hj
      · exact hy j hj
    · intro t ht
      by_cases q : t = c
      · subst q
        rw [si_same, wd1, if_pos ⟨q4, q1⟩]
      · rw [si_fld _ _ _ _ (by omega), si_obj _ _ _ _ (by omega), si_obj _ _ _ _ (by omega), j2 t ht, wd1, if_neg (by omega), Int.sub_zero]
    · intro j hj
      rw [si_obj _ _ _ _ (by omega), si_fld _ _ _ _ (by omega), si_same, h4 j hj, si_same]
      refine ⟨rfl, ?_⟩
      rw [bt_or, (j3 j hj).2, bt_single (by omega) hj, ip1, q1, q4]
      by_cases q : j = c
      · subst q; simp
      · rw [decide_eq_false q, decide_eq_false (by omega)]
end VD
