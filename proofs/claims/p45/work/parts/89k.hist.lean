/-! WHAT WAS SO BEFORE: the log's entries against the past's cells -/
/-- an entry (what, first, second, third, fourth) taken back -/
def tkS (e : Nat → Int) (S : mjS) : mjS :=
  if e 0 = 0 then updS S (72 + 3 * (e 1).toNat) (e 2) else if e 0 = 1 then updS S (72 + 3 * (e 1).toNat + 1) (e 2) else if e 0 = 2 then updS S (72 + 3 * (e 1).toNat + 2) (1 - S 3 (72 + 3 * (e 1).toNat + 2))
  else updS (updS S (12 * (e 1).toNat + 2 * ((e 2).toNat - 1)) (e 3)) (12 * (e 1).toNat + 2 * ((e 2).toNat - 1) + 1) (e 4)
/-- an entry that can be taken back -/
def vE (S : mjS) (e : Nat → Int) : Prop :=
  (e 0 = 0 ∧ 0 ≤ e 1 ∧ e 1 < sA S ∧ 0 ≤ e 2 ∧ e 2 ≤ 9999) ∨ (e 0 = 1 ∧ 0 ≤ e 1 ∧ e 1 < sA S ∧ 0 ≤ e 2 ∧ e 2 ≤ 99) ∨ (e 0 = 2 ∧ 0 ≤ e 1 ∧ e 1 < sA S) ∨
  (e 0 = 3 ∧ 0 ≤ e 1 ∧ e 1 < sT S ∧ 1 ≤ e 2 ∧ e 2 ≤ sTd S (e 1).toNat ∧ 20 ≤ e 3 ∧ e 3 ≤ 999 ∧ -20 ≤ e 4 ∧ e 4 ≤ 20 ∧ (e 2 = sLg S → e 4 = 0))
def hsR : Nat → mjS → (Nat → Nat → Int) → (Nat → Nat → Int) → Prop
  | 0, _, _, _ => True
  | U + 1, S, E, P => vE S (E 0) ∧ (∀ x, x < 108 → P U x = tkS (E 0) S 3 x) ∧ hsR U (tkS (E 0) S) (fun k => E (k + 1)) P
theorem tk_f {e : Nat → Int} {S : mjS} {f : Nat} (hf : f ≠ 3) : tkS e S f = S f := by
  unfold tkS
  split
  · exact updS_f hf
  · split
    · exact updS_f hf
    · split
      · exact updS_f hf
      · rw [updS_f hf, updS_f hf]
theorem tk_big {e : Nat → Int} {S : mjS} (ho : okS S) (hv : vE S e) {x : Nat} (hx : 108 ≤ x) : tkS e S 3 x = S 3 x := by
  have o1 := ok_sc ho
  unfold tkS
  rcases hv with ⟨h0, h1, h2, h3, h4⟩ | ⟨h0, h1, h2, h3, h4⟩ | ⟨h0, h1, h2⟩ | ⟨h0, h1, h2, h3, h4, h5, h6, h7, h8, h9⟩
  · rw [if_pos h0, updS_n (by omega)]
  · rw [if_neg (by omega), if_pos h0, updS_n (by omega)]
  · rw [if_neg (by omega), if_neg (by omega), if_pos h0, updS_n (by omega)]
  · have o2 := ok_tm ho (t := (e 1).toNat) (by omega)
    rw [if_neg (by omega), if_neg (by omega), if_neg (by omega), updS_n (by omega), updS_n (by omega)]
theorem tk_ok {e : Nat → Int} {S : mjS} (ho : okS S) (hv : vE S e) : okS (tkS e S) := by
  unfold tkS
  rcases hv with ⟨h0, h1, h2, h3, h4⟩ | ⟨h0, h1, h2, h3, h4⟩ | ⟨h0, h1, h2⟩ | ⟨h0, h1, h2, h3, h4, h5, h6, h7, h8, h9⟩
  · rw [if_pos h0]
    exact okS_upd ho (a := (e 1).toNat) (m := 0) (by omega) (Or.inl ⟨rfl, h3, h4⟩)
  · rw [if_neg (by omega), if_pos h0]
    exact okS_upd ho (a := (e 1).toNat) (m := 1) (by omega) (Or.inr ⟨rfl, h3, h4⟩)
  · rw [if_neg (by omega), if_neg (by omega), if_pos h0]
    have oa := (ok_act ho (a := (e 1).toNat) (by omega)).2.2.2.2.2.2.2.2.2.2
    exact okS_upW ho (by omega) (by omega)
  · rw [if_neg (by omega), if_neg (by omega), if_neg (by omega)]
    exact okS_upL ho (by omega) (by omega) ⟨h5, h6⟩ ⟨h7, h8⟩ (fun g => h9 (by omega))
theorem hs_congr : ∀ (U : Nat) (S : mjS) (E P Q : Nat → Nat → Int), (∀ k, k < U → ∀ x, x < 108 → Q k x = P k x) → hsR U S E P → hsR U S E Q
  | 0, _, _, _, _, _, _ => trivial
  | U + 1, S, E, P, Q, h, ⟨h1, h2, h3⟩ => ⟨h1, fun x hx => by rw [h U (by omega) x hx]; exact h2 x hx, hs_congr U _ _ P Q (fun k hk => h k (by omega)) h3⟩
theorem hs_drop : ∀ (U : Nat) (S : mjS) (E P : Nat → Nat → Int), hsR (U + 1) S E P → hsR U S E (fun k => P (k + 1))
  | 0, _, _, _, _ => trivial
  | U + 1, S, E, P, ⟨h1, h2, h3⟩ => ⟨h1, h2, hs_drop U _ _ P h3⟩
/-- an appeal: S2 is the state after, from which the entry leads back to S -/
theorem hs_push {U : Nat} {S S2 : mjS} {E P : Nat → Nat → Int} {e : Nat → Int} (hU : U ≤ 10) (hv : vE S2 e) (ht : tkS e S2 = S) (h : hsR U S E P) : hsR (lgU U) S2 (lgE E e) (psh U P (S 3)) := by
  have eE : (fun k => lgE E e (k + 1)) = E := by funext k; unfold lgE; rw [if_neg (by omega)]; rfl
  have e0 : lgE E e 0 = e := by unfold lgE; rw [if_pos rfl]
  by_cases q : U < 10
  · have eU : lgU U = U + 1 := by unfold lgU; split <;> omega
    rw [eU]
    refine ⟨by rw [e0]; exact hv, fun x hx => ?_, ?_⟩
    · rw [e0, ht]
      unfold psh
      rw [if_pos q, if_pos rfl]
    · rw [e0, ht, eE]
      refine hs_congr U S E P _ (fun k hk x hx => ?_) h
      unfold psh
      rw [if_pos q, if_neg (by omega)]
  · obtain rfl : U = 10 := by omega
    have eU : lgU 10 = 9 + 1 := rfl
    rw [eU]
    refine ⟨by rw [e0]; exact hv, fun x hx => ?_, ?_⟩
    · rw [e0, ht]
      unfold psh
      rw [if_neg (by omega), if_pos rfl]
    · rw [e0, ht, eE]
      refine hs_congr 9 S E (fun k => P (k + 1)) _ (fun k hk x hx => ?_) (hs_drop 9 S E P h)
      unfold psh
      rw [if_neg (by omega), if_neg (by omega)]
/-- the entries of the appeals lead back -/
theorem tk_appeal {S : mjS} {a m : Nat} {v : Int} (hm : m < 2) (e : Nat → Int) (h0 : e 0 = m) (h1 : e 1 = a) (h2 : e 2 = S 3 (72 + 3 * a + m)) : tkS e (updS S (72 + 3 * a + m) v) = S := by
  unfold tkS
  rw [h1, h2, Int.toNat_natCast]
  rcases (by omega : m = 0 ∨ m = 1) with rfl | rfl
  · rw [if_pos (by omega)]
    show updS (updS S (72 + 3 * a + 0) v) (72 + 3 * a + 0) _ = S
    rw [updS_u, updS_self]
  · rw [if_neg (by omega), if_pos (by omega), updS_u, updS_self]
theorem tk_waive {S : mjS} {a : Nat} (e : Nat → Int) (h0 : e 0 = 2) (h1 : e 1 = a) : tkS e (updS S (72 + 3 * a + 2) (1 - S 3 (72 + 3 * a + 2))) = S := by
  unfold tkS
  rw [h1, Int.toNat_natCast, if_neg (by omega), if_neg (by omega), if_pos h0, updS_e, updS_u, show (1 : Int) - (1 - S 3 (72 + 3 * a + 2)) = S 3 (72 + 3 * a + 2) by omega, updS_self]
theorem updS_c {S : mjS} {K L : Nat} {v w : Int} (h : K ≠ L) : updS (updS S K v) L w = updS (updS S L w) K v := by
  funext f k
  by_cases q : f = 3
  · subst q
    by_cases q1 : k = K
    · subst q1; rw [updS_n h, updS_e, updS_e]
    · by_cases q2 : k = L
      · subst q2; rw [updS_e, updS_n q1, updS_e]
      · rw [updS_n q2, updS_n q1, updS_n q1, updS_n q2]
  · rw [updS_f q, updS_f q, updS_f q, updS_f q]
theorem tk_measure {S : mjS} {t l : Nat} {x y : Int} (e : Nat → Int) (h0 : e 0 = 3) (h1 : e 1 = t) (h2 : e 2 = ((l + 1 : Nat) : Int)) (h3 : e 3 = sTn S t l) (h4 : e 4 = sMt S t l) : tkS e (updS (updS S (12 * t + 2 * l) x) (12 * t + 2 * l + 1) y) = S := by
  unfold tkS
  rw [if_neg (by omega), if_neg (by omega), if_neg (by omega), h1, h2, h3, h4, Int.toNat_natCast, Int.toNat_natCast, show l + 1 - 1 = l by omega, updS_c (by omega), updS_u, updS_c (K := 12 * t + 2 * l + 1) (by omega), updS_u]
  unfold sTn sMt
  rw [updS_c (by omega)]
  have e1 : updS S (12 * t + 2 * l + 1) (S 3 (12 * t + 2 * l + 1)) = S := updS_self
  first
  | rw [e1, updS_self]
  | rw [updS_self, updS_self]
  | (rw [updS_c (by omega), e1, updS_self])
