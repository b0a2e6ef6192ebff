/-! what is grown, as tokens -/
def nc (c : Int32) : Nat := c.toInt.toNat
def nt (u : List Int32) : List Nat := u.map nc
def tLf (ts : List (Nat × Nat)) : Prop := (∃ v, v ≤ 9999 ∧ ts = [(2, v)]) ∨ ∃ k, k < 11 ∧ ts = [(1, LF.getD k 0)]
def tM (U : List (Nat × Nat) → Prop) (ts : List (Nat × Nat)) : Prop := U ts ∨ ∃ a b, U a ∧ U b ∧ ts = a ++ (3, 42) :: b
def tE (U : List (Nat × Nat) → Prop) (ts : List (Nat × Nat)) : Prop := tM U ts ∨ ∃ a b c, tM U a ∧ tM U b ∧ (c = 43 ∨ c = 45) ∧ ts = a ++ (3, c) :: b
def tU : Nat → List (Nat × Nat) → Prop
  | 0, ts => tLf ts
  | n + 1, ts => tLf ts ∨ ∃ a, tE (tU n) a ∧ ts = (3, 123) :: (a ++ [(3, 125)])
def tC (ts : List (Nat × Nat)) : Prop := ∃ a b c, tE (tU 2) a ∧ tE (tU 2) b ∧ (c = 60 ∨ c = 62 ∨ c = 61) ∧ ts = a ++ (3, c) :: b
def tA (B : List (Nat × Nat) → Prop) (ts : List (Nat × Nat)) : Prop := B ts ∨ ∃ a b, B a ∧ B b ∧ ts = a ++ (1, 6385252) :: b
def tT (B : List (Nat × Nat) → Prop) (ts : List (Nat × Nat)) : Prop := tA B ts ∨ ∃ a b, tA B a ∧ tA B b ∧ ts = a ++ (1, 28530) :: b
def tB : Nat → List (Nat × Nat) → Prop
  | 0, ts => tC ts
  | n + 1, ts => tC ts ∨ (∃ a, tB n a ∧ ts = (1, 7237492) :: a) ∨ ∃ a, tT (tB n) a ∧ ts = (3, 40) :: (a ++ [(3, 41)])
def RdG (G : List Int32 → Prop) (T : List (Nat × Nat) → Prop) : Prop := ∀ u, G u → ∃ ts, T ts ∧ Rd true (nt u) ts
section TG
variable {u v : List Int32} {a b ts : List (Nat × Nat)} {w : Bool} {G : List Int32 → Prop} {T : List (Nat × Nat) → Prop}
theorem nt_ap : nt (u ++ v) = nt u ++ nt v := List.map_append
theorem nc_i {k : Nat} (h : k < 2147483648) : nc (i3 (k : Nat)) = k := by
  unfold nc
  rw [i3_int (by omega), Int.toNat_natCast]
theorem Rd_N {m : Nat} (h : m < 10000) : Rd true (nt (decN m)) [(2, m)] := by
  have dg : ∀ d, d < 10 → nc (dgt d) = 48 + d := fun d hd => nc_i (by omega)
  unfold decN
  split
  · have e : nt [dgt m] = [48 + m] := by show [nc (dgt m)] = _; rw [dg _ (by omega)]
    rw [e]
    have r := Rd_nu (u := [48 + m]) ⟨by show 1 ≤ 1; omega, by show 1 ≤ 4; omega⟩ (fun i hi => by
      have hi1 : i < 1 := hi
      have : i = 0 := by omega
      rw [this]; show 48 ≤ 48 + m ∧ 48 + m ≤ 57; omega)
    have e2 : nuL [48 + m] = m := by show 0 * 10 + (48 + m - 48) = m; omega
    rw [e2] at r
    exact r
  · split
    · have e : nt [dgt (m / 10), dgt (m % 10)] = [48 + m / 10, 48 + m % 10] := by show [nc (dgt (m / 10)), nc (dgt (m % 10))] = _; rw [dg _ (by omega), dg _ (by omega)]
      rw [e]
      have r := Rd_nu (u := [48 + m / 10, 48 + m % 10]) ⟨by show 1 ≤ 2; omega, by show 2 ≤ 4; omega⟩ (fun i hi => by
        have hi1 : i < 2 := hi
        rcases (by omega : i = 0 ∨ i = 1) with q | q
        · rw [q]; show 48 ≤ 48 + m / 10 ∧ 48 + m / 10 ≤ 57; omega
        · rw [q]; show 48 ≤ 48 + m % 10 ∧ 48 + m % 10 ≤ 57; omega)
      have e2 : nuL [48 + m / 10, 48 + m % 10] = m := by show (0 * 10 + (48 + m / 10 - 48)) * 10 + (48 + m % 10 - 48) = m; omega
      rw [e2] at r
      exact r
    · split
      · have e : nt [dgt (m / 100), dgt (m / 10 % 10), dgt (m % 10)] = [48 + m / 100, 48 + m / 10 % 10, 48 + m % 10] := by show [nc (dgt (m / 100)), nc (dgt (m / 10 % 10)), nc (dgt (m % 10))] = _; rw [dg _ (by omega), dg _ (by omega), dg _ (by omega)]
        rw [e]
        have r := Rd_nu (u := [48 + m / 100, 48 + m / 10 % 10, 48 + m % 10]) ⟨by show 1 ≤ 3; omega, by show 3 ≤ 4; omega⟩ (fun i hi => by
          have hi1 : i < 3 := hi
          rcases (by omega : i = 0 ∨ i = 1 ∨ i = 2) with q | q | q
          · rw [q]; show 48 ≤ 48 + m / 100 ∧ 48 + m / 100 ≤ 57; omega
          · rw [q]; show 48 ≤ 48 + m / 10 % 10 ∧ 48 + m / 10 % 10 ≤ 57; omega
          · rw [q]; show 48 ≤ 48 + m % 10 ∧ 48 + m % 10 ≤ 57; omega)
        have e2 : nuL [48 + m / 100, 48 + m / 10 % 10, 48 + m % 10] = m := by show ((0 * 10 + (48 + m / 100 - 48)) * 10 + (48 + m / 10 % 10 - 48)) * 10 + (48 + m % 10 - 48) = m; omega
        rw [e2] at r
        exact r
      · have e : nt [dgt (m / 1000), dgt (m / 100 % 10), dgt (m / 10 % 10), dgt (m % 10)] = [48 + m / 1000, 48 + m / 100 % 10, 48 + m / 10 % 10, 48 + m % 10] := by show [nc (dgt (m / 1000)), nc (dgt (m / 100 % 10)), nc (dgt (m / 10 % 10)), nc (dgt (m % 10))] = _; rw [dg _ (by omega), dg _ (by omega), dg _ (by omega), dg _ (by omega)]
        rw [e]
        have r := Rd_nu (u := [48 + m / 1000, 48 + m / 100 % 10, 48 + m / 10 % 10, 48 + m % 10]) ⟨by show 1 ≤ 4; omega, by show 4 ≤ 4; omega⟩ (fun i hi => by
          have hi1 : i < 4 := hi
          rcases (by omega : i = 0 ∨ i = 1 ∨ i = 2 ∨ i = 3) with q | q | q | q
          · rw [q]; show 48 ≤ 48 + m / 1000 ∧ 48 + m / 1000 ≤ 57; omega
          · rw [q]; show 48 ≤ 48 + m / 100 % 10 ∧ 48 + m / 100 % 10 ≤ 57; omega
          · rw [q]; show 48 ≤ 48 + m / 10 % 10 ∧ 48 + m / 10 % 10 ≤ 57; omega
          · rw [q]; show 48 ≤ 48 + m % 10 ∧ 48 + m % 10 ≤ 57; omega)
        have e2 : nuL [48 + m / 1000, 48 + m / 100 % 10, 48 + m / 10 % 10, 48 + m % 10] = m := by show (((0 * 10 + (48 + m / 1000 - 48)) * 10 + (48 + m / 100 % 10 - 48)) * 10 + (48 + m / 10 % 10 - 48)) * 10 + (48 + m % 10 - 48) = m; omega
        rw [e2] at r
        exact r
theorem Rd_Z {m : Nat} (h : m < 10000) : Rd true (nt (decZ ((m : Nat) : Int))) [(2, m)] := by
  rw [dec_pos]; exact Rd_N h
theorem Rd_Zn {z : Int} (h : -10000 < z ∧ z < 0) : Rd true (nt (decZ z)) [(3, 45), (2, (-z).toNat)] := by
  unfold decZ
  rw [if_pos h.2]
  have e : nt (i3 ((45 : Nat) : Int) :: decN (-z).toNat) = [45] ++ nt (decN (-z).toNat) := rfl
  rw [e]
  exact Rd_ap (a := [(3, 45)]) (Rd_sg (by decide)) (Rd_N (by omega))
/-- words -/
def isW (u : List Nat) : Bool := decide (1 ≤ u.length) && decide (u.length ≤ 8) && u.all (fun c => decide (97 ≤ c ∧ c ≤ 122))
theorem Rd_w {u : List Nat} (h : isW u = true) : Rd true u [(1, wdL u)] := by
  unfold isW at h
  rw [Bool.and_eq_true, Bool.and_eq_true] at h
  refine Rd_wd ⟨of_decide_eq_true h.1.1, of_decide_eq_true h.1.2⟩ (fun i hi => ?_)
  have := List.all_eq_true.1 h.2 (u[i]'hi) (List.getElem_mem hi)
  rw [List.getD_eq_getElem?_getD, List.getElem?_eq_getElem hi]
  exact of_decide_eq_true this
theorem fact_W : ∀ k, k < 11 → isW (nt (txS (1000030 + k))) = true ∧ wdL (nt (txS (1000030 + k))) = LF.getD k 0 := by decide
theorem R_lf : RdG grLf tLf := by
  intro u h
  rcases h with ⟨m, hm, e⟩ | ⟨k, hk, e⟩
  · exact ⟨_, Or.inl ⟨m, by omega, rfl⟩, by rw [e]; exact Rd_N hm⟩
  · obtain ⟨h1, h2⟩ := fact_W k hk
    refine ⟨_, Or.inr ⟨k, hk, rfl⟩, ?_⟩
    rw [e, ← h2]
    exact Rd_w h1
theorem R_M (h : RdG G T) : RdG (grM G) (tM T) := by
  intro u g
  rcases g with g | ⟨x, y, g1, g2, e⟩
  · obtain ⟨ts, h1, h2⟩ := h u g
    exact ⟨ts, Or.inl h1, h2⟩
  · obtain ⟨s1, h1, h2⟩ := h x g1
    obtain ⟨s2, h3, h4⟩ := h y g2
    refine ⟨_, Or.inr ⟨s1, s2, h1, h3, rfl⟩, ?_⟩
    have e1 : nt (txS 1000025) = [42] := by decide
    rw [e, nt_ap, nt_ap, e1]
    exact Rd_ap2 h2 (Rd_ap (a := [(3, 42)]) (Rd_sg (by decide)) h4) ⟨by rw [List.length_append]; show 1 ≤ 1 + _; omega, rfl, rfl⟩
theorem R_E (h : RdG G T) : RdG (grE G) (tE T) := by
  intro u g
  rcases g with g | ⟨x, y, s, g1, g2, hs, e⟩
  · obtain ⟨ts, h1, h2⟩ := R_M h u g
    exact ⟨ts, Or.inl h1, h2⟩
  · obtain ⟨s1, h1, h2⟩ := R_M h x g1
    obtain ⟨s2, h3, h4⟩ := R_M h y g2
    rcases hs with hs | hs
    · refine ⟨_, Or.inr ⟨s1, s2, 43, h1, h3, Or.inl rfl, rfl⟩, ?_⟩
      have e1 : nt (txS 1000022) = [43] := by decide
      rw [e, hs, nt_ap, nt_ap, e1]
      exact Rd_ap2 h2 (Rd_ap (a := [(3, 43)]) (Rd_sg (by decide)) h4) ⟨by rw [List.length_append]; show 1 ≤ 1 + _; omega, rfl, rfl⟩
    · refine ⟨_, Or.inr ⟨s1, s2, 45, h1, h3, Or.inr rfl, rfl⟩, ?_⟩
      have e1 : nt (txS 1000023) = [32] ++ ([45] ++ [32]) := by decide
      rw [e, hs, nt_ap, nt_ap, e1, List.append_assoc, List.append_assoc]
      exact Rd_ap2 h2 (Rd_ap (a := []) Rd_b (Rd_ap (a := [(3, 45)]) (Rd_sg (by decide)) (Rd_ap (a := []) Rd_b h4))) ⟨by rw [List.length_append]; show 1 ≤ 1 + _; omega, rfl, rfl⟩
theorem R_U : ∀ n, RdG (grU n) (tU n)
  | 0 => R_lf
  | n + 1 => by
    intro u g
    rcases g with g | ⟨x, g1, e⟩
    · obtain ⟨ts, h1, h2⟩ := R_lf u g
      exact ⟨ts, Or.inl h1, h2⟩
    · obtain ⟨s1, h1, h2⟩ := R_E (R_U n) x g1
      refine ⟨_, Or.inr ⟨s1, h1, rfl⟩, ?_⟩
      have e1 : nt (txS 1000026) = [123] := by decide
      have e2 : nt (txS 1000027) = [125] := by decide
      rw [e, nt_ap, nt_ap, e1, e2]
      exact Rd_wk (Rd_ap (a := [(3, 123)]) (Rd_sg (by decide)) (Rd_ap2 h2 (Rd_sg (by decide)) ⟨Nat.le_refl _, rfl, rfl⟩))
theorem R_C : RdG grC tC := by
  intro u ⟨x, y, s, g1, g2, hs, e⟩
  obtain ⟨s1, h1, h2⟩ := R_E (R_U 2) x g1
  obtain ⟨s2, h3, h4⟩ := R_E (R_U 2) y g2
  have e1 : nt (txS 1000021) = [32] := by decide
  have key : ∀ c, isSg c = true → nt (txS s) = [c] → Rd true (nt u) (s1 ++ (3, c) :: s2) := fun c hc ec => by
    rw [e, nt_ap, nt_ap, nt_ap, nt_ap, e1, ec]
    exact Rd_ap2 h2 (Rd_ap (a := []) Rd_b (Rd_ap (a := [(3, c)]) (Rd_sg hc) (Rd_ap (a := []) Rd_b h4))) ⟨by rw [List.length_append]; show 1 ≤ 1 + _; omega, rfl, rfl⟩
  rcases hs with hs | hs | hs
  · exact ⟨_, ⟨s1, s2, 60, h1, h3, Or.inl rfl, rfl⟩, key 60 (by decide) (by rw [hs]; decide)⟩
  · exact ⟨_, ⟨s1, s2, 62, h1, h3, Or.inr (Or.inl rfl), rfl⟩, key 62 (by decide) (by rw [hs]; decide)⟩
  · exact ⟨_, ⟨s1, s2, 61, h1, h3, Or.inr (Or.inr rfl), rfl⟩, key 61 (by decide) (by rw [hs]; decide)⟩
theorem R_A (h : RdG G T) : RdG (grA G) (tA T) := by
  intro u g
  rcases g with g | ⟨x, y, g1, g2, e⟩
  · obtain ⟨ts, h1, h2⟩ := h u g
    exact ⟨ts, Or.inl h1, h2⟩
  · obtain ⟨s1, h1, h2⟩ := h x g1
    obtain ⟨s2, h3, h4⟩ := h y g2
    refine ⟨_, Or.inr ⟨s1, s2, h1, h3, rfl⟩, ?_⟩
    have e1 : nt (txS 1000012) = [32] ++ ([97, 110, 100] ++ [32]) := by decide
    have w1 : Rd true [97, 110, 100] [(1, 6385252)] := Rd_w (by decide)
    rw [e, nt_ap, nt_ap, e1, List.append_assoc, List.append_assoc]
    exact Rd_ap2 h2 (Rd_ap (a := []) Rd_b (Rd_ap2 w1 (Rd_ap (a := []) Rd_b h4) ⟨by rw [List.length_append]; show 1 ≤ 1 + _; omega, rfl, rfl⟩)) ⟨by rw [List.length_append]; show 1 ≤ 1 + _; omega, rfl, rfl⟩
theorem R_T (h : RdG G T) : RdG (grT G) (tT T) := by
  intro u g
  rcases g with g | ⟨x, y, g1, g2, e⟩
  · obtain ⟨ts, h1, h2⟩ := R_A h u g
    exact ⟨ts, Or.inl h1, h2⟩
  · obtain ⟨s1, h1, h2⟩ := R_A h x g1
    obtain ⟨s2, h3, h4⟩ := R_A h y g2
    refine ⟨_, Or.inr ⟨s1, s2, h1, h3, rfl⟩, ?_⟩
    have e1 : nt (txS 1000010) = [32] ++ ([111, 114] ++ [32]) := by decide
    have w1 : Rd true [111, 114] [(1, 28530)] := Rd_w (by decide)
    rw [e, nt_ap, nt_ap, e1, List.append_assoc, List.append_assoc]
    exact Rd_ap2 h2 (Rd_ap (a := []) Rd_b (Rd_ap2 w1 (Rd_ap (a := []) Rd_b h4) ⟨by rw [List.length_append]; show 1 ≤ 1 + _; omega, rfl, rfl⟩)) ⟨by rw [List.length_append]; show 1 ≤ 1 + _; omega, rfl, rfl⟩
theorem R_B : ∀ n, RdG (grB n) (tB n)
  | 0 => R_C
  | n + 1 => by
    intro u g
    rcases g with g | ⟨x, g1, e⟩ | ⟨x, g1, e⟩
    · obtain ⟨ts, h1, h2⟩ := R_C u g
      exact ⟨ts, Or.inl h1, h2⟩
    · obtain ⟨s1, h1, h2⟩ := R_B n x g1
      refine ⟨_, Or.inr (Or.inl ⟨s1, h1, rfl⟩), ?_⟩
      have e1 : nt (txS 1000014) = [110, 111, 116] ++ [32] := by decide
      have w1 : Rd true [110, 111, 116] [(1, 7237492)] := Rd_w (by decide)
      rw [e, nt_ap, e1, List.append_assoc]
      exact Rd_ap2 w1 (Rd_ap (a := []) Rd_b h2) ⟨by rw [List.length_append]; show 1 ≤ 1 + _; omega, rfl, rfl⟩
    · obtain ⟨s1, h1, h2⟩ := R_T (R_B n) x g1
      refine ⟨_, Or.inr (Or.inr ⟨s1, h1, rfl⟩), ?_⟩
      have e1 : nt (txS 1000016) = [40] := by decide
      have e2 : nt (txS 1000017) = [41] := by decide
      rw [e, nt_ap, nt_ap, e1, e2]
      exact Rd_wk (Rd_ap (a := [(3, 40)]) (Rd_sg (by decide)) (Rd_ap2 h2 (Rd_sg (by decide)) ⟨Nat.le_refl _, rfl, rfl⟩))
end TG
