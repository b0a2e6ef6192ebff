/-! MACHINE: WHAT THE CONSTRUCTOR LEAVES-/
def cIv : cLg → Nat → Nat → Int
  | [], _, _ => 0
  | e :: W, a, k => if e.2.1 = a then (if e.1 = 0 then (if e.2.2.1 = k then e.2.2.2 else cIv W a k) else if e.1 = 1 then cIv W a k else if e.1 = 2 then cIv W a k else 0) else cIv W a k
def cRv : cLg → Nat → Nat → Option Nat
  | [], _, _ => none
  | e :: W, a, k => if e.2.1 = a then (if e.1 = 0 then cRv W a k else if e.1 = 1 then cRv W a k else if e.1 = 2 then (if e.2.2.1 = k then some e.2.2.2.toNat else cRv W a k) else none) else cRv W a k
def cMd9 (W : cLg) (a : Nat) : Bool := W.any fun e => e.2.1 == a && decide (3 ≤ e.1)
section CI9
variable {M : mjMem} {a : Nat}
theorem cAp_ne {e : Nat × Nat × Nat × Int} (h : ¬ e.2.1 = a) : (cAp1 e M).1 a = M.1 a ∧ (cAp1 e M).2.1 a = M.2.1 a ∧ (cAp1 e M).2.2.1 a = M.2.2.1 a ∧ (cAp1 e M).2.2.2 a = M.2.2.2 a := by
  have h' : ¬ a = e.2.1 := fun q => h q.symm
  unfold cAp1
  by_cases h0 : e.1 = 0
  · rw [if_pos h0]
    exact ⟨by funext k; exact if_neg h', rfl, rfl, rfl⟩
  · rw [if_neg h0]
    by_cases h1 : e.1 = 1
    · rw [if_pos h1]
      exact ⟨rfl, by funext k; exact if_neg h', rfl, rfl⟩
    · rw [if_neg h1]
      by_cases h2 : e.1 = 2
      · rw [if_pos h2]
        exact ⟨rfl, rfl, by funext k; exact if_neg h', rfl⟩
      · rw [if_neg h2]
        exact ⟨by funext k; exact if_neg h', by funext k; exact if_neg h', by funext k; exact if_neg h', if_neg h'⟩
theorem md_tl {e : Nat × Nat × Nat × Int} {W : cLg} (h : cMd9 (e :: W) a = true) (q : ¬ (e.2.1 = a ∧ 3 ≤ e.1)) : cMd9 W a = true := by
  unfold cMd9 at h ⊢
  rw [List.any_cons, Bool.or_eq_true] at h
  rcases h with h | h
  · rw [Bool.and_eq_true] at h
    exact absurd ⟨beq_iff_eq.mp h.1, of_decide_eq_true h.2⟩ q
  · exact h
theorem cIv_ok : ∀ (W : cLg) (k : Nat), cMd9 W a = true → (cAp W M).1 a k = i3 (cIv W a k)
  | [], k, h => by cases h
  | e :: W, k, hm => by
    rw [cAp, cIv]
    by_cases h : e.2.1 = a
    · rw [if_pos h]
      unfold cAp1
      by_cases h0 : e.1 = 0
      · have ih := cIv_ok W k (md_tl hm (fun q => by omega))
        rw [if_pos h0, if_pos h0]
        show (if a = e.2.1 then (if k = e.2.2.1 then Int32.ofInt e.2.2.2 else (cAp W M).1 a k) else (cAp W M).1 a k) = _
        rw [if_pos h.symm]
        by_cases g : e.2.2.1 = k
        · rw [if_pos g.symm, if_pos g]; rfl
        · rw [if_neg (fun q => g q.symm), if_neg g]; exact ih
      · rw [if_neg h0, if_neg h0]
        by_cases h1 : e.1 = 1
        · rw [if_pos h1, if_pos h1]; exact cIv_ok W k (md_tl hm (fun q => by omega))
        · rw [if_neg h1, if_neg h1]
          by_cases h2 : e.1 = 2
          · rw [if_pos h2, if_pos h2]; exact cIv_ok W k (md_tl hm (fun q => by omega))
          · rw [if_neg h2, if_neg h2]
            show (if a = e.2.1 then (0 : Int32) else (cAp W M).1 a k) = _
            rw [if_pos h.symm]; rfl
    · rw [if_neg h, (cAp_ne h).1]; exact cIv_ok W k (md_tl hm (fun q => h q.1))
theorem cLv_ok : ∀ (W : cLg) (k : Nat), (∀ e ∈ W, e.1 ≠ 1) → cMd9 W a = true → (cAp W M).2.1 a k = 0
  | [], k, _, h => by cases h
  | e :: W, k, hl, hm => by
    have hl' : ∀ e ∈ W, e.1 ≠ 1 := fun e he => hl e (List.mem_cons_of_mem _ he)
    have h1 := hl e List.mem_cons_self
    rw [cAp]
    by_cases h : e.2.1 = a
    · unfold cAp1
      by_cases h0 : e.1 = 0
      · rw [if_pos h0]; exact cLv_ok W k hl' (md_tl hm (fun q => by omega))
      · rw [if_neg h0, if_neg h1]
        by_cases h2 : e.1 = 2
        · rw [if_pos h2]; exact cLv_ok W k hl' (md_tl hm (fun q => by omega))
        · rw [if_neg h2]
          show (if a = e.2.1 then (0 : Int64) else (cAp W M).2.1 a k) = _
          rw [if_pos h.symm]
    · rw [(cAp_ne h).2.1]; exact cLv_ok W k hl' (md_tl hm (fun q => h q.1))
theorem cRv_ok : ∀ (W : cLg) (k : Nat), cMd9 W a = true → (cAp W M).2.2.1 a k = cRv W a k
  | [], k, h => by cases h
  | e :: W, k, hm => by
    rw [cAp, cRv]
    by_cases h : e.2.1 = a
    · rw [if_pos h]
      unfold cAp1
      by_cases h0 : e.1 = 0
      · rw [if_pos h0, if_pos h0]; exact cRv_ok W k (md_tl hm (fun q => by omega))
      · rw [if_neg h0, if_neg h0]
        by_cases h1 : e.1 = 1
        · rw [if_pos h1, if_pos h1]; exact cRv_ok W k (md_tl hm (fun q => by omega))
        · rw [if_neg h1, if_neg h1]
          by_cases h2 : e.1 = 2
          · rw [if_pos h2, if_pos h2]
            show (if a = e.2.1 then (if k = e.2.2.1 then some e.2.2.2.toNat else (cAp W M).2.2.1 a k) else (cAp W M).2.2.1 a k) = _
            rw [if_pos h.symm]
            by_cases g : e.2.2.1 = k
            · rw [if_pos g.symm, if_pos g]
            · rw [if_neg (fun q => g q.symm), if_neg g]; exact cRv_ok W k (md_tl hm (fun q => by omega))
          · rw [if_neg h2, if_neg h2]
            show (if a = e.2.1 then (none : Option Nat) else (cAp W M).2.2.1 a k) = _
            rw [if_pos h.symm]
    · rw [if_neg h, (cAp_ne h).2.2.1]; exact cRv_ok W k (md_tl hm (fun q => h q.1))
theorem cAp_o : ∀ {W : cLg}, (∀ e ∈ W, ¬ e.2.1 = a) → (cAp W M).1 a = M.1 a ∧ (cAp W M).2.1 a = M.2.1 a ∧ (cAp W M).2.2.1 a = M.2.2.1 a ∧ (cAp W M).2.2.2 a = M.2.2.2 a
  | [], _ => ⟨rfl, rfl, rfl, rfl⟩
  | e :: W, h => by
    have ih := cAp_o (W := W) fun e he => h e (List.mem_cons_of_mem _ he)
    have h1 := cAp_ne (M := cAp W M) (h e List.mem_cons_self)
    rw [cAp, h1.1, h1.2.1, h1.2.2.1, h1.2.2.2]
    exact ih
theorem cIv_0 : ∀ {W : cLg}, (∀ e ∈ W, e.1 = 0 → ¬ e.2.1 = a) → ∀ k, cIv W a k = 0
  | [], _, _ => rfl
  | e :: W, h, k => by
    have ih := cIv_0 (W := W) (fun e he => h e (List.mem_cons_of_mem _ he)) k
    rw [cIv]
    by_cases h1 : e.2.1 = a
    · rw [if_pos h1, if_neg (fun q => h e List.mem_cons_self q h1), ih]
      split
      · rfl
      · split <;> rfl
    · rw [if_neg h1]; exact ih
theorem cRv_0 {K k : Nat} (hk : K ≤ k) : ∀ {W : cLg}, (∀ e ∈ W, e.2.2.1 < K) → cRv W a k = none
  | [], _ => rfl
  | e :: W, h => by
    have ih := cRv_0 hk (W := W) fun e he => h e (List.mem_cons_of_mem _ he)
    have h2 : ¬ e.2.2.1 = k := by have := h e List.mem_cons_self; omega
    rw [cRv, ih, if_neg h2]
    split
    · split
      · rfl
      · split
        · rfl
        · split <;> rfl
    · rfl
theorem cRv_f : ∀ {W : cLg} {k : Nat}, cRv W a k = cRv (W.filter fun e => e.2.1 == a) a k
  | [], _ => rfl
  | e :: W, k => by
    have ih := cRv_f (W := W) (k := k)
    by_cases h : e.2.1 = a
    · have hb : (e.2.1 == a) = true := beq_iff_eq.mpr h
      rw [List.filter_cons, if_pos hb, cRv, cRv, ih]
    · have hb : ¬ (e.2.1 == a) = true := fun q => h (beq_iff_eq.mp q)
      rw [List.filter_cons, if_neg hb, cRv, if_neg h]
      exact ih
theorem mjR0_0 {k : Nat} (h : ∀ q ∈ mjR0L, q.1 = a → ∀ w ∈ q.2, ¬ w.1 = k) : mjR0 a k = none := by
  unfold mjR0
  cases h1 : mjR0L.find? (fun q => q.1 == a) with
  | none => rfl
  | some q =>
    have hq := List.find?_some h1
    have h3 : q.2.find? (fun w => w.1 == k) = none := List.find?_eq_none.mpr fun w hw => by
      have := h q (List.mem_of_find?_eq_some h1) (beq_iff_eq.mp hq) w hw
      exact fun g => this (beq_iff_eq.mp g)
    dsimp only
    rw [h3]
end CI9
/-- all that is asked of the log, at once-/
def cAll : Bool := (cW9.all fun e => decide (e.2.1 < 211 ∧ e.2.2.1 < 72) && (e.1 != 1 && (e.1 != 0 || decide (e.2.1 = 2 ∨ e.2.1 = 19 ∨ (50 ≤ e.2.1 ∧ e.2.1 ≤ 92) ∨ e.2.1 = 109 ∨ (140 ≤ e.2.1 ∧ e.2.1 ≤ 182))))) && (((List.range 211).all fun a => cMd9 cW9 a && ((List.range 72).all fun k => cRv (cW9.filter fun e => e.2.1 == a) a k == mjRv 2 184 a k)) && (cIv cW9 2 5 == 0))
set_option maxRecDepth 100000 in
theorem cAll_ok : cAll = true := by decide +kernel
set_option maxRecDepth 100000 in
theorem mjR0_b : (mjR0L.all fun q => q.2.all fun w => decide (w.1 < 72)) = true := by decide +kernel
theorem cW9_e {e : Nat × Nat × Nat × Int} (he : e ∈ cW9) : (e.2.1 < 211 ∧ e.2.2.1 < 72) ∧ e.1 ≠ 1 ∧ (e.1 = 0 → (e.2.1 = 2 ∨ e.2.1 = 19 ∨ (50 ≤ e.2.1 ∧ e.2.1 ≤ 92) ∨ e.2.1 = 109 ∨ (140 ≤ e.2.1 ∧ e.2.1 ≤ 182))) := by
  have h := cAll_ok
  unfold cAll at h
  rw [Bool.and_eq_true] at h
  have h1 := List.all_eq_true.mp h.1 e he
  rw [Bool.and_eq_true, Bool.and_eq_true] at h1
  refine ⟨of_decide_eq_true h1.1, by simpa using h1.2.1, fun h0 => ?_⟩
  have h2 := h1.2.2
  rw [h0] at h2
  simpa using h2
theorem cW9_m {a : Nat} (ha : a < 211) : cMd9 cW9 a = true ∧ ∀ k, k < 72 → cRv (cW9.filter fun e => e.2.1 == a) a k = mjRv 2 184 a k := by
  have h := cAll_ok
  unfold cAll at h
  rw [Bool.and_eq_true, Bool.and_eq_true] at h
  have h1 := List.all_eq_true.mp h.2.1 a (List.mem_range.mpr ha)
  rw [Bool.and_eq_true] at h1
  exact ⟨h1.1, fun k hk => beq_iff_eq.mp (List.all_eq_true.mp h1.2 k (List.mem_range.mpr hk))⟩
theorem cW9_5 : cIv cW9 2 5 = 0 := by
  have h := cAll_ok
  unfold cAll at h
  rw [Bool.and_eq_true, Bool.and_eq_true] at h
  exact beq_iff_eq.mp h.2.2
theorem mjRv_0 {t x a k : Nat} (h : 72 ≤ k) : mjRv t x a k = none := by
  have h0 : mjR0 a k = none := mjR0_0 fun q hq h1 w hw h2 => by
    have h3 := List.all_eq_true.mp mjR0_b q hq
    have h4 := List.all_eq_true.mp h3 w hw
    simp only [decide_eq_true_eq] at h4
    omega
  unfold mjRv
  by_cases a0 : a = 0
  · rw [if_pos a0, if_neg (by omega), if_neg (by omega)]; exact h0
  · rw [if_neg a0]
    by_cases a1 : a = 183
    · rw [if_pos a1, if_neg (by omega)]; exact h0
    · rw [if_neg a1]
      by_cases a2 : a = 10 ∨ a = 100
      · rw [if_pos a2, if_neg (by omega)]
      · rw [if_neg a2]
        by_cases a3 : a = 11 ∨ a = 101
        · rw [if_pos a3, if_neg (by omega)]
        · rw [if_neg a3]; exact h0
/-- the memory behind the constructor-/
def Zi9 (M : mjMem) : mjZt := (fun a => if a < 211 then (fun k => i3 (cIv cW9 a k)) else M.1 a, fun a => if a < 211 then (fun _ => 0) else M.2.1 a, 2, 184)
theorem ini_vw {M : mjMem} (hM : ∀ a, 211 ≤ a → a < 251 → M.1 a = (fun _ => 0) ∧ M.2.1 a = (fun _ => 0)) (hk : kOk 211 (cAp cW9 M)) : cAp cW9 M = mjVw (M.2.2.1, M.2.2.2) (Zi9 M) := by
  have ot : ∀ a, 211 ≤ a → (cAp cW9 M).1 a = M.1 a ∧ (cAp cW9 M).2.1 a = M.2.1 a ∧ (cAp cW9 M).2.2.1 a = M.2.2.1 a ∧ (cAp cW9 M).2.2.2 a = M.2.2.2 a := fun a ha => cAp_o fun e he g => by
    have := (cW9_e he).1.1
    omega
  refine Prod.ext ?_ (Prod.ext ?_ (Prod.ext ?_ ?_))
  · funext a
    show (cAp cW9 M).1 a = if 211 ≤ a ∧ a < 251 then (fun _ => 0) else if a < 211 then (fun k => i3 (cIv cW9 a k)) else M.1 a
    by_cases h : a < 211
    · rw [if_neg (by omega), if_pos h]
      funext k
      exact cIv_ok cW9 k (cW9_m h).1
    · rw [(ot a (by omega)).1]
      by_cases h2 : a < 251
      · rw [if_pos ⟨by omega, h2⟩]; exact (hM a (by omega) h2).1
      · rw [if_neg (by omega), if_neg h]
  · funext a
    show (cAp cW9 M).2.1 a = if 211 ≤ a ∧ a < 251 then (fun _ => 0) else if a < 211 then (fun _ => 0) else M.2.1 a
    by_cases h : a < 211
    · rw [if_neg (by omega), if_pos h]
      funext k
      exact cLv_ok cW9 k (fun e he => (cW9_e he).2.1) (cW9_m h).1
    · rw [(ot a (by omega)).2.1]
      by_cases h2 : a < 251
      · rw [if_pos ⟨by omega, h2⟩]; exact (hM a (by omega) h2).2
      · rw [if_neg (by omega), if_neg h]
  · funext a k
    show (cAp cW9 M).2.2.1 a k = if a < 211 then mjRv 2 184 a k else M.2.2.1 a k
    by_cases h : a < 211
    · rw [if_pos h, cRv_ok cW9 k (cW9_m h).1]
      by_cases h2 : k < 72
      · rw [cRv_f, (cW9_m h).2 k h2]
      · rw [mjRv_0 (by omega)]
        exact cRv_0 (K := 72) (by omega) fun e he => (cW9_e he).1.2
    · rw [if_neg h, (ot a (by omega)).2.2.1]
  · funext a
    show (cAp cW9 M).2.2.2 a = if a < 211 then mjKc (mjLay a) else M.2.2.2 a
    by_cases h : a < 211
    · rw [if_pos h, hk.2 a h]
    · rw [if_neg h, (ot a (by omega)).2.2.2]
section ZI9
variable {M : mjMem}
theorem zi_0 {a : Nat} (ha : a < 211) (h : ¬ (a = 2 ∨ a = 19 ∨ (50 ≤ a ∧ a ≤ 92) ∨ a = 109 ∨ (140 ≤ a ∧ a ≤ 182))) (k : Nat) : (Zi9 M).1 a k = 0 := by
  show (if a < 211 then (fun k => i3 (cIv cW9 a k)) else M.1 a) k = 0
  rw [if_pos ha, cIv_0 (fun e he h0 g => h (by rw [← g]; exact (cW9_e he).2.2 h0)) k]
  rfl
theorem zi_l {a : Nat} (ha : a < 211) (k : Nat) : (Zi9 M).2.1 a k = 0 := by
  show (if a < 211 then (fun _ => (0 : Int64)) else M.2.1 a) k = 0
  rw [if_pos ha]
theorem zi_sp : spZ 92 (Zi9 M) := by
  refine ⟨fun t ht => ?_, fun j k hj => zi_0 (by omega) (by omega) k, zi_l (by omega) 4⟩
  have hT : tmB 92 t = 92 + 18 + 5 * t := rfl
  exact ⟨zi_0 (by omega) (by omega) 0, zi_0 (by omega) (by omega) 0⟩
theorem zi_tp : tpC (Zi9 M) [] := ⟨by decide, fun k => by show (0 : Nat) ≤ 255; omega, zi_0 (by omega) (by omega) 1, fun k => by rw [zi_0 (by omega) (by omega) k]; rfl⟩
theorem zi_undo : f193_undo (Zi9 M) = some (-1, Zi9 M) := by
  unfold f193_undo
  rw [zi_0 (by omega) (by omega), if_neg (by decide)]
theorem zi_lane : f157_lane 1 (Zi9 M) = some (-1) := by
  have h5 : (Zi9 M).1 2 5 = 0 := by
    show i3 (cIv cW9 2 5) = 0
    rw [cW9_5]; rfl
  have e : f24_teamInLane 2 1 (Zi9 M) = some (-1) := by
    show f24_teamInLane_h2 (19999 + 1) 2 1 0 (Zi9 M) = _
    rw [f24_teamInLane_h2, if_pos (is_b (Or.inl rfl)), h5, if_pos (by decide)]
  unfold f157_lane
  rw [show (Zi9 M).2.2.1 = 2 from rfl, if_pos (is_b (Or.inl rfl)), e, mjBp_some]
end ZI9
