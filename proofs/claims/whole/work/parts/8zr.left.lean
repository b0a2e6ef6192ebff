/-! MACHINE: WHAT THE CONSTRUCTORS LEAVE -/
def cIv : cLg → Nat → Nat → Int
  | [], _, _ => 0
  | e :: W, a, k => if e.2.1 = a then (if e.1 = 0 then (if e.2.2.1 = k then e.2.2.2 else cIv W a k) else if e.1 = 1 then cIv W a k else if e.1 = 2 then cIv W a k else 0) else cIv W a k
def cLv : cLg → Nat → Nat → Int
  | [], _, _ => 0
  | e :: W, a, k => if e.2.1 = a then (if e.1 = 0 then cLv W a k else if e.1 = 1 then (if e.2.2.1 = k then e.2.2.2 else cLv W a k) else if e.1 = 2 then cLv W a k else 0) else cLv W a k
def cRv : cLg → Nat → Nat → Option Nat
  | [], _, _ => none
  | e :: W, a, k => if e.2.1 = a then (if e.1 = 0 then cRv W a k else if e.1 = 1 then cRv W a k else if e.1 = 2 then (if e.2.2.1 = k then some e.2.2.2.toNat else cRv W a k) else none) else cRv W a k
section CI
variable {M : mjMem} {a : Nat}
theorem cAp_ne {e : Nat × Nat × Nat × Int} (h : ¬ e.2.1 = a) : (cAp1 e M).1 a = M.1 a ∧ (cAp1 e M).2.1 a = M.2.1 a ∧ (cAp1 e M).2.2 a = M.2.2 a := by
  have h' : ¬ a = e.2.1 := fun q => h q.symm
  unfold cAp1
  by_cases h0 : e.1 = 0
  · rw [if_pos h0]
    exact ⟨by funext k; exact if_neg h', rfl, rfl⟩
  · rw [if_neg h0]
    by_cases h1 : e.1 = 1
    · rw [if_pos h1]
      exact ⟨rfl, by funext k; exact if_neg h', rfl⟩
    · rw [if_neg h1]
      by_cases h2 : e.1 = 2
      · rw [if_pos h2]
        exact ⟨rfl, rfl, by funext k; exact if_neg h'⟩
      · rw [if_neg h2]
        exact ⟨by funext k; exact if_neg h', by funext k; exact if_neg h', by funext k; exact if_neg h'⟩
theorem cIv_ok (hM : ∀ k, M.1 a k = i3 0) : ∀ (W : cLg) (k : Nat), (cAp W M).1 a k = i3 (cIv W a k)
  | [], k => hM k
  | e :: W, k => by
    have ih := cIv_ok hM W k
    rw [cAp, cIv]
    by_cases h : e.2.1 = a
    · rw [if_pos h]
      unfold cAp1
      by_cases h0 : e.1 = 0
      · rw [if_pos h0, if_pos h0]
        show (if a = e.2.1 then (if k = e.2.2.1 then Int32.ofInt e.2.2.2 else (cAp W M).1 a k) else (cAp W M).1 a k) = _
        rw [if_pos h.symm]
        by_cases g : e.2.2.1 = k
        · rw [if_pos g.symm, if_pos g]; rfl
        · rw [if_neg (fun q => g q.symm), if_neg g]; exact ih
      · rw [if_neg h0, if_neg h0]
        by_cases h1 : e.1 = 1
        · rw [if_pos h1, if_pos h1]; exact ih
        · rw [if_neg h1, if_neg h1]
          by_cases h2 : e.1 = 2
          · rw [if_pos h2, if_pos h2]; exact ih
          · rw [if_neg h2, if_neg h2]
            show (if a = e.2.1 then (0 : Int32) else (cAp W M).1 a k) = _
            rw [if_pos h.symm]; rfl
    · rw [if_neg h, (cAp_ne h).1]; exact ih
theorem cLv_ok (hM : ∀ k, M.2.1 a k = i6 0) : ∀ (W : cLg) (k : Nat), (cAp W M).2.1 a k = i6 (cLv W a k)
  | [], k => hM k
  | e :: W, k => by
    have ih := cLv_ok hM W k
    rw [cAp, cLv]
    by_cases h : e.2.1 = a
    · rw [if_pos h]
      unfold cAp1
      by_cases h0 : e.1 = 0
      · rw [if_pos h0, if_pos h0]; exact ih
      · rw [if_neg h0, if_neg h0]
        by_cases h1 : e.1 = 1
        · rw [if_pos h1, if_pos h1]
          show (if a = e.2.1 then (if k = e.2.2.1 then Int64.ofInt e.2.2.2 else (cAp W M).2.1 a k) else (cAp W M).2.1 a k) = _
          rw [if_pos h.symm]
          by_cases g : e.2.2.1 = k
          · rw [if_pos g.symm, if_pos g]; rfl
          · rw [if_neg (fun q => g q.symm), if_neg g]; exact ih
        · rw [if_neg h1, if_neg h1]
          by_cases h2 : e.1 = 2
          · rw [if_pos h2, if_pos h2]; exact ih
          · rw [if_neg h2, if_neg h2]
            show (if a = e.2.1 then (0 : Int64) else (cAp W M).2.1 a k) = _
            rw [if_pos h.symm]; rfl
    · rw [if_neg h, (cAp_ne h).2.1]; exact ih
theorem cRv_ok (hM : ∀ k, M.2.2 a k = none) : ∀ (W : cLg) (k : Nat), (cAp W M).2.2 a k = cRv W a k
  | [], k => hM k
  | e :: W, k => by
    have ih := cRv_ok hM W k
    rw [cAp, cRv]
    by_cases h : e.2.1 = a
    · rw [if_pos h]
      unfold cAp1
      by_cases h0 : e.1 = 0
      · rw [if_pos h0, if_pos h0]; exact ih
      · rw [if_neg h0, if_neg h0]
        by_cases h1 : e.1 = 1
        · rw [if_pos h1, if_pos h1]; exact ih
        · rw [if_neg h1, if_neg h1]
          by_cases h2 : e.1 = 2
          · rw [if_pos h2, if_pos h2]
            show (if a = e.2.1 then (if k = e.2.2.1 then some e.2.2.2.toNat else (cAp W M).2.2 a k) else (cAp W M).2.2 a k) = _
            rw [if_pos h.symm]
            by_cases g : e.2.2.1 = k
            · rw [if_pos g.symm, if_pos g]
            · rw [if_neg (fun q => g q.symm), if_neg g]; exact ih
          · rw [if_neg h2, if_neg h2]
            show (if a = e.2.1 then (none : Option Nat) else (cAp W M).2.2 a k) = _
            rw [if_pos h.symm]
    · rw [if_neg h, (cAp_ne h).2.2]; exact ih
theorem cAp_o : ∀ {W : cLg}, (∀ e ∈ W, ¬ e.2.1 = a) → (cAp W M).1 a = M.1 a ∧ (cAp W M).2.2 a = M.2.2 a
  | [], _ => ⟨rfl, rfl⟩
  | e :: W, h => by
    have ih := cAp_o (W := W) fun e he => h e (List.mem_cons_of_mem _ he)
    have h1 := cAp_ne (M := cAp W M) (h e List.mem_cons_self)
    rw [cAp, h1.1, h1.2.2]
    exact ih
theorem cIv_0 : ∀ {W : cLg}, (∀ e ∈ W, e.1 = 0 → ¬ e.2.1 = a) → ∀ k, cIv W a k = 0
  | [], _, _ => rfl
  | e :: W, h, k => by
    have ih := cIv_0 (W := W) (fun e he => h e (List.mem_cons_of_mem _ he)) k
    rw [cIv]
    by_cases h1 : e.2.1 = a
    · rw [if_pos h1, if_neg (fun q => h e List.mem_cons_self q h1), ih]
      split
      · rfl
      · split <;> rfl
    · rw [if_neg h1]; exact ih
theorem cLv_0 : ∀ {W : cLg}, (∀ e ∈ W, e.1 = 1 → ¬ e.2.1 = a) → ∀ k, cLv W a k = 0
  | [], _, _ => rfl
  | e :: W, h, k => by
    have ih := cLv_0 (W := W) (fun e he => h e (List.mem_cons_of_mem _ he)) k
    rw [cLv]
    by_cases h1 : e.2.1 = a
    · rw [if_pos h1, ih, if_neg (fun q => h e List.mem_cons_self q h1)]
      split
      · rfl
      · split <;> rfl
    · rw [if_neg h1]; exact ih
theorem cRv_0 {K k : Nat} (hk : K ≤ k) : ∀ {W : cLg}, (∀ e ∈ W, e.2.2.1 < K) → cRv W a k = none
  | [], _ => rfl
  | e :: W, h => by
    have ih := cRv_0 hk (W := W) fun e he => h e (List.mem_cons_of_mem _ he)
    have h2 : ¬ e.2.2.1 = k := by have := h e List.mem_cons_self; omega
    rw [cRv, ih, if_neg h2]
    split
    · split
      · rfl
      · split
        · rfl
        · split <;> rfl
    · rfl
theorem cRv_f : ∀ {W : cLg} {k : Nat}, cRv W a k = cRv (W.filter fun e => e.2.1 == a) a k
  | [], _ => rfl
  | e :: W, k => by
    have ih := cRv_f (W := W) (k := k)
    by_cases h : e.2.1 = a
    · have hb : (e.2.1 == a) = true := beq_iff_eq.mpr h
      rw [List.filter_cons, if_pos hb, cRv, cRv, ih]
    · have hb : ¬ (e.2.1 == a) = true := fun q => h (beq_iff_eq.mp q)
      rw [List.filter_cons, if_neg hb, cRv, if_neg h]
      exact ih
theorem mjR0_0 {k : Nat} (h : ∀ q ∈ mjR0L, q.1 = a → ∀ w ∈ q.2, ¬ w.1 = k) : mjR0 a k = none := by
  unfold mjR0
  cases h1 : mjR0L.find? (fun q => q.1 == a) with
  | none => rfl
  | some q =>
    have hq := List.find?_some h1
    have h3 : q.2.find? (fun w => w.1 == k) = none := List.find?_eq_none.mpr fun w hw => by
      have := h q (List.mem_of_find?_eq_some h1) (beq_iff_eq.mp hq) w hw
      exact fun g => this (beq_iff_eq.mp g)
    dsimp only
    rw [h3]
end CI
set_option maxRecDepth 100000 in
theorem cW_b : (cW.all fun e => decide (e.2.1 < 251 ∧ e.2.2.1 < 72)) = true := by decide +kernel
set_option maxRecDepth 100000 in
theorem cW_i : (cW.all fun e => e.1 != 0 || decide (e.2.1 = 2 ∨ e.2.1 = 19 ∨ (50 ≤ e.2.1 ∧ e.2.1 ≤ 92) ∨ e.2.1 = 109 ∨ (140 ≤ e.2.1 ∧ e.2.1 ≤ 182) ∨ e.2.1 = 211)) = true := by decide +kernel
set_option maxRecDepth 100000 in
theorem cW_l : (cW.all fun e => e.1 != 1 || decide (e.2.1 = 213 ∨ e.2.1 = 214)) = true := by decide +kernel
set_option maxRecDepth 100000 in
theorem cW_r : ((List.range 251).all fun a => (List.range 72).all fun k => cRv (cW.filter fun e => e.2.1 == a) a k == mjRv 2 184 a k) = true := by decide +kernel
set_option maxRecDepth 100000 in
theorem mjR0_b : (mjR0L.all fun q => decide (q.1 < 251) && q.2.all fun w => decide (w.1 < 72)) = true := by decide +kernel
theorem iv_n {a : Nat} (h : ¬ (a = 2 ∨ a = 19 ∨ (50 ≤ a ∧ a ≤ 92) ∨ a = 109 ∨ (140 ≤ a ∧ a ≤ 182) ∨ a = 211)) (k : Nat) : cIv cW a k = 0 :=
  cIv_0 (fun e he h0 g => by
    have h1 := List.all_eq_true.mp cW_i e he
    rw [h0] at h1
    simp only [bne_self_eq_false, Bool.false_or, decide_eq_true_eq] at h1
    rw [g] at h1
    exact h h1) k
theorem lv_n {a : Nat} (h : ¬ (a = 213 ∨ a = 214)) (k : Nat) : cLv cW a k = 0 :=
  cLv_0 (fun e he h0 g => by
    have h1 := List.all_eq_true.mp cW_l e he
    rw [h0] at h1
    simp only [bne_self_eq_false, Bool.false_or, decide_eq_true_eq] at h1
    rw [g] at h1
    exact h h1) k
theorem mjRv_0 {t x a k : Nat} (h : 251 ≤ a ∨ 72 ≤ k) : mjRv t x a k = none := by
  have h0 : mjR0 a k = none := mjR0_0 fun q hq h1 w hw h2 => by
    have h3 := List.all_eq_true.mp mjR0_b q hq
    simp only [Bool.and_eq_true, decide_eq_true_eq] at h3
    have h4 := List.all_eq_true.mp h3.2 w hw
    simp only [decide_eq_true_eq] at h4
    omega
  unfold mjRv
  by_cases a0 : a = 0
  · rw [if_pos a0, if_neg (by omega), if_neg (by omega)]; exact h0
  · rw [if_neg a0]
    by_cases a1 : a = 183
    · rw [if_pos a1, if_neg (by omega)]; exact h0
    · rw [if_neg a1]
      by_cases a2 : a = 10 ∨ a = 100
      · rw [if_pos a2, if_neg (by omega)]
      · rw [if_neg a2]
        by_cases a3 : a = 11 ∨ a = 101
        · rw [if_pos a3, if_neg (by omega)]
        · rw [if_neg a3]; exact h0
section CZ
variable {L w : Nat} {xs : Nat → Int32} {W : cLg}
def cZ (W : cLg) (L : Nat) (xs : Nat → Int32) (w : Nat) : mjZt := ((cAp W (mjM0 L xs w)).1, (cAp W (mjM0 L xs w)).2.1, 2, 184)
theorem cZ_to (hb : (W.all fun e => decide (e.2.1 < 251 ∧ e.2.2.1 < 72)) = true) (hr : ((List.range 251).all fun a => (List.range 72).all fun k => cRv (W.filter fun e => e.2.1 == a) a k == mjRv 2 184 a k) = true) : cAp W (mjM0 L xs w) = mjTo (cZ W L xs w) := by
  refine Prod.ext rfl (Prod.ext rfl ?_)
  funext a k
  show (cAp W (mjM0 L xs w)).2.2 a k = mjRv 2 184 a k
  by_cases h : 251 ≤ a ∨ 72 ≤ k
  · rw [mjRv_0 h, cRv_ok (fun _ => rfl)]
    rcases h with h | h
    · rw [cRv_f]
      have : (W.filter fun e => e.2.1 == a) = [] := List.filter_eq_nil_iff.mpr fun e he g => by
        have h1 := List.all_eq_true.mp hb e he
        simp only [decide_eq_true_eq] at h1
        have h2 := beq_iff_eq.mp g
        omega
      rw [this]; rfl
    · exact cRv_0 h fun e he => by
        have h1 := List.all_eq_true.mp hb e he
        simp only [decide_eq_true_eq] at h1
        exact h1.2
  · rw [cRv_ok (fun _ => rfl), cRv_f]
    have h1 := List.all_eq_true.mp hr a (List.mem_range.mpr (by omega))
    have h2 := List.all_eq_true.mp h1 k (List.mem_range.mpr (by omega))
    exact beq_iff_eq.mp h2
theorem z_i {a : Nat} (ha : a < 251) (k : Nat) : (cZ W L xs w).1 a k = i3 (cIv W a k) :=
  cIv_ok (fun k => by
    show (if a = 2000000 then xs k else if a = 2000001 then (if k = 0 then Int32.ofNat L else Int32.ofNat w) else 0) = _
    rw [if_neg (by omega), if_neg (by omega)]; rfl) W k
theorem z_l (a k : Nat) : (cZ W L xs w).2.1 a k = i6 (cLv W a k) := cLv_ok (fun _ => rfl) W k
theorem z_o (hb : (W.all fun e => decide (e.2.1 < 251 ∧ e.2.2.1 < 72)) = true) {a : Nat} (ha : 251 ≤ a) : (cZ W L xs w).1 a = (mjM0 L xs w).1 a :=
  (cAp_o (a := a) (W := W) (M := mjM0 L xs w) fun e he g => by
    have h1 := List.all_eq_true.mp hb e he
    simp only [decide_eq_true_eq] at h1
    omega).1
end CZ
/-- what is so of the memory that the constructors leave -/
def cSt (Z : mjZt) : Prop :=
  Z.2.2.1 = 2 ∧ (∀ a k, a < 251 → ¬ (a = 2 ∨ a = 19 ∨ (50 ≤ a ∧ a ≤ 92) ∨ a = 109 ∨ (140 ≤ a ∧ a ≤ 182) ∨ a = 211) → Z.1 a k = i3 0) ∧ (∀ a k, ¬ (a = 213 ∨ a = 214) → Z.2.1 a k = i6 0) ∧ (∀ k, k < 9 → Z.1 2 k = i3 0) ∧
  (∀ j, j < 5 → Z.2.1 213 j = i6 (LK.getD j 0)) ∧ (∀ j, j < 11 → Z.2.1 214 j = i6 (LF.getD j 0)) ∧
  Z.1 2 9 = i3 2 ∧ Z.1 2 10 = i3 5 ∧ Z.1 211 39 = i3 0 ∧ Z.1 211 40 = i3 0 ∧ Z.1 211 41 = i3 0 ∧ Z.1 211 42 = i3 2 ∧ Z.1 211 43 = i3 5 ∧ Z.1 211 56 = i3 0 ∧ Z.1 211 1 = i3 0 ∧ Z.1 182 5 = i3 0 ∧ Z.1 211 11 = i3 0 ∧ Z.1 182 6 = i3 (-1) ∧ Z.1 211 12 = i3 (-1) ∧ Z.1 211 59 = i3 (-1) ∧ Z.1 211 60 = i3 0
def cSk (W : cLg) : Bool := ((List.range 9).all fun k => cIv W 2 k == 0) && ((List.range 5).all fun j => cLv W 213 j == ((LK.getD j 0 : Nat) : Int)) && ((List.range 11).all fun j => cLv W 214 j == ((LF.getD j 0 : Nat) : Int)) &&
  [(2, 9, 2), (2, 10, 5), (211, 39, 0), (211, 40, 0), (211, 41, 0), (211, 42, 2), (211, 43, 5), (211, 56, 0), (211, 1, 0), (182, 5, 0), (211, 11, 0), (182, 6, -1), (211, 12, -1), (211, 59, -1), (211, 60, 0)].all fun (q : Nat × Nat × Int) => decide (q.1 < 251) && cIv W q.1 q.2.1 == q.2.2
theorem cSt_of {W : cLg} {L w : Nat} {xs : Nat → Int32} (hi : ∀ a k, ¬ (a = 2 ∨ a = 19 ∨ (50 ≤ a ∧ a ≤ 92) ∨ a = 109 ∨ (140 ≤ a ∧ a ≤ 182) ∨ a = 211) → cIv W a k = 0) (hl : ∀ a k, ¬ (a = 213 ∨ a = 214) → cLv W a k = 0) (h : cSk W = true) : cSt (cZ W L xs w) := by
  unfold cSk at h
  simp only [Bool.and_eq_true, List.all_eq_true] at h
  obtain ⟨⟨⟨h1, h2⟩, h3⟩, h4⟩ := h
  have c : ∀ a k v, (a, k, v) ∈ [(2, 9, 2), (2, 10, 5), (211, 39, 0), (211, 40, 0), (211, 41, 0), (211, 42, 2), (211, 43, 5), (211, 56, 0), (211, 1, 0), (182, 5, 0), (211, 11, 0), (182, 6, -1), (211, 12, -1), (211, 59, -1), (211, 60, (0 : Int))] → (cZ W L xs w).1 a k = i3 v := fun a k v hm => by
    have := h4 (a, k, v) hm
    simp only [decide_eq_true_eq, beq_iff_eq] at this
    rw [z_i this.1, this.2]
  refine ⟨rfl, fun a k ha hn => by rw [z_i ha, hi a k hn], fun a k hn => by rw [z_l, hl a k hn], fun k hk => by rw [z_i (by decide), beq_iff_eq.mp (h1 k (List.mem_range.mpr hk))], fun j hj => by rw [z_l, beq_iff_eq.mp (h2 j (List.mem_range.mpr hj))], fun j hj => by rw [z_l, beq_iff_eq.mp (h3 j (List.mem_range.mpr hj))], ?_, ?_, ?_, ?_, ?_, ?_, ?_, ?_, ?_, ?_, ?_, ?_, ?_, ?_, ?_⟩
  all_goals exact c _ _ _ (by simp)
set_option maxRecDepth 100000 in
theorem cSk_W : cSk cW = true := by decide +kernel
theorem cSt_W {L w : Nat} {xs : Nat → Int32} : cSt (cZ cW L xs w) := cSt_of (fun _ k h => iv_n h k) (fun _ k h => lv_n h k) cSk_W
