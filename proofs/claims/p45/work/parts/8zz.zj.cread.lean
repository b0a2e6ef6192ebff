/-! the class reads a condition: what of its state decides on faults; A = (state, open, curly, compared, waiting: the latest first) -/
abbrev mjCd : Type := Nat × Nat × Nat × Bool × List Nat
def stw (Z : mjZt) : List Nat → Prop
  | [] => True
  | c :: W => Z.1 186 W.length = i3 (c : Nat) ∧ c ≤ 20 ∧ stw Z W
def trm9 (b : Nat) (Z : mjZt) : Prop := (∃ w : Nat, w < 16 ∧ Z.1 (b + 1) 6 = i3 (w : Nat)) ∧ ∃ m : Nat, m ≤ 700 ∧ Z.1 (b + 1) 7 = i3 (m : Nat)
def ct9 (b : Nat) (Z : mjZt) (A : mjCd) : Prop := Z.1 185 0 = i3 (A.1 : Nat) ∧ Z.1 185 1 = i3 (A.2.1 : Nat) ∧ (A.1 = 0 ∨ (Z.1 185 2 = i3 (A.2.2.1 : Nat) ∧ Z.1 185 3 = bI A.2.2.2.1)) ∧ Z.1 185 6 = i3 (A.2.2.2.2.length : Nat) ∧ stw Z A.2.2.2.2 ∧ trm9 b Z
def jw (b a : Nat) : Prop := a = 183 ∨ a = 185 ∨ a = 186 ∨ a = 187 ∨ (b + 1 ≤ a ∧ a ≤ b + 7)
def eqJ (b : Nat) (Z Z2 : mjZt) : Prop := Z2.2.2 = Z.2.2 ∧ ∀ a, ¬ jw b a → Z2.1 a = Z.1 a ∧ Z2.2.1 a = Z.2.1 a
/-- besides, what the tokens stand in is as it was -/
def eqI (b : Nat) (Z Z2 : mjZt) : Prop := eqJ b Z Z2 ∧ Z2.1 183 = Z.1 183 ∧ Z2.2.1 183 = Z.2.1 183
def eqZp (b : Nat) (Z Z2 : mjZt) : Prop := Z2.2 = Z.2 ∧ ∀ a, ¬ (b + 1 ≤ a ∧ a ≤ b + 7) → Z2.1 a = Z.1 a
section CR
variable {X : Nat → Nat} {n b p q N s : Nat} {Z Z2 Z3 : mjZt} {A : mjCd} {W : List Nat}
theorem eqJ_rf : eqJ b Z Z := ⟨rfl, fun _ _ => ⟨rfl, rfl⟩⟩
theorem eqJ_tr (h : eqJ b Z Z2) (g : eqJ b Z2 Z3) : eqJ b Z Z3 := ⟨g.1.trans h.1, fun a q => ⟨(g.2 a q).1.trans (h.2 a q).1, (g.2 a q).2.trans (h.2 a q).2⟩⟩
theorem eqI_rf : eqI b Z Z := ⟨eqJ_rf, rfl, rfl⟩
theorem eqI_tr (h : eqI b Z Z2) (g : eqI b Z2 Z3) : eqI b Z Z3 := ⟨eqJ_tr h.1 g.1, g.2.1.trans h.2.1, g.2.2.trans h.2.2⟩
theorem eqI_si {a k : Nat} {v : Int32} (h : a = 185 ∨ a = 186 ∨ a = 187 ∨ (b + 1 ≤ a ∧ a ≤ b + 7)) (h2 : a ≠ 183) : eqI b Z (zSi Z a k v) := ⟨⟨rfl, fun c q => ⟨si_obj _ _ _ _ (fun g => q (by unfold jw; omega)), rfl⟩⟩, si_obj _ _ _ _ (fun g => h2 g.symm), rfl⟩
theorem stw_of (h : Z2.1 186 = Z.1 186) : ∀ W, stw Z W → stw Z2 W
  | [], _ => trivial
  | c :: W, ⟨h1, h2, h3⟩ => ⟨by rw [h]; exact h1, h2, stw_of h W h3⟩
theorem tk_eqI (hb : b = 2 ∨ b = 92) (h : tkC X n Z p) (e : eqI b Z Z2) : tkC X n Z2 p := by
  obtain ⟨⟨h1, h2, h3⟩, h4, h5, h6, h7, h8⟩ := h
  obtain ⟨⟨e1, e2⟩, e3, e4⟩ := e
  refine ⟨⟨by rw [e1]; exact h1, fun k => by rw [(e2 1 (by unfold jw; omega)).1]; exact h2 k, by rw [e3]; exact h3⟩, by rw [e3]; exact h4, by rw [e3]; exact h5, by rw [e3]; exact h6, by rw [e3]; exact h7, by rw [e4]; exact h8⟩
theorem eqZp_tr (h : eqZp b Z Z2) (g : eqZp b Z2 Z3) : eqZp b Z Z3 := ⟨g.1.trans h.1, fun a q => (g.2 a q).trans (h.2 a q)⟩
theorem eqZp_rf : eqZp b Z Z := ⟨rfl, fun _ _ => rfl⟩
theorem eqZp_si {a k : Nat} {v : Int32} (h : b + 1 ≤ a ∧ a ≤ b + 7) : eqZp b Z (zSi Z a k v) := ⟨rfl, fun c q => si_obj _ _ _ _ (fun g => q (by omega))⟩
theorem eqZp_I (hb : b = 2 ∨ b = 92) (h : eqZp b Z Z2) : eqI b Z Z2 := ⟨⟨by rw [h.1], fun a q => ⟨h.2 a (fun g => q (by unfold jw; omega)), by rw [h.1]⟩⟩, h.2 183 (by omega), by rw [h.1]⟩
theorem r_put (hb : b = 2 ∨ b = 92) (h : trm9 b Z) (x y z : Int32) : ∃ Z1, f48_put (b + 1) x y z Z = some ((), Z1) ∧ trm9 b Z1 ∧ eqZp b Z Z1 := by
  obtain ⟨⟨w, hw, h6⟩, m, hm, h7⟩ := h
  have i1 := is_b1 hb
  have j2 := is_b2 hb
  have j0 : mjIs (b + 1 + 1) 211 13 = true := j2 0 (by omega)
  have j1 : mjIs (b + 1 + 2) 211 13 = true := j2 1 (by omega)
  have j2' : mjIs (b + 1 + 3) 211 13 = true := j2 2 (by omega)
  have j5 : mjIs (b + 1 + 6) 211 13 = true := j2 5 (by omega)
  obtain ⟨t1, t2⟩ := is_trm hb
  have l0 : (mjLay (b + 1 + 1)).2 = 700 := t1 0 (by omega)
  have l1 : (mjLay (b + 1 + 2)).2 = 700 := t1 1 (by omega)
  have l2 : (mjLay (b + 1 + 3)).2 = 700 := t1 2 (by omega)
  have l5 : (mjLay (b + 1 + 6)).2 = 16 := t2 2 (by omega)
  unfold f48_put
  rw [if_pos i1, h7, show (0 : Int32) = i3 0 from rfl, if_neg (by rw [c_lt (by omega)]; omega), show (700 : Int32) = i3 700 from rfl]
  by_cases full : m = 700
  · rw [if_pos (by rw [c_ge (by omega)]; omega)]
    exact ⟨Z, rfl, ⟨⟨w, hw, h6⟩, m, hm, h7⟩, eqZp_rf⟩
  · rw [if_neg (by rw [c_ge (by omega)]; omega), h6, if_neg (by rw [c_lt (by omega)]; omega), if_pos j5, l5, i3_ofNat, if_pos (by rw [c_lt (by omega)]; omega), if_pos j0, l0, if_pos (of_eq_true (in_t (by omega))), let_eq, if_pos j1, si_obj _ _ _ _ (show ¬ b + 1 = b + 1 + 1 by omega), h7, l1, if_pos (of_eq_true (in_t (by omega))), let_eq, if_pos j2', si_obj _ _ _ _ (show ¬ b + 1 = b + 1 + 2 by omega), si_obj _ _ _ _ (show ¬ b + 1 = b + 1 + 1 by omega), h7, l2, if_pos (of_eq_true (in_t (by omega))), let_eq]
    obtain ⟨Z1, hZ1⟩ : ∃ Z1, Z1 = zSi (zSi (zSi Z (b + 1 + 1) (mjIx (i3 (m : Nat))) x) (b + 1 + 2) (mjIx (i3 (m : Nat))) y) (b + 1 + 3) (mjIx (i3 (m : Nat))) z := ⟨_, rfl⟩
    rw [← hZ1]
    have e1 : eqZp b Z Z1 := by rw [hZ1]; exact eqZp_tr (eqZp_si (by omega)) (eqZp_tr (eqZp_si (by omega)) (eqZp_si (by omega)))
    have o1 : Z1.1 (b + 1) = Z.1 (b + 1) := by rw [hZ1, si_obj _ _ _ _ (by omega), si_obj _ _ _ _ (by omega), si_obj _ _ _ _ (by omega)]
    have fin : ∀ Y : mjZt, eqZp b Z1 Y → Y.1 (b + 1) = Z1.1 (b + 1) → (∃ Z9, (mjLet (zSi Y (b + 1) 7 ((Y.1 (b + 1) 7) + 1)) fun Z117 => some ((), Z117)) = some ((), Z9) ∧ trm9 b Z9 ∧ eqZp b Z Z9) := fun Y eY oY => by
      refine ⟨_, let_eq _ _, ⟨⟨w, hw, ?_⟩, m + 1, by omega, ?_⟩, eqZp_tr e1 (eqZp_tr eY (eqZp_si (by omega)))⟩
      · rw [si_fld _ _ _ _ (by omega), oY, o1]; exact h6
      · rw [si_same, oY, o1, h7, i3_s]
    by_cases x7 : mjCmp .lt x 7 = true
    · rw [if_pos x7]; exact fin Z1 eqZp_rf rfl
    · rw [if_neg x7]
      by_cases x9 : mjCmp .gt x 9 = true
      · rw [if_pos x9]; exact fin Z1 eqZp_rf rfl
      · have g6 : ∀ Y : mjZt, Y.1 (b + 1) = Z.1 (b + 1) → Y.1 (b + 1) 6 = i3 (w : Nat) := fun Y e => by rw [e]; exact h6
        have g7 : ∀ Y : mjZt, Y.1 (b + 1) = Z.1 (b + 1) → Y.1 (b + 1) 7 = i3 (m : Nat) := fun Y e => by rw [e]; exact h7
        rw [if_neg x9, g6 Z1 o1, if_pos (of_eq_true (in_t (by omega))), g7 Z1 o1, if_pos (of_eq_true (in_t (by omega))), let_eq, g6 (zSi Z1 _ _ _) (by rw [si_obj _ _ _ _ (by omega)]; exact o1), if_pos (of_eq_true (in_t (by omega))), let_eq]
        exact fin _ (eqZp_tr (eqZp_si (by omega)) (eqZp_si (by omega))) (by rw [si_obj _ _ _ _ (by omega), si_obj _ _ _ _ (by omega)])
/-- those that bind as tight as t wait no longer; so many of them are not -/
def n6 : List Nat → Nat
  | [] => 0
  | c :: P => (if c = 6 then 1 else 0) + n6 P
def tpw (t : Nat) (W : List Nat) : Prop := ∀ c V, W = c :: V → c < t
theorem r_red (hb : b = 2 ∨ b = 92) {t : Nat} (ht : t ≤ 20) : ∀ (P : List Nat) (N op : Nat) (Z : mjZt), P.length < N → (P ++ W).length ≤ 64 → (∀ c, c ∈ P → t ≤ c) → tpw t W → n6 P ≤ op → op ≤ 100 → Z.1 185 1 = i3 (op : Nat) → Z.1 185 6 = i3 ((P ++ W).length : Nat) → stw Z (P ++ W) → trm9 b Z → ∃ Z1, f49_reduce_h0 N (b + 1) (i3 (t : Nat)) Z = some ((), Z1) ∧ Z1.1 185 1 = i3 ((op - n6 P : Nat) : Int) ∧ Z1.1 185 6 = i3 (W.length : Nat) ∧ stw Z1 W ∧ trm9 b Z1 ∧ eqI b Z Z1 ∧ (∀ k, k ≠ 1 → k ≠ 6 → Z1.1 185 k = Z.1 185 k)
  | [], N, op, Z, hN, hl, hP, hW, h6, h100, k1, k6, ks, kt => by
    obtain ⟨N, rfl⟩ : ∃ N0, N = N0 + 1 := ⟨N - 1, by omega⟩
    have hl' : W.length ≤ 64 := hl
    have k6' : Z.1 185 6 = i3 (W.length : Nat) := k6
    refine ⟨Z, ?_, k1, k6', ks, kt, eqI_rf, fun _ _ _ => rfl⟩
    rw [f49_reduce_h0, k6', show (0 : Int32) = i3 0 from rfl]
    cases W with
    | nil => rw [if_pos (by rw [c_le (by omega)]; exact Int.le_refl _)]
    | cons c V =>
      have lv : (c :: V).length = V.length + 1 := rfl
      have g := ks.1
      have g2 := ks.2.1
      have g3 := hW c V rfl
      rw [lv] at hl' ⊢
      rw [if_neg (by rw [c_le (by omega)]; omega), show (64 : Int32) = i3 64 from rfl, if_neg (by rw [c_gt (by omega)]; omega), show (1 : Int32) = i3 1 from rfl, i3_sub, if_pos (of_eq_true (in_t (by omega))), show ((V.length + 1 : Nat) : Int) - 1 = ((V.length : Nat) : Int) from by omega, ix_nat (by omega), g, if_pos (by rw [c_lt (by omega)]; omega)]
  | c :: P, N, op, Z, hN, hl, hP, hW, h6, h100, k1, k6, ks, kt => by
    obtain ⟨N, rfl⟩ : ∃ N0, N = N0 + 1 := ⟨N - 1, by omega⟩
    have lv : (c :: P ++ W).length = (P ++ W).length + 1 := rfl
    have lp : (c :: P).length = P.length + 1 := rfl
    rw [lv] at hl k6
    have g : Z.1 186 (P ++ W).length = i3 (c : Nat) := ks.1
    have g2 := ks.2.1
    have g3 := hP c (List.mem_cons_self ..)
    obtain ⟨Y, hY⟩ : ∃ Y, Y = zSi Z 185 6 (i3 ((P ++ W).length : Nat)) := ⟨_, rfl⟩
    have eY : eqI b Z Y := by rw [hY]; exact eqI_si (by omega) (by omega)
    have y6 : Y.1 185 6 = i3 ((P ++ W).length : Nat) := by rw [hY, si_same]
    have yo : ∀ k, k ≠ 6 → Y.1 185 k = Z.1 185 k := fun k hk => by rw [hY, si_fld _ _ _ _ (by omega)]
    have y186 : Y.1 186 = Z.1 186 := by rw [hY, si_obj _ _ _ _ (by omega)]
    have y187 : Y.1 187 = Z.1 187 := by rw [hY, si_obj _ _ _ _ (by omega)]
    have yt : trm9 b Y := by
      have : Y.1 (b + 1) = Z.1 (b + 1) := by rw [hY, si_obj _ _ _ _ (by omega)]
      unfold trm9
      rw [this]; exact kt
    have head : f49_reduce_h0 (N + 1) (b + 1) (i3 (t : Nat)) Z = (if mjCmp .ne (i3 (c : Nat)) 6 = true then f49_reduce_j67 (f49_reduce_h0 N) (b + 1) (i3 (t : Nat)) (i3 (c : Nat)) Y else mjLet (zSi Y 185 1 ((Y.1 185 1) - 1)) fun Z113 => f49_reduce_j67 (f49_reduce_h0 N) (b + 1) (i3 (t : Nat)) (i3 (c : Nat)) Z113) := by
      rw [f49_reduce_h0, k6, show (0 : Int32) = i3 0 from rfl, if_neg (by rw [c_le (by omega)]; omega), show (64 : Int32) = i3 64 from rfl, if_neg (by rw [c_gt (by omega)]; omega), show (1 : Int32) = i3 1 from rfl, i3_sub, if_pos (of_eq_true (in_t (by omega))), show (((P ++ W).length + 1 : Nat) : Int) - 1 = (((P ++ W).length : Nat) : Int) from by omega, ix_nat (by omega), g, if_neg (by rw [c_lt (by omega)]; omega), let_eq, ← hY, y6, if_pos (of_eq_true (in_t (by omega))), ix_nat (by omega), y186, g]
    have go : ∀ (V : mjZt) (op2 : Nat), eqI b Z V → V.1 185 1 = i3 (op2 : Nat) → V.1 185 6 = i3 ((P ++ W).length : Nat) → V.1 186 = Z.1 186 → (∀ k, k ≠ 1 → k ≠ 6 → V.1 185 k = Z.1 185 k) → trm9 b V → n6 P ≤ op2 → op2 ≤ 100 → op2 - n6 P = op - n6 (c :: P) → ∃ Z1, f49_reduce_j67 (f49_reduce_h0 N) (b + 1) (i3 (t : Nat)) (i3 (c : Nat)) V = some ((), Z1) ∧ Z1.1 185 1 = i3 ((op - n6 (c :: P) : Nat) : Int) ∧ Z1.1 185 6 = i3 (W.length : Nat) ∧ stw Z1 W ∧ trm9 b Z1 ∧ eqI b Z Z1 ∧ (∀ k, k ≠ 1 → k ≠ 6 → Z1.1 185 k = Z.1 185 k) := by
      intro V op2 eV v1 v6 v186 vo vt hn h2 e
      obtain ⟨V1, p1, p2, p3⟩ := r_put hb vt (i3 (c : Nat)) 0 (V.1 187 (mjIx (V.1 185 6)))
      have o185 : V1.1 185 = V.1 185 := p3.2 185 (by omega)
      have o186 : V1.1 186 = V.1 186 := p3.2 186 (by omega)
      obtain ⟨Z1, q1, q2, q3, q4, q5, q6, q7⟩ := r_red hb ht P N op2 V1 (by omega) (by omega) (fun d hd => hP d (List.mem_cons_of_mem _ hd)) hW hn h2 (by rw [o185]; exact v1) (by rw [o185]; exact v6) (stw_of (by rw [o186, v186]) _ ks.2.2) p2
      refine ⟨Z1, ?_, by rw [q2, e], q3, q4, q5, eqI_tr eV (eqI_tr (eqZp_I hb p3) q6), fun k g1 g2 => by rw [q7 k g1 g2, o185, vo k g1 g2]⟩
      unfold f49_reduce_j67
      rw [v6, if_pos (of_eq_true (in_t (by omega))), if_pos (is_b1 hb), ix_nat (by omega)]
      rw [v6, ix_nat (by omega)] at p1
      rw [p1, mjBd_some, q1]
    rw [head]
    by_cases c6 : c = 6
    · have e6 : n6 (c :: P) = 1 + n6 P := by rw [n6, if_pos c6]
      rw [if_neg (by rw [show (6 : Int32) = i3 6 from rfl, c_ne (by omega)]; omega), let_eq]
      refine go _ (op - 1) (eqI_tr eY (eqI_si (by omega) (by omega))) ?_ ?_ ?_ ?_ ?_ (by omega) (by omega) (by omega)
      · rw [si_same, yo 1 (by omega), k1, show (1 : Int32) = i3 1 from rfl, i3_sub]
        congr 1
        omega
      · rw [si_fld _ _ _ _ (by omega)]; exact y6
      · rw [si_obj _ _ _ _ (by omega)]; exact y186
      · intro k g1 g2; rw [si_fld _ _ _ _ (by omega)]; exact yo k g2
      · have : (zSi Y 185 1 ((Y.1 185 1) - 1)).1 (b + 1) = Y.1 (b + 1) := si_obj _ _ _ _ (by omega)
        unfold trm9
        rw [this]; exact yt
    · have e6 : n6 (c :: P) = n6 P := by rw [n6, if_neg c6, Nat.zero_add]
      rw [if_pos (by rw [show (6 : Int32) = i3 6 from rfl, c_ne (by omega)]; omega)]
      exact go Y op eY (by rw [yo 1 (by omega)]; exact k1) y6 y186 (fun k _ g2 => yo k g2) yt (by omega) h100 (by rw [e6])
/-- an operator waits -/
theorem r_push (hb : b = 2 ∨ b = 92) {c : Nat} (hc : c ≤ 20) (hl : W.length < 64) (k6 : Z.1 185 6 = i3 (W.length : Nat)) (ks : stw Z W) (kt : trm9 b Z) : ∃ Z1, f55_push (b + 1) (i3 (c : Nat)) Z = some ((), Z1) ∧ Z1.1 185 6 = i3 ((c :: W).length : Nat) ∧ stw Z1 (c :: W) ∧ trm9 b Z1 ∧ eqI b Z Z1 ∧ ∀ k, k ≠ 6 → Z1.1 185 k = Z.1 185 k := by
  obtain ⟨Y, hY⟩ : ∃ Y, Y = zSi (zSi Z 186 W.length (i3 (c : Nat))) 187 W.length ((Z.1 (b + 1) 7) - 1) := ⟨_, rfl⟩
  have y185 : Y.1 185 = Z.1 185 := by rw [hY, si_obj _ _ _ _ (by omega), si_obj _ _ _ _ (by omega)]
  have yb : Y.1 (b + 1) = Z.1 (b + 1) := by rw [hY, si_obj _ _ _ _ (by omega), si_obj _ _ _ _ (by omega)]
  have y186 : ∀ k, k ≠ W.length → Y.1 186 k = Z.1 186 k := fun k hk => by rw [hY, si_obj _ _ _ _ (by omega), si_fld _ _ _ _ (by omega)]
  have y186' : Y.1 186 W.length = i3 (c : Nat) := by rw [hY, si_obj _ _ _ _ (by omega), si_same]
  have sk : ∀ V : List Nat, V.length ≤ W.length → stw Z V → stw Y V := by
    intro V
    induction V with
    | nil => intro _ _; trivial
    | cons d V ih =>
      intro h1 h2
      have lv : (d :: V).length = V.length + 1 := rfl
      exact ⟨by rw [y186 _ (by omega)]; exact h2.1, h2.2.1, ih (by omega) h2.2.2⟩
  refine ⟨zSi Y 185 6 ((Y.1 185 6) + 1), ?_, ?_, ⟨?_, hc, ?_⟩, ?_, ?_, fun k hk => ?_⟩
  · unfold f55_push
    rw [k6, show (0 : Int32) = i3 0 from rfl, if_neg (by rw [c_lt (by omega)]; omega), show (64 : Int32) = i3 64 from rfl, if_neg (by rw [c_ge (by omega)]; omega), if_pos (of_eq_true (in_t (by omega))), ix_nat (by omega), let_eq, if_pos (is_b1 hb), si_obj _ _ _ _ (show ¬ 185 = 186 by omega), k6, if_pos (of_eq_true (in_t (by omega))), ix_nat (by omega), si_obj _ _ _ _ (show ¬ b + 1 = 186 by omega), let_eq, ← hY, let_eq]
  · rw [si_same, y185, k6, i3_s]; rfl
  · rw [si_obj _ _ _ _ (by omega)]; exact y186'
  · exact stw_of (si_obj _ _ _ _ (by omega)) _ (sk W (Nat.le_refl _) ks)
  · have : (zSi Y 185 6 ((Y.1 185 6) + 1)).1 (b + 1) = Z.1 (b + 1) := by rw [si_obj _ _ _ _ (by omega)]; exact yb
    unfold trm9
    rw [this]; exact kt
  · rw [hY]
    exact eqI_tr (eqI_si (by omega) (by omega)) (eqI_tr (eqI_si (by omega) (by omega)) (eqI_si (by omega) (by omega)))
  · rw [si_fld _ _ _ _ (by omega), y185]
end CR
