/-! THE TOP: the numbers of what is made, the World, the constructor -/
def sgT (B j : Nat) : Nat := if j < B then 1000 + j else if j < B + 211 then j - B else 1000 + j
def taT (B a : Nat) : Nat := if a < 211 then B + a else a - 1000
def fQ9 (B a : Nat) : Prop := 1211 + B ≤ a ∧ a < 1000000
def stT (B L : Nat) (xs : Nat → Int32) (c T l : Nat) (W : mjWt) (Z : mjZt) : Prop := mjWok W ∧ scZ Z L xs ∧ W.2 1000 = (16, 0) ∧ W.1 1000 8 = some l ∧ (1000 ≤ l ∧ l < 1000 + B) ∧ W.2 l = (20, 0) ∧ Z.1 l 2 = i3 (T : Nat) ∧ Z.1 1000 7 = i3 (c : Nat)
section TP9
variable {B L c T l w : Nat} {xs : Nat → Int32} {W W2 : mjWt} {Z Z2 : mjZt}
theorem sgT_ok {j : Nat} (hj : j < 100000) : sgT B j < 1000000 ∧ taT B (sgT B j) = j := by
  unfold sgT taT
  by_cases h1 : j < B
  · rw [if_pos h1, if_neg (by omega)]; omega
  · rw [if_neg h1]
    by_cases h2 : j < B + 211
    · rw [if_pos h2, if_pos (by omega)]; omega
    · rw [if_neg h2, if_neg (by omega)]; omega
theorem sgT_lo {j : Nat} (h : j < B) : sgT B j = sg0 j := by
  unfold sgT
  rw [if_pos h]; rfl
theorem sgT_mid {j : Nat} (h : j < 211) : sgT B (B + j) = j := by
  unfold sgT
  rw [if_neg (by omega), if_pos (by omega)]; omega
theorem sgT_hi {j : Nat} (h : B + 211 ≤ j) : sgT B j = 1000 + j := by
  unfold sgT
  rw [if_neg (by omega), if_neg (by omega)]
theorem stT_tm (h : stT B L xs c T l W Z) : tmI W Z 1000 T := by
  obtain ⟨h1, h2, h3, h4, h5, h6, h7, h8⟩ := h
  exact ⟨by omega, h3, l, h4, by omega, h6, h7⟩
theorem stT_of (hB : B ≤ 75000) (hB1 : 1 ≤ B) (h : stT B L xs c T l W Z) (hW : mjWok W2) (e : ∀ a, 251 ≤ a → ¬ fQ9 B a → Z2.1 a = Z.1 a ∧ W2.2 a = W.2 a ∧ W2.1 a = W.1 a) : stT B L xs c T l W2 Z2 := by
  obtain ⟨h1, h2, h3, h4, h5, h6, h7, h8⟩ := h
  have ex := e 1000 (by omega) (fun q => by have := q.1; omega)
  have el := e l (by omega) (fun q => by have := q.1; omega)
  have e0 := e 2000000 (by omega) (fun q => by have := q.2; omega)
  have e1 := e 2000001 (by omega) (fun q => by have := q.2; omega)
  refine ⟨hW, ⟨h2.1, ?_, ?_⟩, ?_, ?_, h5, ?_, ?_, ?_⟩
  · rw [e1.1]; exact h2.2.1
  · rw [e0.1]; exact h2.2.2
  · rw [ex.2.1]; exact h3
  · rw [ex.2.2]; exact h4
  · rw [el.2.1]; exact h6
  · rw [el.1]; exact h7
  · rw [ex.1]; exact h8
theorem m0_0 {a : Nat} (h : a < 1000000) : (mjM0 L xs w).1 a = (fun _ => 0) ∧ (mjM0 L xs w).2.1 a = (fun _ => 0) ∧ (mjM0 L xs w).2.2.2 a = (99, 0) := by
  refine ⟨?_, rfl, rfl⟩
  funext j
  show (if a = 2000000 then xs j else if a = 2000001 then (if j = 0 then Int32.ofNat L else Int32.ofNat w) else 0) = 0
  rw [if_neg (by omega), if_neg (by omega)]
/-- the World-/
theorem tp_world (hL : L ≤ 260) : ∃ (Zf : mjQ) (t : List Int32) (c T Lg : Nat), g197_init sg0 1000 2000000 ((0 + 1, 0 + mjSzK (16, 0)), mjZr (mjM0 L xs w) 1000 (16, 0)) = some ((), Zf) ∧ wF 1000 L xs Lg Zf t c T ∧ 1 ≤ T ∧ T ≤ 3 ∧ t.length ≤ 681 ∧ Zf.1.1 ≤ 75000 ∧ Zf.1.2 ≤ 3000000 ∧ c ≤ 30 ∧ 1 ≤ Zf.1.1 ∧ ∀ a, a < 1000 → sm9 (mjM0 L xs w) Zf.2 a := by
  obtain ⟨Zf, t, c, T, Lg, h1, h2, h3, h4, h5, h6, h7, h8⟩ := w_world (x := 1000) (L := L) (xs := xs) (Z := ((0 + 1, 0 + mjSzK (16, 0)), mjZr (mjM0 L xs w) 1000 (16, 0))) (by show (if (1000 : Nat) = 1000 then ((16, 0) : Nat × Nat) else (99, 0)) = (16, 0); rw [if_pos rfl]) (fun j => by show (if (1000 : Nat) = 1000 then (0 : Int32) else (mjM0 L xs w).1 1000 j) = 0; rw [if_pos rfl]) (fun a ha => by
    show (if a = 1000 then ((16, 0) : Nat × Nat) else (99, 0)).1 = 99
    rw [if_neg (by omega)]) ⟨hL, by
    show (if 2000001 = 1000 then 0 else if 2000001 = 2000000 then xs 0 else if 2000001 = 2000001 then (if 0 = 0 then Int32.ofNat L else Int32.ofNat w) else 0) = i3 L
    rw [if_neg (by omega), if_neg (by omega), if_pos rfl, if_pos rfl, i3_ofNat], fun k _ => by
    show (if 2000000 = 1000 then 0 else if 2000000 = 2000000 then xs k else if 2000000 = 2000001 then (if k = 0 then Int32.ofNat L else Int32.ofNat w) else 0) = xs k
    rw [if_neg (by omega), if_pos rfl]⟩ (by show 1000 < 1000 + (0 + 1); omega) (by show 0 + 1 ≤ 20; omega) (by show 0 + mjSzK (16, 0) ≤ 1000; decide)
  refine ⟨Zf, t, c, T, Lg, h1, h2, h3, h4, h5, h6, h7, h8, ?_⟩
  obtain ⟨f, r, Z4, g1, g2, g3⟩ := g197_init_ok h1
  have g3' : Z4 = Zf := g3
  rw [g3'] at g1
  have k1 : 0 + 1 ≤ Zf.1.1 := (mjRun_sg f g1).1
  refine ⟨by omega, fun a ha => ?_⟩
  have z1 : sm9 (mjM0 L xs w) (mjZr (mjM0 L xs w) 1000 (16, 0)) a := sm9_zr (by omega)
  refine sm9_tr z1 (mjRun_fr f g1 a ?_ (fun j j1 j2 => ?_))
  · rw [z1.2.2.2]; rfl
  · show 1000 + j ≠ a
    omega
/-- the constructor's memory-/
theorem zr_zr {M : mjMem} {a : Nat} {q : Nat × Nat} : mjZr (mjZr M a q) a q = mjZr M a q := by
  refine Prod.ext ?_ (Prod.ext ?_ (Prod.ext ?_ ?_))
  · funext i j
    show (if i = a then 0 else if i = a then 0 else M.1 i j) = (if i = a then 0 else M.1 i j)
    by_cases h : i = a
    · rw [if_pos h, if_pos h]
    · rw [if_neg h, if_neg h]
  · funext i j
    show (if i = a then 0 else if i = a then 0 else M.2.1 i j) = (if i = a then 0 else M.2.1 i j)
    by_cases h : i = a
    · rw [if_pos h, if_pos h]
    · rw [if_neg h, if_neg h]
  · funext i j
    show (if i = a then none else if i = a then none else M.2.2.1 i j) = (if i = a then none else M.2.2.1 i j)
    by_cases h : i = a
    · rw [if_pos h, if_pos h]
    · rw [if_neg h, if_neg h]
  · funext i
    show (if i = a then q else if i = a then q else M.2.2.2 i) = (if i = a then q else M.2.2.2 i)
    by_cases h : i = a
    · rw [if_pos h, if_pos h]
    · rw [if_neg h, if_neg h]
theorem ini_k {M : mjMem} (b : cAp [(3, 0, 0, 0)] M = M) : kOk 211 (cAp cW9 M) := by
  have kk : kOk 1 (cAp [(3, 0, 0, 0)] M) := ⟨by decide, fun c hc => by
    have : c = 0 := by omega
    rw [this]; rfl⟩
  exact (cRun_ok M (fun j => j) (0, 0) (fun j _ => Nat.zero_add j) (by decide) 3000 cRes_ok kk).2
theorem zi_hid {M : mjMem} (h : ∀ a, 211 ≤ a → a < 251 → M.1 a = (fun _ => 0) ∧ M.2.1 a = (fun _ => 0)) : hid9 (Zi9 M) = Zi9 M := by
  refine Prod.ext ?_ (Prod.ext ?_ rfl)
  · funext a
    show (if 211 ≤ a ∧ a < 251 then (fun _ => 0) else if a < 211 then (fun k => i3 (cIv cW9 a k)) else M.1 a) = (if a < 211 then (fun k => i3 (cIv cW9 a k)) else M.1 a)
    by_cases g : 211 ≤ a ∧ a < 251
    · rw [if_pos g, if_neg (by omega), (h a g.1 g.2).1]
    · rw [if_neg g]
  · funext a
    show (if 211 ≤ a ∧ a < 251 then (fun _ => 0) else if a < 211 then (fun _ => 0) else M.2.1 a) = (if a < 211 then (fun _ => 0) else M.2.1 a)
    by_cases g : 211 ≤ a ∧ a < 251
    · rw [if_pos g, if_neg (by omega), (h a g.1 g.2).2]
    · rw [if_neg g]
theorem zi_hi {M : mjMem} {a : Nat} (h : 1000 ≤ a) : (Zi9 M).1 a = M.1 a := if_neg (by omega)
theorem zr_o {M : mjMem} {a b : Nat} {q : Nat × Nat} (h : ¬ a = b) : (mjZr M b q).1 a = M.1 a ∧ (mjZr M b q).2.1 a = M.2.1 a ∧ (mjZr M b q).2.2.1 a = M.2.2.1 a ∧ (mjZr M b q).2.2.2 a = M.2.2.2 a := sm9_zr h
end TP9
