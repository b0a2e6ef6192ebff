/-! MACHINE: THE PURE STATEMENT OUT OF WHAT THE CONSTRUCTORS LEAVE -/
set_option maxRecDepth 100000 in
theorem mjPure_of (C : ∀ (L : Nat) (xs : Nat → Int32) (w : Nat), L ≤ 3072 → w ≤ 1 → ∃ Z, lpR L xs Z ∧ ∀ F : Option Value → mjMem → Prop, pG 339 16 [some (.ref 2000000), some (.ref 0), some (.ref 211), none] [] (mjTo Z) F → ∃ (fuel : Nat) (r : Option Value) (M1 : mjMem), mjRun fuel 339 0 (mjEnt [.ref 2000000] 4) [] 0 (mjM0 L xs w) = some (r, 251, M1) ∧ F r M1) (hc : mjCum 251 ≤ 7302249) : mjPure := by
  intro L xs w hL hw
  obtain ⟨Z, h, g⟩ := C L xs w hL hw
  obtain ⟨fuel, r, M1, h1, h2⟩ := g (fun r _ => r = some (.int 1)) (by
    refine pG_many 2 (pc1 := 18) (L1 := [some (.ref 2000000), some (.ref 0), some (.ref 211), some (.int (i3 ((0 : Nat) : Int)))]) (st1 := []) (M1 := mjTo Z) rfl ?_
    exact law_loop hL (L + 1) 0 Z (by omega) (by omega) h)
  subst h2
  exact ⟨fuel, 251, M1, by omega, hc, h1⟩
theorem mjCum_251 : mjCum 251 ≤ 7302249 := by decide +kernel
