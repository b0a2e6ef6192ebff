/-! MACHINE: THE START: the invariant of all behind the constructors, and the pure statement -/
def S0 : mjS := fun f k => if f = 10 then (if k = 3 then 2 else if k = 4 then 5 else 0) else 0
section ST
variable {L w : Nat} {xs : Nat → Int32}
theorem S0_T : sT S0 = 0 := rfl
theorem S0_A : sA S0 = 0 := rfl
theorem S0_R : sR S0 = 0 := rfl
theorem S0_all : sAll S0 = 0 := rfl
theorem S0_in (W : Nat → Bool) (t : Nat) : sIn S0 W t = false := by
  cases q : sIn S0 W t
  · rfl
  · have := (in_lt q).1
    rw [S0_T] at this
    omega
variable {Z : mjZt}
theorem vR0 (h : cSt Z) : vRep Z 199 S0 (sW S0) := by
  have z : ∀ k, Z.1 199 k = i3 0 := fun k => h.2.1 199 k (by decide) (by decide)
  refine ⟨fun a ha => by rw [S0_all] at ha; omega, fun t ht => by rw [S0_T] at ht; omega, fun hT => by rw [S0_T] at hT; omega, fun j _ => ?_⟩
  rw [z 4, z 5, z 6, z 7, z 8, bt_0]
  refine ⟨rfl, ?_, rfl, ?_, ?_⟩
  · unfold sThr
    rw [S0_in, Bool.false_and]
  · unfold sBe
    rw [S0_in, Bool.false_and]
  · exact (decide_eq_false fun h => by have := h.1; rw [S0_T] at this; omega).symm
theorem cBk_0 (h : cSt Z) : cBk Z 2 S0 := by
  obtain ⟨h1, h2, h3, h4, h5, h6, h7, h8, _⟩ := h
  refine ⟨Or.inl rfl, fun k hk => h4 k (by omega), h4 5 (by decide), h4 6 (by decide), h4 8 (by decide), h7, h8, fun t ht => by rw [S0_T] at ht; omega, fun a ha => by rw [S0_A] at ha; omega, fun i _ => ?_, fun r hr => by rw [S0_R] at hr; omega, fun t ht => ?_, fun j k hj => h2 _ k (by omega) (by omega), h3 _ 4 (by decide)⟩
  · rw [h3 2 11 (by decide), b6_0]
    exact (decide_eq_false fun h => by have := h.1; rw [S0_A] at this; omega).symm
  · exact ⟨h2 _ 0 (by unfold tmB; omega) (by unfold tmB; omega), h2 _ 0 (by unfold tmB; omega) (by unfold tmB; omega)⟩
theorem okS_0 : okS S0 := by
  refine ⟨by decide, by decide, by decide, fun h => ?_, fun t h => ?_, fun t _ h => ?_, fun t _ h => ?_, fun a h => ?_, fun r h => ?_⟩
  · rw [S0_T] at h; omega
  · rw [S0_T] at h; omega
  · rw [S0_T] at h; omega
  · rw [S0_T] at h; omega
  · rw [S0_A] at h; omega
  · rw [S0_R] at h; omega
theorem mRep_0 (h : cSt Z) : mRep Z S0 := by
  obtain ⟨_, h2, h3, _, _, _, _, _, g1, g2, g3, g4, g5, _⟩ := h
  exact ⟨fun k => h2 _ k (by decide) (by decide), fun k => h2 _ k (by decide) (by decide), fun k => h2 _ k (by decide) (by decide), fun k => h2 _ k (by decide) (by decide), fun k => h2 _ k (by decide) (by decide), fun k => h2 _ k (by decide) (by decide), fun k => h2 _ k (by decide) (by decide), fun k => h2 _ k (by decide) (by decide), fun k => h2 _ k (by decide) (by decide), fun k => h2 _ k (by decide) (by decide), g1, g2, g3, g4, g5, fun k => h3 _ k (by decide), fun k => h3 _ k (by decide)⟩
theorem iG_0 (h : cSt Z) : iG Z := by
  have hv := vR0 h
  have hb := cBk_0 h
  have hm := mRep_0 h
  obtain ⟨h1, h2, h3, h4, h5, h6, _, _, _, _, _, _, _, g6, g7, g8, g9, g10, g11, g12, g13⟩ := h
  have r1 : ∀ k, Z.1 1 k = i3 0 := fun k => h2 1 k (by decide) (by decide)
  have r2 : ∀ k, Z.1 212 k = i3 0 := fun k => h2 212 k (by decide) (by decide)
  refine ⟨2, S0, 0, 0, 0, fun _ _ => 0, fun _ _ => 0, ⟨h1, hb, ⟨h4 7 (by decide), fun t ht => by rw [S0_T] at ht; omega, fun a ha => by rw [S0_all] at ha; omega⟩, fun r p hr => by rw [S0_R] at hr; omega, hv, okS_0, fun r p hr => by rw [S0_R] at hr; omega, ⟨fun t ht => by rw [S0_T] at ht; omega, fun r hr => by rw [S0_R] at hr; omega⟩, hm, ⟨by decide, by decide, h2 209 1 (by decide) (by decide), h2 209 2 (by decide) (by decide), fun k hk => by omega⟩, ⟨g6, fun k hk => by omega⟩, trivial⟩, ⟨by decide, h2 0 1 (by decide) (by decide), g7, fun k => ?_⟩, ⟨fun t ht => ?_, fun j k hj => h2 _ k (by omega) (by omega), h3 _ 4 (by decide)⟩, ⟨h5, h6⟩, ⟨?_, ?_⟩, g12, g13⟩
  · rw [r1 k, r2 k]
    exact ⟨rfl, by decide, by decide⟩
  · exact ⟨h2 _ 0 (by unfold tmB; omega) (by unfold tmB; omega), h2 _ 0 (by unfold tmB; omega) (by unfold tmB; omega)⟩
  · rw [g8, g9]
  · rw [g10, g11]
theorem lpR_0 {W : cLg} (hb : (W.all fun e => decide (e.2.1 < 251 ∧ e.2.2.1 < 72)) = true) (h : cSt (cZ W L xs w)) : lpR L xs (cZ W L xs w) := by
  refine ⟨iG_0 h, fun j => ?_, ?_⟩
  · rw [z_o hb (by decide)]
    show (if (2000000 : Nat) = 2000000 then xs j else if (2000000 : Nat) = 2000001 then (if j = 0 then Int32.ofNat L else Int32.ofNat w) else 0) = xs j
    rw [if_pos rfl]
  · rw [z_o hb (by decide)]
    show (if (2000001 : Nat) = 2000000 then xs 0 else if (2000001 : Nat) = 2000001 then (if (0 : Nat) = 0 then Int32.ofNat L else Int32.ofNat w) else 0) = i3 L
    rw [if_neg (by decide), if_pos rfl, if_pos rfl]
    exact i3_ofNat L
end ST
section SR
variable {f k pc pc1 n n1 len k2 : Nat} {i : Instr} {L L1 : mjLs} {st st1 As rest : List Value} {M M1 : mjMem} {r : Option Value}
theorem r_stp (h1 : mjLook (mjCode k) pc = some (i, len)) (h2 : mjLn i len = true) (h3 : mjRet k i st = none) (h4 : mjStp k i pc n L st M = some (pc1, L1, st1, M1)) : mjRun (f + 1) k pc L st n M = mjRun f k pc1 L1 st1 n M1 := by
  rw [mjRun, h1]
  dsimp only
  rw [if_pos h2, h3]
  dsimp only
  rw [h4]
theorem r_new (h1 : mjLook (mjCode k) pc = some (i, len)) (h2 : mjLn i len = true) (h3 : mjRet k i st = none) (h4 : mjStp k i pc n L st M = none) (h5 : mjNew k i pc n L st M = some (pc1, L1, st1, M1)) : mjRun (f + 1) k pc L st n M = mjRun f k pc1 L1 st1 (n + 1) M1 := by
  rw [mjRun, h1]
  dsimp only
  rw [if_pos h2, h3]
  dsimp only
  rw [h4]
  dsimp only
  rw [h5]
theorem r_cal (h1 : mjLook (mjCode k) pc = some (i, len)) (h2 : mjLn i len = true) (h3 : mjRet k i st = none) (h4 : mjStp k i pc n L st M = none) (h5 : mjNew k i pc n L st M = none) (h6 : mjCall k i n st = some (k2, As, rest)) (hk : k2 < 999) (h7 : mjRun f k2 0 (mjEnt As (mjML k2)) [] n M = some (r, n1, M1)) : mjRun (f + 1) k pc L st n M = mjRun f k (pc + 3) L (r.toList ++ rest) n1 M1 := by
  rw [mjRun, h1]
  dsimp only
  rw [if_pos h2, h3]
  dsimp only
  rw [h4]
  dsimp only
  rw [h5]
  dsimp only
  rw [h6]
  dsimp only
  rw [if_neg (by omega), if_neg (by omega), h7]
end SR
set_option maxRecDepth 100000 in
theorem law_start_of {W1 W2 : cLg} (i1 : cRun 2000 147 0 (mjEnt [.ref 0] (mjML 147)) [] 1 [(3, 0, 0, 0)] = some (none, 211, W1)) (i2 : cRun 2000 194 0 (mjEnt [.ref 211] (mjML 194)) [] 212 ((3, 211, 0, 0) :: W1) = some (none, 251, W2)) (L : Nat) (xs : Nat → Int32) (w : Nat) (ht : cAp W2 (mjM0 L xs w) = mjTo (cZ W2 L xs w)) (hl : lpR L xs (cZ W2 L xs w)) : ∃ Z, lpR L xs Z ∧ ∀ F : Option Value → mjMem → Prop, pG 339 16 [some (.ref 2000000), some (.ref 0), some (.ref 211), none] [] (mjTo Z) F → ∃ (fuel : Nat) (r : Option Value) (M1 : mjMem), mjRun fuel 339 0 (mjEnt [.ref 2000000] 4) [] 0 (mjM0 L xs w) = some (r, 251, M1) ∧ F r M1 := by
  refine ⟨cZ W2 L xs w, hl, fun F g => ?_⟩
  obtain ⟨f, r, M1, g1, g2⟩ := g
  rw [← ht] at g1
  clear ht hl
  generalize mjM0 L xs w = M0 at g1 ⊢
  have c1 := mjRun_mono (g := f + 2005) 2000 (cRun_ok M0 2000 i1) (by omega)
  have c2 := mjRun_mono (g := f + 2001) 2000 (cRun_ok M0 2000 i2) (by omega)
  have e0 : mjRun (f + 2008) 339 0 (mjEnt [.ref 2000000] 4) [] 0 M0 = mjRun (f + 2007) 339 3 (mjEnt [.ref 2000000] 4) [.ref 0] 1 (cAp [(3, 0, 0, 0)] M0) := r_new (i := .new 7) (len := 3) rfl rfl rfl rfl rfl
  have e1 : mjRun (f + 2007) 339 3 (mjEnt [.ref 2000000] 4) [.ref 0] 1 (cAp [(3, 0, 0, 0)] M0) = mjRun (f + 2006) 339 4 (mjEnt [.ref 2000000] 4) [.ref 0, .ref 0] 1 (cAp [(3, 0, 0, 0)] M0) := r_stp (i := .dup) (len := 1) rfl rfl rfl rfl
  have e2 : mjRun (f + 2006) 339 4 (mjEnt [.ref 2000000] 4) [.ref 0, .ref 0] 1 (cAp [(3, 0, 0, 0)] M0) = mjRun (f + 2005) 339 7 (mjEnt [.ref 2000000] 4) [.ref 0] 211 (cAp W1 M0) := r_cal (i := .invokespecial 9) (len := 3) (k2 := 147) (As := [.ref 0]) (rest := [.ref 0]) (r := none) rfl rfl rfl rfl rfl rfl (by decide) c1
  have e3 : mjRun (f + 2005) 339 7 (mjEnt [.ref 2000000] 4) [.ref 0] 211 (cAp W1 M0) = mjRun (f + 2004) 339 8 [some (.ref 2000000), some (.ref 0), none, none] [] 211 (cAp W1 M0) := r_stp (i := .astore_n 1) (len := 1) rfl rfl rfl rfl
  have e4 : mjRun (f + 2004) 339 8 [some (.ref 2000000), some (.ref 0), none, none] [] 211 (cAp W1 M0) = mjRun (f + 2003) 339 11 [some (.ref 2000000), some (.ref 0), none, none] [.ref 211] 212 (cAp ((3, 211, 0, 0) :: W1) M0) := r_new (i := .new 10) (len := 3) rfl rfl rfl rfl rfl
  have e5 : mjRun (f + 2003) 339 11 [some (.ref 2000000), some (.ref 0), none, none] [.ref 211] 212 (cAp ((3, 211, 0, 0) :: W1) M0) = mjRun (f + 2002) 339 12 [some (.ref 2000000), some (.ref 0), none, none] [.ref 211, .ref 211] 212 (cAp ((3, 211, 0, 0) :: W1) M0) := r_stp (i := .dup) (len := 1) rfl rfl rfl rfl
  have e6 : mjRun (f + 2002) 339 12 [some (.ref 2000000), some (.ref 0), none, none] [.ref 211, .ref 211] 212 (cAp ((3, 211, 0, 0) :: W1) M0) = mjRun (f + 2001) 339 15 [some (.ref 2000000), some (.ref 0), none, none] [.ref 211] 251 (cAp W2 M0) := r_cal (i := .invokespecial 12) (len := 3) (k2 := 194) (As := [.ref 211]) (rest := [.ref 211]) (r := none) rfl rfl rfl rfl rfl rfl (by decide) c2
  have e7 : mjRun (f + 2001) 339 15 [some (.ref 2000000), some (.ref 0), none, none] [.ref 211] 251 (cAp W2 M0) = mjRun (f + 2000) 339 16 [some (.ref 2000000), some (.ref 0), some (.ref 211), none] [] 251 (cAp W2 M0) := r_stp (i := .astore_n 2) (len := 1) rfl rfl rfl rfl
  refine ⟨f + 2008, r, M1, ?_, g2⟩
  rw [e0, e1, e2, e3, e4, e5, e6, e7]
  exact mjRun_mono f g1 (by omega)
theorem law_start (L : Nat) (xs : Nat → Int32) (w : Nat) (_ : L ≤ 3072) (_ : w ≤ 1) : ∃ Z, lpR L xs Z ∧ ∀ F : Option Value → mjMem → Prop, pG 339 16 [some (.ref 2000000), some (.ref 0), some (.ref 211), none] [] (mjTo Z) F → ∃ (fuel : Nat) (r : Option Value) (M1 : mjMem), mjRun fuel 339 0 (mjEnt [.ref 2000000] 4) [] 0 (mjM0 L xs w) = some (r, 251, M1) ∧ F r M1 :=
  law_start_of cIni1 cIni2 L xs w (cZ_to cW_b cW_r) (lpR_0 cW_b cSt_W)
theorem mjPure_ok : mjPure := mjPure_of law_start mjCum_251
