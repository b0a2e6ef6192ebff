/-! MACHINE: THE LAW'S LOOP, case by case -/
section LW
variable {L LL i k pc : Nat} {xs : Nat → Int32} {Z : mjZt} {st : List Value} {Lc : mjLs} {F : Option Value → mjMem → Prop}
def lpR (LL : Nat) (xs : Nat → Int32) (Z : mjZt) : Prop := iG Z ∧ (∀ j, Z.1 2000000 j = xs j) ∧ Z.1 2000001 0 = i3 LL
theorem ix_c (i c : Nat) : i3 i + i3 c = i3 ((i + c : Nat) : Int) := by
  rw [i3_add]
  congr 1
theorem up_inv {o : Option Int32} {v : Int32} {Z1 : mjZt} (h : up o Z = some (v, Z1)) : o = some v ∧ Z = Z1 := by
  cases o with
  | none => cases h
  | some w =>
    have e := Option.some.inj h
    exact ⟨congrArg some (congrArg Prod.fst e), congrArg Prod.snd e⟩
theorem pG_ials {j : Nat} {x : Int32} (hl : mjLook (mjCode k) pc = some (.iaload, 1)) (hx : ∀ j, Z.1 2000000 j = xs j) (hL : Z.1 2000001 0 = i3 LL) (e : x = i3 j) (hj : j < LL) (h3 : LL ≤ 3072) (g : pG k (pc + 1) Lc (.int (xs j) :: st) (mjTo Z) F) : pG k pc Lc (.int x :: .ref 2000000 :: st) (mjTo Z) F := by
  subst e
  refine pG_one (pc1 := pc + 1) (L1 := Lc) (st1 := .int (xs j) :: st) (M1 := mjTo Z) ?_ g
  have t1 : (i3 (j : Int)).toInt = j := i3_int (by omega)
  have t2 : (i3 (LL : Int)).toInt = LL := i3_int (by omega)
  have h1 : (mjTo Z).1 2000001 0 = i3 LL := hL
  have h2 : (mjTo Z).1 2000000 j = xs j := hx j
  have hi : mjIx (i3 (j : Int)) = j := by unfold mjIx; rw [t1]; exact Int.toNat_natCast j
  simp [mjOne1, hl, mjLn, mjRet, mjStp, mjIal, h1, t1, t2, hi, h2, hj]
theorem lp_1 {Z1 : mjZt} (h : lpR LL xs Z) (a : ∀ a, 251 ≤ a → Z1.1 a = Z.1 a) : (∀ j, Z1.1 2000000 j = xs j) ∧ Z1.1 2000001 0 = i3 LL := by
  rw [a 2000000 (by omega), a 2000001 (by omega)]
  exact h.2
set_option maxRecDepth 100000 in
theorem br_0 (h : lpR LL xs Z) (hi : i + 6 ≤ LL) (hL : LL ≤ 3072) (tail : ∀ Z2, lpR LL xs Z2 → pG 339 1502 [some (.ref 2000000), some (.ref 0), some (.ref 211), some (.int (i3 i))] [] (mjTo Z2) F) : pG 339 216 [some (.ref 2000000), some (.ref 0), some (.ref 211), some (.int (i3 i))] [] (mjTo Z) F := by
  obtain ⟨v, Z1, Z2, a1, a2, a3, a4, a5⟩ := o_feed h.1 (xs (i + 1)) (xs (i + 2)) (xs (i + 3)) (xs (i + 4)) (xs (i + 5))
  have s0 := h.2
  have s1 := lp_1 h a4
  have s2 := lp_1 h a5
  refine pG_many 5 (pc1 := 221) (L1 := [some (.ref 2000000), some (.ref 0), some (.ref 211), some (.int (i3 i))]) (st1 := [.int (i3 i + 1), .ref 2000000, .ref 0]) (M1 := mjTo Z) rfl ?_
  refine pG_ials (j := i + 1) rfl s0.1 s0.2 (ix_c i 1) (by omega) hL ?_
  refine pG_many 4 (pc1 := 226) (L1 := [some (.ref 2000000), some (.ref 0), some (.ref 211), some (.int (i3 i))]) (st1 := [.int (i3 i + 2), .ref 2000000, .int (xs (i + 1)), .ref 0]) (M1 := mjTo Z) rfl ?_
  refine pG_ials (j := i + 2) rfl s0.1 s0.2 (ix_c i 2) (by omega) hL ?_
  refine pG_many 4 (pc1 := 231) (L1 := [some (.ref 2000000), some (.ref 0), some (.ref 211), some (.int (i3 i))]) (st1 := [.int (i3 i + 3), .ref 2000000, .int (xs (i + 2)), .int (xs (i + 1)), .ref 0]) (M1 := mjTo Z) rfl ?_
  refine pG_ials (j := i + 3) rfl s0.1 s0.2 (ix_c i 3) (by omega) hL ?_
  refine pG_many 4 (pc1 := 236) (L1 := [some (.ref 2000000), some (.ref 0), some (.ref 211), some (.int (i3 i))]) (st1 := [.int (i3 i + 4), .ref 2000000, .int (xs (i + 3)), .int (xs (i + 2)), .int (xs (i + 1)), .ref 0]) (M1 := mjTo Z) rfl ?_
  refine pG_ials (j := i + 4) rfl s0.1 s0.2 (ix_c i 4) (by omega) hL ?_
  refine pG_many 4 (pc1 := 241) (L1 := [some (.ref 2000000), some (.ref 0), some (.ref 211), some (.int (i3 i))]) (st1 := [.int (i3 i + 5), .ref 2000000, .int (xs (i + 4)), .int (xs (i + 3)), .int (xs (i + 2)), .int (xs (i + 1)), .ref 0]) (M1 := mjTo Z) rfl ?_
  refine pG_ials (j := i + 5) rfl s0.1 s0.2 (ix_c i 5) (by omega) hL ?_
  refine pG_callV (k2 := 149) (As := [.ref 0, .int (xs (i + 1)), .int (xs (i + 2)), .int (xs (i + 3)), .int (xs (i + 4)), .int (xs (i + 5))]) (rest := []) rfl rfl rfl rfl rfl (by rfl) (by decide) (f149_feed_ok a1) ?_
  rintro r9 M9 ⟨rfl, rfl⟩
  show pG 339 245 [some (.ref 2000000), some (.ref 0), some (.ref 211), some (.int (i3 i))] [.int v] (mjTo Z1) _
  refine pG_many 5 (pc1 := 250) (L1 := [some (.ref 2000000), some (.ref 0), some (.ref 211), some (.int (i3 i))]) (st1 := [.int (i3 i + 1), .ref 2000000, .ref 211, .int v]) (M1 := mjTo Z1) rfl ?_
  refine pG_ials (j := i + 1) rfl s1.1 s1.2 (ix_c i 1) (by omega) hL ?_
  refine pG_many 4 (pc1 := 255) (L1 := [some (.ref 2000000), some (.ref 0), some (.ref 211), some (.int (i3 i))]) (st1 := [.int (i3 i + 2), .ref 2000000, .int (xs (i + 1)), .ref 211, .int v]) (M1 := mjTo Z1) rfl ?_
  refine pG_ials (j := i + 2) rfl s1.1 s1.2 (ix_c i 2) (by omega) hL ?_
  refine pG_many 4 (pc1 := 260) (L1 := [some (.ref 2000000), some (.ref 0), some (.ref 211), some (.int (i3 i))]) (st1 := [.int (i3 i + 3), .ref 2000000, .int (xs (i + 2)), .int (xs (i + 1)), .ref 211, .int v]) (M1 := mjTo Z1) rfl ?_
  refine pG_ials (j := i + 3) rfl s1.1 s1.2 (ix_c i 3) (by omega) hL ?_
  refine pG_many 4 (pc1 := 265) (L1 := [some (.ref 2000000), some (.ref 0), some (.ref 211), some (.int (i3 i))]) (st1 := [.int (i3 i + 4), .ref 2000000, .int (xs (i + 3)), .int (xs (i + 2)), .int (xs (i + 1)), .ref 211, .int v]) (M1 := mjTo Z1) rfl ?_
  refine pG_ials (j := i + 4) rfl s1.1 s1.2 (ix_c i 4) (by omega) hL ?_
  refine pG_many 4 (pc1 := 270) (L1 := [some (.ref 2000000), some (.ref 0), some (.ref 211), some (.int (i3 i))]) (st1 := [.int (i3 i + 5), .ref 2000000, .int (xs (i + 4)), .int (xs (i + 3)), .int (xs (i + 2)), .int (xs (i + 1)), .ref 211, .int v]) (M1 := mjTo Z1) rfl ?_
  refine pG_ials (j := i + 5) rfl s1.1 s1.2 (ix_c i 5) (by omega) hL ?_
  refine pG_callV (k2 := 199) (As := [.ref 211, .int (xs (i + 1)), .int (xs (i + 2)), .int (xs (i + 3)), .int (xs (i + 4)), .int (xs (i + 5))]) (rest := [.int v]) rfl rfl rfl rfl rfl (by rfl) (by decide) (f199_feed_ok a2) ?_
  rintro r9 M9 ⟨rfl, rfl⟩
  show pG 339 274 [some (.ref 2000000), some (.ref 0), some (.ref 211), some (.int (i3 i))] [.int v, .int v] (mjTo Z2) _
  refine pG_cmt (t := 1502) rfl rfl (by simp [mjCmp]) ?_
  exact tail _ ⟨a3, s2⟩
set_option maxRecDepth 100000 in
theorem br_1 (h : lpR LL xs Z) (hi : i + 6 ≤ LL) (hL : LL ≤ 3072) (tail : ∀ Z2, lpR LL xs Z2 → pG 339 1502 [some (.ref 2000000), some (.ref 0), some (.ref 211), some (.int (i3 i))] [] (mjTo Z2) F) : pG 339 279 [some (.ref 2000000), some (.ref 0), some (.ref 211), some (.int (i3 i))] [] (mjTo Z) F := by
  obtain ⟨v, Z1, Z2, a1, a2, a3, a4, a5⟩ := o_end h.1 (xs (i + 1))
  have s0 := h.2
  have s1 := lp_1 h a4
  have s2 := lp_1 h a5
  refine pG_many 5 (pc1 := 284) (L1 := [some (.ref 2000000), some (.ref 0), some (.ref 211), some (.int (i3 i))]) (st1 := [.int (i3 i + 1), .ref 2000000, .ref 0]) (M1 := mjTo Z) rfl ?_
  refine pG_ials (j := i + 1) rfl s0.1 s0.2 (ix_c i 1) (by omega) hL ?_
  refine pG_callV (k2 := 150) (As := [.ref 0, .int (xs (i + 1))]) (rest := []) rfl rfl rfl rfl rfl (by rfl) (by decide) (f150_end_ok a1) ?_
  rintro r9 M9 ⟨rfl, rfl⟩
  show pG 339 288 [some (.ref 2000000), some (.ref 0), some (.ref 211), some (.int (i3 i))] [.int v] (mjTo Z1) _
  refine pG_many 5 (pc1 := 293) (L1 := [some (.ref 2000000), some (.ref 0), some (.ref 211), some (.int (i3 i))]) (st1 := [.int (i3 i + 1), .ref 2000000, .ref 211, .int v]) (M1 := mjTo Z1) rfl ?_
  refine pG_ials (j := i + 1) rfl s1.1 s1.2 (ix_c i 1) (by omega) hL ?_
  refine pG_callV (k2 := 200) (As := [.ref 211, .int (xs (i + 1))]) (rest := [.int v]) rfl rfl rfl rfl rfl (by rfl) (by decide) (f200_end_ok a2) ?_
  rintro r9 M9 ⟨rfl, rfl⟩
  show pG 339 297 [some (.ref 2000000), some (.ref 0), some (.ref 211), some (.int (i3 i))] [.int v, .int v] (mjTo Z2) _
  refine pG_cmt (t := 1502) rfl rfl (by simp [mjCmp]) ?_
  exact tail _ ⟨a3, s2⟩
set_option maxRecDepth 100000 in
theorem br_2 (h : lpR LL xs Z) (hi : i + 6 ≤ LL) (hL : LL ≤ 3072) (tail : ∀ Z2, lpR LL xs Z2 → pG 339 1502 [some (.ref 2000000), some (.ref 0), some (.ref 211), some (.int (i3 i))] [] (mjTo Z2) F) : pG 339 302 [some (.ref 2000000), some (.ref 0), some (.ref 211), some (.int (i3 i))] [] (mjTo Z) F := by
  obtain ⟨v, Z1, Z2, a1, a2, a3, a4, a5⟩ := o_book h.1
  have s0 := h.2
  have s1 := lp_1 h a4
  have s2 := lp_1 h a5
  refine pG_many 1 (pc1 := 303) (L1 := [some (.ref 2000000), some (.ref 0), some (.ref 211), some (.int (i3 i))]) (st1 := [.ref 0]) (M1 := mjTo Z) rfl ?_
  refine pG_callV (k2 := 152) (As := [.ref 0]) (rest := []) rfl rfl rfl rfl rfl (by rfl) (by decide) (f152_book_ok a1) ?_
  rintro r9 M9 ⟨rfl, rfl⟩
  show pG 339 306 [some (.ref 2000000), some (.ref 0), some (.ref 211), some (.int (i3 i))] [.int v] (mjTo Z1) _
  refine pG_many 1 (pc1 := 307) (L1 := [some (.ref 2000000), some (.ref 0), some (.ref 211), some (.int (i3 i))]) (st1 := [.ref 211, .int v]) (M1 := mjTo Z1) rfl ?_
  refine pG_callV (k2 := 236) (As := [.ref 211]) (rest := [.int v]) rfl rfl rfl rfl rfl (by rfl) (by decide) (f236_book_ok a2) ?_
  rintro r9 M9 ⟨rfl, rfl⟩
  show pG 339 310 [some (.ref 2000000), some (.ref 0), some (.ref 211), some (.int (i3 i))] [.int v, .int v] (mjTo Z2) _
  refine pG_cmt (t := 1502) rfl rfl (by simp [mjCmp]) ?_
  exact tail _ ⟨a3, s2⟩
set_option maxRecDepth 100000 in
theorem br_3 (h : lpR LL xs Z) (hi : i + 6 ≤ LL) (hL : LL ≤ 3072) (tail : ∀ Z2, lpR LL xs Z2 → pG 339 1502 [some (.ref 2000000), some (.ref 0), some (.ref 211), some (.int (i3 i))] [] (mjTo Z2) F) : pG 339 315 [some (.ref 2000000), some (.ref 0), some (.ref 211), some (.int (i3 i))] [] (mjTo Z) F := by
  obtain ⟨v, Z1, Z2, a1, a2, a3, a4, a5⟩ := o_fault h.1 (xs (i + 1))
  have s0 := h.2
  obtain ⟨c1, e1⟩ := up_inv a1
  subst e1
  obtain ⟨c2, e2⟩ := up_inv a2
  subst e2
  have s1 := lp_1 h a4
  have s2 := lp_1 h a5
  refine pG_many 5 (pc1 := 320) (L1 := [some (.ref 2000000), some (.ref 0), some (.ref 211), some (.int (i3 i))]) (st1 := [.int (i3 i + 1), .ref 2000000, .ref 0]) (M1 := mjTo Z) rfl ?_
  refine pG_ials (j := i + 1) rfl s0.1 s0.2 (ix_c i 1) (by omega) hL ?_
  refine pG_callV (k2 := 153) (As := [.ref 0, .int (xs (i + 1))]) (rest := []) rfl rfl rfl rfl rfl (by rfl) (by decide) (f153_fault_ok c1) ?_
  rintro r9 M9 ⟨rfl, rfl⟩
  show pG 339 324 [some (.ref 2000000), some (.ref 0), some (.ref 211), some (.int (i3 i))] [.int v] (mjTo Z) _
  refine pG_many 5 (pc1 := 329) (L1 := [some (.ref 2000000), some (.ref 0), some (.ref 211), some (.int (i3 i))]) (st1 := [.int (i3 i + 1), .ref 2000000, .ref 211, .int v]) (M1 := mjTo Z) rfl ?_
  refine pG_ials (j := i + 1) rfl s1.1 s1.2 (ix_c i 1) (by omega) hL ?_
  refine pG_callV (k2 := 237) (As := [.ref 211, .int (xs (i + 1))]) (rest := [.int v]) rfl rfl rfl rfl rfl (by rfl) (by decide) (f237_fault_ok c2) ?_
  rintro r9 M9 ⟨rfl, rfl⟩
  show pG 339 333 [some (.ref 2000000), some (.ref 0), some (.ref 211), some (.int (i3 i))] [.int v, .int v] (mjTo Z) _
  refine pG_cmt (t := 1502) rfl rfl (by simp [mjCmp]) ?_
  exact tail _ ⟨a3, s2⟩
set_option maxRecDepth 100000 in
theorem br_4 (h : lpR LL xs Z) (hi : i + 6 ≤ LL) (hL : LL ≤ 3072) (tail : ∀ Z2, lpR LL xs Z2 → pG 339 1502 [some (.ref 2000000), some (.ref 0), some (.ref 211), some (.int (i3 i))] [] (mjTo Z2) F) : pG 339 338 [some (.ref 2000000), some (.ref 0), some (.ref 211), some (.int (i3 i))] [] (mjTo Z) F := by
  obtain ⟨v, Z1, Z2, a1, a2, a3, a4, a5⟩ := o_about h.1 (xs (i + 1))
  have s0 := h.2
  obtain ⟨c1, e1⟩ := up_inv a1
  subst e1
  obtain ⟨c2, e2⟩ := up_inv a2
  subst e2
  have s1 := lp_1 h a4
  have s2 := lp_1 h a5
  refine pG_many 5 (pc1 := 343) (L1 := [some (.ref 2000000), some (.ref 0), some (.ref 211), some (.int (i3 i))]) (st1 := [.int (i3 i + 1), .ref 2000000, .ref 0]) (M1 := mjTo Z) rfl ?_
  refine pG_ials (j := i + 1) rfl s0.1 s0.2 (ix_c i 1) (by omega) hL ?_
  refine pG_callV (k2 := 154) (As := [.ref 0, .int (xs (i + 1))]) (rest := []) rfl rfl rfl rfl rfl (by rfl) (by decide) (f154_about_ok c1) ?_
  rintro r9 M9 ⟨rfl, rfl⟩
  show pG 339 347 [some (.ref 2000000), some (.ref 0), some (.ref 211), some (.int (i3 i))] [.int v] (mjTo Z) _
  refine pG_many 5 (pc1 := 352) (L1 := [some (.ref 2000000), some (.ref 0), some (.ref 211), some (.int (i3 i))]) (st1 := [.int (i3 i + 1), .ref 2000000, .ref 211, .int v]) (M1 := mjTo Z) rfl ?_
  refine pG_ials (j := i + 1) rfl s1.1 s1.2 (ix_c i 1) (by omega) hL ?_
  refine pG_callV (k2 := 252) (As := [.ref 211, .int (xs (i + 1))]) (rest := [.int v]) rfl rfl rfl rfl rfl (by rfl) (by decide) (f252_about_ok c2) ?_
  rintro r9 M9 ⟨rfl, rfl⟩
  show pG 339 356 [some (.ref 2000000), some (.ref 0), some (.ref 211), some (.int (i3 i))] [.int v, .int v] (mjTo Z) _
  refine pG_cmt (t := 1502) rfl rfl (by simp [mjCmp]) ?_
  exact tail _ ⟨a3, s2⟩
set_option maxRecDepth 100000 in
theorem br_5 (h : lpR LL xs Z) (hi : i + 6 ≤ LL) (hL : LL ≤ 3072) (tail : ∀ Z2, lpR LL xs Z2 → pG 339 1502 [some (.ref 2000000), some (.ref 0), some (.ref 211), some (.int (i3 i))] [] (mjTo Z2) F) : pG 339 361 [some (.ref 2000000), some (.ref 0), some (.ref 211), some (.int (i3 i))] [] (mjTo Z) F := by
  obtain ⟨v, Z1, Z2, a1, a2, a3, a4, a5⟩ := o_name h.1 (xs (i + 1)) (xs (i + 2)) (xs (i + 3))
  have s0 := h.2
  obtain ⟨c1, e1⟩ := up_inv a1
  subst e1
  obtain ⟨c2, e2⟩ := up_inv a2
  subst e2
  have s1 := lp_1 h a4
  have s2 := lp_1 h a5
  refine pG_many 5 (pc1 := 366) (L1 := [some (.ref 2000000), some (.ref 0), some (.ref 211), some (.int (i3 i))]) (st1 := [.int (i3 i + 1), .ref 2000000, .ref 0]) (M1 := mjTo Z) rfl ?_
  refine pG_ials (j := i + 1) rfl s0.1 s0.2 (ix_c i 1) (by omega) hL ?_
  refine pG_many 4 (pc1 := 371) (L1 := [some (.ref 2000000), some (.ref 0), some (.ref 211), some (.int (i3 i))]) (st1 := [.int (i3 i + 2), .ref 2000000, .int (xs (i + 1)), .ref 0]) (M1 := mjTo Z) rfl ?_
  refine pG_ials (j := i + 2) rfl s0.1 s0.2 (ix_c i 2) (by omega) hL ?_
  refine pG_many 4 (pc1 := 376) (L1 := [some (.ref 2000000), some (.ref 0), some (.ref 211), some (.int (i3 i))]) (st1 := [.int (i3 i + 3), .ref 2000000, .int (xs (i + 2)), .int (xs (i + 1)), .ref 0]) (M1 := mjTo Z) rfl ?_
  refine pG_ials (j := i + 3) rfl s0.1 s0.2 (ix_c i 3) (by omega) hL ?_
  refine pG_callV (k2 := 155) (As := [.ref 0, .int (xs (i + 1)), .int (xs (i + 2)), .int (xs (i + 3))]) (rest := []) rfl rfl rfl rfl rfl (by rfl) (by decide) (f155_name_ok c1) ?_
  rintro r9 M9 ⟨rfl, rfl⟩
  show pG 339 380 [some (.ref 2000000), some (.ref 0), some (.ref 211), some (.int (i3 i))] [.int v] (mjTo Z) _
  refine pG_many 5 (pc1 := 385) (L1 := [some (.ref 2000000), some (.ref 0), some (.ref 211), some (.int (i3 i))]) (st1 := [.int (i3 i + 1), .ref 2000000, .ref 211, .int v]) (M1 := mjTo Z) rfl ?_
  refine pG_ials (j := i + 1) rfl s1.1 s1.2 (ix_c i 1) (by omega) hL ?_
  refine pG_many 4 (pc1 := 390) (L1 := [some (.ref 2000000), some (.ref 0), some (.ref 211), some (.int (i3 i))]) (st1 := [.int (i3 i + 2), .ref 2000000, .int (xs (i + 1)), .ref 211, .int v]) (M1 := mjTo Z) rfl ?_
  refine pG_ials (j := i + 2) rfl s1.1 s1.2 (ix_c i 2) (by omega) hL ?_
  refine pG_many 4 (pc1 := 395) (L1 := [some (.ref 2000000), some (.ref 0), some (.ref 211), some (.int (i3 i))]) (st1 := [.int (i3 i + 3), .ref 2000000, .int (xs (i + 2)), .int (xs (i + 1)), .ref 211, .int v]) (M1 := mjTo Z) rfl ?_
  refine pG_ials (j := i + 3) rfl s1.1 s1.2 (ix_c i 3) (by omega) hL ?_
  refine pG_callV (k2 := 253) (As := [.ref 211, .int (xs (i + 1)), .int (xs (i + 2)), .int (xs (i + 3))]) (rest := [.int v]) rfl rfl rfl rfl rfl (by rfl) (by decide) (f253_name_ok c2) ?_
  rintro r9 M9 ⟨rfl, rfl⟩
  show pG 339 399 [some (.ref 2000000), some (.ref 0), some (.ref 211), some (.int (i3 i))] [.int v, .int v] (mjTo Z) _
  refine pG_cmt (t := 1502) rfl rfl (by simp [mjCmp]) ?_
  exact tail _ ⟨a3, s2⟩
set_option maxRecDepth 100000 in
theorem br_6 (h : lpR LL xs Z) (hi : i + 6 ≤ LL) (hL : LL ≤ 3072) (tail : ∀ Z2, lpR LL xs Z2 → pG 339 1502 [some (.ref 2000000), some (.ref 0), some (.ref 211), some (.int (i3 i))] [] (mjTo Z2) F) : pG 339 404 [some (.ref 2000000), some (.ref 0), some (.ref 211), some (.int (i3 i))] [] (mjTo Z) F := by
  obtain ⟨v, Z1, Z2, a1, a2, a3, a4, a5⟩ := o_team h.1 (xs (i + 1)) (xs (i + 2))
  have s0 := h.2
  obtain ⟨c1, e1⟩ := up_inv a1
  subst e1
  obtain ⟨c2, e2⟩ := up_inv a2
  subst e2
  have s1 := lp_1 h a4
  have s2 := lp_1 h a5
  refine pG_many 5 (pc1 := 409) (L1 := [some (.ref 2000000), some (.ref 0), some (.ref 211), some (.int (i3 i))]) (st1 := [.int (i3 i + 1), .ref 2000000, .ref 0]) (M1 := mjTo Z) rfl ?_
  refine pG_ials (j := i + 1) rfl s0.1 s0.2 (ix_c i 1) (by omega) hL ?_
  refine pG_many 4 (pc1 := 414) (L1 := [some (.ref 2000000), some (.ref 0), some (.ref 211), some (.int (i3 i))]) (st1 := [.int (i3 i + 2), .ref 2000000, .int (xs (i + 1)), .ref 0]) (M1 := mjTo Z) rfl ?_
  refine pG_ials (j := i + 2) rfl s0.1 s0.2 (ix_c i 2) (by omega) hL ?_
  refine pG_callV (k2 := 156) (As := [.ref 0, .int (xs (i + 1)), .int (xs (i + 2))]) (rest := []) rfl rfl rfl rfl rfl (by rfl) (by decide) (f156_team_ok c1) ?_
  rintro r9 M9 ⟨rfl, rfl⟩
  show pG 339 418 [some (.ref 2000000), some (.ref 0), some (.ref 211), some (.int (i3 i))] [.int v] (mjTo Z) _
  refine pG_many 5 (pc1 := 423) (L1 := [some (.ref 2000000), some (.ref 0), some (.ref 211), some (.int (i3 i))]) (st1 := [.int (i3 i + 1), .ref 2000000, .ref 211, .int v]) (M1 := mjTo Z) rfl ?_
  refine pG_ials (j := i + 1) rfl s1.1 s1.2 (ix_c i 1) (by omega) hL ?_
  refine pG_many 4 (pc1 := 428) (L1 := [some (.ref 2000000), some (.ref 0), some (.ref 211), some (.int (i3 i))]) (st1 := [.int (i3 i + 2), .ref 2000000, .int (xs (i + 1)), .ref 211, .int v]) (M1 := mjTo Z) rfl ?_
  refine pG_ials (j := i + 2) rfl s1.1 s1.2 (ix_c i 2) (by omega) hL ?_
  refine pG_callV (k2 := 254) (As := [.ref 211, .int (xs (i + 1)), .int (xs (i + 2))]) (rest := [.int v]) rfl rfl rfl rfl rfl (by rfl) (by decide) (f254_team_ok c2) ?_
  rintro r9 M9 ⟨rfl, rfl⟩
  show pG 339 432 [some (.ref 2000000), some (.ref 0), some (.ref 211), some (.int (i3 i))] [.int v, .int v] (mjTo Z) _
  refine pG_cmt (t := 1502) rfl rfl (by simp [mjCmp]) ?_
  exact tail _ ⟨a3, s2⟩
set_option maxRecDepth 100000 in
theorem br_7 (h : lpR LL xs Z) (hi : i + 6 ≤ LL) (hL : LL ≤ 3072) (tail : ∀ Z2, lpR LL xs Z2 → pG 339 1502 [some (.ref 2000000), some (.ref 0), some (.ref 211), some (.int (i3 i))] [] (mjTo Z2) F) : pG 339 437 [some (.ref 2000000), some (.ref 0), some (.ref 211), some (.int (i3 i))] [] (mjTo Z) F := by
  obtain ⟨v, Z1, Z2, a1, a2, a3, a4, a5⟩ := o_lane h.1 (xs (i + 1))
  have s0 := h.2
  obtain ⟨c1, e1⟩ := up_inv a1
  subst e1
  obtain ⟨c2, e2⟩ := up_inv a2
  subst e2
  have s1 := lp_1 h a4
  have s2 := lp_1 h a5
  refine pG_many 5 (pc1 := 442) (L1 := [some (.ref 2000000), some (.ref 0), some (.ref 211), some (.int (i3 i))]) (st1 := [.int (i3 i + 1), .ref 2000000, .ref 0]) (M1 := mjTo Z) rfl ?_
  refine pG_ials (j := i + 1) rfl s0.1 s0.2 (ix_c i 1) (by omega) hL ?_
  refine pG_callV (k2 := 157) (As := [.ref 0, .int (xs (i + 1))]) (rest := []) rfl rfl rfl rfl rfl (by rfl) (by decide) (f157_lane_ok c1) ?_
  rintro r9 M9 ⟨rfl, rfl⟩
  show pG 339 446 [some (.ref 2000000), some (.ref 0), some (.ref 211), some (.int (i3 i))] [.int v] (mjTo Z) _
  refine pG_many 5 (pc1 := 451) (L1 := [some (.ref 2000000), some (.ref 0), some (.ref 211), some (.int (i3 i))]) (st1 := [.int (i3 i + 1), .ref 2000000, .ref 211, .int v]) (M1 := mjTo Z) rfl ?_
  refine pG_ials (j := i + 1) rfl s1.1 s1.2 (ix_c i 1) (by omega) hL ?_
  refine pG_callV (k2 := 255) (As := [.ref 211, .int (xs (i + 1))]) (rest := [.int v]) rfl rfl rfl rfl rfl (by rfl) (by decide) (f255_lane_ok c2) ?_
  rintro r9 M9 ⟨rfl, rfl⟩
  show pG 339 455 [some (.ref 2000000), some (.ref 0), some (.ref 211), some (.int (i3 i))] [.int v, .int v] (mjTo Z) _
  refine pG_cmt (t := 1502) rfl rfl (by simp [mjCmp]) ?_
  exact tail _ ⟨a3, s2⟩
set_option maxRecDepth 100000 in
theorem br_8 (h : lpR LL xs Z) (hi : i + 6 ≤ LL) (hL : LL ≤ 3072) (tail : ∀ Z2, lpR LL xs Z2 → pG 339 1502 [some (.ref 2000000), some (.ref 0), some (.ref 211), some (.int (i3 i))] [] (mjTo Z2) F) : pG 339 460 [some (.ref 2000000), some (.ref 0), some (.ref 211), some (.int (i3 i))] [] (mjTo Z) F := by
  obtain ⟨v, Z1, Z2, a1, a2, a3, a4, a5⟩ := o_place h.1 (xs (i + 1)) (xs (i + 2))
  have s0 := h.2
  obtain ⟨c1, e1⟩ := up_inv a1
  subst e1
  obtain ⟨c2, e2⟩ := up_inv a2
  subst e2
  have s1 := lp_1 h a4
  have s2 := lp_1 h a5
  refine pG_many 5 (pc1 := 465) (L1 := [some (.ref 2000000), some (.ref 0), some (.ref 211), some (.int (i3 i))]) (st1 := [.int (i3 i + 1), .ref 2000000, .ref 0]) (M1 := mjTo Z) rfl ?_
  refine pG_ials (j := i + 1) rfl s0.1 s0.2 (ix_c i 1) (by omega) hL ?_
  refine pG_many 4 (pc1 := 470) (L1 := [some (.ref 2000000), some (.ref 0), some (.ref 211), some (.int (i3 i))]) (st1 := [.int (i3 i + 2), .ref 2000000, .int (xs (i + 1)), .ref 0]) (M1 := mjTo Z) rfl ?_
  refine pG_ials (j := i + 2) rfl s0.1 s0.2 (ix_c i 2) (by omega) hL ?_
  refine pG_callV (k2 := 159) (As := [.ref 0, .int (xs (i + 1)), .int (xs (i + 2))]) (rest := []) rfl rfl rfl rfl rfl (by rfl) (by decide) (f159_place_ok c1) ?_
  rintro r9 M9 ⟨rfl, rfl⟩
  show pG 339 474 [some (.ref 2000000), some (.ref 0), some (.ref 211), some (.int (i3 i))] [.int v] (mjTo Z) _
  refine pG_many 5 (pc1 := 479) (L1 := [some (.ref 2000000), some (.ref 0), some (.ref 211), some (.int (i3 i))]) (st1 := [.int (i3 i + 1), .ref 2000000, .ref 211, .int v]) (M1 := mjTo Z) rfl ?_
  refine pG_ials (j := i + 1) rfl s1.1 s1.2 (ix_c i 1) (by omega) hL ?_
  refine pG_many 4 (pc1 := 484) (L1 := [some (.ref 2000000), some (.ref 0), some (.ref 211), some (.int (i3 i))]) (st1 := [.int (i3 i + 2), .ref 2000000, .int (xs (i + 1)), .ref 211, .int v]) (M1 := mjTo Z) rfl ?_
  refine pG_ials (j := i + 2) rfl s1.1 s1.2 (ix_c i 2) (by omega) hL ?_
  refine pG_callV (k2 := 256) (As := [.ref 211, .int (xs (i + 1)), .int (xs (i + 2))]) (rest := [.int v]) rfl rfl rfl rfl rfl (by rfl) (by decide) (f256_place_ok c2) ?_
  rintro r9 M9 ⟨rfl, rfl⟩
  show pG 339 488 [some (.ref 2000000), some (.ref 0), some (.ref 211), some (.int (i3 i))] [.int v, .int v] (mjTo Z) _
  refine pG_cmt (t := 1502) rfl rfl (by simp [mjCmp]) ?_
  exact tail _ ⟨a3, s2⟩
set_option maxRecDepth 100000 in
theorem br_9 (h : lpR LL xs Z) (hi : i + 6 ≤ LL) (hL : LL ≤ 3072) (tail : ∀ Z2, lpR LL xs Z2 → pG 339 1502 [some (.ref 2000000), some (.ref 0), some (.ref 211), some (.int (i3 i))] [] (mjTo Z2) F) : pG 339 493 [some (.ref 2000000), some (.ref 0), some (.ref 211), some (.int (i3 i))] [] (mjTo Z) F := by
  obtain ⟨v, Z1, Z2, a1, a2, a3, a4, a5⟩ := o_comes h.1 (xs (i + 1)) (xs (i + 2))
  have s0 := h.2
  obtain ⟨c1, e1⟩ := up_inv a1
  subst e1
  obtain ⟨c2, e2⟩ := up_inv a2
  subst e2
  have s1 := lp_1 h a4
  have s2 := lp_1 h a5
  refine pG_many 5 (pc1 := 498) (L1 := [some (.ref 2000000), some (.ref 0), some (.ref 211), some (.int (i3 i))]) (st1 := [.int (i3 i + 1), .ref 2000000, .ref 0]) (M1 := mjTo Z) rfl ?_
  refine pG_ials (j := i + 1) rfl s0.1 s0.2 (ix_c i 1) (by omega) hL ?_
  refine pG_many 4 (pc1 := 503) (L1 := [some (.ref 2000000), some (.ref 0), some (.ref 211), some (.int (i3 i))]) (st1 := [.int (i3 i + 2), .ref 2000000, .int (xs (i + 1)), .ref 0]) (M1 := mjTo Z) rfl ?_
  refine pG_ials (j := i + 2) rfl s0.1 s0.2 (ix_c i 2) (by omega) hL ?_
  refine pG_callV (k2 := 160) (As := [.ref 0, .int (xs (i + 1)), .int (xs (i + 2))]) (rest := []) rfl rfl rfl rfl rfl (by rfl) (by decide) (f160_comes_ok c1) ?_
  rintro r9 M9 ⟨rfl, rfl⟩
  show pG 339 507 [some (.ref 2000000), some (.ref 0), some (.ref 211), some (.int (i3 i))] [.int v] (mjTo Z) _
  refine pG_many 5 (pc1 := 512) (L1 := [some (.ref 2000000), some (.ref 0), some (.ref 211), some (.int (i3 i))]) (st1 := [.int (i3 i + 1), .ref 2000000, .ref 211, .int v]) (M1 := mjTo Z) rfl ?_
  refine pG_ials (j := i + 1) rfl s1.1 s1.2 (ix_c i 1) (by omega) hL ?_
  refine pG_many 4 (pc1 := 517) (L1 := [some (.ref 2000000), some (.ref 0), some (.ref 211), some (.int (i3 i))]) (st1 := [.int (i3 i + 2), .ref 2000000, .int (xs (i + 1)), .ref 211, .int v]) (M1 := mjTo Z) rfl ?_
  refine pG_ials (j := i + 2) rfl s1.1 s1.2 (ix_c i 2) (by omega) hL ?_
  refine pG_callV (k2 := 258) (As := [.ref 211, .int (xs (i + 1)), .int (xs (i + 2))]) (rest := [.int v]) rfl rfl rfl rfl rfl (by rfl) (by decide) (f258_comes_ok c2) ?_
  rintro r9 M9 ⟨rfl, rfl⟩
  show pG 339 521 [some (.ref 2000000), some (.ref 0), some (.ref 211), some (.int (i3 i))] [.int v, .int v] (mjTo Z) _
  refine pG_cmt (t := 1502) rfl rfl (by simp [mjCmp]) ?_
  exact tail _ ⟨a3, s2⟩
set_option maxRecDepth 100000 in
theorem br_10 (h : lpR LL xs Z) (hi : i + 6 ≤ LL) (hL : LL ≤ 3072) (tail : ∀ Z2, lpR LL xs Z2 → pG 339 1502 [some (.ref 2000000), some (.ref 0), some (.ref 211), some (.int (i3 i))] [] (mjTo Z2) F) : pG 339 526 [some (.ref 2000000), some (.ref 0), some (.ref 211), some (.int (i3 i))] [] (mjTo Z) F := by
  obtain ⟨v, Z1, Z2, a1, a2, a3, a4, a5⟩ := o_order h.1 (xs (i + 1)) (xs (i + 2))
  have s0 := h.2
  have s1 := lp_1 h a4
  have s2 := lp_1 h a5
  refine pG_many 5 (pc1 := 531) (L1 := [some (.ref 2000000), some (.ref 0), some (.ref 211), some (.int (i3 i))]) (st1 := [.int (i3 i + 1), .ref 2000000, .ref 0]) (M1 := mjTo Z) rfl ?_
  refine pG_ials (j := i + 1) rfl s0.1 s0.2 (ix_c i 1) (by omega) hL ?_
  refine pG_many 4 (pc1 := 536) (L1 := [some (.ref 2000000), some (.ref 0), some (.ref 211), some (.int (i3 i))]) (st1 := [.int (i3 i + 2), .ref 2000000, .int (xs (i + 1)), .ref 0]) (M1 := mjTo Z) rfl ?_
  refine pG_ials (j := i + 2) rfl s0.1 s0.2 (ix_c i 2) (by omega) hL ?_
  refine pG_callV (k2 := 161) (As := [.ref 0, .int (xs (i + 1)), .int (xs (i + 2))]) (rest := []) rfl rfl rfl rfl rfl (by rfl) (by decide) (f161_order_ok a1) ?_
  rintro r9 M9 ⟨rfl, rfl⟩
  show pG 339 540 [some (.ref 2000000), some (.ref 0), some (.ref 211), some (.int (i3 i))] [.int v] (mjTo Z1) _
  refine pG_many 5 (pc1 := 545) (L1 := [some (.ref 2000000), some (.ref 0), some (.ref 211), some (.int (i3 i))]) (st1 := [.int (i3 i + 1), .ref 2000000, .ref 211, .int v]) (M1 := mjTo Z1) rfl ?_
  refine pG_ials (j := i + 1) rfl s1.1 s1.2 (ix_c i 1) (by omega) hL ?_
  refine pG_many 4 (pc1 := 550) (L1 := [some (.ref 2000000), some (.ref 0), some (.ref 211), some (.int (i3 i))]) (st1 := [.int (i3 i + 2), .ref 2000000, .int (xs (i + 1)), .ref 211, .int v]) (M1 := mjTo Z1) rfl ?_
  refine pG_ials (j := i + 2) rfl s1.1 s1.2 (ix_c i 2) (by omega) hL ?_
  refine pG_callV (k2 := 260) (As := [.ref 211, .int (xs (i + 1)), .int (xs (i + 2))]) (rest := [.int v]) rfl rfl rfl rfl rfl (by rfl) (by decide) (f260_order_ok a2) ?_
  rintro r9 M9 ⟨rfl, rfl⟩
  show pG 339 554 [some (.ref 2000000), some (.ref 0), some (.ref 211), some (.int (i3 i))] [.int v, .int v] (mjTo Z2) _
  refine pG_cmt (t := 1502) rfl rfl (by simp [mjCmp]) ?_
  exact tail _ ⟨a3, s2⟩
set_option maxRecDepth 100000 in
theorem br_11 (h : lpR LL xs Z) (hi : i + 6 ≤ LL) (hL : LL ≤ 3072) (tail : ∀ Z2, lpR LL xs Z2 → pG 339 1502 [some (.ref 2000000), some (.ref 0), some (.ref 211), some (.int (i3 i))] [] (mjTo Z2) F) : pG 339 559 [some (.ref 2000000), some (.ref 0), some (.ref 211), some (.int (i3 i))] [] (mjTo Z) F := by
  obtain ⟨v, Z1, Z2, a1, a2, a3, a4, a5⟩ := o_boldest h.1 (xs (i + 1))
  have s0 := h.2
  obtain ⟨c1, e1⟩ := up_inv a1
  subst e1
  obtain ⟨c2, e2⟩ := up_inv a2
  subst e2
  have s1 := lp_1 h a4
  have s2 := lp_1 h a5
  refine pG_many 5 (pc1 := 564) (L1 := [some (.ref 2000000), some (.ref 0), some (.ref 211), some (.int (i3 i))]) (st1 := [.int (i3 i + 1), .ref 2000000, .ref 0]) (M1 := mjTo Z) rfl ?_
  refine pG_ials (j := i + 1) rfl s0.1 s0.2 (ix_c i 1) (by omega) hL ?_
  refine pG_callV (k2 := 162) (As := [.ref 0, .int (xs (i + 1))]) (rest := []) rfl rfl rfl rfl rfl (by rfl) (by decide) (f162_boldest_ok c1) ?_
  rintro r9 M9 ⟨rfl, rfl⟩
  show pG 339 568 [some (.ref 2000000), some (.ref 0), some (.ref 211), some (.int (i3 i))] [.int v] (mjTo Z) _
  refine pG_many 5 (pc1 := 573) (L1 := [some (.ref 2000000), some (.ref 0), some (.ref 211), some (.int (i3 i))]) (st1 := [.int (i3 i + 1), .ref 2000000, .ref 211, .int v]) (M1 := mjTo Z) rfl ?_
  refine pG_ials (j := i + 1) rfl s1.1 s1.2 (ix_c i 1) (by omega) hL ?_
  refine pG_callV (k2 := 261) (As := [.ref 211, .int (xs (i + 1))]) (rest := [.int v]) rfl rfl rfl rfl rfl (by rfl) (by decide) (f261_boldest_ok c2) ?_
  rintro r9 M9 ⟨rfl, rfl⟩
  show pG 339 577 [some (.ref 2000000), some (.ref 0), some (.ref 211), some (.int (i3 i))] [.int v, .int v] (mjTo Z) _
  refine pG_cmt (t := 1502) rfl rfl (by simp [mjCmp]) ?_
  exact tail _ ⟨a3, s2⟩
set_option maxRecDepth 100000 in
theorem br_12 (h : lpR LL xs Z) (hi : i + 6 ≤ LL) (hL : LL ≤ 3072) (tail : ∀ Z2, lpR LL xs Z2 → pG 339 1502 [some (.ref 2000000), some (.ref 0), some (.ref 211), some (.int (i3 i))] [] (mjTo Z2) F) : pG 339 582 [some (.ref 2000000), some (.ref 0), some (.ref 211), some (.int (i3 i))] [] (mjTo Z) F := by
  obtain ⟨v, Z1, Z2, a1, a2, a3, a4, a5⟩ := o_changes h.1 (xs (i + 1)) (xs (i + 2))
  have s0 := h.2
  obtain ⟨c1, e1⟩ := up_inv a1
  subst e1
  obtain ⟨c2, e2⟩ := up_inv a2
  subst e2
  have s1 := lp_1 h a4
  have s2 := lp_1 h a5
  refine pG_many 5 (pc1 := 587) (L1 := [some (.ref 2000000), some (.ref 0), some (.ref 211), some (.int (i3 i))]) (st1 := [.int (i3 i + 1), .ref 2000000, .ref 0]) (M1 := mjTo Z) rfl ?_
  refine pG_ials (j := i + 1) rfl s0.1 s0.2 (ix_c i 1) (by omega) hL ?_
  refine pG_many 4 (pc1 := 592) (L1 := [some (.ref 2000000), some (.ref 0), some (.ref 211), some (.int (i3 i))]) (st1 := [.int (i3 i + 2), .ref 2000000, .int (xs (i + 1)), .ref 0]) (M1 := mjTo Z) rfl ?_
  refine pG_ials (j := i + 2) rfl s0.1 s0.2 (ix_c i 2) (by omega) hL ?_
  refine pG_callV (k2 := 163) (As := [.ref 0, .int (xs (i + 1)), .int (xs (i + 2))]) (rest := []) rfl rfl rfl rfl rfl (by rfl) (by decide) (f163_changes_ok c1) ?_
  rintro r9 M9 ⟨rfl, rfl⟩
  show pG 339 596 [some (.ref 2000000), some (.ref 0), some (.ref 211), some (.int (i3 i))] [.int v] (mjTo Z) _
  refine pG_many 5 (pc1 := 601) (L1 := [some (.ref 2000000), some (.ref 0), some (.ref 211), some (.int (i3 i))]) (st1 := [.int (i3 i + 1), .ref 2000000, .ref 211, .int v]) (M1 := mjTo Z) rfl ?_
  refine pG_ials (j := i + 1) rfl s1.1 s1.2 (ix_c i 1) (by omega) hL ?_
  refine pG_many 4 (pc1 := 606) (L1 := [some (.ref 2000000), some (.ref 0), some (.ref 211), some (.int (i3 i))]) (st1 := [.int (i3 i + 2), .ref 2000000, .int (xs (i + 1)), .ref 211, .int v]) (M1 := mjTo Z) rfl ?_
  refine pG_ials (j := i + 2) rfl s1.1 s1.2 (ix_c i 2) (by omega) hL ?_
  refine pG_callV (k2 := 262) (As := [.ref 211, .int (xs (i + 1)), .int (xs (i + 2))]) (rest := [.int v]) rfl rfl rfl rfl rfl (by rfl) (by decide) (f262_changes_ok c2) ?_
  rintro r9 M9 ⟨rfl, rfl⟩
  show pG 339 610 [some (.ref 2000000), some (.ref 0), some (.ref 211), some (.int (i3 i))] [.int v, .int v] (mjTo Z) _
  refine pG_cmt (t := 1502) rfl rfl (by simp [mjCmp]) ?_
  exact tail _ ⟨a3, s2⟩
set_option maxRecDepth 100000 in
theorem br_13 (h : lpR LL xs Z) (hi : i + 6 ≤ LL) (hL : LL ≤ 3072) (tail : ∀ Z2, lpR LL xs Z2 → pG 339 1502 [some (.ref 2000000), some (.ref 0), some (.ref 211), some (.int (i3 i))] [] (mjTo Z2) F) : pG 339 615 [some (.ref 2000000), some (.ref 0), some (.ref 211), some (.int (i3 i))] [] (mjTo Z) F := by
  obtain ⟨v, Z1, Z2, a1, a2, a3, a4, a5⟩ := o_cutIn h.1 (xs (i + 1))
  have s0 := h.2
  have s1 := lp_1 h a4
  have s2 := lp_1 h a5
  refine pG_many 5 (pc1 := 620) (L1 := [some (.ref 2000000), some (.ref 0), some (.ref 211), some (.int (i3 i))]) (st1 := [.int (i3 i + 1), .ref 2000000, .ref 0]) (M1 := mjTo Z) rfl ?_
  refine pG_ials (j := i + 1) rfl s0.1 s0.2 (ix_c i 1) (by omega) hL ?_
  refine pG_callV (k2 := 164) (As := [.ref 0, .int (xs (i + 1))]) (rest := []) rfl rfl rfl rfl rfl (by rfl) (by decide) (f164_cutIn_ok a1) ?_
  rintro r9 M9 ⟨rfl, rfl⟩
  show pG 339 624 [some (.ref 2000000), some (.ref 0), some (.ref 211), some (.int (i3 i))] [.int v] (mjTo Z1) _
  refine pG_many 5 (pc1 := 629) (L1 := [some (.ref 2000000), some (.ref 0), some (.ref 211), some (.int (i3 i))]) (st1 := [.int (i3 i + 1), .ref 2000000, .ref 211, .int v]) (M1 := mjTo Z1) rfl ?_
  refine pG_ials (j := i + 1) rfl s1.1 s1.2 (ix_c i 1) (by omega) hL ?_
  refine pG_callV (k2 := 263) (As := [.ref 211, .int (xs (i + 1))]) (rest := [.int v]) rfl rfl rfl rfl rfl (by rfl) (by decide) (f263_cutIn_ok a2) ?_
  rintro r9 M9 ⟨rfl, rfl⟩
  show pG 339 633 [some (.ref 2000000), some (.ref 0), some (.ref 211), some (.int (i3 i))] [.int v, .int v] (mjTo Z2) _
  refine pG_cmt (t := 1502) rfl rfl (by simp [mjCmp]) ?_
  exact tail _ ⟨a3, s2⟩
set_option maxRecDepth 100000 in
theorem br_14 (h : lpR LL xs Z) (hi : i + 6 ≤ LL) (hL : LL ≤ 3072) (tail : ∀ Z2, lpR LL xs Z2 → pG 339 1502 [some (.ref 2000000), some (.ref 0), some (.ref 211), some (.int (i3 i))] [] (mjTo Z2) F) : pG 339 638 [some (.ref 2000000), some (.ref 0), some (.ref 211), some (.int (i3 i))] [] (mjTo Z) F := by
  obtain ⟨v, Z1, Z2, a1, a2, a3, a4, a5⟩ := o_behind h.1 (xs (i + 1)) (xs (i + 2))
  have s0 := h.2
  obtain ⟨c1, e1⟩ := up_inv a1
  subst e1
  obtain ⟨c2, e2⟩ := up_inv a2
  subst e2
  have s1 := lp_1 h a4
  have s2 := lp_1 h a5
  refine pG_many 5 (pc1 := 643) (L1 := [some (.ref 2000000), some (.ref 0), some (.ref 211), some (.int (i3 i))]) (st1 := [.int (i3 i + 1), .ref 2000000, .ref 0]) (M1 := mjTo Z) rfl ?_
  refine pG_ials (j := i + 1) rfl s0.1 s0.2 (ix_c i 1) (by omega) hL ?_
  refine pG_many 4 (pc1 := 648) (L1 := [some (.ref 2000000), some (.ref 0), some (.ref 211), some (.int (i3 i))]) (st1 := [.int (i3 i + 2), .ref 2000000, .int (xs (i + 1)), .ref 0]) (M1 := mjTo Z) rfl ?_
  refine pG_ials (j := i + 2) rfl s0.1 s0.2 (ix_c i 2) (by omega) hL ?_
  refine pG_callV (k2 := 165) (As := [.ref 0, .int (xs (i + 1)), .int (xs (i + 2))]) (rest := []) rfl rfl rfl rfl rfl (by rfl) (by decide) (f165_behind_ok c1) ?_
  rintro r9 M9 ⟨rfl, rfl⟩
  show pG 339 652 [some (.ref 2000000), some (.ref 0), some (.ref 211), some (.int (i3 i))] [.int v] (mjTo Z) _
  refine pG_many 5 (pc1 := 657) (L1 := [some (.ref 2000000), some (.ref 0), some (.ref 211), some (.int (i3 i))]) (st1 := [.int (i3 i + 1), .ref 2000000, .ref 211, .int v]) (M1 := mjTo Z) rfl ?_
  refine pG_ials (j := i + 1) rfl s1.1 s1.2 (ix_c i 1) (by omega) hL ?_
  refine pG_many 4 (pc1 := 662) (L1 := [some (.ref 2000000), some (.ref 0), some (.ref 211), some (.int (i3 i))]) (st1 := [.int (i3 i + 2), .ref 2000000, .int (xs (i + 1)), .ref 211, .int v]) (M1 := mjTo Z) rfl ?_
  refine pG_ials (j := i + 2) rfl s1.1 s1.2 (ix_c i 2) (by omega) hL ?_
  refine pG_callV (k2 := 264) (As := [.ref 211, .int (xs (i + 1)), .int (xs (i + 2))]) (rest := [.int v]) rfl rfl rfl rfl rfl (by rfl) (by decide) (f264_behind_ok c2) ?_
  rintro r9 M9 ⟨rfl, rfl⟩
  show pG 339 666 [some (.ref 2000000), some (.ref 0), some (.ref 211), some (.int (i3 i))] [.int v, .int v] (mjTo Z) _
  refine pG_cmt (t := 1502) rfl rfl (by simp [mjCmp]) ?_
  exact tail _ ⟨a3, s2⟩
set_option maxRecDepth 100000 in
theorem br_15 (h : lpR LL xs Z) (hi : i + 6 ≤ LL) (hL : LL ≤ 3072) (tail : ∀ Z2, lpR LL xs Z2 → pG 339 1502 [some (.ref 2000000), some (.ref 0), some (.ref 211), some (.int (i3 i))] [] (mjTo Z2) F) : pG 339 671 [some (.ref 2000000), some (.ref 0), some (.ref 211), some (.int (i3 i))] [] (mjTo Z) F := by
  obtain ⟨v, Z1, Z2, a1, a2, a3, a4, a5⟩ := o_crowd h.1 (xs (i + 1)) (xs (i + 2))
  have s0 := h.2
  obtain ⟨c1, e1⟩ := up_inv a1
  subst e1
  obtain ⟨c2, e2⟩ := up_inv a2
  subst e2
  have s1 := lp_1 h a4
  have s2 := lp_1 h a5
  refine pG_many 5 (pc1 := 676) (L1 := [some (.ref 2000000), some (.ref 0), some (.ref 211), some (.int (i3 i))]) (st1 := [.int (i3 i + 1), .ref 2000000, .ref 0]) (M1 := mjTo Z) rfl ?_
  refine pG_ials (j := i + 1) rfl s0.1 s0.2 (ix_c i 1) (by omega) hL ?_
  refine pG_many 4 (pc1 := 681) (L1 := [some (.ref 2000000), some (.ref 0), some (.ref 211), some (.int (i3 i))]) (st1 := [.int (i3 i + 2), .ref 2000000, .int (xs (i + 1)), .ref 0]) (M1 := mjTo Z) rfl ?_
  refine pG_ials (j := i + 2) rfl s0.1 s0.2 (ix_c i 2) (by omega) hL ?_
  refine pG_callV (k2 := 166) (As := [.ref 0, .int (xs (i + 1)), .int (xs (i + 2))]) (rest := []) rfl rfl rfl rfl rfl (by rfl) (by decide) (f166_crowd_ok c1) ?_
  rintro r9 M9 ⟨rfl, rfl⟩
  show pG 339 685 [some (.ref 2000000), some (.ref 0), some (.ref 211), some (.int (i3 i))] [.int v] (mjTo Z) _
  refine pG_many 5 (pc1 := 690) (L1 := [some (.ref 2000000), some (.ref 0), some (.ref 211), some (.int (i3 i))]) (st1 := [.int (i3 i + 1), .ref 2000000, .ref 211, .int v]) (M1 := mjTo Z) rfl ?_
  refine pG_ials (j := i + 1) rfl s1.1 s1.2 (ix_c i 1) (by omega) hL ?_
  refine pG_many 4 (pc1 := 695) (L1 := [some (.ref 2000000), some (.ref 0), some (.ref 211), some (.int (i3 i))]) (st1 := [.int (i3 i + 2), .ref 2000000, .int (xs (i + 1)), .ref 211, .int v]) (M1 := mjTo Z) rfl ?_
  refine pG_ials (j := i + 2) rfl s1.1 s1.2 (ix_c i 2) (by omega) hL ?_
  refine pG_callV (k2 := 265) (As := [.ref 211, .int (xs (i + 1)), .int (xs (i + 2))]) (rest := [.int v]) rfl rfl rfl rfl rfl (by rfl) (by decide) (f265_crowd_ok c2) ?_
  rintro r9 M9 ⟨rfl, rfl⟩
  show pG 339 699 [some (.ref 2000000), some (.ref 0), some (.ref 211), some (.int (i3 i))] [.int v, .int v] (mjTo Z) _
  refine pG_cmt (t := 1502) rfl rfl (by simp [mjCmp]) ?_
  exact tail _ ⟨a3, s2⟩
set_option maxRecDepth 100000 in
theorem br_16 (h : lpR LL xs Z) (hi : i + 6 ≤ LL) (hL : LL ≤ 3072) (tail : ∀ Z2, lpR LL xs Z2 → pG 339 1502 [some (.ref 2000000), some (.ref 0), some (.ref 211), some (.int (i3 i))] [] (mjTo Z2) F) : pG 339 704 [some (.ref 2000000), some (.ref 0), some (.ref 211), some (.int (i3 i))] [] (mjTo Z) F := by
  obtain ⟨v, Z1, Z2, a1, a2, a3, a4, a5⟩ := o_fastest h.1 (xs (i + 1)) (xs (i + 2))
  have s0 := h.2
  obtain ⟨c2, e2⟩ := up_inv a2
  subst e2
  have s1 := lp_1 h a4
  have s2 := lp_1 h a5
  refine pG_many 5 (pc1 := 709) (L1 := [some (.ref 2000000), some (.ref 0), some (.ref 211), some (.int (i3 i))]) (st1 := [.int (i3 i + 1), .ref 2000000, .ref 0]) (M1 := mjTo Z) rfl ?_
  refine pG_ials (j := i + 1) rfl s0.1 s0.2 (ix_c i 1) (by omega) hL ?_
  refine pG_many 4 (pc1 := 714) (L1 := [some (.ref 2000000), some (.ref 0), some (.ref 211), some (.int (i3 i))]) (st1 := [.int (i3 i + 2), .ref 2000000, .int (xs (i + 1)), .ref 0]) (M1 := mjTo Z) rfl ?_
  refine pG_ials (j := i + 2) rfl s0.1 s0.2 (ix_c i 2) (by omega) hL ?_
  refine pG_callV (k2 := 167) (As := [.ref 0, .int (xs (i + 1)), .int (xs (i + 2))]) (rest := []) rfl rfl rfl rfl rfl (by rfl) (by decide) (f167_fastest_ok a1) ?_
  rintro r9 M9 ⟨rfl, rfl⟩
  show pG 339 718 [some (.ref 2000000), some (.ref 0), some (.ref 211), some (.int (i3 i))] [.int v] (mjTo Z1) _
  refine pG_many 5 (pc1 := 723) (L1 := [some (.ref 2000000), some (.ref 0), some (.ref 211), some (.int (i3 i))]) (st1 := [.int (i3 i + 1), .ref 2000000, .ref 211, .int v]) (M1 := mjTo Z1) rfl ?_
  refine pG_ials (j := i + 1) rfl s1.1 s1.2 (ix_c i 1) (by omega) hL ?_
  refine pG_many 4 (pc1 := 728) (L1 := [some (.ref 2000000), some (.ref 0), some (.ref 211), some (.int (i3 i))]) (st1 := [.int (i3 i + 2), .ref 2000000, .int (xs (i + 1)), .ref 211, .int v]) (M1 := mjTo Z1) rfl ?_
  refine pG_ials (j := i + 2) rfl s1.1 s1.2 (ix_c i 2) (by omega) hL ?_
  refine pG_callV (k2 := 266) (As := [.ref 211, .int (xs (i + 1)), .int (xs (i + 2))]) (rest := [.int v]) rfl rfl rfl rfl rfl (by rfl) (by decide) (f266_fastest_ok c2) ?_
  rintro r9 M9 ⟨rfl, rfl⟩
  show pG 339 732 [some (.ref 2000000), some (.ref 0), some (.ref 211), some (.int (i3 i))] [.int v, .int v] (mjTo Z1) _
  refine pG_cmt (t := 1502) rfl rfl (by simp [mjCmp]) ?_
  exact tail _ ⟨a3, s2⟩
set_option maxRecDepth 100000 in
theorem br_17 (h : lpR LL xs Z) (hi : i + 6 ≤ LL) (hL : LL ≤ 3072) (tail : ∀ Z2, lpR LL xs Z2 → pG 339 1502 [some (.ref 2000000), some (.ref 0), some (.ref 211), some (.int (i3 i))] [] (mjTo Z2) F) : pG 339 737 [some (.ref 2000000), some (.ref 0), some (.ref 211), some (.int (i3 i))] [] (mjTo Z) F := by
  obtain ⟨v, Z1, Z2, a1, a2, a3, a4, a5⟩ := o_leg h.1 (xs (i + 1)) (xs (i + 2)) (xs (i + 3))
  have s0 := h.2
  obtain ⟨c1, e1⟩ := up_inv a1
  subst e1
  obtain ⟨c2, e2⟩ := up_inv a2
  subst e2
  have s1 := lp_1 h a4
  have s2 := lp_1 h a5
  refine pG_many 5 (pc1 := 742) (L1 := [some (.ref 2000000), some (.ref 0), some (.ref 211), some (.int (i3 i))]) (st1 := [.int (i3 i + 1), .ref 2000000, .ref 0]) (M1 := mjTo Z) rfl ?_
  refine pG_ials (j := i + 1) rfl s0.1 s0.2 (ix_c i 1) (by omega) hL ?_
  refine pG_many 4 (pc1 := 747) (L1 := [some (.ref 2000000), some (.ref 0), some (.ref 211), some (.int (i3 i))]) (st1 := [.int (i3 i + 2), .ref 2000000, .int (xs (i + 1)), .ref 0]) (M1 := mjTo Z) rfl ?_
  refine pG_ials (j := i + 2) rfl s0.1 s0.2 (ix_c i 2) (by omega) hL ?_
  refine pG_many 4 (pc1 := 752) (L1 := [some (.ref 2000000), some (.ref 0), some (.ref 211), some (.int (i3 i))]) (st1 := [.int (i3 i + 3), .ref 2000000, .int (xs (i + 2)), .int (xs (i + 1)), .ref 0]) (M1 := mjTo Z) rfl ?_
  refine pG_ials (j := i + 3) rfl s0.1 s0.2 (ix_c i 3) (by omega) hL ?_
  refine pG_callV (k2 := 168) (As := [.ref 0, .int (xs (i + 1)), .int (xs (i + 2)), .int (xs (i + 3))]) (rest := []) rfl rfl rfl rfl rfl (by rfl) (by decide) (f168_leg_ok c1) ?_
  rintro r9 M9 ⟨rfl, rfl⟩
  show pG 339 756 [some (.ref 2000000), some (.ref 0), some (.ref 211), some (.int (i3 i))] [.int v] (mjTo Z) _
  refine pG_many 5 (pc1 := 761) (L1 := [some (.ref 2000000), some (.ref 0), some (.ref 211), some (.int (i3 i))]) (st1 := [.int (i3 i + 1), .ref 2000000, .ref 211, .int v]) (M1 := mjTo Z) rfl ?_
  refine pG_ials (j := i + 1) rfl s1.1 s1.2 (ix_c i 1) (by omega) hL ?_
  refine pG_many 4 (pc1 := 766) (L1 := [some (.ref 2000000), some (.ref 0), some (.ref 211), some (.int (i3 i))]) (st1 := [.int (i3 i + 2), .ref 2000000, .int (xs (i + 1)), .ref 211, .int v]) (M1 := mjTo Z) rfl ?_
  refine pG_ials (j := i + 2) rfl s1.1 s1.2 (ix_c i 2) (by omega) hL ?_
  refine pG_many 4 (pc1 := 771) (L1 := [some (.ref 2000000), some (.ref 0), some (.ref 211), some (.int (i3 i))]) (st1 := [.int (i3 i + 3), .ref 2000000, .int (xs (i + 2)), .int (xs (i + 1)), .ref 211, .int v]) (M1 := mjTo Z) rfl ?_
  refine pG_ials (j := i + 3) rfl s1.1 s1.2 (ix_c i 3) (by omega) hL ?_
  refine pG_callV (k2 := 268) (As := [.ref 211, .int (xs (i + 1)), .int (xs (i + 2)), .int (xs (i + 3))]) (rest := [.int v]) rfl rfl rfl rfl rfl (by rfl) (by decide) (f268_leg_ok c2) ?_
  rintro r9 M9 ⟨rfl, rfl⟩
  show pG 339 775 [some (.ref 2000000), some (.ref 0), some (.ref 211), some (.int (i3 i))] [.int v, .int v] (mjTo Z) _
  refine pG_cmt (t := 1502) rfl rfl (by simp [mjCmp]) ?_
  exact tail _ ⟨a3, s2⟩
set_option maxRecDepth 100000 in
theorem br_18 (h : lpR LL xs Z) (hi : i + 6 ≤ LL) (hL : LL ≤ 3072) (tail : ∀ Z2, lpR LL xs Z2 → pG 339 1502 [some (.ref 2000000), some (.ref 0), some (.ref 211), some (.int (i3 i))] [] (mjTo Z2) F) : pG 339 780 [some (.ref 2000000), some (.ref 0), some (.ref 211), some (.int (i3 i))] [] (mjTo Z) F := by
  obtain ⟨v, Z1, Z2, a1, a2, a3, a4, a5⟩ := o_inBox h.1 (xs (i + 1)) (xs (i + 2))
  have s0 := h.2
  obtain ⟨c1, e1⟩ := up_inv a1
  subst e1
  obtain ⟨c2, e2⟩ := up_inv a2
  subst e2
  have s1 := lp_1 h a4
  have s2 := lp_1 h a5
  refine pG_many 5 (pc1 := 785) (L1 := [some (.ref 2000000), some (.ref 0), some (.ref 211), some (.int (i3 i))]) (st1 := [.int (i3 i + 1), .ref 2000000, .ref 0]) (M1 := mjTo Z) rfl ?_
  refine pG_ials (j := i + 1) rfl s0.1 s0.2 (ix_c i 1) (by omega) hL ?_
  refine pG_many 4 (pc1 := 790) (L1 := [some (.ref 2000000), some (.ref 0), some (.ref 211), some (.int (i3 i))]) (st1 := [.int (i3 i + 2), .ref 2000000, .int (xs (i + 1)), .ref 0]) (M1 := mjTo Z) rfl ?_
  refine pG_ials (j := i + 2) rfl s0.1 s0.2 (ix_c i 2) (by omega) hL ?_
  refine pG_callV (k2 := 169) (As := [.ref 0, .int (xs (i + 1)), .int (xs (i + 2))]) (rest := []) rfl rfl rfl rfl rfl (by rfl) (by decide) (f169_inBox_ok c1) ?_
  rintro r9 M9 ⟨rfl, rfl⟩
  show pG 339 794 [some (.ref 2000000), some (.ref 0), some (.ref 211), some (.int (i3 i))] [.int v] (mjTo Z) _
  refine pG_many 5 (pc1 := 799) (L1 := [some (.ref 2000000), some (.ref 0), some (.ref 211), some (.int (i3 i))]) (st1 := [.int (i3 i + 1), .ref 2000000, .ref 211, .int v]) (M1 := mjTo Z) rfl ?_
  refine pG_ials (j := i + 1) rfl s1.1 s1.2 (ix_c i 1) (by omega) hL ?_
  refine pG_many 4 (pc1 := 804) (L1 := [some (.ref 2000000), some (.ref 0), some (.ref 211), some (.int (i3 i))]) (st1 := [.int (i3 i + 2), .ref 2000000, .int (xs (i + 1)), .ref 211, .int v]) (M1 := mjTo Z) rfl ?_
  refine pG_ials (j := i + 2) rfl s1.1 s1.2 (ix_c i 2) (by omega) hL ?_
  refine pG_callV (k2 := 269) (As := [.ref 211, .int (xs (i + 1)), .int (xs (i + 2))]) (rest := [.int v]) rfl rfl rfl rfl rfl (by rfl) (by decide) (f269_inBox_ok c2) ?_
  rintro r9 M9 ⟨rfl, rfl⟩
  show pG 339 808 [some (.ref 2000000), some (.ref 0), some (.ref 211), some (.int (i3 i))] [.int v, .int v] (mjTo Z) _
  refine pG_cmt (t := 1502) rfl rfl (by simp [mjCmp]) ?_
  exact tail _ ⟨a3, s2⟩
set_option maxRecDepth 100000 in
theorem br_19 (h : lpR LL xs Z) (hi : i + 6 ≤ LL) (hL : LL ≤ 3072) (tail : ∀ Z2, lpR LL xs Z2 → pG 339 1502 [some (.ref 2000000), some (.ref 0), some (.ref 211), some (.int (i3 i))] [] (mjTo Z2) F) : pG 339 813 [some (.ref 2000000), some (.ref 0), some (.ref 211), some (.int (i3 i))] [] (mjTo Z) F := by
  obtain ⟨v, Z1, Z2, a1, a2, a3, a4, a5⟩ := o_act h.1 (xs (i + 1)) (xs (i + 2))
  have s0 := h.2
  obtain ⟨c1, e1⟩ := up_inv a1
  subst e1
  obtain ⟨c2, e2⟩ := up_inv a2
  subst e2
  have s1 := lp_1 h a4
  have s2 := lp_1 h a5
  refine pG_many 5 (pc1 := 818) (L1 := [some (.ref 2000000), some (.ref 0), some (.ref 211), some (.int (i3 i))]) (st1 := [.int (i3 i + 1), .ref 2000000, .ref 0]) (M1 := mjTo Z) rfl ?_
  refine pG_ials (j := i + 1) rfl s0.1 s0.2 (ix_c i 1) (by omega) hL ?_
  refine pG_many 4 (pc1 := 823) (L1 := [some (.ref 2000000), some (.ref 0), some (.ref 211), some (.int (i3 i))]) (st1 := [.int (i3 i + 2), .ref 2000000, .int (xs (i + 1)), .ref 0]) (M1 := mjTo Z) rfl ?_
  refine pG_ials (j := i + 2) rfl s0.1 s0.2 (ix_c i 2) (by omega) hL ?_
  refine pG_callV (k2 := 170) (As := [.ref 0, .int (xs (i + 1)), .int (xs (i + 2))]) (rest := []) rfl rfl rfl rfl rfl (by rfl) (by decide) (f170_act_ok c1) ?_
  rintro r9 M9 ⟨rfl, rfl⟩
  show pG 339 827 [some (.ref 2000000), some (.ref 0), some (.ref 211), some (.int (i3 i))] [.int v] (mjTo Z) _
  refine pG_many 5 (pc1 := 832) (L1 := [some (.ref 2000000), some (.ref 0), some (.ref 211), some (.int (i3 i))]) (st1 := [.int (i3 i + 1), .ref 2000000, .ref 211, .int v]) (M1 := mjTo Z) rfl ?_
  refine pG_ials (j := i + 1) rfl s1.1 s1.2 (ix_c i 1) (by omega) hL ?_
  refine pG_many 4 (pc1 := 837) (L1 := [some (.ref 2000000), some (.ref 0), some (.ref 211), some (.int (i3 i))]) (st1 := [.int (i3 i + 2), .ref 2000000, .int (xs (i + 1)), .ref 211, .int v]) (M1 := mjTo Z) rfl ?_
  refine pG_ials (j := i + 2) rfl s1.1 s1.2 (ix_c i 2) (by omega) hL ?_
  refine pG_callV (k2 := 281) (As := [.ref 211, .int (xs (i + 1)), .int (xs (i + 2))]) (rest := [.int v]) rfl rfl rfl rfl rfl (by rfl) (by decide) (f281_act_ok c2) ?_
  rintro r9 M9 ⟨rfl, rfl⟩
  show pG 339 841 [some (.ref 2000000), some (.ref 0), some (.ref 211), some (.int (i3 i))] [.int v, .int v] (mjTo Z) _
  refine pG_cmt (t := 1502) rfl rfl (by simp [mjCmp]) ?_
  exact tail _ ⟨a3, s2⟩
set_option maxRecDepth 100000 in
theorem br_20 (h : lpR LL xs Z) (hi : i + 6 ≤ LL) (hL : LL ≤ 3072) (tail : ∀ Z2, lpR LL xs Z2 → pG 339 1502 [some (.ref 2000000), some (.ref 0), some (.ref 211), some (.int (i3 i))] [] (mjTo Z2) F) : pG 339 846 [some (.ref 2000000), some (.ref 0), some (.ref 211), some (.int (i3 i))] [] (mjTo Z) F := by
  obtain ⟨v, Z1, Z2, a1, a2, a3, a4, a5⟩ := o_fact h.1 (xs (i + 1)) (xs (i + 2))
  have s0 := h.2
  obtain ⟨c2, e2⟩ := up_inv a2
  subst e2
  have s1 := lp_1 h a4
  have s2 := lp_1 h a5
  refine pG_many 5 (pc1 := 851) (L1 := [some (.ref 2000000), some (.ref 0), some (.ref 211), some (.int (i3 i))]) (st1 := [.int (i3 i + 1), .ref 2000000, .ref 0]) (M1 := mjTo Z) rfl ?_
  refine pG_ials (j := i + 1) rfl s0.1 s0.2 (ix_c i 1) (by omega) hL ?_
  refine pG_many 4 (pc1 := 856) (L1 := [some (.ref 2000000), some (.ref 0), some (.ref 211), some (.int (i3 i))]) (st1 := [.int (i3 i + 2), .ref 2000000, .int (xs (i + 1)), .ref 0]) (M1 := mjTo Z) rfl ?_
  refine pG_ials (j := i + 2) rfl s0.1 s0.2 (ix_c i 2) (by omega) hL ?_
  refine pG_callV (k2 := 171) (As := [.ref 0, .int (xs (i + 1)), .int (xs (i + 2))]) (rest := []) rfl rfl rfl rfl rfl (by rfl) (by decide) (f171_fact_ok a1) ?_
  rintro r9 M9 ⟨rfl, rfl⟩
  show pG 339 860 [some (.ref 2000000), some (.ref 0), some (.ref 211), some (.int (i3 i))] [.int v] (mjTo Z1) _
  refine pG_many 5 (pc1 := 865) (L1 := [some (.ref 2000000), some (.ref 0), some (.ref 211), some (.int (i3 i))]) (st1 := [.int (i3 i + 1), .ref 2000000, .ref 211, .int v]) (M1 := mjTo Z1) rfl ?_
  refine pG_ials (j := i + 1) rfl s1.1 s1.2 (ix_c i 1) (by omega) hL ?_
  refine pG_many 4 (pc1 := 870) (L1 := [some (.ref 2000000), some (.ref 0), some (.ref 211), some (.int (i3 i))]) (st1 := [.int (i3 i + 2), .ref 2000000, .int (xs (i + 1)), .ref 211, .int v]) (M1 := mjTo Z1) rfl ?_
  refine pG_ials (j := i + 2) rfl s1.1 s1.2 (ix_c i 2) (by omega) hL ?_
  refine pG_callV (k2 := 282) (As := [.ref 211, .int (xs (i + 1)), .int (xs (i + 2))]) (rest := [.int v]) rfl rfl rfl rfl rfl (by rfl) (by decide) (f282_fact_ok c2) ?_
  rintro r9 M9 ⟨rfl, rfl⟩
  show pG 339 874 [some (.ref 2000000), some (.ref 0), some (.ref 211), some (.int (i3 i))] [.int v, .int v] (mjTo Z1) _
  refine pG_cmt (t := 1502) rfl rfl (by simp [mjCmp]) ?_
  exact tail _ ⟨a3, s2⟩
set_option maxRecDepth 100000 in
theorem br_21 (h : lpR LL xs Z) (hi : i + 6 ≤ LL) (hL : LL ≤ 3072) (tail : ∀ Z2, lpR LL xs Z2 → pG 339 1502 [some (.ref 2000000), some (.ref 0), some (.ref 211), some (.int (i3 i))] [] (mjTo Z2) F) : pG 339 879 [some (.ref 2000000), some (.ref 0), some (.ref 211), some (.int (i3 i))] [] (mjTo Z) F := by
  obtain ⟨v, Z1, Z2, a1, a2, a3, a4, a5⟩ := o_rule h.1 (xs (i + 1)) (xs (i + 2))
  have s0 := h.2
  obtain ⟨c1, e1⟩ := up_inv a1
  subst e1
  obtain ⟨c2, e2⟩ := up_inv a2
  subst e2
  have s1 := lp_1 h a4
  have s2 := lp_1 h a5
  refine pG_many 5 (pc1 := 884) (L1 := [some (.ref 2000000), some (.ref 0), some (.ref 211), some (.int (i3 i))]) (st1 := [.int (i3 i + 1), .ref 2000000, .ref 0]) (M1 := mjTo Z) rfl ?_
  refine pG_ials (j := i + 1) rfl s0.1 s0.2 (ix_c i 1) (by omega) hL ?_
  refine pG_many 4 (pc1 := 889) (L1 := [some (.ref 2000000), some (.ref 0), some (.ref 211), some (.int (i3 i))]) (st1 := [.int (i3 i + 2), .ref 2000000, .int (xs (i + 1)), .ref 0]) (M1 := mjTo Z) rfl ?_
  refine pG_ials (j := i + 2) rfl s0.1 s0.2 (ix_c i 2) (by omega) hL ?_
  refine pG_callV (k2 := 172) (As := [.ref 0, .int (xs (i + 1)), .int (xs (i + 2))]) (rest := []) rfl rfl rfl rfl rfl (by rfl) (by decide) (f172_rule_ok c1) ?_
  rintro r9 M9 ⟨rfl, rfl⟩
  show pG 339 893 [some (.ref 2000000), some (.ref 0), some (.ref 211), some (.int (i3 i))] [.int v] (mjTo Z) _
  refine pG_many 5 (pc1 := 898) (L1 := [some (.ref 2000000), some (.ref 0), some (.ref 211), some (.int (i3 i))]) (st1 := [.int (i3 i + 1), .ref 2000000, .ref 211, .int v]) (M1 := mjTo Z) rfl ?_
  refine pG_ials (j := i + 1) rfl s1.1 s1.2 (ix_c i 1) (by omega) hL ?_
  refine pG_many 4 (pc1 := 903) (L1 := [some (.ref 2000000), some (.ref 0), some (.ref 211), some (.int (i3 i))]) (st1 := [.int (i3 i + 2), .ref 2000000, .int (xs (i + 1)), .ref 211, .int v]) (M1 := mjTo Z) rfl ?_
  refine pG_ials (j := i + 2) rfl s1.1 s1.2 (ix_c i 2) (by omega) hL ?_
  refine pG_callV (k2 := 293) (As := [.ref 211, .int (xs (i + 1)), .int (xs (i + 2))]) (rest := [.int v]) rfl rfl rfl rfl rfl (by rfl) (by decide) (f293_rule_ok c2) ?_
  rintro r9 M9 ⟨rfl, rfl⟩
  show pG 339 907 [some (.ref 2000000), some (.ref 0), some (.ref 211), some (.int (i3 i))] [.int v, .int v] (mjTo Z) _
  refine pG_cmt (t := 1502) rfl rfl (by simp [mjCmp]) ?_
  exact tail _ ⟨a3, s2⟩
set_option maxRecDepth 100000 in
theorem br_22 (h : lpR LL xs Z) (hi : i + 6 ≤ LL) (hL : LL ≤ 3072) (tail : ∀ Z2, lpR LL xs Z2 → pG 339 1502 [some (.ref 2000000), some (.ref 0), some (.ref 211), some (.int (i3 i))] [] (mjTo Z2) F) : pG 339 912 [some (.ref 2000000), some (.ref 0), some (.ref 211), some (.int (i3 i))] [] (mjTo Z) F := by
  obtain ⟨v, Z1, Z2, a1, a2, a3, a4, a5⟩ := o_holds h.1 (xs (i + 1)) (xs (i + 2)) (xs (i + 3))
  have s0 := h.2
  have s1 := lp_1 h a4
  have s2 := lp_1 h a5
  refine pG_many 5 (pc1 := 917) (L1 := [some (.ref 2000000), some (.ref 0), some (.ref 211), some (.int (i3 i))]) (st1 := [.int (i3 i + 1), .ref 2000000, .ref 0]) (M1 := mjTo Z) rfl ?_
  refine pG_ials (j := i + 1) rfl s0.1 s0.2 (ix_c i 1) (by omega) hL ?_
  refine pG_many 4 (pc1 := 922) (L1 := [some (.ref 2000000), some (.ref 0), some (.ref 211), some (.int (i3 i))]) (st1 := [.int (i3 i + 2), .ref 2000000, .int (xs (i + 1)), .ref 0]) (M1 := mjTo Z) rfl ?_
  refine pG_ials (j := i + 2) rfl s0.1 s0.2 (ix_c i 2) (by omega) hL ?_
  refine pG_many 4 (pc1 := 927) (L1 := [some (.ref 2000000), some (.ref 0), some (.ref 211), some (.int (i3 i))]) (st1 := [.int (i3 i + 3), .ref 2000000, .int (xs (i + 2)), .int (xs (i + 1)), .ref 0]) (M1 := mjTo Z) rfl ?_
  refine pG_ials (j := i + 3) rfl s0.1 s0.2 (ix_c i 3) (by omega) hL ?_
  refine pG_callV (k2 := 174) (As := [.ref 0, .int (xs (i + 1)), .int (xs (i + 2)), .int (xs (i + 3))]) (rest := []) rfl rfl rfl rfl rfl (by rfl) (by decide) (f174_holds_ok a1) ?_
  rintro r9 M9 ⟨rfl, rfl⟩
  show pG 339 931 [some (.ref 2000000), some (.ref 0), some (.ref 211), some (.int (i3 i))] [.int v] (mjTo Z1) _
  refine pG_many 5 (pc1 := 936) (L1 := [some (.ref 2000000), some (.ref 0), some (.ref 211), some (.int (i3 i))]) (st1 := [.int (i3 i + 1), .ref 2000000, .ref 211, .int v]) (M1 := mjTo Z1) rfl ?_
  refine pG_ials (j := i + 1) rfl s1.1 s1.2 (ix_c i 1) (by omega) hL ?_
  refine pG_many 4 (pc1 := 941) (L1 := [some (.ref 2000000), some (.ref 0), some (.ref 211), some (.int (i3 i))]) (st1 := [.int (i3 i + 2), .ref 2000000, .int (xs (i + 1)), .ref 211, .int v]) (M1 := mjTo Z1) rfl ?_
  refine pG_ials (j := i + 2) rfl s1.1 s1.2 (ix_c i 2) (by omega) hL ?_
  refine pG_many 4 (pc1 := 946) (L1 := [some (.ref 2000000), some (.ref 0), some (.ref 211), some (.int (i3 i))]) (st1 := [.int (i3 i + 3), .ref 2000000, .int (xs (i + 2)), .int (xs (i + 1)), .ref 211, .int v]) (M1 := mjTo Z1) rfl ?_
  refine pG_ials (j := i + 3) rfl s1.1 s1.2 (ix_c i 3) (by omega) hL ?_
  refine pG_callV (k2 := 294) (As := [.ref 211, .int (xs (i + 1)), .int (xs (i + 2)), .int (xs (i + 3))]) (rest := [.int v]) rfl rfl rfl rfl rfl (by rfl) (by decide) (f294_holds_ok a2) ?_
  rintro r9 M9 ⟨rfl, rfl⟩
  show pG 339 950 [some (.ref 2000000), some (.ref 0), some (.ref 211), some (.int (i3 i))] [.int v, .int v] (mjTo Z2) _
  refine pG_cmt (t := 1502) rfl rfl (by simp [mjCmp]) ?_
  exact tail _ ⟨a3, s2⟩
set_option maxRecDepth 100000 in
theorem br_23 (h : lpR LL xs Z) (hi : i + 6 ≤ LL) (hL : LL ≤ 3072) (tail : ∀ Z2, lpR LL xs Z2 → pG 339 1502 [some (.ref 2000000), some (.ref 0), some (.ref 211), some (.int (i3 i))] [] (mjTo Z2) F) : pG 339 955 [some (.ref 2000000), some (.ref 0), some (.ref 211), some (.int (i3 i))] [] (mjTo Z) F := by
  obtain ⟨v, Z1, Z2, a1, a2, a3, a4, a5⟩ := o_why h.1 (xs (i + 1)) (xs (i + 2)) (xs (i + 3)) (xs (i + 4))
  have s0 := h.2
  have s1 := lp_1 h a4
  have s2 := lp_1 h a5
  refine pG_many 5 (pc1 := 960) (L1 := [some (.ref 2000000), some (.ref 0), some (.ref 211), some (.int (i3 i))]) (st1 := [.int (i3 i + 1), .ref 2000000, .ref 0]) (M1 := mjTo Z) rfl ?_
  refine pG_ials (j := i + 1) rfl s0.1 s0.2 (ix_c i 1) (by omega) hL ?_
  refine pG_many 4 (pc1 := 965) (L1 := [some (.ref 2000000), some (.ref 0), some (.ref 211), some (.int (i3 i))]) (st1 := [.int (i3 i + 2), .ref 2000000, .int (xs (i + 1)), .ref 0]) (M1 := mjTo Z) rfl ?_
  refine pG_ials (j := i + 2) rfl s0.1 s0.2 (ix_c i 2) (by omega) hL ?_
  refine pG_many 4 (pc1 := 970) (L1 := [some (.ref 2000000), some (.ref 0), some (.ref 211), some (.int (i3 i))]) (st1 := [.int (i3 i + 3), .ref 2000000, .int (xs (i + 2)), .int (xs (i + 1)), .ref 0]) (M1 := mjTo Z) rfl ?_
  refine pG_ials (j := i + 3) rfl s0.1 s0.2 (ix_c i 3) (by omega) hL ?_
  refine pG_many 4 (pc1 := 975) (L1 := [some (.ref 2000000), some (.ref 0), some (.ref 211), some (.int (i3 i))]) (st1 := [.int (i3 i + 4), .ref 2000000, .int (xs (i + 3)), .int (xs (i + 2)), .int (xs (i + 1)), .ref 0]) (M1 := mjTo Z) rfl ?_
  refine pG_ials (j := i + 4) rfl s0.1 s0.2 (ix_c i 4) (by omega) hL ?_
  refine pG_callV (k2 := 175) (As := [.ref 0, .int (xs (i + 1)), .int (xs (i + 2)), .int (xs (i + 3)), .int (xs (i + 4))]) (rest := []) rfl rfl rfl rfl rfl (by rfl) (by decide) (f175_why_ok a1) ?_
  rintro r9 M9 ⟨rfl, rfl⟩
  show pG 339 979 [some (.ref 2000000), some (.ref 0), some (.ref 211), some (.int (i3 i))] [.int v] (mjTo Z1) _
  refine pG_many 5 (pc1 := 984) (L1 := [some (.ref 2000000), some (.ref 0), some (.ref 211), some (.int (i3 i))]) (st1 := [.int (i3 i + 1), .ref 2000000, .ref 211, .int v]) (M1 := mjTo Z1) rfl ?_
  refine pG_ials (j := i + 1) rfl s1.1 s1.2 (ix_c i 1) (by omega) hL ?_
  refine pG_many 4 (pc1 := 989) (L1 := [some (.ref 2000000), some (.ref 0), some (.ref 211), some (.int (i3 i))]) (st1 := [.int (i3 i + 2), .ref 2000000, .int (xs (i + 1)), .ref 211, .int v]) (M1 := mjTo Z1) rfl ?_
  refine pG_ials (j := i + 2) rfl s1.1 s1.2 (ix_c i 2) (by omega) hL ?_
  refine pG_many 4 (pc1 := 994) (L1 := [some (.ref 2000000), some (.ref 0), some (.ref 211), some (.int (i3 i))]) (st1 := [.int (i3 i + 3), .ref 2000000, .int (xs (i + 2)), .int (xs (i + 1)), .ref 211, .int v]) (M1 := mjTo Z1) rfl ?_
  refine pG_ials (j := i + 3) rfl s1.1 s1.2 (ix_c i 3) (by omega) hL ?_
  refine pG_many 4 (pc1 := 999) (L1 := [some (.ref 2000000), some (.ref 0), some (.ref 211), some (.int (i3 i))]) (st1 := [.int (i3 i + 4), .ref 2000000, .int (xs (i + 3)), .int (xs (i + 2)), .int (xs (i + 1)), .ref 211, .int v]) (M1 := mjTo Z1) rfl ?_
  refine pG_ials (j := i + 4) rfl s1.1 s1.2 (ix_c i 4) (by omega) hL ?_
  refine pG_callV (k2 := 295) (As := [.ref 211, .int (xs (i + 1)), .int (xs (i + 2)), .int (xs (i + 3)), .int (xs (i + 4))]) (rest := [.int v]) rfl rfl rfl rfl rfl (by rfl) (by decide) (f295_why_ok a2) ?_
  rintro r9 M9 ⟨rfl, rfl⟩
  show pG 339 1003 [some (.ref 2000000), some (.ref 0), some (.ref 211), some (.int (i3 i))] [.int v, .int v] (mjTo Z2) _
  refine pG_cmt (t := 1502) rfl rfl (by simp [mjCmp]) ?_
  exact tail _ ⟨a3, s2⟩
set_option maxRecDepth 100000 in
theorem br_24 (h : lpR LL xs Z) (hi : i + 6 ≤ LL) (hL : LL ≤ 3072) (tail : ∀ Z2, lpR LL xs Z2 → pG 339 1502 [some (.ref 2000000), some (.ref 0), some (.ref 211), some (.int (i3 i))] [] (mjTo Z2) F) : pG 339 1008 [some (.ref 2000000), some (.ref 0), some (.ref 211), some (.int (i3 i))] [] (mjTo Z) F := by
  obtain ⟨v, Z1, Z2, a1, a2, a3, a4, a5⟩ := o_struckBy h.1 (xs (i + 1)) (xs (i + 2))
  have s0 := h.2
  obtain ⟨c1, e1⟩ := up_inv a1
  subst e1
  have s1 := lp_1 h a4
  have s2 := lp_1 h a5
  refine pG_many 5 (pc1 := 1013) (L1 := [some (.ref 2000000), some (.ref 0), some (.ref 211), some (.int (i3 i))]) (st1 := [.int (i3 i + 1), .ref 2000000, .ref 0]) (M1 := mjTo Z) rfl ?_
  refine pG_ials (j := i + 1) rfl s0.1 s0.2 (ix_c i 1) (by omega) hL ?_
  refine pG_many 4 (pc1 := 1018) (L1 := [some (.ref 2000000), some (.ref 0), some (.ref 211), some (.int (i3 i))]) (st1 := [.int (i3 i + 2), .ref 2000000, .int (xs (i + 1)), .ref 0]) (M1 := mjTo Z) rfl ?_
  refine pG_ials (j := i + 2) rfl s0.1 s0.2 (ix_c i 2) (by omega) hL ?_
  refine pG_callV (k2 := 176) (As := [.ref 0, .int (xs (i + 1)), .int (xs (i + 2))]) (rest := []) rfl rfl rfl rfl rfl (by rfl) (by decide) (f176_struckBy_ok c1) ?_
  rintro r9 M9 ⟨rfl, rfl⟩
  show pG 339 1022 [some (.ref 2000000), some (.ref 0), some (.ref 211), some (.int (i3 i))] [.int v] (mjTo Z) _
  refine pG_many 5 (pc1 := 1027) (L1 := [some (.ref 2000000), some (.ref 0), some (.ref 211), some (.int (i3 i))]) (st1 := [.int (i3 i + 1), .ref 2000000, .ref 211, .int v]) (M1 := mjTo Z) rfl ?_
  refine pG_ials (j := i + 1) rfl s1.1 s1.2 (ix_c i 1) (by omega) hL ?_
  refine pG_many 4 (pc1 := 1032) (L1 := [some (.ref 2000000), some (.ref 0), some (.ref 211), some (.int (i3 i))]) (st1 := [.int (i3 i + 2), .ref 2000000, .int (xs (i + 1)), .ref 211, .int v]) (M1 := mjTo Z) rfl ?_
  refine pG_ials (j := i + 2) rfl s1.1 s1.2 (ix_c i 2) (by omega) hL ?_
  refine pG_callV (k2 := 297) (As := [.ref 211, .int (xs (i + 1)), .int (xs (i + 2))]) (rest := [.int v]) rfl rfl rfl rfl rfl (by rfl) (by decide) (f297_struckBy_ok a2) ?_
  rintro r9 M9 ⟨rfl, rfl⟩
  show pG 339 1036 [some (.ref 2000000), some (.ref 0), some (.ref 211), some (.int (i3 i))] [.int v, .int v] (mjTo Z2) _
  refine pG_cmt (t := 1502) rfl rfl (by simp [mjCmp]) ?_
  exact tail _ ⟨a3, s2⟩
set_option maxRecDepth 100000 in
theorem br_25 (h : lpR LL xs Z) (hi : i + 6 ≤ LL) (hL : LL ≤ 3072) (tail : ∀ Z2, lpR LL xs Z2 → pG 339 1502 [some (.ref 2000000), some (.ref 0), some (.ref 211), some (.int (i3 i))] [] (mjTo Z2) F) : pG 339 1041 [some (.ref 2000000), some (.ref 0), some (.ref 211), some (.int (i3 i))] [] (mjTo Z) F := by
  obtain ⟨v, Z1, Z2, a1, a2, a3, a4, a5⟩ := o_clean h.1 (xs (i + 1)) (xs (i + 2))
  have s0 := h.2
  have s1 := lp_1 h a4
  have s2 := lp_1 h a5
  refine pG_many 5 (pc1 := 1046) (L1 := [some (.ref 2000000), some (.ref 0), some (.ref 211), some (.int (i3 i))]) (st1 := [.int (i3 i + 1), .ref 2000000, .ref 0]) (M1 := mjTo Z) rfl ?_
  refine pG_ials (j := i + 1) rfl s0.1 s0.2 (ix_c i 1) (by omega) hL ?_
  refine pG_many 4 (pc1 := 1051) (L1 := [some (.ref 2000000), some (.ref 0), some (.ref 211), some (.int (i3 i))]) (st1 := [.int (i3 i + 2), .ref 2000000, .int (xs (i + 1)), .ref 0]) (M1 := mjTo Z) rfl ?_
  refine pG_ials (j := i + 2) rfl s0.1 s0.2 (ix_c i 2) (by omega) hL ?_
  refine pG_callV (k2 := 177) (As := [.ref 0, .int (xs (i + 1)), .int (xs (i + 2))]) (rest := []) rfl rfl rfl rfl rfl (by rfl) (by decide) (f177_clean_ok a1) ?_
  rintro r9 M9 ⟨rfl, rfl⟩
  show pG 339 1055 [some (.ref 2000000), some (.ref 0), some (.ref 211), some (.int (i3 i))] [.int v] (mjTo Z1) _
  refine pG_many 5 (pc1 := 1060) (L1 := [some (.ref 2000000), some (.ref 0), some (.ref 211), some (.int (i3 i))]) (st1 := [.int (i3 i + 1), .ref 2000000, .ref 211, .int v]) (M1 := mjTo Z1) rfl ?_
  refine pG_ials (j := i + 1) rfl s1.1 s1.2 (ix_c i 1) (by omega) hL ?_
  refine pG_many 4 (pc1 := 1065) (L1 := [some (.ref 2000000), some (.ref 0), some (.ref 211), some (.int (i3 i))]) (st1 := [.int (i3 i + 2), .ref 2000000, .int (xs (i + 1)), .ref 211, .int v]) (M1 := mjTo Z1) rfl ?_
  refine pG_ials (j := i + 2) rfl s1.1 s1.2 (ix_c i 2) (by omega) hL ?_
  refine pG_callV (k2 := 300) (As := [.ref 211, .int (xs (i + 1)), .int (xs (i + 2))]) (rest := [.int v]) rfl rfl rfl rfl rfl (by rfl) (by decide) (f300_clean_ok a2) ?_
  rintro r9 M9 ⟨rfl, rfl⟩
  show pG 339 1069 [some (.ref 2000000), some (.ref 0), some (.ref 211), some (.int (i3 i))] [.int v, .int v] (mjTo Z2) _
  refine pG_cmt (t := 1502) rfl rfl (by simp [mjCmp]) ?_
  exact tail _ ⟨a3, s2⟩
set_option maxRecDepth 100000 in
theorem br_26 (h : lpR LL xs Z) (hi : i + 6 ≤ LL) (hL : LL ≤ 3072) (tail : ∀ Z2, lpR LL xs Z2 → pG 339 1502 [some (.ref 2000000), some (.ref 0), some (.ref 211), some (.int (i3 i))] [] (mjTo Z2) F) : pG 339 1074 [some (.ref 2000000), some (.ref 0), some (.ref 211), some (.int (i3 i))] [] (mjTo Z) F := by
  obtain ⟨v, Z1, Z2, a1, a2, a3, a4, a5⟩ := o_free h.1 (xs (i + 1)) (xs (i + 2))
  have s0 := h.2
  have s1 := lp_1 h a4
  have s2 := lp_1 h a5
  refine pG_many 5 (pc1 := 1079) (L1 := [some (.ref 2000000), some (.ref 0), some (.ref 211), some (.int (i3 i))]) (st1 := [.int (i3 i + 1), .ref 2000000, .ref 0]) (M1 := mjTo Z) rfl ?_
  refine pG_ials (j := i + 1) rfl s0.1 s0.2 (ix_c i 1) (by omega) hL ?_
  refine pG_many 4 (pc1 := 1084) (L1 := [some (.ref 2000000), some (.ref 0), some (.ref 211), some (.int (i3 i))]) (st1 := [.int (i3 i + 2), .ref 2000000, .int (xs (i + 1)), .ref 0]) (M1 := mjTo Z) rfl ?_
  refine pG_ials (j := i + 2) rfl s0.1 s0.2 (ix_c i 2) (by omega) hL ?_
  refine pG_callV (k2 := 178) (As := [.ref 0, .int (xs (i + 1)), .int (xs (i + 2))]) (rest := []) rfl rfl rfl rfl rfl (by rfl) (by decide) (f178_free_ok a1) ?_
  rintro r9 M9 ⟨rfl, rfl⟩
  show pG 339 1088 [some (.ref 2000000), some (.ref 0), some (.ref 211), some (.int (i3 i))] [.int v] (mjTo Z1) _
  refine pG_many 5 (pc1 := 1093) (L1 := [some (.ref 2000000), some (.ref 0), some (.ref 211), some (.int (i3 i))]) (st1 := [.int (i3 i + 1), .ref 2000000, .ref 211, .int v]) (M1 := mjTo Z1) rfl ?_
  refine pG_ials (j := i + 1) rfl s1.1 s1.2 (ix_c i 1) (by omega) hL ?_
  refine pG_many 4 (pc1 := 1098) (L1 := [some (.ref 2000000), some (.ref 0), some (.ref 211), some (.int (i3 i))]) (st1 := [.int (i3 i + 2), .ref 2000000, .int (xs (i + 1)), .ref 211, .int v]) (M1 := mjTo Z1) rfl ?_
  refine pG_ials (j := i + 2) rfl s1.1 s1.2 (ix_c i 2) (by omega) hL ?_
  refine pG_callV (k2 := 301) (As := [.ref 211, .int (xs (i + 1)), .int (xs (i + 2))]) (rest := [.int v]) rfl rfl rfl rfl rfl (by rfl) (by decide) (f301_free_ok a2) ?_
  rintro r9 M9 ⟨rfl, rfl⟩
  show pG 339 1102 [some (.ref 2000000), some (.ref 0), some (.ref 211), some (.int (i3 i))] [.int v, .int v] (mjTo Z2) _
  refine pG_cmt (t := 1502) rfl rfl (by simp [mjCmp]) ?_
  exact tail _ ⟨a3, s2⟩
set_option maxRecDepth 100000 in
theorem br_27 (h : lpR LL xs Z) (hi : i + 6 ≤ LL) (hL : LL ≤ 3072) (tail : ∀ Z2, lpR LL xs Z2 → pG 339 1502 [some (.ref 2000000), some (.ref 0), some (.ref 211), some (.int (i3 i))] [] (mjTo Z2) F) : pG 339 1107 [some (.ref 2000000), some (.ref 0), some (.ref 211), some (.int (i3 i))] [] (mjTo Z) F := by
  obtain ⟨v, Z1, Z2, a1, a2, a3, a4, a5⟩ := o_struck h.1 (xs (i + 1)) (xs (i + 2))
  have s0 := h.2
  obtain ⟨c1, e1⟩ := up_inv a1
  subst e1
  have s1 := lp_1 h a4
  have s2 := lp_1 h a5
  refine pG_many 5 (pc1 := 1112) (L1 := [some (.ref 2000000), some (.ref 0), some (.ref 211), some (.int (i3 i))]) (st1 := [.int (i3 i + 1), .ref 2000000, .ref 0]) (M1 := mjTo Z) rfl ?_
  refine pG_ials (j := i + 1) rfl s0.1 s0.2 (ix_c i 1) (by omega) hL ?_
  refine pG_many 4 (pc1 := 1117) (L1 := [some (.ref 2000000), some (.ref 0), some (.ref 211), some (.int (i3 i))]) (st1 := [.int (i3 i + 2), .ref 2000000, .int (xs (i + 1)), .ref 0]) (M1 := mjTo Z) rfl ?_
  refine pG_ials (j := i + 2) rfl s0.1 s0.2 (ix_c i 2) (by omega) hL ?_
  refine pG_callV (k2 := 179) (As := [.ref 0, .int (xs (i + 1)), .int (xs (i + 2))]) (rest := []) rfl rfl rfl rfl rfl (by rfl) (by decide) (f179_struck_ok c1) ?_
  rintro r9 M9 ⟨rfl, rfl⟩
  show pG 339 1121 [some (.ref 2000000), some (.ref 0), some (.ref 211), some (.int (i3 i))] [.int v] (mjTo Z) _
  refine pG_many 5 (pc1 := 1126) (L1 := [some (.ref 2000000), some (.ref 0), some (.ref 211), some (.int (i3 i))]) (st1 := [.int (i3 i + 1), .ref 2000000, .ref 211, .int v]) (M1 := mjTo Z) rfl ?_
  refine pG_ials (j := i + 1) rfl s1.1 s1.2 (ix_c i 1) (by omega) hL ?_
  refine pG_many 4 (pc1 := 1131) (L1 := [some (.ref 2000000), some (.ref 0), some (.ref 211), some (.int (i3 i))]) (st1 := [.int (i3 i + 2), .ref 2000000, .int (xs (i + 1)), .ref 211, .int v]) (M1 := mjTo Z) rfl ?_
  refine pG_ials (j := i + 2) rfl s1.1 s1.2 (ix_c i 2) (by omega) hL ?_
  refine pG_callV (k2 := 303) (As := [.ref 211, .int (xs (i + 1)), .int (xs (i + 2))]) (rest := [.int v]) rfl rfl rfl rfl rfl (by rfl) (by decide) (f303_struck_ok a2) ?_
  rintro r9 M9 ⟨rfl, rfl⟩
  show pG 339 1135 [some (.ref 2000000), some (.ref 0), some (.ref 211), some (.int (i3 i))] [.int v, .int v] (mjTo Z2) _
  refine pG_cmt (t := 1502) rfl rfl (by simp [mjCmp]) ?_
  exact tail _ ⟨a3, s2⟩
set_option maxRecDepth 100000 in
theorem br_28 (h : lpR LL xs Z) (hi : i + 6 ≤ LL) (hL : LL ≤ 3072) (tail : ∀ Z2, lpR LL xs Z2 → pG 339 1502 [some (.ref 2000000), some (.ref 0), some (.ref 211), some (.int (i3 i))] [] (mjTo Z2) F) : pG 339 1140 [some (.ref 2000000), some (.ref 0), some (.ref 211), some (.int (i3 i))] [] (mjTo Z) F := by
  obtain ⟨v, Z1, Z2, a1, a2, a3, a4, a5⟩ := o_rank h.1 (xs (i + 1))
  have s0 := h.2
  obtain ⟨c1, e1⟩ := up_inv a1
  subst e1
  have s1 := lp_1 h a4
  have s2 := lp_1 h a5
  refine pG_many 5 (pc1 := 1145) (L1 := [some (.ref 2000000), some (.ref 0), some (.ref 211), some (.int (i3 i))]) (st1 := [.int (i3 i + 1), .ref 2000000, .ref 0]) (M1 := mjTo Z) rfl ?_
  refine pG_ials (j := i + 1) rfl s0.1 s0.2 (ix_c i 1) (by omega) hL ?_
  refine pG_callV (k2 := 180) (As := [.ref 0, .int (xs (i + 1))]) (rest := []) rfl rfl rfl rfl rfl (by rfl) (by decide) (f180_rank_ok c1) ?_
  rintro r9 M9 ⟨rfl, rfl⟩
  show pG 339 1149 [some (.ref 2000000), some (.ref 0), some (.ref 211), some (.int (i3 i))] [.int v] (mjTo Z) _
  refine pG_many 5 (pc1 := 1154) (L1 := [some (.ref 2000000), some (.ref 0), some (.ref 211), some (.int (i3 i))]) (st1 := [.int (i3 i + 1), .ref 2000000, .ref 211, .int v]) (M1 := mjTo Z) rfl ?_
  refine pG_ials (j := i + 1) rfl s1.1 s1.2 (ix_c i 1) (by omega) hL ?_
  refine pG_callV (k2 := 306) (As := [.ref 211, .int (xs (i + 1))]) (rest := [.int v]) rfl rfl rfl rfl rfl (by rfl) (by decide) (f306_rank_ok a2) ?_
  rintro r9 M9 ⟨rfl, rfl⟩
  show pG 339 1158 [some (.ref 2000000), some (.ref 0), some (.ref 211), some (.int (i3 i))] [.int v, .int v] (mjTo Z2) _
  refine pG_cmt (t := 1502) rfl rfl (by simp [mjCmp]) ?_
  exact tail _ ⟨a3, s2⟩
set_option maxRecDepth 100000 in
theorem br_29 (h : lpR LL xs Z) (hi : i + 6 ≤ LL) (hL : LL ≤ 3072) (tail : ∀ Z2, lpR LL xs Z2 → pG 339 1502 [some (.ref 2000000), some (.ref 0), some (.ref 211), some (.int (i3 i))] [] (mjTo Z2) F) : pG 339 1163 [some (.ref 2000000), some (.ref 0), some (.ref 211), some (.int (i3 i))] [] (mjTo Z) F := by
  obtain ⟨v, Z1, Z2, a1, a2, a3, a4, a5⟩ := o_result h.1 (xs (i + 1))
  have s0 := h.2
  obtain ⟨c1, e1⟩ := up_inv a1
  subst e1
  have s1 := lp_1 h a4
  have s2 := lp_1 h a5
  refine pG_many 5 (pc1 := 1168) (L1 := [some (.ref 2000000), some (.ref 0), some (.ref 211), some (.int (i3 i))]) (st1 := [.int (i3 i + 1), .ref 2000000, .ref 0]) (M1 := mjTo Z) rfl ?_
  refine pG_ials (j := i + 1) rfl s0.1 s0.2 (ix_c i 1) (by omega) hL ?_
  refine pG_callV (k2 := 181) (As := [.ref 0, .int (xs (i + 1))]) (rest := []) rfl rfl rfl rfl rfl (by rfl) (by decide) (f181_result_ok c1) ?_
  rintro r9 M9 ⟨rfl, rfl⟩
  show pG 339 1172 [some (.ref 2000000), some (.ref 0), some (.ref 211), some (.int (i3 i))] [.int v] (mjTo Z) _
  refine pG_many 5 (pc1 := 1177) (L1 := [some (.ref 2000000), some (.ref 0), some (.ref 211), some (.int (i3 i))]) (st1 := [.int (i3 i + 1), .ref 2000000, .ref 211, .int v]) (M1 := mjTo Z) rfl ?_
  refine pG_ials (j := i + 1) rfl s1.1 s1.2 (ix_c i 1) (by omega) hL ?_
  refine pG_callV (k2 := 311) (As := [.ref 211, .int (xs (i + 1))]) (rest := [.int v]) rfl rfl rfl rfl rfl (by rfl) (by decide) (f311_result_ok a2) ?_
  rintro r9 M9 ⟨rfl, rfl⟩
  show pG 339 1181 [some (.ref 2000000), some (.ref 0), some (.ref 211), some (.int (i3 i))] [.int v, .int v] (mjTo Z2) _
  refine pG_cmt (t := 1502) rfl rfl (by simp [mjCmp]) ?_
  exact tail _ ⟨a3, s2⟩
set_option maxRecDepth 100000 in
theorem br_30 (h : lpR LL xs Z) (hi : i + 6 ≤ LL) (hL : LL ≤ 3072) (tail : ∀ Z2, lpR LL xs Z2 → pG 339 1502 [some (.ref 2000000), some (.ref 0), some (.ref 211), some (.int (i3 i))] [] (mjTo Z2) F) : pG 339 1186 [some (.ref 2000000), some (.ref 0), some (.ref 211), some (.int (i3 i))] [] (mjTo Z) F := by
  obtain ⟨v, Z1, Z2, a1, a2, a3, a4, a5⟩ := o_who h.1 (xs (i + 1))
  have s0 := h.2
  obtain ⟨c1, e1⟩ := up_inv a1
  subst e1
  have s1 := lp_1 h a4
  have s2 := lp_1 h a5
  refine pG_many 5 (pc1 := 1191) (L1 := [some (.ref 2000000), some (.ref 0), some (.ref 211), some (.int (i3 i))]) (st1 := [.int (i3 i + 1), .ref 2000000, .ref 0]) (M1 := mjTo Z) rfl ?_
  refine pG_ials (j := i + 1) rfl s0.1 s0.2 (ix_c i 1) (by omega) hL ?_
  refine pG_callV (k2 := 182) (As := [.ref 0, .int (xs (i + 1))]) (rest := []) rfl rfl rfl rfl rfl (by rfl) (by decide) (f182_who_ok c1) ?_
  rintro r9 M9 ⟨rfl, rfl⟩
  show pG 339 1195 [some (.ref 2000000), some (.ref 0), some (.ref 211), some (.int (i3 i))] [.int v] (mjTo Z) _
  refine pG_many 5 (pc1 := 1200) (L1 := [some (.ref 2000000), some (.ref 0), some (.ref 211), some (.int (i3 i))]) (st1 := [.int (i3 i + 1), .ref 2000000, .ref 211, .int v]) (M1 := mjTo Z) rfl ?_
  refine pG_ials (j := i + 1) rfl s1.1 s1.2 (ix_c i 1) (by omega) hL ?_
  refine pG_callV (k2 := 314) (As := [.ref 211, .int (xs (i + 1))]) (rest := [.int v]) rfl rfl rfl rfl rfl (by rfl) (by decide) (f314_who_ok a2) ?_
  rintro r9 M9 ⟨rfl, rfl⟩
  show pG 339 1204 [some (.ref 2000000), some (.ref 0), some (.ref 211), some (.int (i3 i))] [.int v, .int v] (mjTo Z2) _
  refine pG_cmt (t := 1502) rfl rfl (by simp [mjCmp]) ?_
  exact tail _ ⟨a3, s2⟩
set_option maxRecDepth 100000 in
theorem br_31 (h : lpR LL xs Z) (hi : i + 6 ≤ LL) (hL : LL ≤ 3072) (tail : ∀ Z2, lpR LL xs Z2 → pG 339 1502 [some (.ref 2000000), some (.ref 0), some (.ref 211), some (.int (i3 i))] [] (mjTo Z2) F) : pG 339 1209 [some (.ref 2000000), some (.ref 0), some (.ref 211), some (.int (i3 i))] [] (mjTo Z) F := by
  obtain ⟨v, Z1, Z2, a1, a2, a3, a4, a5⟩ := o_would h.1 (xs (i + 1))
  have s0 := h.2
  obtain ⟨c1, e1⟩ := up_inv a1
  subst e1
  have s1 := lp_1 h a4
  have s2 := lp_1 h a5
  refine pG_many 5 (pc1 := 1214) (L1 := [some (.ref 2000000), some (.ref 0), some (.ref 211), some (.int (i3 i))]) (st1 := [.int (i3 i + 1), .ref 2000000, .ref 0]) (M1 := mjTo Z) rfl ?_
  refine pG_ials (j := i + 1) rfl s0.1 s0.2 (ix_c i 1) (by omega) hL ?_
  refine pG_callV (k2 := 183) (As := [.ref 0, .int (xs (i + 1))]) (rest := []) rfl rfl rfl rfl rfl (by rfl) (by decide) (f183_would_ok c1) ?_
  rintro r9 M9 ⟨rfl, rfl⟩
  show pG 339 1218 [some (.ref 2000000), some (.ref 0), some (.ref 211), some (.int (i3 i))] [.int v] (mjTo Z) _
  refine pG_many 5 (pc1 := 1223) (L1 := [some (.ref 2000000), some (.ref 0), some (.ref 211), some (.int (i3 i))]) (st1 := [.int (i3 i + 1), .ref 2000000, .ref 211, .int v]) (M1 := mjTo Z) rfl ?_
  refine pG_ials (j := i + 1) rfl s1.1 s1.2 (ix_c i 1) (by omega) hL ?_
  refine pG_callV (k2 := 315) (As := [.ref 211, .int (xs (i + 1))]) (rest := [.int v]) rfl rfl rfl rfl rfl (by rfl) (by decide) (f315_would_ok a2) ?_
  rintro r9 M9 ⟨rfl, rfl⟩
  show pG 339 1227 [some (.ref 2000000), some (.ref 0), some (.ref 211), some (.int (i3 i))] [.int v, .int v] (mjTo Z2) _
  refine pG_cmt (t := 1502) rfl rfl (by simp [mjCmp]) ?_
  exact tail _ ⟨a3, s2⟩
set_option maxRecDepth 100000 in
theorem br_32 (h : lpR LL xs Z) (hi : i + 6 ≤ LL) (hL : LL ≤ 3072) (tail : ∀ Z2, lpR LL xs Z2 → pG 339 1502 [some (.ref 2000000), some (.ref 0), some (.ref 211), some (.int (i3 i))] [] (mjTo Z2) F) : pG 339 1232 [some (.ref 2000000), some (.ref 0), some (.ref 211), some (.int (i3 i))] [] (mjTo Z) F := by
  obtain ⟨v, Z1, Z2, a1, a2, a3, a4, a5⟩ := o_fairRank h.1 (xs (i + 1))
  have s0 := h.2
  obtain ⟨c1, e1⟩ := up_inv a1
  subst e1
  have s1 := lp_1 h a4
  have s2 := lp_1 h a5
  refine pG_many 5 (pc1 := 1237) (L1 := [some (.ref 2000000), some (.ref 0), some (.ref 211), some (.int (i3 i))]) (st1 := [.int (i3 i + 1), .ref 2000000, .ref 0]) (M1 := mjTo Z) rfl ?_
  refine pG_ials (j := i + 1) rfl s0.1 s0.2 (ix_c i 1) (by omega) hL ?_
  refine pG_callV (k2 := 184) (As := [.ref 0, .int (xs (i + 1))]) (rest := []) rfl rfl rfl rfl rfl (by rfl) (by decide) (f184_fairRank_ok c1) ?_
  rintro r9 M9 ⟨rfl, rfl⟩
  show pG 339 1241 [some (.ref 2000000), some (.ref 0), some (.ref 211), some (.int (i3 i))] [.int v] (mjTo Z) _
  refine pG_many 5 (pc1 := 1246) (L1 := [some (.ref 2000000), some (.ref 0), some (.ref 211), some (.int (i3 i))]) (st1 := [.int (i3 i + 1), .ref 2000000, .ref 211, .int v]) (M1 := mjTo Z) rfl ?_
  refine pG_ials (j := i + 1) rfl s1.1 s1.2 (ix_c i 1) (by omega) hL ?_
  refine pG_callV (k2 := 307) (As := [.ref 211, .int (xs (i + 1))]) (rest := [.int v]) rfl rfl rfl rfl rfl (by rfl) (by decide) (f307_fairRank_ok a2) ?_
  rintro r9 M9 ⟨rfl, rfl⟩
  show pG 339 1250 [some (.ref 2000000), some (.ref 0), some (.ref 211), some (.int (i3 i))] [.int v, .int v] (mjTo Z2) _
  refine pG_cmt (t := 1502) rfl rfl (by simp [mjCmp]) ?_
  exact tail _ ⟨a3, s2⟩
set_option maxRecDepth 100000 in
theorem br_33 (h : lpR LL xs Z) (hi : i + 6 ≤ LL) (hL : LL ≤ 3072) (tail : ∀ Z2, lpR LL xs Z2 → pG 339 1502 [some (.ref 2000000), some (.ref 0), some (.ref 211), some (.int (i3 i))] [] (mjTo Z2) F) : pG 339 1255 [some (.ref 2000000), some (.ref 0), some (.ref 211), some (.int (i3 i))] [] (mjTo Z) F := by
  obtain ⟨v, Z1, Z2, a1, a2, a3, a4, a5⟩ := o_margin h.1 (xs (i + 1))
  have s0 := h.2
  obtain ⟨c1, e1⟩ := up_inv a1
  subst e1
  have s1 := lp_1 h a4
  have s2 := lp_1 h a5
  refine pG_many 5 (pc1 := 1260) (L1 := [some (.ref 2000000), some (.ref 0), some (.ref 211), some (.int (i3 i))]) (st1 := [.int (i3 i + 1), .ref 2000000, .ref 0]) (M1 := mjTo Z) rfl ?_
  refine pG_ials (j := i + 1) rfl s0.1 s0.2 (ix_c i 1) (by omega) hL ?_
  refine pG_callV (k2 := 185) (As := [.ref 0, .int (xs (i + 1))]) (rest := []) rfl rfl rfl rfl rfl (by rfl) (by decide) (f185_margin_ok c1) ?_
  rintro r9 M9 ⟨rfl, rfl⟩
  show pG 339 1264 [some (.ref 2000000), some (.ref 0), some (.ref 211), some (.int (i3 i))] [.int v] (mjTo Z) _
  refine pG_many 5 (pc1 := 1269) (L1 := [some (.ref 2000000), some (.ref 0), some (.ref 211), some (.int (i3 i))]) (st1 := [.int (i3 i + 1), .ref 2000000, .ref 211, .int v]) (M1 := mjTo Z) rfl ?_
  refine pG_ials (j := i + 1) rfl s1.1 s1.2 (ix_c i 1) (by omega) hL ?_
  refine pG_callV (k2 := 309) (As := [.ref 211, .int (xs (i + 1))]) (rest := [.int v]) rfl rfl rfl rfl rfl (by rfl) (by decide) (f309_margin_ok a2) ?_
  rintro r9 M9 ⟨rfl, rfl⟩
  show pG 339 1273 [some (.ref 2000000), some (.ref 0), some (.ref 211), some (.int (i3 i))] [.int v, .int v] (mjTo Z2) _
  refine pG_cmt (t := 1502) rfl rfl (by simp [mjCmp]) ?_
  exact tail _ ⟨a3, s2⟩
set_option maxRecDepth 100000 in
theorem br_34 (h : lpR LL xs Z) (hi : i + 6 ≤ LL) (hL : LL ≤ 3072) (tail : ∀ Z2, lpR LL xs Z2 → pG 339 1502 [some (.ref 2000000), some (.ref 0), some (.ref 211), some (.int (i3 i))] [] (mjTo Z2) F) : pG 339 1278 [some (.ref 2000000), some (.ref 0), some (.ref 211), some (.int (i3 i))] [] (mjTo Z) F := by
  obtain ⟨v, Z1, Z2, a1, a2, a3, a4, a5⟩ := o_impeders h.1 (xs (i + 1))
  have s0 := h.2
  obtain ⟨c1, e1⟩ := up_inv a1
  subst e1
  have s1 := lp_1 h a4
  have s2 := lp_1 h a5
  refine pG_many 5 (pc1 := 1283) (L1 := [some (.ref 2000000), some (.ref 0), some (.ref 211), some (.int (i3 i))]) (st1 := [.int (i3 i + 1), .ref 2000000, .ref 0]) (M1 := mjTo Z) rfl ?_
  refine pG_ials (j := i + 1) rfl s0.1 s0.2 (ix_c i 1) (by omega) hL ?_
  refine pG_callV (k2 := 186) (As := [.ref 0, .int (xs (i + 1))]) (rest := []) rfl rfl rfl rfl rfl (by rfl) (by decide) (f186_impeders_ok c1) ?_
  rintro r9 M9 ⟨rfl, rfl⟩
  show pG 339 1287 [some (.ref 2000000), some (.ref 0), some (.ref 211), some (.int (i3 i))] [.int v] (mjTo Z) _
  refine pG_many 5 (pc1 := 1292) (L1 := [some (.ref 2000000), some (.ref 0), some (.ref 211), some (.int (i3 i))]) (st1 := [.int (i3 i + 1), .ref 2000000, .ref 211, .int v]) (M1 := mjTo Z) rfl ?_
  refine pG_ials (j := i + 1) rfl s1.1 s1.2 (ix_c i 1) (by omega) hL ?_
  refine pG_callV (k2 := 310) (As := [.ref 211, .int (xs (i + 1))]) (rest := [.int v]) rfl rfl rfl rfl rfl (by rfl) (by decide) (f310_impeders_ok a2) ?_
  rintro r9 M9 ⟨rfl, rfl⟩
  show pG 339 1296 [some (.ref 2000000), some (.ref 0), some (.ref 211), some (.int (i3 i))] [.int v, .int v] (mjTo Z2) _
  refine pG_cmt (t := 1502) rfl rfl (by simp [mjCmp]) ?_
  exact tail _ ⟨a3, s2⟩
set_option maxRecDepth 100000 in
theorem br_35 (h : lpR LL xs Z) (hi : i + 6 ≤ LL) (hL : LL ≤ 3072) (tail : ∀ Z2, lpR LL xs Z2 → pG 339 1502 [some (.ref 2000000), some (.ref 0), some (.ref 211), some (.int (i3 i))] [] (mjTo Z2) F) : pG 339 1301 [some (.ref 2000000), some (.ref 0), some (.ref 211), some (.int (i3 i))] [] (mjTo Z) F := by
  obtain ⟨v, Z1, Z2, a1, a2, a3, a4, a5⟩ := o_again h.1
  have s0 := h.2
  obtain ⟨c1, e1⟩ := up_inv a1
  subst e1
  have s1 := lp_1 h a4
  have s2 := lp_1 h a5
  refine pG_many 1 (pc1 := 1302) (L1 := [some (.ref 2000000), some (.ref 0), some (.ref 211), some (.int (i3 i))]) (st1 := [.ref 0]) (M1 := mjTo Z) rfl ?_
  refine pG_callV (k2 := 187) (As := [.ref 0]) (rest := []) rfl rfl rfl rfl rfl (by rfl) (by decide) (f187_again_ok c1) ?_
  rintro r9 M9 ⟨rfl, rfl⟩
  show pG 339 1305 [some (.ref 2000000), some (.ref 0), some (.ref 211), some (.int (i3 i))] [.int v] (mjTo Z) _
  refine pG_many 1 (pc1 := 1306) (L1 := [some (.ref 2000000), some (.ref 0), some (.ref 211), some (.int (i3 i))]) (st1 := [.ref 211, .int v]) (M1 := mjTo Z) rfl ?_
  refine pG_callV (k2 := 316) (As := [.ref 211]) (rest := [.int v]) rfl rfl rfl rfl rfl (by rfl) (by decide) (f316_again_ok a2) ?_
  rintro r9 M9 ⟨rfl, rfl⟩
  show pG 339 1309 [some (.ref 2000000), some (.ref 0), some (.ref 211), some (.int (i3 i))] [.int v, .int v] (mjTo Z2) _
  refine pG_cmt (t := 1502) rfl rfl (by simp [mjCmp]) ?_
  exact tail _ ⟨a3, s2⟩
set_option maxRecDepth 100000 in
theorem br_36 (h : lpR LL xs Z) (hi : i + 6 ≤ LL) (hL : LL ≤ 3072) (tail : ∀ Z2, lpR LL xs Z2 → pG 339 1502 [some (.ref 2000000), some (.ref 0), some (.ref 211), some (.int (i3 i))] [] (mjTo Z2) F) : pG 339 1314 [some (.ref 2000000), some (.ref 0), some (.ref 211), some (.int (i3 i))] [] (mjTo Z) F := by
  obtain ⟨v, Z1, Z2, a1, a2, a3, a4, a5⟩ := o_winner h.1 (xs (i + 1))
  have s0 := h.2
  have s1 := lp_1 h a4
  have s2 := lp_1 h a5
  refine pG_many 5 (pc1 := 1319) (L1 := [some (.ref 2000000), some (.ref 0), some (.ref 211), some (.int (i3 i))]) (st1 := [.int (i3 i + 1), .ref 2000000, .ref 0]) (M1 := mjTo Z) rfl ?_
  refine pG_ials (j := i + 1) rfl s0.1 s0.2 (ix_c i 1) (by omega) hL ?_
  refine pG_callV (k2 := 188) (As := [.ref 0, .int (xs (i + 1))]) (rest := []) rfl rfl rfl rfl rfl (by rfl) (by decide) (f188_winner_ok a1) ?_
  rintro r9 M9 ⟨rfl, rfl⟩
  show pG 339 1323 [some (.ref 2000000), some (.ref 0), some (.ref 211), some (.int (i3 i))] [.int v] (mjTo Z1) _
  refine pG_many 5 (pc1 := 1328) (L1 := [some (.ref 2000000), some (.ref 0), some (.ref 211), some (.int (i3 i))]) (st1 := [.int (i3 i + 1), .ref 2000000, .ref 211, .int v]) (M1 := mjTo Z1) rfl ?_
  refine pG_ials (j := i + 1) rfl s1.1 s1.2 (ix_c i 1) (by omega) hL ?_
  refine pG_callV (k2 := 317) (As := [.ref 211, .int (xs (i + 1))]) (rest := [.int v]) rfl rfl rfl rfl rfl (by rfl) (by decide) (f317_winner_ok a2) ?_
  rintro r9 M9 ⟨rfl, rfl⟩
  show pG 339 1332 [some (.ref 2000000), some (.ref 0), some (.ref 211), some (.int (i3 i))] [.int v, .int v] (mjTo Z2) _
  refine pG_cmt (t := 1502) rfl rfl (by simp [mjCmp]) ?_
  exact tail _ ⟨a3, s2⟩
set_option maxRecDepth 100000 in
theorem br_37 (h : lpR LL xs Z) (hi : i + 6 ≤ LL) (hL : LL ≤ 3072) (tail : ∀ Z2, lpR LL xs Z2 → pG 339 1502 [some (.ref 2000000), some (.ref 0), some (.ref 211), some (.int (i3 i))] [] (mjTo Z2) F) : pG 339 1337 [some (.ref 2000000), some (.ref 0), some (.ref 211), some (.int (i3 i))] [] (mjTo Z) F := by
  obtain ⟨v, Z1, Z2, a1, a2, a3, a4, a5⟩ := o_stays h.1 (xs (i + 1)) (xs (i + 2))
  have s0 := h.2
  have s1 := lp_1 h a4
  have s2 := lp_1 h a5
  refine pG_many 5 (pc1 := 1342) (L1 := [some (.ref 2000000), some (.ref 0), some (.ref 211), some (.int (i3 i))]) (st1 := [.int (i3 i + 1), .ref 2000000, .ref 0]) (M1 := mjTo Z) rfl ?_
  refine pG_ials (j := i + 1) rfl s0.1 s0.2 (ix_c i 1) (by omega) hL ?_
  refine pG_many 4 (pc1 := 1347) (L1 := [some (.ref 2000000), some (.ref 0), some (.ref 211), some (.int (i3 i))]) (st1 := [.int (i3 i + 2), .ref 2000000, .int (xs (i + 1)), .ref 0]) (M1 := mjTo Z) rfl ?_
  refine pG_ials (j := i + 2) rfl s0.1 s0.2 (ix_c i 2) (by omega) hL ?_
  refine pG_callV (k2 := 189) (As := [.ref 0, .int (xs (i + 1)), .int (xs (i + 2))]) (rest := []) rfl rfl rfl rfl rfl (by rfl) (by decide) (f189_stays_ok a1) ?_
  rintro r9 M9 ⟨rfl, rfl⟩
  show pG 339 1351 [some (.ref 2000000), some (.ref 0), some (.ref 211), some (.int (i3 i))] [.int v] (mjTo Z1) _
  refine pG_many 5 (pc1 := 1356) (L1 := [some (.ref 2000000), some (.ref 0), some (.ref 211), some (.int (i3 i))]) (st1 := [.int (i3 i + 1), .ref 2000000, .ref 211, .int v]) (M1 := mjTo Z1) rfl ?_
  refine pG_ials (j := i + 1) rfl s1.1 s1.2 (ix_c i 1) (by omega) hL ?_
  refine pG_many 4 (pc1 := 1361) (L1 := [some (.ref 2000000), some (.ref 0), some (.ref 211), some (.int (i3 i))]) (st1 := [.int (i3 i + 2), .ref 2000000, .int (xs (i + 1)), .ref 211, .int v]) (M1 := mjTo Z1) rfl ?_
  refine pG_ials (j := i + 2) rfl s1.1 s1.2 (ix_c i 2) (by omega) hL ?_
  refine pG_callV (k2 := 319) (As := [.ref 211, .int (xs (i + 1)), .int (xs (i + 2))]) (rest := [.int v]) rfl rfl rfl rfl rfl (by rfl) (by decide) (f319_stays_ok a2) ?_
  rintro r9 M9 ⟨rfl, rfl⟩
  show pG 339 1365 [some (.ref 2000000), some (.ref 0), some (.ref 211), some (.int (i3 i))] [.int v, .int v] (mjTo Z2) _
  refine pG_cmt (t := 1502) rfl rfl (by simp [mjCmp]) ?_
  exact tail _ ⟨a3, s2⟩
set_option maxRecDepth 100000 in
theorem br_38 (h : lpR LL xs Z) (hi : i + 6 ≤ LL) (hL : LL ≤ 3072) (tail : ∀ Z2, lpR LL xs Z2 → pG 339 1502 [some (.ref 2000000), some (.ref 0), some (.ref 211), some (.int (i3 i))] [] (mjTo Z2) F) : pG 339 1370 [some (.ref 2000000), some (.ref 0), some (.ref 211), some (.int (i3 i))] [] (mjTo Z) F := by
  obtain ⟨v, Z1, Z2, a1, a2, a3, a4, a5⟩ := o_appeal h.1 (xs (i + 1)) (xs (i + 2)) (xs (i + 3))
  have s0 := h.2
  have s1 := lp_1 h a4
  have s2 := lp_1 h a5
  refine pG_many 5 (pc1 := 1375) (L1 := [some (.ref 2000000), some (.ref 0), some (.ref 211), some (.int (i3 i))]) (st1 := [.int (i3 i + 1), .ref 2000000, .ref 0]) (M1 := mjTo Z) rfl ?_
  refine pG_ials (j := i + 1) rfl s0.1 s0.2 (ix_c i 1) (by omega) hL ?_
  refine pG_many 4 (pc1 := 1380) (L1 := [some (.ref 2000000), some (.ref 0), some (.ref 211), some (.int (i3 i))]) (st1 := [.int (i3 i + 2), .ref 2000000, .int (xs (i + 1)), .ref 0]) (M1 := mjTo Z) rfl ?_
  refine pG_ials (j := i + 2) rfl s0.1 s0.2 (ix_c i 2) (by omega) hL ?_
  refine pG_many 4 (pc1 := 1385) (L1 := [some (.ref 2000000), some (.ref 0), some (.ref 211), some (.int (i3 i))]) (st1 := [.int (i3 i + 3), .ref 2000000, .int (xs (i + 2)), .int (xs (i + 1)), .ref 0]) (M1 := mjTo Z) rfl ?_
  refine pG_ials (j := i + 3) rfl s0.1 s0.2 (ix_c i 3) (by omega) hL ?_
  refine pG_callV (k2 := 190) (As := [.ref 0, .int (xs (i + 1)), .int (xs (i + 2)), .int (xs (i + 3))]) (rest := []) rfl rfl rfl rfl rfl (by rfl) (by decide) (f190_appeal_ok a1) ?_
  rintro r9 M9 ⟨rfl, rfl⟩
  show pG 339 1389 [some (.ref 2000000), some (.ref 0), some (.ref 211), some (.int (i3 i))] [.int v] (mjTo Z1) _
  refine pG_many 5 (pc1 := 1394) (L1 := [some (.ref 2000000), some (.ref 0), some (.ref 211), some (.int (i3 i))]) (st1 := [.int (i3 i + 1), .ref 2000000, .ref 211, .int v]) (M1 := mjTo Z1) rfl ?_
  refine pG_ials (j := i + 1) rfl s1.1 s1.2 (ix_c i 1) (by omega) hL ?_
  refine pG_many 4 (pc1 := 1399) (L1 := [some (.ref 2000000), some (.ref 0), some (.ref 211), some (.int (i3 i))]) (st1 := [.int (i3 i + 2), .ref 2000000, .int (xs (i + 1)), .ref 211, .int v]) (M1 := mjTo Z1) rfl ?_
  refine pG_ials (j := i + 2) rfl s1.1 s1.2 (ix_c i 2) (by omega) hL ?_
  refine pG_many 4 (pc1 := 1404) (L1 := [some (.ref 2000000), some (.ref 0), some (.ref 211), some (.int (i3 i))]) (st1 := [.int (i3 i + 3), .ref 2000000, .int (xs (i + 2)), .int (xs (i + 1)), .ref 211, .int v]) (M1 := mjTo Z1) rfl ?_
  refine pG_ials (j := i + 3) rfl s1.1 s1.2 (ix_c i 3) (by omega) hL ?_
  refine pG_callV (k2 := 320) (As := [.ref 211, .int (xs (i + 1)), .int (xs (i + 2)), .int (xs (i + 3))]) (rest := [.int v]) rfl rfl rfl rfl rfl (by rfl) (by decide) (f320_appeal_ok a2) ?_
  rintro r9 M9 ⟨rfl, rfl⟩
  show pG 339 1408 [some (.ref 2000000), some (.ref 0), some (.ref 211), some (.int (i3 i))] [.int v, .int v] (mjTo Z2) _
  refine pG_cmt (t := 1502) rfl rfl (by simp [mjCmp]) ?_
  exact tail _ ⟨a3, s2⟩
set_option maxRecDepth 100000 in
theorem br_39 (h : lpR LL xs Z) (hi : i + 6 ≤ LL) (hL : LL ≤ 3072) (tail : ∀ Z2, lpR LL xs Z2 → pG 339 1502 [some (.ref 2000000), some (.ref 0), some (.ref 211), some (.int (i3 i))] [] (mjTo Z2) F) : pG 339 1413 [some (.ref 2000000), some (.ref 0), some (.ref 211), some (.int (i3 i))] [] (mjTo Z) F := by
  obtain ⟨v, Z1, Z2, a1, a2, a3, a4, a5⟩ := o_waive h.1 (xs (i + 1))
  have s0 := h.2
  have s1 := lp_1 h a4
  have s2 := lp_1 h a5
  refine pG_many 5 (pc1 := 1418) (L1 := [some (.ref 2000000), some (.ref 0), some (.ref 211), some (.int (i3 i))]) (st1 := [.int (i3 i + 1), .ref 2000000, .ref 0]) (M1 := mjTo Z) rfl ?_
  refine pG_ials (j := i + 1) rfl s0.1 s0.2 (ix_c i 1) (by omega) hL ?_
  refine pG_callV (k2 := 191) (As := [.ref 0, .int (xs (i + 1))]) (rest := []) rfl rfl rfl rfl rfl (by rfl) (by decide) (f191_waive_ok a1) ?_
  rintro r9 M9 ⟨rfl, rfl⟩
  show pG 339 1422 [some (.ref 2000000), some (.ref 0), some (.ref 211), some (.int (i3 i))] [.int v] (mjTo Z1) _
  refine pG_many 5 (pc1 := 1427) (L1 := [some (.ref 2000000), some (.ref 0), some (.ref 211), some (.int (i3 i))]) (st1 := [.int (i3 i + 1), .ref 2000000, .ref 211, .int v]) (M1 := mjTo Z1) rfl ?_
  refine pG_ials (j := i + 1) rfl s1.1 s1.2 (ix_c i 1) (by omega) hL ?_
  refine pG_callV (k2 := 321) (As := [.ref 211, .int (xs (i + 1))]) (rest := [.int v]) rfl rfl rfl rfl rfl (by rfl) (by decide) (f321_waive_ok a2) ?_
  rintro r9 M9 ⟨rfl, rfl⟩
  show pG 339 1431 [some (.ref 2000000), some (.ref 0), some (.ref 211), some (.int (i3 i))] [.int v, .int v] (mjTo Z2) _
  refine pG_cmt (t := 1502) rfl rfl (by simp [mjCmp]) ?_
  exact tail _ ⟨a3, s2⟩
set_option maxRecDepth 100000 in
theorem br_40 (h : lpR LL xs Z) (hi : i + 6 ≤ LL) (hL : LL ≤ 3072) (tail : ∀ Z2, lpR LL xs Z2 → pG 339 1502 [some (.ref 2000000), some (.ref 0), some (.ref 211), some (.int (i3 i))] [] (mjTo Z2) F) : pG 339 1436 [some (.ref 2000000), some (.ref 0), some (.ref 211), some (.int (i3 i))] [] (mjTo Z) F := by
  obtain ⟨v, Z1, Z2, a1, a2, a3, a4, a5⟩ := o_measure h.1 (xs (i + 1)) (xs (i + 2)) (xs (i + 3)) (xs (i + 4))
  have s0 := h.2
  have s1 := lp_1 h a4
  have s2 := lp_1 h a5
  refine pG_many 5 (pc1 := 1441) (L1 := [some (.ref 2000000), some (.ref 0), some (.ref 211), some (.int (i3 i))]) (st1 := [.int (i3 i + 1), .ref 2000000, .ref 0]) (M1 := mjTo Z) rfl ?_
  refine pG_ials (j := i + 1) rfl s0.1 s0.2 (ix_c i 1) (by omega) hL ?_
  refine pG_many 4 (pc1 := 1446) (L1 := [some (.ref 2000000), some (.ref 0), some (.ref 211), some (.int (i3 i))]) (st1 := [.int (i3 i + 2), .ref 2000000, .int (xs (i + 1)), .ref 0]) (M1 := mjTo Z) rfl ?_
  refine pG_ials (j := i + 2) rfl s0.1 s0.2 (ix_c i 2) (by omega) hL ?_
  refine pG_many 4 (pc1 := 1451) (L1 := [some (.ref 2000000), some (.ref 0), some (.ref 211), some (.int (i3 i))]) (st1 := [.int (i3 i + 3), .ref 2000000, .int (xs (i + 2)), .int (xs (i + 1)), .ref 0]) (M1 := mjTo Z) rfl ?_
  refine pG_ials (j := i + 3) rfl s0.1 s0.2 (ix_c i 3) (by omega) hL ?_
  refine pG_many 4 (pc1 := 1456) (L1 := [some (.ref 2000000), some (.ref 0), some (.ref 211), some (.int (i3 i))]) (st1 := [.int (i3 i + 4), .ref 2000000, .int (xs (i + 3)), .int (xs (i + 2)), .int (xs (i + 1)), .ref 0]) (M1 := mjTo Z) rfl ?_
  refine pG_ials (j := i + 4) rfl s0.1 s0.2 (ix_c i 4) (by omega) hL ?_
  refine pG_callV (k2 := 192) (As := [.ref 0, .int (xs (i + 1)), .int (xs (i + 2)), .int (xs (i + 3)), .int (xs (i + 4))]) (rest := []) rfl rfl rfl rfl rfl (by rfl) (by decide) (f192_measure_ok a1) ?_
  rintro r9 M9 ⟨rfl, rfl⟩
  show pG 339 1460 [some (.ref 2000000), some (.ref 0), some (.ref 211), some (.int (i3 i))] [.int v] (mjTo Z1) _
  refine pG_many 5 (pc1 := 1465) (L1 := [some (.ref 2000000), some (.ref 0), some (.ref 211), some (.int (i3 i))]) (st1 := [.int (i3 i + 1), .ref 2000000, .ref 211, .int v]) (M1 := mjTo Z1) rfl ?_
  refine pG_ials (j := i + 1) rfl s1.1 s1.2 (ix_c i 1) (by omega) hL ?_
  refine pG_many 4 (pc1 := 1470) (L1 := [some (.ref 2000000), some (.ref 0), some (.ref 211), some (.int (i3 i))]) (st1 := [.int (i3 i + 2), .ref 2000000, .int (xs (i + 1)), .ref 211, .int v]) (M1 := mjTo Z1) rfl ?_
  refine pG_ials (j := i + 2) rfl s1.1 s1.2 (ix_c i 2) (by omega) hL ?_
  refine pG_many 4 (pc1 := 1475) (L1 := [some (.ref 2000000), some (.ref 0), some (.ref 211), some (.int (i3 i))]) (st1 := [.int (i3 i + 3), .ref 2000000, .int (xs (i + 2)), .int (xs (i + 1)), .ref 211, .int v]) (M1 := mjTo Z1) rfl ?_
  refine pG_ials (j := i + 3) rfl s1.1 s1.2 (ix_c i 3) (by omega) hL ?_
  refine pG_many 4 (pc1 := 1480) (L1 := [some (.ref 2000000), some (.ref 0), some (.ref 211), some (.int (i3 i))]) (st1 := [.int (i3 i + 4), .ref 2000000, .int (xs (i + 3)), .int (xs (i + 2)), .int (xs (i + 1)), .ref 211, .int v]) (M1 := mjTo Z1) rfl ?_
  refine pG_ials (j := i + 4) rfl s1.1 s1.2 (ix_c i 4) (by omega) hL ?_
  refine pG_callV (k2 := 322) (As := [.ref 211, .int (xs (i + 1)), .int (xs (i + 2)), .int (xs (i + 3)), .int (xs (i + 4))]) (rest := [.int v]) rfl rfl rfl rfl rfl (by rfl) (by decide) (f322_measure_ok a2) ?_
  rintro r9 M9 ⟨rfl, rfl⟩
  show pG 339 1484 [some (.ref 2000000), some (.ref 0), some (.ref 211), some (.int (i3 i))] [.int v, .int v] (mjTo Z2) _
  refine pG_cmt (t := 1502) rfl rfl (by simp [mjCmp]) ?_
  exact tail _ ⟨a3, s2⟩
set_option maxRecDepth 100000 in
theorem br_41 (h : lpR LL xs Z) (hi : i + 6 ≤ LL) (hL : LL ≤ 3072) (tail : ∀ Z2, lpR LL xs Z2 → pG 339 1502 [some (.ref 2000000), some (.ref 0), some (.ref 211), some (.int (i3 i))] [] (mjTo Z2) F) : pG 339 1489 [some (.ref 2000000), some (.ref 0), some (.ref 211), some (.int (i3 i))] [] (mjTo Z) F := by
  obtain ⟨v, Z1, Z2, a1, a2, a3, a4, a5⟩ := o_undo h.1
  have s0 := h.2
  have s1 := lp_1 h a4
  have s2 := lp_1 h a5
  refine pG_many 1 (pc1 := 1490) (L1 := [some (.ref 2000000), some (.ref 0), some (.ref 211), some (.int (i3 i))]) (st1 := [.ref 0]) (M1 := mjTo Z) rfl ?_
  refine pG_callV (k2 := 193) (As := [.ref 0]) (rest := []) rfl rfl rfl rfl rfl (by rfl) (by decide) (f193_undo_ok a1) ?_
  rintro r9 M9 ⟨rfl, rfl⟩
  show pG 339 1493 [some (.ref 2000000), some (.ref 0), some (.ref 211), some (.int (i3 i))] [.int v] (mjTo Z1) _
  refine pG_many 1 (pc1 := 1494) (L1 := [some (.ref 2000000), some (.ref 0), some (.ref 211), some (.int (i3 i))]) (st1 := [.ref 211, .int v]) (M1 := mjTo Z1) rfl ?_
  refine pG_callV (k2 := 239) (As := [.ref 211]) (rest := [.int v]) rfl rfl rfl rfl rfl (by rfl) (by decide) (f239_undo_ok a2) ?_
  rintro r9 M9 ⟨rfl, rfl⟩
  show pG 339 1497 [some (.ref 2000000), some (.ref 0), some (.ref 211), some (.int (i3 i))] [.int v, .int v] (mjTo Z2) _
  refine pG_cmt (t := 1502) rfl rfl (by simp [mjCmp]) ?_
  exact tail _ ⟨a3, s2⟩
end LW
