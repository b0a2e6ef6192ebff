/-! the class is fed, and reads its book-/
def pk4 (c0 c1 c2 c3 : Int32) : Int32 := (((((((0 : Int32) <<< ((8 : Int32) &&& 31)) ||| c0) <<< ((8 : Int32) &&& 31)) ||| c1) <<< ((8 : Int32) &&& 31)) ||| c2) <<< ((8 : Int32) &&& 31) ||| c3
def tpC (Z : mjZt) (u : List Nat) : Prop := u.length ≤ 700 ∧ (∀ k, u.getD k 0 ≤ 255) ∧ Z.1 0 1 = i3 (u.length : Nat) ∧ ∀ k, Z.1 1 k = i3 (u.getD k 0 : Nat)
section FD9
variable {Z Z2 : mjZt} {b N n c Lg : Nat} {u : List Nat} {X : Nat → Nat}
theorem bt_by {k j : Nat} (h : k ≤ 255) (hj : j < 32) : bt (i3 (k : Nat)) j = (decide (j < 8) && k.testBit j) := by
  rw [bt_nat hj]
  by_cases q : j < 8
  · rw [decide_eq_true q, Bool.true_and]
  · rw [decide_eq_false q, Bool.false_and]
    exact tb_big (k := 8) (by omega) (by omega)
theorem bt_255 {j : Nat} (hj : j < 32) : bt (255 : Int32) j = decide (j < 8) := by
  have h := bt_by (k := 255) (j := j) (by omega) hj
  have e : bt (255 : Int32) j = bt (i3 ((255 : Nat) : Int)) j := rfl
  rw [e, h]
  by_cases q : j < 8
  · rw [decide_eq_true q, Bool.true_and]
    exact (by decide : ∀ j, j < 8 → (255 : Nat).testBit j = true) j q
  · rw [decide_eq_false q, Bool.false_and]
theorem sh8 (x : Int32) {i : Nat} (hi : i < 32) : bt (x <<< ((8 : Int32) &&& 31)) i = (decide (8 ≤ i) && bt x (i - 8)) := bt_shl (n := 8) (by omega) x hi
theorem pk_bt {a0 a1 a2 a3 i : Nat} (h0 : a0 ≤ 255) (h1 : a1 ≤ 255) (h2 : a2 ≤ 255) (h3 : a3 ≤ 255) (hi : i < 32) : bt (pk4 (i3 (a0 : Nat)) (i3 (a1 : Nat)) (i3 (a2 : Nat)) (i3 (a3 : Nat))) i = if i < 8 then a3.testBit i else if i < 16 then a2.testBit (i - 8) else if i < 24 then a1.testBit (i - 16) else a0.testBit (i - 24) := by
  unfold pk4
  have z : ∀ j, bt (0 : Int32) j = false := bt_0
  by_cases q1 : i < 8
  · rw [if_pos q1, bt_or, sh8 _ hi, decide_eq_false (show ¬ 8 ≤ i by omega), Bool.false_and, Bool.false_or, bt_by h3 hi, decide_eq_true q1, Bool.true_and]
  · rw [if_neg q1, bt_or, sh8 _ hi, decide_eq_true (show 8 ≤ i by omega), Bool.true_and, bt_by h3 hi, decide_eq_false q1, Bool.false_and, Bool.or_false, bt_or, sh8 _ (by omega)]
    by_cases q2 : i < 16
    · rw [if_pos q2, decide_eq_false (show ¬ 8 ≤ i - 8 by omega), Bool.false_and, Bool.false_or, bt_by h2 (by omega), decide_eq_true (show i - 8 < 8 by omega), Bool.true_and]
    · rw [if_neg q2, decide_eq_true (show 8 ≤ i - 8 by omega), Bool.true_and, bt_by h2 (by omega), decide_eq_false (show ¬ i - 8 < 8 by omega), Bool.false_and, Bool.or_false, bt_or, sh8 _ (by omega)]
      by_cases q3 : i < 24
      · rw [if_pos q3, decide_eq_false (show ¬ 8 ≤ i - 8 - 8 by omega), Bool.false_and, Bool.false_or, bt_by h1 (by omega), decide_eq_true (show i - 8 - 8 < 8 by omega), Bool.true_and, show i - 8 - 8 = i - 16 by omega]
      · rw [if_neg q3, decide_eq_true (show 8 ≤ i - 8 - 8 by omega), Bool.true_and, bt_by h1 (by omega), decide_eq_false (show ¬ i - 8 - 8 < 8 by omega), Bool.false_and, Bool.or_false, bt_or, sh8 _ (by omega), z, Bool.and_false, Bool.false_or, bt_by h0 (by omega), decide_eq_true (show i - 8 - 8 - 8 < 8 by omega), Bool.true_and, show i - 8 - 8 - 8 = i - 24 by omega]
theorem pk_get {a0 a1 a2 a3 j : Nat} (h0 : a0 ≤ 255) (h1 : a1 ≤ 255) (h2 : a2 ≤ 255) (h3 : a3 ≤ 255) (hj : j < 4) : ((pk4 (i3 (a0 : Nat)) (i3 (a1 : Nat)) (i3 (a2 : Nat)) (i3 (a3 : Nat))) >>> ((i3 ((8 * j : Nat) : Int)) &&& 31)) &&& 255 = i3 ((if j = 0 then a3 else if j = 1 then a2 else if j = 2 then a1 else a0 : Nat) : Int) := by
  refine bt_ext (fun i hi => ?_)
  rw [bt_and, bt_255 hi, bt_shr (by omega) _ hi, bt_by (by split <;> first | omega | (split <;> first | omega | (split <;> omega))) hi]
  by_cases q : i < 8
  · rw [decide_eq_true q, Bool.and_true, Bool.true_and, if_pos (by omega), pk_bt h0 h1 h2 h3 (by omega)]
    rcases (by omega : j = 0 ∨ j = 1 ∨ j = 2 ∨ j = 3) with e | e | e | e
    · rw [e, if_pos (by omega), if_pos rfl, show 8 * 0 + i = i by omega]
    · rw [e, if_neg (by omega), if_pos (by omega), if_neg (by decide), if_pos rfl, show 8 * 1 + i - 8 = i by omega]
    · rw [e, if_neg (by omega), if_neg (by omega), if_pos (by omega), if_neg (by decide), if_neg (by decide), if_pos rfl, show 8 * 2 + i - 16 = i by omega]
    · rw [e, if_neg (by omega), if_neg (by omega), if_neg (by omega), if_neg (by decide), if_neg (by decide), if_neg (by decide), show 8 * 3 + i - 24 = i by omega]
  · rw [decide_eq_false q, Bool.and_false, Bool.false_and]
theorem tp_one (h : tpC Z u) (hl : u.length < 700) {k : Nat} (hk : k ≤ 255) : tpC (zSi (zSi Z 1 u.length (i3 (k : Nat))) 0 1 (i3 ((u.length + 1 : Nat) : Int))) (u ++ [k]) := by
  obtain ⟨h1, h2, h3, h4⟩ := h
  have g : ∀ i, (u ++ [k]).getD i 0 = if i < u.length then u.getD i 0 else if i = u.length then k else 0 := fun i => by
    by_cases q : i < u.length
    · rw [if_pos q]; exact gd_l _ _ _ q
    · rw [if_neg q]
      by_cases q2 : i = u.length
      · rw [if_pos q2, q2]; exact gd_r _ _ _
      · rw [if_neg q2, List.getD_eq_getElem?_getD, List.getElem?_eq_none (by rw [List.length_append]; show u.length + 1 ≤ i; omega)]; rfl
  have g0 : ∀ i, u.length ≤ i → u.getD i 0 = 0 := fun i hi => by rw [List.getD_eq_getElem?_getD, List.getElem?_eq_none hi]; rfl
  have ll : (u ++ [k]).length = u.length + 1 := by rw [List.length_append]; rfl
  refine ⟨by rw [ll]; omega, fun i => ?_, by rw [ll, si_same], fun i => ?_⟩
  · have := h2 i
    rw [g i]; split <;> first | omega | (split <;> omega)
  · rw [si_obj _ _ _ _ (by omega), g i]
    by_cases q2 : i = u.length
    · rw [q2, si_same, if_neg (by omega), if_pos rfl]
    · rw [si_fld _ _ _ _ (by omega), h4 i]
      by_cases q : i < u.length
      · rw [if_pos q]
      · rw [if_neg q, if_neg q2, g0 i (by omega)]
theorem fd_st {x : Int32} {j M k : Nat} (h : tpC Z u) (hl : u.length < 700) (hj : j < 4) (hk : (x >>> ((i3 ((8 * j : Nat) : Int)) &&& 31)) &&& 255 = i3 (k : Nat)) : f148_feedNumber_h3 (M + 1) x (i3 ((8 * j : Nat) : Int)) Z = f148_feedNumber_h3 M x (i3 (((8 * j : Nat) : Int) - 8)) (zSi (zSi Z 1 u.length (i3 (k : Nat))) 0 1 (i3 ((u.length + 1 : Nat) : Int))) := by
  obtain ⟨h1, h2, h3, h4⟩ := h
  rw [f148_feedNumber_h3, h3, show (0 : Int32) = i3 0 from rfl, if_neg (by rw [c_lt (by omega)]; omega), if_neg (by rw [c_lt (by omega)]; omega), show (700 : Int32) = i3 700 from rfl, if_neg (by rw [c_ge (by omega)]; omega), if_pos (in_p (by omega)), ix_nat (by omega), hk, let_eq, si_obj _ _ _ _ (by omega), h3, i3_s, let_eq, show (-8 : Int32) = i3 (-8) from rfl, i3_add]
  rfl
theorem y_four {a0 a1 a2 a3 : Nat} (h0 : a0 ≤ 255) (h1 : a1 ≤ 255) (h2 : a2 ≤ 255) (h3 : a3 ≤ 255) (h : tpC Z u) (hl : u.length + 4 ≤ 700) : ∃ Z1, f148_feedNumber (pk4 (i3 (a0 : Nat)) (i3 (a1 : Nat)) (i3 (a2 : Nat)) (i3 (a3 : Nat))) Z = some ((), Z1) ∧ tpC Z1 (u ++ [a0, a1, a2, a3]) ∧ eqC Z Z1 := by
  have l1 : ∀ (v : List Nat) (k : Nat), (v ++ [k]).length = v.length + 1 := fun v k => by rw [List.length_append]; rfl
  have ec : ∀ (Y : mjZt) (k : Nat) (v w : Int32), eqC Y (zSi (zSi Y 1 k v) 0 1 w) := fun Y k v w => ⟨rfl, fun a g1 g2 => by rw [si_obj _ _ _ _ g1, si_obj _ _ _ _ g2]⟩
  have one : ∀ (Y : mjZt) (v : List Nat) (j M k : Nat) (z z2 : Int), tpC Y v → v.length < 700 → j < 4 → k ≤ 255 → ((8 * j : Nat) : Int) = z → ((8 * j : Nat) : Int) - 8 = z2 → k = (if j = 0 then a3 else if j = 1 then a2 else if j = 2 then a1 else a0) → ∃ Y1, f148_feedNumber_h3 (M + 1) (pk4 (i3 (a0 : Nat)) (i3 (a1 : Nat)) (i3 (a2 : Nat)) (i3 (a3 : Nat))) (i3 z) Y = f148_feedNumber_h3 M (pk4 (i3 (a0 : Nat)) (i3 (a1 : Nat)) (i3 (a2 : Nat)) (i3 (a3 : Nat))) (i3 z2) Y1 ∧ tpC Y1 (v ++ [k]) ∧ eqC Y Y1 := by
    intro Y v j M k z z2 hY hv hj hk hz hz2 e
    have g := pk_get h0 h1 h2 h3 hj
    rw [← e] at g
    have s := fd_st (M := M) hY hv hj g
    rw [hz2, hz] at s
    exact ⟨_, s, tp_one hY hv hk, ec _ _ _ _⟩
  obtain ⟨Y1, s1, t1, c1⟩ := one Z u 3 19999 a0 24 16 h (by omega) (by omega) h0 (by decide) (by decide) rfl
  obtain ⟨Y2, s2, t2, c2⟩ := one Y1 _ 2 19998 a1 16 8 t1 (by rw [l1]; omega) (by omega) h1 (by decide) (by decide) rfl
  obtain ⟨Y3, s3, t3, c3⟩ := one Y2 _ 1 19997 a2 8 0 t2 (by rw [l1, l1]; omega) (by omega) h2 (by decide) (by decide) rfl
  obtain ⟨Y4, s4, t4, c4⟩ := one Y3 _ 0 19996 a3 0 (-8) t3 (by rw [l1, l1, l1]; omega) (by omega) h3 (by decide) (by decide) rfl
  refine ⟨Y4, ?_, ?_, eqC_tr c1 (eqC_tr c2 (eqC_tr c3 c4))⟩
  · have e0 : f148_feedNumber (pk4 (i3 (a0 : Nat)) (i3 (a1 : Nat)) (i3 (a2 : Nat)) (i3 (a3 : Nat))) Z = f148_feedNumber_h3 (19999 + 1) (pk4 (i3 (a0 : Nat)) (i3 (a1 : Nat)) (i3 (a2 : Nat)) (i3 (a3 : Nat))) (i3 24) Z := rfl
    have s2' : f148_feedNumber_h3 19999 (pk4 (i3 (a0 : Nat)) (i3 (a1 : Nat)) (i3 (a2 : Nat)) (i3 (a3 : Nat))) (i3 16) Y1 = _ := s2
    have s3' : f148_feedNumber_h3 19998 (pk4 (i3 (a0 : Nat)) (i3 (a1 : Nat)) (i3 (a2 : Nat)) (i3 (a3 : Nat))) (i3 8) Y2 = _ := s3
    have s4' : f148_feedNumber_h3 19997 (pk4 (i3 (a0 : Nat)) (i3 (a1 : Nat)) (i3 (a2 : Nat)) (i3 (a3 : Nat))) (i3 0) Y3 = _ := s4
    rw [e0, s1, s2', s3', s4', show (19996 : Nat) = 19995 + 1 from rfl, f148_feedNumber_h3, if_pos (by decide)]
  · rw [List.append_assoc, List.append_assoc, List.append_assoc] at t4
    exact t4
/-- five numbers of four bytes-/
theorem y_feed {a : Nat → Nat} (ha : ∀ i, a i ≤ 255) (h : tpC Z u) (hl : u.length + 20 ≤ 700) : ∃ Z1, f149_feed (pk4 (i3 (a 0 : Nat)) (i3 (a 1 : Nat)) (i3 (a 2 : Nat)) (i3 (a 3 : Nat))) (pk4 (i3 (a 4 : Nat)) (i3 (a 5 : Nat)) (i3 (a 6 : Nat)) (i3 (a 7 : Nat))) (pk4 (i3 (a 8 : Nat)) (i3 (a 9 : Nat)) (i3 (a 10 : Nat)) (i3 (a 11 : Nat))) (pk4 (i3 (a 12 : Nat)) (i3 (a 13 : Nat)) (i3 (a 14 : Nat)) (i3 (a 15 : Nat))) (pk4 (i3 (a 16 : Nat)) (i3 (a 17 : Nat)) (i3 (a 18 : Nat)) (i3 (a 19 : Nat))) Z = some (i3 ((u.length + 20 : Nat) : Int), Z1) ∧ tpC Z1 (u ++ (List.range 20).map a) ∧ eqC Z Z1 := by
  have l4 : ∀ (v : List Nat) (x y z w : Nat), (v ++ [x, y, z, w]).length = v.length + 4 := fun v x y z w => by rw [List.length_append]; rfl
  obtain ⟨Z1, p1, q1, r1⟩ := y_four (ha 0) (ha 1) (ha 2) (ha 3) h (by omega)
  obtain ⟨Z2, p2, q2, r2⟩ := y_four (ha 4) (ha 5) (ha 6) (ha 7) q1 (by rw [l4]; omega)
  obtain ⟨Z3, p3, q3, r3⟩ := y_four (ha 8) (ha 9) (ha 10) (ha 11) q2 (by rw [l4, l4]; omega)
  obtain ⟨Z4, p4, q4, r4⟩ := y_four (ha 12) (ha 13) (ha 14) (ha 15) q3 (by rw [l4, l4, l4]; omega)
  obtain ⟨Z5, p5, q5, r5⟩ := y_four (ha 16) (ha 17) (ha 18) (ha 19) q4 (by rw [l4, l4, l4, l4]; omega)
  have e5 := q5.2.2.1
  rw [l4, l4, l4, l4, l4] at e5
  refine ⟨Z5, ?_, ?_, eqC_tr r1 (eqC_tr r2 (eqC_tr r3 (eqC_tr r4 r5)))⟩
  · unfold f149_feed
    rw [h.2.2.1, show (20 : Int32) = i3 20 from rfl, show (700 : Int32) = i3 700 from rfl, i3_add, if_pos (by rw [c_le (by omega)]; omega), p1, mjBd_some, p2, mjBd_some, p3, mjBd_some, p4, mjBd_some, p5, mjBd_some, e5]
  · have e : u ++ (List.range 20).map a = u ++ [a 0, a 1, a 2, a 3] ++ [a 4, a 5, a 6, a 7] ++ [a 8, a 9, a 10, a 11] ++ [a 12, a 13, a 14, a 15] ++ [a 16, a 17, a 18, a 19] := by
      rw [List.append_assoc, List.append_assoc, List.append_assoc, List.append_assoc]
      rfl
    rw [e]; exact q5
theorem y_end (h : tpC Z u) (hn : n ≤ u.length) : f150_end (i3 (n : Nat)) Z = some (i3 (n : Nat), zSi Z 0 1 (i3 (n : Nat))) := by
  have h1 := h.1
  unfold f150_end
  rw [h.2.2.1, show (0 : Int32) = i3 0 from rfl, if_neg (by rw [c_lt (by omega)]; omega), if_pos (by rw [c_le (by omega)]; omega), let_eq]
/-- the book-/
theorem y_book {a : mjK} {t : List Int32} {E : Nat → Nat → Int} (hb : Z.2.2.1 = b) (hb2 : b = 2 ∨ b = 92) (hn : n ≤ 700) (hX : ∀ k, X k ≤ 255) (t1 : ∀ k, Z.1 1 k = i3 (X k : Nat)) (hF : Z.1 0 1 = i3 (n : Nat)) (hz : spZ (94 - b) Z) (hN : N < 10) (hl : Z.1 209 1 = i3 (N : Nat)) (h : lnsW Lg c a t) (hc : c ≤ 500) (ht : t.length = n) (hx : ∀ i, i < t.length → X i = (nt t).getD i 0) : ∃ (Z1 : mjZt) (S : mjS), f152_book Z = some (i3 (c : Nat), Z1) ∧ cI9 Z1 (94 - b) S N 0 E ∧ fr9 Z Z1 := by
  have hbs : (94 - b = 2 ∨ 94 - b = 92) := by omega
  have unf : f152_book Z = mjBd (f128_read 1 (i3 (n : Nat)) (94 - b) Z) fun v Z1 => mjLet (zSi Z1 0 1 0) fun Z2 => if mjCmp .ne v (-1) = true then (if Z2.2.2.1 ≤ 94 then mjBd (f3_forget (zSw Z2)) fun _ Z3 => mjBd (f151_settleAll Z3) fun _ Z4 => some (v, Z4) else none) else some (-1, Z2) := by
    unfold f152_book
    rw [hb, if_pos (is_b hbs), hF]
  obtain ⟨R1, hR⟩ := rd_all hbs hn hX t1 h hc ht hx
  obtain ⟨Zm, hZm⟩ : ∃ Zm : mjZt, Zm = (fun a k => if a = 212 then i3 (X k : Nat) else if a = 211 then i3 (n : Nat) else 0, fun a j => if a = 213 then i6 (LK.getD j 0 : Nat) else i6 (LF.getD j 0 : Nat), 0, 0) := ⟨_, rfl⟩
  have hk : kfM Zm := by
    rw [hZm]
    exact ⟨fun j _ => rfl, fun j _ => rfl⟩
  rcases p_read hbs hn hX t1 hz (fun k => by rw [hZm]; rfl) (by rw [hZm]; rfl) hk with ⟨Zc1, Zm1, S2, x, a1, a2, a3, a4, a5, a6, a7, a8, a9, ⟨a10, a11⟩, ⟨m1, m2, m3, m4⟩, e1, e2⟩ | ⟨Zc1, Zm1, a1, a2, a3, a5, a6, a7, e1, e2⟩
  · have k1 := eqRo_k hbs e1
    have xc : i3 (x : Nat) = i3 (c : Nat) := by
      rw [hR] at a1
      exact (congrArg Prod.fst (Option.some.inj a1)).symm
    generalize hY : zSi (zSw (zSi Zc1 0 1 0)) 209 2 0 = Y
    have yo : ∀ a, a ≠ 0 → a ≠ 209 → Y.1 a = Zc1.1 a := fun a g1 g2 => by
      rw [← hY, si_obj _ _ _ _ g2]
      exact si_obj _ _ _ _ g1
    have yl : Y.2.1 = Zc1.2.1 := by rw [← hY]; rfl
    have y3 : Y.2.2.1 = 94 - b := by rw [← hY]; show 94 - Zc1.2.2.1 = 94 - b; rw [e1.1, hb]
    have yB : ∀ b', (b' = 2 ∨ b' = 92) → eqB b' Zc1 Y := fun b' g a g1 g2 => ⟨yo a (by omega) (by omega), by rw [yl]⟩
    have o2 := ok_sc a6
    obtain ⟨Z4, s1, s2, s3, s4, s5, s6, s7⟩ := e151 y3 (cBk_of ⟨o2.1, o2.2.1⟩ a4 (yB _ hbs)) (cTr_of a5 (yB _ hbs)) a6 a7
    have hfr : ∀ a, a ≠ 0 → a ≠ 209 → (a < 94 - b ∨ 94 - b + 90 ≤ a) → a ≠ 191 → a ≠ 192 → (a < 199 ∨ 203 < a) → Z4.1 a = Zc1.1 a ∧ Z4.2.1 a = Zc1.2.1 a := fun a g1 g2 g3 g4 g5 g6 => by
      obtain ⟨x1, x2⟩ := s3 a g3 g4 g5 g6
      rw [x1, x2, yo a g1 g2, yl]; exact ⟨rfl, rfl⟩
    have l209 : Z4.1 209 1 = i3 (N : Nat) ∧ Z4.1 209 2 = 0 := by
      have y209 : Y.1 209 1 = Zc1.1 209 1 := by rw [← hY, si_fld _ _ _ _ (by omega)]; show (zSi Zc1 0 1 0).1 209 1 = _; rw [si_obj _ _ _ _ (by omega)]
      have y2092 : Y.1 209 2 = 0 := by rw [← hY, si_same]
      obtain ⟨x1, x2⟩ := s3 209 (by omega) (by omega) (by omega) (by omega)
      rw [x1, y209, y2092, (k1 209 (by omega) (by omega) (by omega) (by omega) (by omega) (by omega)).1]
      exact ⟨hl, rfl⟩
    refine ⟨Z4, S2, ?_, ⟨by rw [s2, y3], s4, s5, s6, s7, a6, a7, hN, by omega, l209.1, l209.2, fun k g => by omega⟩, fun a g => ?_⟩
    · rw [unf, a1, mjBd_some, let_eq, show (-1 : Int32) = i3 (-1) from rfl, if_pos (by rw [c_ne (by omega)]; omega), if_pos (by show Zc1.2.2.1 ≤ 94; rw [e1.1, hb]; omega)]
      unfold f3_forget
      rw [let_eq, hY, mjBd_some, s1, mjBd_some, xc]
    · rw [(hfr a (by omega) (by omega) (by omega) (by omega) (by omega) (by omega)).1]
      exact (k1 a (by omega) (by omega) (by omega) (by omega) (by omega) (by omega)).1
  · exfalso
    rw [hR] at a1
    have e : i3 (c : Nat) = i3 (-1) := congrArg Prod.fst (Option.some.inj a1)
    have := congrArg Int32.toInt e
    rw [i3_int (by omega), i3_int (by omega)] at this
    omega
end FD9
