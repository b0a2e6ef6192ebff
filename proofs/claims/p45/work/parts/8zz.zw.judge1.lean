/-! the law's judging: each act by each rule-/
section JG1
variable {Z Z2 : mjZt} {b N U a : Nat} {S : mjS} {E : Nat → Nat → Int}
theorem jg_wh (hi : cI9 Z b S N U E) (ha : a < sAll S) {r p M : Nat} (hr : r < sR S) (hp : p < 2) (K : Int32 → Int32 → Int32 → Int32 → mjZt → Option (Int32 × mjZt)) (x1 x3 : Int32) : ∃ Z2, eqQ Z Z2 ∧ f701_judged_h106 K (M + 1) x1 (i3 (a : Nat)) x3 (i3 (r : Nat)) (i3 (p : Nat)) Z = f701_judged_h106 K M x1 (i3 (a : Nat)) x3 (i3 (r : Nat)) (i3 ((p + 1 : Nat) : Int)) Z2 := by
  obtain ⟨Z2, e, h⟩ := x_why hi ha hr hp
  refine ⟨Z2, e, ?_⟩
  rw [f701_judged_h106, if_neg (by rw [show (2 : Int32) = i3 2 from rfl, c_ge (by omega)]; omega), i3_s]
  rcases h with ⟨_, h⟩ | ⟨hlt, v, h1, h2, h⟩
  · rw [h, mjBd_some, if_pos (by decide)]
  · have hoc := hi.2.2.2.2.2.2.1
    have c6 := (hoc r p hr hp).2.2.2.2.2 hlt
    have hc := c6.2
    rw [h, mjBd_some, if_neg (by rw [show (-2000000 : Int32) = i3 (-2000000) from rfl, c_eq (by omega)]; omega), if_neg (by rw [show (1 : Int32) = i3 1 from rfl, c_lt (by omega)]; omega), x_rulep (cI_q hi e) hr hp hlt, mjBp_some, if_pos (by rw [c_le (by omega)]; exact h2)]
theorem jg_why (hi : cI9 Z b S N U E) (ha : a < sAll S) {r : Nat} (hr : r < sR S) (K : Int32 → Int32 → Int32 → Int32 → mjZt → Option (Int32 × mjZt)) (x1 x3 : Int32) : ∃ Z2, eqQ Z Z2 ∧ f701_judged_h106 K mjF x1 (i3 (a : Nat)) x3 (i3 (r : Nat)) 0 Z = K x1 (i3 (a : Nat)) x3 (i3 (r : Nat)) Z2 := by
  obtain ⟨Z1, e1, h1⟩ := jg_wh (M := 19999) hi ha hr (p := 0) (by omega) K x1 x3
  obtain ⟨Z2, e2, h2⟩ := jg_wh (M := 19998) (cI_q hi e1) ha hr (p := 1) (by omega) K x1 x3
  refine ⟨Z2, eqQ_tr e1 e2, ?_⟩
  have h1' : f701_judged_h106 K mjF x1 (i3 (a : Nat)) x3 (i3 (r : Nat)) 0 Z = f701_judged_h106 K 19999 x1 (i3 (a : Nat)) x3 (i3 (r : Nat)) (i3 ((0 + 1 : Nat) : Int)) Z1 := h1
  have h2' : f701_judged_h106 K 19999 x1 (i3 (a : Nat)) x3 (i3 (r : Nat)) (i3 ((0 + 1 : Nat) : Int)) Z1 = f701_judged_h106 K 19998 x1 (i3 (a : Nat)) x3 (i3 (r : Nat)) (i3 ((1 + 1 : Nat) : Int)) Z2 := h2
  rw [h1', h2', show (19998 : Nat) = 19997 + 1 from rfl, f701_judged_h106, if_pos (by decide)]
theorem jg_blk (hi : cI9 Z b S N U E) (ha : a < sAll S) {r : Nat} (hr : r < sR S) (hs : sSt S (sW S) a (sTe S a) (sSz S a) r = true) : ∃ Z2, eqQ Z Z2 ∧ ∀ M : mjZt → Option (Int32 × mjZt), (mjBp (f172_rule (i3 (r : Nat)) 0 Z) fun v228 => mjBp (f170_act (i3 (a : Nat)) 0 Z) fun v231 => if mjCmp .ne v228 v231 = true then some (0, Z) else mjBd (f174_holds (i3 (r : Nat)) 0 (i3 (a : Nat)) Z) fun v235 Z236 => if mjCmp .ne v235 1 = true then some (0, Z236) else mjBd (f174_holds (i3 (r : Nat)) 1 (i3 (a : Nat)) Z236) fun v239 Z240 => if mjCmp .ne v239 1 = true then M Z240 else some (0, Z240)) = M Z2 := by
  have ho := hi.2.2.2.2.2.1
  have hoc := hi.2.2.2.2.2.2.1
  have rl := ok_rl ho hr
  unfold sSt at hs
  rw [Bool.and_eq_true, Bool.and_eq_true, Bool.and_eq_true] at hs
  obtain ⟨s1, s2, s3, s4⟩ := hs
  have kd9 : sKd S a = S 7 r := of_decide_eq_true s2
  have t0 := (hoc r 0 hr (by omega)).2.2.2.2.1 rfl
  obtain ⟨Z1, e1, h1⟩ := x_holds hi ha hr (p := 0) (by omega)
  have h1' : f174_holds (i3 (r : Nat)) 0 (i3 (a : Nat)) Z = some (1, Z1) := by
    rw [if_pos t0, if_pos s3] at h1; exact h1
  obtain ⟨Z2, e2, h2⟩ := x_holds (cI_q hi e1) ha hr (p := 1) (by omega)
  have h2' : f174_holds (i3 (r : Nat)) 1 (i3 (a : Nat)) Z1 = some (if sFr S r 1 < sTo S r 1 then (if sHo S (sFk S (sW S) a (sTe S a) (sSz S a)) r 1 = true then 1 else 0) else -2000000, Z2) := h2
  refine ⟨Z2, eqQ_tr e1 e2, fun M => ?_⟩
  rw [x_rule0 hi hr, mjBp_some, x_act0 hi ha, mjBp_some, kd9, if_neg (by rw [c_ne (by omega)]; omega), h1', mjBd_some, if_neg (by decide), h2', mjBd_some]
  by_cases q : sFr S r 1 < sTo S r 1
  · have q2 : ¬ sHo S (sFk S (sW S) a (sTe S a) (sSz S a)) r 1 = true := fun g => by
      have hx : hasEx S r = true := decide_eq_true q
      rw [hx, g] at s4
      exact absurd s4 (by decide)
    rw [if_pos q, if_neg q2, if_pos (by decide)]
  · rw [if_neg q, if_pos (by decide)]
theorem jg_rules (ha : a < sAll S) (K : Int32 → Int32 → Int32 → mjZt → Option (Int32 × mjZt)) : ∀ f r M (Z : mjZt) (x : Nat), r + f = sR S → f < M → (x = 0 ∨ x = 1) → cI9 Z b S N U E → ∃ (Z2 : mjZt) (y : Nat), eqQ Z Z2 ∧ (y = 0 ∨ (y = 1 ∧ (x = 1 ∨ ∃ j, j < sR S ∧ sSt S (sW S) a (sTe S a) (sSz S a) j = true))) ∧ f701_judged_h24 K M (i3 (sR S)) (i3 (a : Nat)) (i3 (x : Nat)) (i3 (r : Nat)) Z = K (i3 (sR S)) (i3 (a : Nat)) (i3 (y : Nat)) Z2
  | 0, r, M, Z, x, he, hM, hx, hi => by
    obtain ⟨M, rfl⟩ : ∃ N0, M = N0 + 1 := ⟨M - 1, by omega⟩
    have o1 := ok_sc hi.2.2.2.2.2.1
    refine ⟨Z, x, eqQ_rf, by omega, ?_⟩
    rw [f701_judged_h24, if_pos (by rw [c_ge (by omega)]; omega)]
  | f + 1, r, M, Z, x, he, hM, hx, hi => by
    obtain ⟨M, rfl⟩ : ∃ N0, M = N0 + 1 := ⟨M - 1, by omega⟩
    have o1 := ok_sc hi.2.2.2.2.2.1
    have hr : r < sR S := by omega
    rw [f701_judged_h24, if_neg (by rw [c_ge (by omega)]; omega), x_struckBy hi ha hr, mjBp_some]
    -- what follows the whys
    have go : ∀ (Y : mjZt) (y : Nat), eqQ Z Y → (y = 0 ∨ y = 1) → (y = 1 → x = 1 ∨ sSt S (sW S) a (sTe S a) (sSz S a) r = true) → ∃ (Z2 : mjZt) (w : Nat), eqQ Z Z2 ∧ (w = 0 ∨ (w = 1 ∧ (x = 1 ∨ ∃ j, j < sR S ∧ sSt S (sW S) a (sTe S a) (sSz S a) j = true))) ∧ f701_judged_h106 (fun x1_Z226 x2_Z226 x3_Z226 x4_Z226 Z226 => f701_judged_h24 K M x1_Z226 x2_Z226 x3_Z226 (x4_Z226 + 1) Z226) mjF (i3 (sR S)) (i3 (a : Nat)) (i3 (y : Nat)) (i3 (r : Nat)) 0 Y = K (i3 (sR S)) (i3 (a : Nat)) (i3 (w : Nat)) Z2 := by
      intro Y y eY hy hw
      obtain ⟨V, eV, hV⟩ := jg_why (cI_q hi eY) ha hr (fun x1_Z226 x2_Z226 x3_Z226 x4_Z226 Z226 => f701_judged_h24 K M x1_Z226 x2_Z226 x3_Z226 (x4_Z226 + 1) Z226) (i3 (sR S)) (i3 (y : Nat))
      obtain ⟨Z2, w, g1, g2, g3⟩ := jg_rules ha K f (r + 1) M V y (by omega) (by omega) hy (cI_q hi (eqQ_tr eY eV))
      refine ⟨Z2, w, eqQ_tr (eqQ_tr eY eV) g1, ?_, ?_⟩
      · rcases g2 with g2 | ⟨g2, g4⟩
        · exact Or.inl g2
        · refine Or.inr ⟨g2, ?_⟩
          rcases g4 with g4 | g4
          · rcases hw g4 with g5 | g5
            · exact Or.inl g5
            · exact Or.inr ⟨r, hr, g5⟩
          · exact Or.inr g4
      · rw [hV, i3_s]
        exact g3
    by_cases hs : sSt S (sW S) a (sTe S a) (sSz S a) r = true
    · obtain ⟨Y, eY, hY⟩ := jg_blk hi ha hr hs
      obtain ⟨Z2, w, g1, g2, g3⟩ := go Y 1 eY (Or.inr rfl) (fun _ => Or.inr hs)
      refine ⟨Z2, w, g1, g2, ?_⟩
      have g3' : f701_judged_h106 (fun x1_Z226 x2_Z226 x3_Z226 x4_Z226 Z226 => f701_judged_h24 K M x1_Z226 x2_Z226 x3_Z226 (x4_Z226 + 1) Z226) mjF (i3 (sR S)) (i3 (a : Nat)) 1 (i3 (r : Nat)) 0 Y = K (i3 (sR S)) (i3 (a : Nat)) (i3 (w : Nat)) Z2 := g3
      rw [if_pos hs]
      rcases hx with rfl | rfl
      · rw [if_neg (by decide), if_neg (by decide), if_neg (by decide), hY]
        exact g3'
      · rw [if_pos (by decide), if_neg (by decide), hY]
        exact g3'
    · rw [if_neg hs]
      obtain ⟨Z2, w, g1, g2, g3⟩ := go Z x eqQ_rf hx (fun e => Or.inl e)
      refine ⟨Z2, w, g1, g2, ?_⟩
      rcases hx with rfl | rfl
      · rw [if_neg (by decide), if_pos (by decide), if_pos (by decide)]
        exact g3
      · rw [if_pos (by decide), if_pos (by decide)]
        exact g3
theorem x_who0 {k : Nat} (hk : k < 5) : f182_who (i3 (k : Nat)) Z = some (Z.1 199 (4 + k)) := by
  rcases (by omega : k = 0 ∨ k = 1 ∨ k = 2 ∨ k = 3 ∨ k = 4) with rfl | rfl | rfl | rfl | rfl
  · unfold f182_who
    rw [if_neg (by decide), if_pos (by decide)]
  · unfold f182_who
    rw [if_neg (by decide), if_neg (by decide), if_pos (by decide)]
  · unfold f182_who
    rw [if_neg (by decide), if_neg (by decide), if_neg (by decide), if_pos (by decide)]
  · unfold f182_who
    rw [if_neg (by decide), if_neg (by decide), if_neg (by decide), if_neg (by decide), if_pos (by decide)]
  · unfold f182_who
    rw [if_neg (by decide), if_neg (by decide), if_neg (by decide), if_neg (by decide), if_neg (by decide), if_pos (by decide)]
theorem jg_acts : ∀ f a M (Z : mjZt), a + f = sAll S → f < M → cI9 Z b S N U E → ∃ Z2, eqQ Z Z2 ∧ f701_judged_h9 M (i3 (sR S)) (i3 (a : Nat)) Z = f701_judged_h210 mjF 0 0 Z2
  | 0, a, M, Z, he, hM, hi => by
    obtain ⟨M, rfl⟩ : ∃ N0, M = N0 + 1 := ⟨M - 1, by omega⟩
    have oa := all_le hi.2.2.2.2.2.1
    refine ⟨Z, eqQ_rf, ?_⟩
    rw [f701_judged_h9, x_ab6 hi.1 hi.2.1 hi.2.2.1, mjBp_some, if_pos (by rw [c_ge (by omega)]; omega)]
  | f + 1, a, M, Z, he, hM, hi => by
    obtain ⟨M, rfl⟩ : ∃ N0, M = N0 + 1 := ⟨M - 1, by omega⟩
    have ho := hi.2.2.2.2.2.1
    have o1 := ok_sc ho
    have oa := all_le ho
    have ha : a < sAll S := by omega
    obtain ⟨V, y, eV, hy, hV⟩ := jg_rules ha (fun x1_Z280 x2_Z280 x3_Z280 Z280 =>
        if mjCmp .eq x3_Z280 0 = true then
          f701_judged_h9 M x1_Z280 (x2_Z280 + 1) Z280
        else
          mjBp (f170_act x2_Z280 5 Z280) fun v283 =>
          if mjCmp .eq v283 1 = true then
            some (0, Z280)
          else
            mjBp (f182_who 0 Z280) fun v287 =>
            mjBp (f170_act x2_Z280 1 Z280) fun v290 =>
            if mjCmp .eq (((v287 : Int32) >>> ((v290 : Int32) &&& 31)) &&& 1) 1 = true then
              f701_judged_h9 M x1_Z280 (x2_Z280 + 1) Z280
            else
              some (0, Z280)
        ) (sR S) 0 mjF Z 0 (by omega) (by unfold mjF; omega) (Or.inl rfl) hi
    have hiV := cI_q hi eV
    obtain ⟨Z2, e2, h2⟩ := jg_acts f (a + 1) M V (by omega) (by omega) hiV
    refine ⟨Z2, eqQ_tr eV e2, ?_⟩
    have hV' : f701_judged_h24 (fun x1_Z280 x2_Z280 x3_Z280 Z280 =>
        if mjCmp .eq x3_Z280 0 = true then
          f701_judged_h9 M x1_Z280 (x2_Z280 + 1) Z280
        else
          mjBp (f170_act x2_Z280 5 Z280) fun v283 =>
          if mjCmp .eq v283 1 = true then
            some (0, Z280)
          else
            mjBp (f182_who 0 Z280) fun v287 =>
            mjBp (f170_act x2_Z280 1 Z280) fun v290 =>
            if mjCmp .eq (((v287 : Int32) >>> ((v290 : Int32) &&& 31)) &&& 1) 1 = true then
              f701_judged_h9 M x1_Z280 (x2_Z280 + 1) Z280
            else
              some (0, Z280)
        ) mjF (i3 (sR S)) (i3 (a : Nat)) 0 0 Z = (if mjCmp .eq (i3 (y : Nat)) 0 = true then
          f701_judged_h9 M (i3 (sR S)) (i3 (a : Nat) + 1) V
        else
          mjBp (f170_act (i3 (a : Nat)) 5 V) fun v283 =>
          if mjCmp .eq v283 1 = true then
            some (0, V)
          else
            mjBp (f182_who 0 V) fun v287 =>
            mjBp (f170_act (i3 (a : Nat)) 1 V) fun v290 =>
            if mjCmp .eq (((v287 : Int32) >>> ((v290 : Int32) &&& 31)) &&& 1) 1 = true then
              f701_judged_h9 M (i3 (sR S)) (i3 (a : Nat) + 1) V
            else
              some (0, V)) := hV
    rw [f701_judged_h9, x_ab6 hi.1 hi.2.1 hi.2.2.1, mjBp_some, if_neg (by rw [c_ge (by omega)]; omega), hV', i3_s]
    rcases hy with rfl | ⟨rfl, hy⟩
    · rw [if_pos (by decide)]
      exact h2
    · rcases hy with hy | ⟨j, hj, hs⟩
      · omega
      · have st : stk S (sW S) a = true := decide_eq_true (fI_yes (sR S) 0 j (by omega) (by omega) hs)
        have nw : ¬ sW S a = true := fun g => by
          unfold sSt at hs
          rw [g] at hs
          exact absurd hs (by simp)
        have tl := tmA_lt ho (a := a) ha
        have hv := hiV.2.2.2.2.1.2.2.2 (sTmA S a) (by omega)
        have hh : sHi S (sW S) (sAll S) (sTmA S a) = true := any_yes (sAll S) a ha (by
          show (stk S (sW S) a && decide (sTmA S a = sTmA S a)) = true
          rw [st, decide_eq_true rfl]; rfl)
        have w0 : f182_who 0 V = some (V.1 199 4) := x_who0 (k := 0) (by omega)
        rw [if_neg (by decide), x_act5 hiV ha, mjBp_some, if_neg nw, if_neg (by decide), w0, mjBp_some, x_act1 hiV ha, mjBp_some, show (1 : Int32) = i3 1 from rfl, bt_test (by omega), hv.1, hh, if_pos rfl, if_pos (by decide)]
        exact h2
end JG1
