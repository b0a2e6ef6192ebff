/-! what the law's judging asks of the class, by value-/
section JV9
variable {Z Z2 : mjZt} {b N U : Nat} {S : mjS} {E : Nat → Nat → Int}
theorem cI_q (hi : cI9 Z b S N U E) (e : eqQ Z Z2) : cI9 Z2 b S N U E := by
  obtain ⟨hb, h, hd, htr, hv, ho, hoc, hl⟩ := hi
  have hb2 := b_b h
  have o1 := ok_sc ho
  have oa := all_le ho
  have ec : ∀ a, (199 ≤ a ∧ a ≤ 203) ∨ a = 209 ∨ a = 210 → Z2.1 a = Z.1 a := fun a g => (e.2.1 a (by unfold scr; omega) (by omega)).1
  obtain ⟨l1, l2, l3, l4, l5⟩ := hl
  exact ⟨by rw [e.1]; exact hb, cBk_of ⟨o1.1, o1.2.1⟩ h (eqQ_B hb2 e), cDr_of ⟨o1.1, oa⟩ hd (eqQ_B hb2 e), cTr_of htr (eqQ_B hb2 e), vRep_of hv (fun a g1 g2 => ec a (by omega)), ho, hoc, l1, l2, by rw [ec 209 (by omega)]; exact l3, by rw [ec 209 (by omega)]; exact l4, fun k g j gj => by rw [ec 210 (by omega)]; exact l5 k g j gj⟩
theorem fI_yes {p : Nat → Bool} : ∀ f i j, i ≤ j → j < i + f → p j = true → fI p f i ≠ -1
  | 0, i, j, h1, h2, _ => by omega
  | f + 1, i, j, h1, h2, h3 => by
    rw [fI]
    by_cases q : p i = true
    · rw [if_pos q]; omega
    · rw [if_neg q]
      exact fI_yes f (i + 1) j (by
        rcases Nat.lt_or_ge i j with g | g
        · omega
        · have : j = i := by omega
          rw [this] at h3; exact absurd h3 q) (by omega) h3
theorem any_yes {p : Nat → Bool} : ∀ n j, j < n → p j = true → anyN p n = true
  | 0, j, h, _ => by omega
  | n + 1, j, h, hp => by
    rw [anyN]
    by_cases q : j = n
    · rw [← q, hp, Bool.or_true]
    · rw [any_yes n j (by omega) hp, Bool.true_or]
theorem x_act0 (hi : cI9 Z b S N U E) {a : Nat} (ha : a < sAll S) : f170_act (i3 (a : Nat)) 0 Z = some (i3 (sKd S a)) := by
  obtain ⟨hb, h, hd, htr, hv, ho, hoc, hl⟩ := hi
  have oa := all_le ho
  have r := d_ac hd ha
  unfold f170_act
  rw [hb, if_pos (is_b (b_b h)), e17t h hd ho ha, mjBp_some, if_pos (by decide), e6 (b_b h) (by omega), mjBp_some, if_neg (by decide), if_pos (by decide), if_pos (is_ac (b_b h) a (by omega)), r.1]
theorem x_act1 (hi : cI9 Z b S N U E) {a : Nat} (ha : a < sAll S) : f170_act (i3 (a : Nat)) 1 Z = some (i3 (sTmA S a)) := by
  obtain ⟨hb, h, hd, htr, hv, ho, hoc, hl⟩ := hi
  have oa := all_le ho
  have r := d_ac hd ha
  unfold f170_act
  rw [hb, if_pos (is_b (b_b h)), e17t h hd ho ha, mjBp_some, if_pos (by decide), e6 (b_b h) (by omega), mjBp_some, if_neg (by decide), if_neg (by decide), if_pos (by decide), if_pos (is_ac (b_b h) a (by omega)), r.2.1]
theorem x_act5 (hi : cI9 Z b S N U E) {a : Nat} (ha : a < sAll S) : f170_act (i3 (a : Nat)) 5 Z = some (if sW S a = true then 1 else 0) := by
  obtain ⟨hb, h, hd, htr, hv, ho, hoc, hl⟩ := hi
  have oa := all_le ho
  unfold f170_act
  rw [hb, if_pos (is_b (b_b h)), e17t h hd ho ha, mjBp_some, if_pos (by decide), e6 (b_b h) (by omega), mjBp_some, if_neg (by decide), if_neg (by decide), if_neg (by decide), if_neg (by decide), if_neg (by decide), if_neg (by decide), if_pos (by decide), show (1 : Int64) = i6 1 from rfl, b6_test (by omega), b_wv h (by omega)]
  by_cases q : sW S a = true
  · have q2 : a < sA S ∧ S 3 (72 + 3 * a + 2) = 1 := of_decide_eq_true q
    rw [if_pos q, if_pos (decide_eq_true q2), if_neg (by decide)]
  · have q2 : ¬ (a < sA S ∧ S 3 (72 + 3 * a + 2) = 1) := fun g => q (decide_eq_true g)
    rw [if_neg q, if_neg (fun g => q2 (of_decide_eq_true g)), if_pos (by decide)]
theorem x_rule0 (hi : cI9 Z b S N U E) {r : Nat} (hr : r < sR S) : f172_rule (i3 (r : Nat)) 0 Z = some (i3 (S 7 r)) := by
  obtain ⟨hb, h, hd, htr, hv, ho, hoc, hl⟩ := hi
  unfold f172_rule
  rw [hb, if_pos (is_b (b_b h)), e16t h ho hr, mjBp_some, if_pos (by decide), if_neg (by decide), if_pos (by decide), e20 h ho hr, mjBp_some]
theorem x_rulep (hi : cI9 Z b S N U E) {r p : Nat} (hr : r < sR S) (hp : p < 2) (hlt : sFr S r p < sTo S r p) : f172_rule (i3 (r : Nat)) (1 + i3 (p : Nat)) Z = some (i3 (ciS S (sFr S r p) (sTo S r p))) := by
  obtain ⟨hb, h, hd, htr, hv, ho, hoc, hl⟩ := hi
  have hb2 := b_b h
  have o1 := ok_sc ho
  have t := (htr r p hr hp).2
  rw [if_pos hlt] at t
  have e := e129 (Z := Z) hb2 (r := r) (by omega) hp
  have e' := e92 hb2 ho hoc htr hr hp
  rw [if_pos hlt] at e'
  rw [t.2.2] at e
  unfold f172_rule
  rcases (by omega : p = 0 ∨ p = 1) with rfl | rfl
  · have e2 : f129_comparisonsOf (b + 1) (i3 (r : Nat)) 0 Z = some (i3 (ciS S (sFr S r 0) (sTo S r 0))) := e
    rw [hb, if_pos (is_b hb2), e16t h ho hr, mjBp_some, if_pos (by decide), if_neg (by decide), if_neg (by decide), if_pos (by decide), if_pos (is_b1 hb2), e2, mjBp_some]
  · have e2 : f129_comparisonsOf (b + 1) (i3 (r : Nat)) 1 Z = some (i3 (ciS S (sFr S r 1) (sTo S r 1))) := e
    have e3 : f92_isTold (b + 1) (i3 (r : Nat)) 1 Z = some (i3 1) := e'
    rw [hb, if_pos (is_b hb2), e16t h ho hr, mjBp_some, if_pos (by decide), if_neg (by decide), if_neg (by decide), if_neg (by decide), if_pos (by decide), if_pos (is_b1 hb2), e3, mjBp_some, if_neg (by decide), e2, mjBp_some]
theorem x_struckBy (hi : cI9 Z b S N U E) {a r : Nat} (ha : a < sAll S) (hr : r < sR S) : f176_struckBy (i3 (a : Nat)) (i3 (r : Nat)) Z = some (if sSt S (sW S) a (sTe S a) (sSz S a) r = true then 1 else 0) := by
  obtain ⟨hb, h, hd, htr, hv, ho, hoc, hl⟩ := hi
  have hb2 := b_b h
  have o1 := ok_sc ho
  unfold f176_struckBy
  rw [hb, if_pos (is_b hb2), e17t h hd ho ha, mjBp_some, if_neg (by decide), e16t h ho hr, mjBp_some, if_pos (by decide), e142 ho hv (by omega) ha, mjBp_some, show (1 : Int32) = i3 1 from rfl, bt_test (by omega), hv.1 a ha r (by omega), decide_eq_true hr, Bool.true_and]
  by_cases q : sSt S (sW S) a (sTe S a) (sSz S a) r = true
  · rw [if_pos q, if_pos q]
  · rw [if_neg q, if_neg q]; rfl
theorem x_can (hi : cI9 Z b S N U E) {a r p : Nat} (ha : a < sAll S) (hr : r < sR S) (hp : p < 2) : f173_canHold (i3 (r : Nat)) (i3 (p : Nat)) (i3 (a : Nat)) Z = some (if sFr S r p < sTo S r p then 1 else 0) := by
  obtain ⟨hb, h, hd, htr, hv, ho, hoc, hl⟩ := hi
  have hb2 := b_b h
  have e := e92 hb2 ho hoc htr hr hp
  unfold f173_canHold
  rw [hb, if_pos (is_b hb2), e16t h ho hr, mjBp_some, if_neg (by decide), e17t h hd ho ha, mjBp_some, if_neg (by decide), if_pos (is_b1 hb2), e, mjBp_some]
  by_cases q : sFr S r p < sTo S r p
  · rw [if_pos q, if_pos q, if_neg (by decide)]
  · rw [if_neg q, if_neg q, if_pos (by decide)]
theorem x_holds (hi : cI9 Z b S N U E) {a r p : Nat} (ha : a < sAll S) (hr : r < sR S) (hp : p < 2) : ∃ Z2, eqQ Z Z2 ∧ f174_holds (i3 (r : Nat)) (i3 (p : Nat)) (i3 (a : Nat)) Z = some (if sFr S r p < sTo S r p then (if sHo S (sFk S (sW S) a (sTe S a) (sSz S a)) r p = true then 1 else 0) else -2000000, Z2) := by
  have c := x_can hi ha hr hp
  obtain ⟨hb, h, hd, htr, hv, ho, hoc, hl⟩ := hi
  have hb2 := b_b h
  unfold f174_holds
  rw [c, mjBp_some]
  by_cases hlt : sFr S r p < sTo S r p
  · have hf := fk_bd ho (W := sW S) ha (te_bd ho ha) (sz := sSz S a) (by have := sz_bd ho ha; omega)
    obtain ⟨Z1, r1, r2, r3⟩ := e75 h hd ho ha
    have hb1 : Z1.2.2.1 = b := by rw [r2.1, hb]
    obtain ⟨Z2, s1, s2, _⟩ := e85 hb2 ho hoc hf (cTr_of htr (eqQ_B hb2 (eqF_q r2))) hr hp hlt r3
    refine ⟨Z2, eqQ_tr (eqF_q r2) (eqV_q s2), ?_⟩
    rw [if_pos hlt, if_pos hlt, if_pos (by decide), hb, r1, mjBd_some, hb1, if_pos (is_b hb2), s1, mjBd_some]
    unfold sHo
    by_cases q : vS S (sFk S (sW S) a (sTe S a) (sSz S a)) (sTo S r p - 1) = 1
    · rw [if_pos q, if_neg (by decide), if_pos (decide_eq_true q)]
    · rw [if_neg q, if_pos (by decide), if_neg (fun g => q (of_decide_eq_true g))]
  · refine ⟨Z, eqQ_rf, ?_⟩
    rw [if_neg hlt, if_neg hlt, if_neg (by decide)]
theorem yw_one {fk : Nat → Int} {fr to : Nat} (hw : WF S fr to) : ∀ n e, e < n → fr ≤ e → e < to → isTt (S 9 e) = true → 1 ≤ (ywS S fk e).2
  | 0, e, hn, _, _, _ => by omega
  | n + 1, e, hn, h1, h2, ht => by
    obtain ⟨g1, g2, g3⟩ := hw.2.2.2 e h1 h2
    have ht' : 30 ≤ S 9 e ∧ S 9 e ≤ 42 := of_decide_eq_true ht
    have nl : isLf (S 9 e) = false := decide_eq_false (by omega)
    by_cases q : S 9 e = 40
    · obtain ⟨g4, g5, g6⟩ := g2 q
      have := yw_one (fk := fk) hw n (e - 1) (by omega) (by omega) (by omega) g5
      rw [show ywS S fk e = ywS S fk (e - 1) from tS_not q (by omega)]
      exact this
    · obtain ⟨g4, g5, g6, g7, g8, g9⟩ := g3 nl q
      rw [show ywS S fk e = ywB S fk e (ywS S fk (lfS S e)) (ywS S fk (e - 1)) from tS_bin nl q (by omega)]
      unfold ywB
      by_cases q2 : 40 < S 9 e
      · obtain ⟨t1, t2⟩ := g9 q2
        have sl := sp_le S (e - 1)
        have sl2 := sp_le S (lfS S e)
        have lf : lfS S e < e := by unfold lfS; omega
        have i1 := yw_one (fk := fk) hw n (e - 1) (by omega) (by omega) (by omega) t1
        have i2 := yw_one (fk := fk) hw n (lfS S e) (by omega) (by omega) (by omega) t2
        rw [if_pos q2]
        split
        · split
          · exact i1
          · exact i2
        · show 1 ≤ (ywS S fk (lfS S e)).2 + (ywS S fk (e - 1)).2
          omega
      · have cm : isCm (S 9 e) = true := by
          have : cdv (S 9 e) := g1
          unfold cdv at this
          exact decide_eq_true (by omega)
        rw [if_neg q2, if_pos cm]
        exact Int.le_refl _
theorem x_why (hi : cI9 Z b S N U E) {a r p : Nat} (ha : a < sAll S) (hr : r < sR S) (hp : p < 2) : ∃ Z2, eqQ Z Z2 ∧ ((¬ sFr S r p < sTo S r p ∧ f175_why (i3 (r : Nat)) (i3 (p : Nat)) (i3 (a : Nat)) (-1) Z = some (-2000000, Z2)) ∨ (sFr S r p < sTo S r p ∧ ∃ v : Int, 1 ≤ v ∧ v ≤ ciS S (sFr S r p) (sTo S r p) ∧ f175_why (i3 (r : Nat)) (i3 (p : Nat)) (i3 (a : Nat)) (-1) Z = some (i3 v, Z2))) := by
  have c := x_can hi ha hr hp
  obtain ⟨hb, h, hd, htr, hv, ho, hoc, hl⟩ := hi
  have hb2 := b_b h
  unfold f175_why
  rw [c, mjBp_some]
  by_cases hlt : sFr S r p < sTo S r p
  · obtain ⟨_, _, c3, c4, _, c6⟩ := hoc r p hr hp
    have hw := (c6 hlt).1
    have hf := fk_bd ho (W := sW S) ha (te_bd ho ha) (sz := sSz S a) (by have := sz_bd ho ha; omega)
    obtain ⟨Z1, r1, r2, r3⟩ := e75 h hd ho ha
    have hb1 : Z1.2.2.1 = b := by rw [r2.1, hb]
    have tr1 := cTr_of htr (eqQ_B hb2 (eqF_q r2))
    obtain ⟨Z2, s1, s2, s3⟩ := e85 hb2 ho hoc hf tr1 hr hp hlt r3
    have hb3 : Z2.2.2.1 = b := by rw [s2.2.1, hb1]
    obtain ⟨Z3, t1, t2⟩ := e91 hb2 ho hoc hf (cTr_of tr1 (eqQ_B hb2 (eqV_q s2))) hr hp hlt s3 (x := -1) (by omega)
    have t1' : f91_reason (b + 1) (i3 (r : Nat)) (i3 (p : Nat)) (-1) Z2 = some (i3 (enK (fun k => isCm (S 9 k) && (ywS S (sFk S (sW S) a (sTe S a) (sSz S a)) (sTo S r p - 1)).1 k) (ciS S (sFr S r p)) (-1) (sTo S r p - sFr S r p) (sFr S r p) 0), Z3) := t1
    generalize hfk : sFk S (sW S) a (sTe S a) (sSz S a) = fk at *
    have ea := en_all (fr := sFr S r p) (p := fun k => isCm (S 9 k) && (ywS S fk (sTo S r p - 1)).1 k) (c := ciS S (sFr S r p)) (sTo S r p - sFr S r p) (sFr S r p) 0 (Nat.le_refl _) (Int.le_refl 0)
    rw [Nat.sub_self, show sFr S r p + (sTo S r p - sFr S r p) - sFr S r p = sTo S r p - sFr S r p by omega, Int.zero_add, show cN (fun j => isCm (S 9 (sFr S r p + j)) && (ywS S fk (sTo S r p - 1)).1 (sFr S r p + j)) 0 = 0 from rfl, Int.sub_zero] at ea
    have up : cN (fun j => isCm (S 9 (sFr S r p + j)) && (ywS S fk (sTo S r p - 1)).1 (sFr S r p + j)) (sTo S r p - sFr S r p) ≤ ciS S (sFr S r p) (sTo S r p) := cN_mono _ (fun i hi g => by
      rw [Bool.and_eq_true] at g; exact g.1)
    have lo : cN (fun j => isCm (S 9 (sFr S r p + j)) && (ywS S fk (sTo S r p - 1)).1 (sFr S r p + j)) (sTo S r p - sFr S r p) = (ywS S fk (sTo S r p - 1)).2 := by
      rw [← en_cnt hw (sTo S r p - 1 + 1) (sTo S r p - 1) (by omega) (by omega) (by omega)]
      exact cN_congr _ (fun i hi => by
        cases q5 : (ywS S fk (sTo S r p - 1)).1 (sFr S r p + i) with
        | false => exact Bool.and_false _
        | true =>
          have := yw_sup hw (sTo S r p - 1 + 1) (sTo S r p - 1) (by omega) (by omega) (by omega) q5
          rw [this.2.2]; rfl)
    have one := yw_one (fk := fk) hw (sTo S r p - 1 + 1) (sTo S r p - 1) (by omega) (by omega) (by omega) hw.2.1
    refine ⟨Z3, eqQ_tr (eqQ_tr (eqF_q r2) (eqV_q s2)) t2, Or.inr ⟨hlt, (ywS S fk (sTo S r p - 1)).2, ?_, ?_, ?_⟩⟩
    · exact one
    · rw [← lo]; exact up
    · rw [if_pos hlt, if_pos (by decide), hb, r1, mjBd_some, hb1, if_pos (is_b hb2), s1, mjBd_some, hb3, if_pos (is_b hb2), t1', mjBd_some, ea, lo]
  · refine ⟨Z, eqQ_rf, Or.inl ⟨hlt, ?_⟩⟩
    rw [if_neg hlt, if_neg (by decide)]
end JV9
