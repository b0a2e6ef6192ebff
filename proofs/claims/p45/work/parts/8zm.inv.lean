/-! THE INVARIANT OF ALL, and each call of the law keeps it -/
section IV
variable {Z Z1 Z2 Zm Zm2 : mjZt} {b : Nat} {S : mjS}
def iG (Z : mjZt) : Prop := ∃ (b : Nat) (S : mjS) (N U F : Nat) (E P : Nat → Nat → Int), iR Z Z b S N U E P ∧ tpR Z Z F ∧ spZ (94 - b) Z ∧ kfM Z ∧ (Z.1 182 5 = Z.1 211 11 ∧ Z.1 182 6 = Z.1 211 12) ∧ (Z.1 211 59 = i3 (-1) ∧ Z.1 211 60 = i3 0)
def up (o : Option Int32) (Z : mjZt) : Option (Int32 × mjZt) := o.map fun v => (v, Z)
theorem up_s {o : Option Int32} {v : Int32} (h : o = some v) : up o Z = some (v, Z) := by rw [h]; rfl
def oneR (fc fm : mjZt → Option (Int32 × mjZt)) (Z : mjZt) : Prop := ∃ v Z1 Z2, fc Z = some (v, Z1) ∧ fm Z1 = some (v, Z2) ∧ iG Z2 ∧ (∀ a, 251 ≤ a → Z1.1 a = Z.1 a) ∧ ∀ a, 251 ≤ a → Z2.1 a = Z.1 a
theorem spZ_of (hb : b = 2 ∨ b = 92) (h : spZ b Z) (e : eqB b Z Z2) : spZ b Z2 := by
  obtain ⟨h1, h2, h3⟩ := h
  have tB : ∀ t, tmB b t = b + 18 + 5 * t := fun t => rfl
  refine ⟨fun t ht => ?_, fun j k hj => ?_, ?_⟩
  · have := tB t
    rw [(e (tmB b t + 3) (by omega) (by omega)).1, (e (tmB b t + 4) (by omega) (by omega)).1]; exact h1 t ht
  · rw [(e (b + 12 + j) (by omega) (by omega)).1]; exact h2 j k hj
  · rw [(e (b + 12) (by omega) (by omega)).2]; exact h3
theorem iR_mv {N U : Nat} {E P : Nat → Nat → Int} (h : iR Z Zm b S N U E P) (e3 : Z2.2.2.1 = Z.2.2.1) (eB : eqB b Z Z2) (ec : ∀ a, (199 ≤ a ∧ a ≤ 203) ∨ a = 209 ∨ a = 210 → Z2.1 a = Z.1 a) (em : eqM Zm Zm2) (e56 : Zm2.1 211 56 = Zm.1 211 56) (e240 : Zm2.1 240 = Zm.1 240) : iR Z2 Zm2 b S N U E P := by
  obtain ⟨hb, h, hd, htr, hv, ho, hoc, hn, hm, ⟨l1, l2, l3, l4, l5⟩, ⟨p1, p2⟩, hh⟩ := h
  have o1 := ok_sc ho
  have oa := all_le ho
  refine ⟨by rw [e3]; exact hb, cBk_of ⟨o1.1, o1.2.1⟩ h eB, cDr_of ⟨o1.1, oa⟩ hd eB, cTr_of htr eB, vRep_of hv (fun a g1 g2 => ec a (by omega)), ho, hoc, hn, mRep_of hm em, ⟨l1, l2, by rw [ec 209 (by omega)]; exact l3, by rw [ec 209 (by omega)]; exact l4, fun k g j gj => by rw [ec 210 (by omega)]; exact l5 k g j gj⟩, ⟨by rw [e56]; exact p1, fun k g x gx => by rw [e240]; exact p2 k g x gx⟩, hh⟩
theorem iG_b {N U : Nat} {E P : Nat → Nat → Int} (h : iR Z Zm b S N U E P) : b = 2 ∨ b = 92 := b_b h.2.1
theorem iG_q (h : iG Z) (e : eqQ Z Z2) : iG Z2 := by
  obtain ⟨b, S, N, U, F, E, P, h1, ⟨t0, t1, t2, t3⟩, h3, ⟨k1, k2⟩, ⟨f1, f2⟩, f3, f4⟩ := h
  have hb := iG_b h1
  have o : ∀ a, ¬ scr a → a ≠ 211 → Z2.1 a = Z.1 a ∧ Z2.2.1 a = Z.2.1 a := e.2.1
  have f : ∀ f, f < 65 → Z2.1 211 f = Z.1 211 f := e.2.2.1
  refine ⟨b, S, N, U, F, E, P, iR_mv h1 (by rw [e.1]) (eqQ_B hb e) (fun a g => (o a (by unfold scr; omega) (by omega)).1) (eqQ_M e) (f 56 (by omega)) (o 240 (by unfold scr; omega) (by omega)).1, ⟨t0, ?_, ?_, fun k => ?_⟩, spZ_of (by omega) h3 (eqQ_B (by omega) e), ⟨fun j g => ?_, fun j g => ?_⟩, ⟨?_, ?_⟩, ?_, ?_⟩
  · rw [(o 0 (by unfold scr; omega) (by omega)).1]; exact t1
  · rw [f 1 (by omega)]; exact t2
  · rw [(o 1 (by unfold scr; omega) (by omega)).1, (o 212 (by unfold scr; omega) (by omega)).1]; exact t3 k
  · rw [(o 213 (by unfold scr; omega) (by omega)).2]; exact k1 j g
  · rw [(o 214 (by unfold scr; omega) (by omega)).2]; exact k2 j g
  · rw [(o 182 (by unfold scr; omega) (by omega)).1, f 11 (by omega)]; exact f1
  · rw [(o 182 (by unfold scr; omega) (by omega)).1, f 12 (by omega)]; exact f2
  · rw [f 59 (by omega)]; exact f3
  · rw [f 60 (by omega)]; exact f4
theorem qu_step {fc fm : mjZt → Option (Int32 × mjZt)} (h : iG Z) (q : ∀ Zm, eqQ Z Zm → ∃ v Z1, fc Z = some (v, Z1) ∧ eqQ Z Z1 ∧ ∃ Z2, fm Zm = some (v, Z2) ∧ eqQ Zm Z2) : oneR fc fm Z := by
  obtain ⟨v, Z1, a1, a2, _⟩ := q Z eqQ_rf
  obtain ⟨v', Z1', b1, _, Z2, b3, b4⟩ := q Z1 a2
  rw [a1] at b1
  have e := Option.some.inj b1
  have e1 : v = v' := congrArg Prod.fst e
  subst e1
  refine ⟨v, Z1, Z2, a1, b3, iG_q (iG_q h a2) b4, fun a g => (a2.2.1 a (by unfold scr; omega) (by omega)).1, fun a g => ?_⟩
  rw [(b4.2.1 a (by unfold scr; omega) (by omega)).1, (a2.2.1 a (by unfold scr; omega) (by omega)).1]
theorem iG_get (h : iG Z) : ∃ b S, Z.2.2.1 = b ∧ cBk Z b S ∧ cDr Z b S ∧ cTr Z b S ∧ vRep Z 199 S (sW S) ∧ okS S ∧ okC S ∧ okN S ∧ ∀ Zm, eqQ Z Zm → mRep Zm S ∧ mWv Zm S (sW S) ∧ Zm.1 211 59 = i3 (-1) ∧ Zm.1 211 60 = i3 0 ∧ Z.1 209 2 = Zm.1 211 56 ∧ Z.1 0 1 = Zm.1 211 1 ∧ Z.1 182 5 = Zm.1 211 11 ∧ Z.1 182 6 = Zm.1 211 12 := by
  obtain ⟨b, S, N, U, F, E, P, ⟨hb, h, hd, htr, hv, ho, hoc, hn, hm, ⟨l1, l2, l3, l4, l5⟩, ⟨p1, p2⟩, hh⟩, ⟨t0, t1, t2, t3⟩, h3, ⟨k1, k2⟩, ⟨f1, f2⟩, f3, f4⟩ := h
  refine ⟨b, S, hb, h, hd, htr, hv, ho, hoc, hn, fun Zm e => ?_⟩
  have f : ∀ f, f < 65 → Zm.1 211 f = Z.1 211 f := e.2.2.1
  have g59 : Zm.1 211 59 = i3 (-1) := by rw [f 59 (by omega)]; exact f3
  have g60 : Zm.1 211 60 = i3 0 := by rw [f 60 (by omega)]; exact f4
  have hm2 := mRep_q hm e
  exact ⟨hm2, mWv_0 hm2 ho g59 g60, g59, g60, by rw [f 56 (by omega), l4, p1], by rw [f 1 (by omega), t1, t2], by rw [f 11 (by omega)]; exact f1, by rw [f 12 (by omega)]; exact f2⟩
theorem o_place (h : iG Z) (x y : Int32) : oneR (fun Z => up (f159_place x y Z) Z) (fun Z => up (f256_place x y Z) Z) Z := by
  obtain ⟨b, S, hb, hc, hd, htr, hv, ho, hoc, hn, k⟩ := iG_get h
  refine qu_step h fun Zm e => ?_
  obtain ⟨hm, hw, h59, h60, hu, hf, h1, h2⟩ := k Zm e
  obtain ⟨v, a1, a2⟩ := q_place hb hc hd ho hm x y
  exact ⟨v, Z, up_s a1, eqQ_rf, Zm, up_s a2, eqQ_rf⟩
theorem o_team (h : iG Z) (x y : Int32) : oneR (fun Z => up (f156_team x y Z) Z) (fun Z => up (f254_team x y Z) Z) Z := by
  obtain ⟨b, S, hb, hc, hd, htr, hv, ho, hoc, hn, k⟩ := iG_get h
  refine qu_step h fun Zm e => ?_
  obtain ⟨hm, hw, h59, h60, hu, hf, h1, h2⟩ := k Zm e
  obtain ⟨v, a1, a2⟩ := q_team hb hc hd ho hm x y
  exact ⟨v, Z, up_s a1, eqQ_rf, Zm, up_s a2, eqQ_rf⟩
theorem o_comes (h : iG Z) (x y : Int32) : oneR (fun Z => up (f160_comes x y Z) Z) (fun Z => up (f258_comes x y Z) Z) Z := by
  obtain ⟨b, S, hb, hc, hd, htr, hv, ho, hoc, hn, k⟩ := iG_get h
  refine qu_step h fun Zm e => ?_
  obtain ⟨hm, hw, h59, h60, hu, hf, h1, h2⟩ := k Zm e
  obtain ⟨v, a1, a2⟩ := q_comes hb hc hd ho hm x y
  exact ⟨v, Z, up_s a1, eqQ_rf, Zm, up_s a2, eqQ_rf⟩
theorem o_boldest (h : iG Z) (x : Int32) : oneR (fun Z => up (f162_boldest x Z) Z) (fun Z => up (f261_boldest x Z) Z) Z := by
  obtain ⟨b, S, hb, hc, hd, htr, hv, ho, hoc, hn, k⟩ := iG_get h
  refine qu_step h fun Zm e => ?_
  obtain ⟨hm, hw, h59, h60, hu, hf, h1, h2⟩ := k Zm e
  obtain ⟨v, a1, a2⟩ := q_boldest hb hc hd ho hm x
  exact ⟨v, Z, up_s a1, eqQ_rf, Zm, up_s a2, eqQ_rf⟩
theorem o_changes (h : iG Z) (x y : Int32) : oneR (fun Z => up (f163_changes x y Z) Z) (fun Z => up (f262_changes x y Z) Z) Z := by
  obtain ⟨b, S, hb, hc, hd, htr, hv, ho, hoc, hn, k⟩ := iG_get h
  refine qu_step h fun Zm e => ?_
  obtain ⟨hm, hw, h59, h60, hu, hf, h1, h2⟩ := k Zm e
  obtain ⟨v, a1, a2⟩ := q_changes hb hc hd ho hm x y
  exact ⟨v, Z, up_s a1, eqQ_rf, Zm, up_s a2, eqQ_rf⟩
theorem o_behind (h : iG Z) (x y : Int32) : oneR (fun Z => up (f165_behind x y Z) Z) (fun Z => up (f264_behind x y Z) Z) Z := by
  obtain ⟨b, S, hb, hc, hd, htr, hv, ho, hoc, hn, k⟩ := iG_get h
  refine qu_step h fun Zm e => ?_
  obtain ⟨hm, hw, h59, h60, hu, hf, h1, h2⟩ := k Zm e
  obtain ⟨v, a1, a2⟩ := q_behind hb hc hd ho hm x y
  exact ⟨v, Z, up_s a1, eqQ_rf, Zm, up_s a2, eqQ_rf⟩
theorem o_crowd (h : iG Z) (x y : Int32) : oneR (fun Z => up (f166_crowd x y Z) Z) (fun Z => up (f265_crowd x y Z) Z) Z := by
  obtain ⟨b, S, hb, hc, hd, htr, hv, ho, hoc, hn, k⟩ := iG_get h
  refine qu_step h fun Zm e => ?_
  obtain ⟨hm, hw, h59, h60, hu, hf, h1, h2⟩ := k Zm e
  obtain ⟨v, a1, a2⟩ := q_crowd hb hc hd ho hm x y
  exact ⟨v, Z, up_s a1, eqQ_rf, Zm, up_s a2, eqQ_rf⟩
theorem o_leg (h : iG Z) (x y w : Int32) : oneR (fun Z => up (f168_leg x y w Z) Z) (fun Z => up (f268_leg x y w Z) Z) Z := by
  obtain ⟨b, S, hb, hc, hd, htr, hv, ho, hoc, hn, k⟩ := iG_get h
  refine qu_step h fun Zm e => ?_
  obtain ⟨hm, hw, h59, h60, hu, hf, h1, h2⟩ := k Zm e
  obtain ⟨v, a1, a2⟩ := q_leg hb hc hd ho hm x y w
  exact ⟨v, Z, up_s a1, eqQ_rf, Zm, up_s a2, eqQ_rf⟩
theorem o_inBox (h : iG Z) (x y : Int32) : oneR (fun Z => up (f169_inBox x y Z) Z) (fun Z => up (f269_inBox x y Z) Z) Z := by
  obtain ⟨b, S, hb, hc, hd, htr, hv, ho, hoc, hn, k⟩ := iG_get h
  refine qu_step h fun Zm e => ?_
  obtain ⟨hm, hw, h59, h60, hu, hf, h1, h2⟩ := k Zm e
  obtain ⟨v, a1, a2⟩ := q_inBox hb hc hd ho hm x y
  exact ⟨v, Z, up_s a1, eqQ_rf, Zm, up_s a2, eqQ_rf⟩
theorem o_lane (h : iG Z) (x : Int32) : oneR (fun Z => up (f157_lane x Z) Z) (fun Z => up (f255_lane x Z) Z) Z := by
  obtain ⟨b, S, hb, hc, hd, htr, hv, ho, hoc, hn, k⟩ := iG_get h
  refine qu_step h fun Zm e => ?_
  obtain ⟨hm, hw, h59, h60, hu, hf, h1, h2⟩ := k Zm e
  obtain ⟨v, a1, a2⟩ := q_lane hb hc ho hm x
  exact ⟨v, Z, up_s a1, eqQ_rf, Zm, up_s a2, eqQ_rf⟩
theorem o_act (h : iG Z) (x y : Int32) : oneR (fun Z => up (f170_act x y Z) Z) (fun Z => up (f281_act x y Z) Z) Z := by
  obtain ⟨b, S, hb, hc, hd, htr, hv, ho, hoc, hn, k⟩ := iG_get h
  refine qu_step h fun Zm e => ?_
  obtain ⟨hm, hw, h59, h60, hu, hf, h1, h2⟩ := k Zm e
  obtain ⟨v, a1, a2⟩ := q_act hb hc hd ho hm hw x y
  exact ⟨v, Z, up_s a1, eqQ_rf, Zm, up_s a2, eqQ_rf⟩
theorem o_rule (h : iG Z) (x y : Int32) : oneR (fun Z => up (f172_rule x y Z) Z) (fun Z => up (f293_rule x y Z) Z) Z := by
  obtain ⟨b, S, hb, hc, hd, htr, hv, ho, hoc, hn, k⟩ := iG_get h
  refine qu_step h fun Zm e => ?_
  obtain ⟨hm, hw, h59, h60, hu, hf, h1, h2⟩ := k Zm e
  obtain ⟨v, a1, a2⟩ := q_rule hb hc htr ho hoc hm x y
  exact ⟨v, Z, up_s a1, eqQ_rf, Zm, up_s a2, eqQ_rf⟩
theorem o_name (h : iG Z) (x y z : Int32) : oneR (fun Z => up (f155_name x y z Z) Z) (fun Z => up (f253_name x y z Z) Z) Z := by
  obtain ⟨b, S, hb, hc, hd, htr, hv, ho, hoc, hn, k⟩ := iG_get h
  refine qu_step h fun Zm e => ?_
  obtain ⟨hm, hw, h59, h60, hu, hf, h1, h2⟩ := k Zm e
  obtain ⟨v, a1, a2⟩ := q_name hb hc ho hn hm x y z
  exact ⟨v, Z, up_s a1, eqQ_rf, Zm, up_s a2, eqQ_rf⟩
theorem o_about (h : iG Z) (x : Int32) : oneR (fun Z => up (f154_about x Z) Z) (fun Z => up (f252_about x Z) Z) Z := by
  obtain ⟨b, S, hb, hc, hd, htr, hv, ho, hoc, hn, k⟩ := iG_get h
  refine qu_step h fun Zm e => ?_
  obtain ⟨hm, hw, h59, h60, hu, hf, h1, h2⟩ := k Zm e
  obtain ⟨v, a1, a2⟩ := q_about hb hc hd ho hm hu hf x
  exact ⟨v, Z, up_s a1, eqQ_rf, Zm, up_s a2, eqQ_rf⟩
theorem o_fault (h : iG Z) (x : Int32) : oneR (fun Z => up (f153_fault x Z) Z) (fun Z => up (f237_fault x Z) Z) Z := by
  obtain ⟨b, S, hb, hc, hd, htr, hv, ho, hoc, hn, k⟩ := iG_get h
  refine qu_step h fun Zm e => ?_
  obtain ⟨hm, hw, h59, h60, hu, hf, h1, h2⟩ := k Zm e
  obtain ⟨v, a1, a2⟩ := q_fault h1 h2 x
  exact ⟨v, Z, up_s a1, eqQ_rf, Zm, up_s a2, eqQ_rf⟩
theorem o_order (h : iG Z) (x y : Int32) : oneR (fun Z => f161_order x y Z) (fun Z => f260_order x y Z) Z := by
  obtain ⟨b, S, hb, hc, hd, htr, hv, ho, hoc, hn, k⟩ := iG_get h
  refine qu_step h fun Zm e => ?_
  obtain ⟨hm, hw, h59, h60, hu, hf, h1, h2⟩ := k Zm e
  obtain ⟨v, Z1, a1, a2, Z2, a3, a4⟩ := q_order hb hc hd ho hm x y
  exact ⟨v, Z1, a1, a2, Z2, a3, a4⟩
theorem o_cutIn (h : iG Z) (y : Int32) : oneR (fun Z => f164_cutIn y Z) (fun Z => f263_cutIn y Z) Z := by
  obtain ⟨b, S, hb, hc, hd, htr, hv, ho, hoc, hn, k⟩ := iG_get h
  refine qu_step h fun Zm e => ?_
  obtain ⟨hm, hw, h59, h60, hu, hf, h1, h2⟩ := k Zm e
  obtain ⟨v, Z1, a1, a2, Z2, a3, a4⟩ := q_cutIn hb hc hd ho hm y
  exact ⟨v, Z1, a1, a2, Z2, a3, a4⟩
theorem o_holds (h : iG Z) (x y w : Int32) : oneR (fun Z => f174_holds x y w Z) (fun Z => f294_holds x y w Z) Z := by
  obtain ⟨b, S, hb, hc, hd, htr, hv, ho, hoc, hn, k⟩ := iG_get h
  refine qu_step h fun Zm e => ?_
  obtain ⟨hm, hw, h59, h60, hu, hf, h1, h2⟩ := k Zm e
  obtain ⟨v, Z1, a1, a2, Z2, a3, a4⟩ := q_holds hb hc hd htr ho hoc hm hw x y w
  exact ⟨v, Z1, a1, a2, Z2, a3, a4⟩
theorem o_why (h : iG Z) (x y w u : Int32) : oneR (fun Z => f175_why x y w u Z) (fun Z => f295_why x y w u Z) Z := by
  obtain ⟨b, S, hb, hc, hd, htr, hv, ho, hoc, hn, k⟩ := iG_get h
  refine qu_step h fun Zm e => ?_
  obtain ⟨hm, hw, h59, h60, hu, hf, h1, h2⟩ := k Zm e
  obtain ⟨v, Z1, a1, a2, Z2, a3, a4⟩ := q_why hb hc hd htr ho hoc hm hw x y w u
  exact ⟨v, Z1, a1, a2, Z2, a3, a4⟩
theorem o_clean (h : iG Z) (x y : Int32) : oneR (fun Z => f177_clean x y Z) (fun Z => f300_clean x y Z) Z := by
  obtain ⟨b, S, hb, hc, hd, htr, hv, ho, hoc, hn, k⟩ := iG_get h
  refine qu_step h fun Zm e => ?_
  obtain ⟨hm, hw, h59, h60, hu, hf, h1, h2⟩ := k Zm e
  obtain ⟨v, Z1, a1, a2, Z2, a3, a4⟩ := q_clean hb hc hd htr ho hoc hm h59 h60 x y
  exact ⟨v, Z1, a1, a2, Z2, a3, a4⟩
theorem o_free (h : iG Z) (x y : Int32) : oneR (fun Z => f178_free x y Z) (fun Z => f301_free x y Z) Z := by
  obtain ⟨b, S, hb, hc, hd, htr, hv, ho, hoc, hn, k⟩ := iG_get h
  refine qu_step h fun Zm e => ?_
  obtain ⟨hm, hw, h59, h60, hu, hf, h1, h2⟩ := k Zm e
  obtain ⟨v, Z1, a1, a2, Z2, a3, a4⟩ := q_free hb hc hd htr ho hoc hm h59 h60 x y
  exact ⟨v, Z1, a1, a2, Z2, a3, a4⟩
theorem o_winner (h : iG Z) (x : Int32) : oneR (fun Z => f188_winner x Z) (fun Z => f317_winner x Z) Z := by
  obtain ⟨b, S, hb, hc, hd, htr, hv, ho, hoc, hn, k⟩ := iG_get h
  refine qu_step h fun Zm e => ?_
  obtain ⟨hm, hw, h59, h60, hu, hf, h1, h2⟩ := k Zm e
  obtain ⟨v, Z1, a1, a2, Z2, a3, a4⟩ := q_winner hb hc hd htr ho hoc hm h59 h60 x
  exact ⟨v, Z1, a1, a2, Z2, a3, a4⟩
theorem o_stays (h : iG Z) (x y : Int32) : oneR (fun Z => f189_stays x y Z) (fun Z => f319_stays x y Z) Z := by
  obtain ⟨b, S, hb, hc, hd, htr, hv, ho, hoc, hn, k⟩ := iG_get h
  refine qu_step h fun Zm e => ?_
  obtain ⟨hm, hw, h59, h60, hu, hf, h1, h2⟩ := k Zm e
  obtain ⟨v, Z1, a1, a2, Z2, a3, a4⟩ := q_stays hb hc hd htr ho hoc hm h59 h60 x y
  exact ⟨v, Z1, a1, a2, Z2, a3, a4⟩
theorem o_fastest (h : iG Z) (x y : Int32) : oneR (fun Z => f167_fastest x y Z) (fun Z => up (f266_fastest x y Z) Z) Z := by
  obtain ⟨b, S, hb, hc, hd, htr, hv, ho, hoc, hn, k⟩ := iG_get h
  refine qu_step h fun Zm e => ?_
  obtain ⟨hm, hw, h59, h60, hu, hf, h1, h2⟩ := k Zm e
  obtain ⟨v, Z1, a1, a2, a3⟩ := q_fastest hb hc hd ho hm x y
  exact ⟨v, Z1, a1, a2, Zm, up_s a3, eqQ_rf⟩
theorem o_fact (h : iG Z) (x y : Int32) : oneR (fun Z => f171_fact x y Z) (fun Z => up (f282_fact x y Z) Z) Z := by
  obtain ⟨b, S, hb, hc, hd, htr, hv, ho, hoc, hn, k⟩ := iG_get h
  refine qu_step h fun Zm e => ?_
  obtain ⟨hm, hw, h59, h60, hu, hf, h1, h2⟩ := k Zm e
  obtain ⟨v, Z1, a1, a2, a3⟩ := q_fact hb hc hd ho hm hw x y
  exact ⟨v, Z1, a1, a2, Zm, up_s a3, eqQ_rf⟩
theorem o_struckBy (h : iG Z) (x y : Int32) : oneR (fun Z => up (f176_struckBy x y Z) Z) (fun Z => f297_struckBy x y Z) Z := by
  obtain ⟨b, S, hb, hc, hd, htr, hv, ho, hoc, hn, k⟩ := iG_get h
  refine qu_step h fun Zm e => ?_
  obtain ⟨hm, hw, h59, h60, hu, hf, h1, h2⟩ := k Zm e
  obtain ⟨v, a1, Z2, a3, a4⟩ := q_struckBy hb hc hd ho hoc hm hw hv x y
  exact ⟨v, Z, up_s a1, eqQ_rf, Z2, a3, a4⟩
theorem o_rank (h : iG Z) (x : Int32) : oneR (fun Z => up (f180_rank x Z) Z) (fun Z => f306_rank x Z) Z := by
  obtain ⟨b, S, hb, hc, hd, htr, hv, ho, hoc, hn, k⟩ := iG_get h
  refine qu_step h fun Zm e => ?_
  obtain ⟨hm, hw, h59, h60, hu, hf, h1, h2⟩ := k Zm e
  obtain ⟨v, a1, Z2, a3, a4⟩ := q_rank hb hc ho hoc hm hw hv x
  exact ⟨v, Z, up_s a1, eqQ_rf, Z2, a3, a4⟩
theorem o_fairRank (h : iG Z) (x : Int32) : oneR (fun Z => up (f184_fairRank x Z) Z) (fun Z => f307_fairRank x Z) Z := by
  obtain ⟨b, S, hb, hc, hd, htr, hv, ho, hoc, hn, k⟩ := iG_get h
  refine qu_step h fun Zm e => ?_
  obtain ⟨hm, hw, h59, h60, hu, hf, h1, h2⟩ := k Zm e
  obtain ⟨v, a1, Z2, a3, a4⟩ := q_fairRank hb hc ho hoc hm hw hv x
  exact ⟨v, Z, up_s a1, eqQ_rf, Z2, a3, a4⟩
theorem o_would (h : iG Z) (x : Int32) : oneR (fun Z => up (f183_would x Z) Z) (fun Z => f315_would x Z) Z := by
  obtain ⟨b, S, hb, hc, hd, htr, hv, ho, hoc, hn, k⟩ := iG_get h
  refine qu_step h fun Zm e => ?_
  obtain ⟨hm, hw, h59, h60, hu, hf, h1, h2⟩ := k Zm e
  obtain ⟨v, a1, Z2, a3, a4⟩ := q_would hb hc ho hoc hm hw hv x
  exact ⟨v, Z, up_s a1, eqQ_rf, Z2, a3, a4⟩
theorem o_who (h : iG Z) (x : Int32) : oneR (fun Z => up (f182_who x Z) Z) (fun Z => f314_who x Z) Z := by
  obtain ⟨b, S, hb, hc, hd, htr, hv, ho, hoc, hn, k⟩ := iG_get h
  refine qu_step h fun Zm e => ?_
  obtain ⟨hm, hw, h59, h60, hu, hf, h1, h2⟩ := k Zm e
  obtain ⟨v, a1, Z2, a3, a4⟩ := q_who ho hoc hm hw hv x
  exact ⟨v, Z, up_s a1, eqQ_rf, Z2, a3, a4⟩
theorem o_impeders (h : iG Z) (x : Int32) : oneR (fun Z => up (f186_impeders x Z) Z) (fun Z => f310_impeders x Z) Z := by
  obtain ⟨b, S, hb, hc, hd, htr, hv, ho, hoc, hn, k⟩ := iG_get h
  refine qu_step h fun Zm e => ?_
  obtain ⟨hm, hw, h59, h60, hu, hf, h1, h2⟩ := k Zm e
  obtain ⟨v, a1, Z2, a3, a4⟩ := q_impeders hb hc hd ho hoc hm hw hv x
  exact ⟨v, Z, up_s a1, eqQ_rf, Z2, a3, a4⟩
theorem o_again (h : iG Z) : oneR (fun Z => up (f187_again Z) Z) (fun Z => f316_again Z) Z := by
  obtain ⟨b, S, hb, hc, hd, htr, hv, ho, hoc, hn, k⟩ := iG_get h
  refine qu_step h fun Zm e => ?_
  obtain ⟨hm, hw, h59, h60, hu, hf, h1, h2⟩ := k Zm e
  obtain ⟨v, a1, Z2, a3, a4⟩ := q_again ho hoc hm hw hv
  exact ⟨v, Z, up_s a1, eqQ_rf, Z2, a3, a4⟩
theorem o_result (h : iG Z) (x : Int32) : oneR (fun Z => up (f181_result x Z) Z) (fun Z => f311_result x Z) Z := by
  obtain ⟨b, S, hb, hc, hd, htr, hv, ho, hoc, hn, k⟩ := iG_get h
  refine qu_step h fun Zm e => ?_
  obtain ⟨hm, hw, h59, h60, hu, hf, h1, h2⟩ := k Zm e
  obtain ⟨v, a1, Z2, a3, a4⟩ := q_result hb hc ho hoc hm hw hv x
  exact ⟨v, Z, up_s a1, eqQ_rf, Z2, a3, a4⟩
theorem o_margin (h : iG Z) (x : Int32) : oneR (fun Z => up (f185_margin x Z) Z) (fun Z => f309_margin x Z) Z := by
  obtain ⟨b, S, hb, hc, hd, htr, hv, ho, hoc, hn, k⟩ := iG_get h
  refine qu_step h fun Zm e => ?_
  obtain ⟨hm, hw, h59, h60, hu, hf, h1, h2⟩ := k Zm e
  obtain ⟨v, a1, Z2, a3, a4⟩ := q_margin hb hc hd ho hoc hm hw hv x
  exact ⟨v, Z, up_s a1, eqQ_rf, Z2, a3, a4⟩
theorem o_struck (h : iG Z) (x y : Int32) : oneR (fun Z => up (f179_struck x y Z) Z) (fun Z => f303_struck x y Z) Z := by
  obtain ⟨b, S, hb, hc, hd, htr, hv, ho, hoc, hn, k⟩ := iG_get h
  refine qu_step h fun Zm e => ?_
  obtain ⟨hm, hw, h59, h60, hu, hf, h1, h2⟩ := k Zm e
  obtain ⟨v, a1, Z2, a3, a4⟩ := q_struck hb hc hd ho hoc hm hw hv x y
  exact ⟨v, Z, up_s a1, eqQ_rf, Z2, a3, a4⟩
/-- feed, end -/
theorem fd_step {fc fm : mjZt → Option (Int32 × mjZt)} (h : iG Z) (q : ∀ {Z Zm : mjZt} {F : Nat}, tpR Z Zm F → ∃ v Z1 Zm1 F1, fc Z = some (v, Z1) ∧ fm Zm = some (v, Zm1) ∧ tpR Z1 Zm1 F1 ∧ eqC Z Z1 ∧ eqD Zm Zm1) : oneR fc fm Z := by
  obtain ⟨b, S, N, U, F, E, P, h1, ht, h3, ⟨k1, k2⟩, ⟨f1, f2⟩, f3, f4⟩ := h
  have hb := iG_b h1
  obtain ⟨t0, t1, t2, t3⟩ := ht
  obtain ⟨v, Z1, M1, F1, a1, _, _, a4, _⟩ := q (Z := Z) (Zm := Z) ⟨t0, t1, t2, t3⟩
  obtain ⟨v', Z1', M2, F2, b1, b2, b3, b4, b5⟩ := q (Z := Z) (Zm := Z1) ⟨t0, t1, by rw [a4.2 211 (by omega) (by omega)]; exact t2, fun k => by rw [a4.2 212 (by omega) (by omega)]; exact t3 k⟩
  rw [a1] at b1
  have e := Option.some.inj b1
  have e1 : v = v' := congrArg Prod.fst e
  have e2 : Z1 = Z1' := congrArg Prod.snd e
  subst e1
  subst e2
  obtain ⟨u0, u1, u2, u3⟩ := b3
  have o : ∀ a, a ≠ 0 → a ≠ 1 → a ≠ 211 → a ≠ 212 → M2.1 a = Z.1 a := fun a g1 g2 g3 g4 => by rw [b5.2.1 a g3 g4, a4.2 a g1 g2]
  have fl : ∀ f, f ≠ 1 → M2.1 211 f = Z.1 211 f := fun f g => by rw [b5.2.2 f g, a4.2 211 (by omega) (by omega)]
  have l : M2.2 = Z.2 := by rw [b5.1, a4.1]
  have eB : ∀ b', (b' = 2 ∨ b' = 92) → eqB b' Z M2 := fun b' g a g1 g2 => ⟨o a (by omega) (by omega) (by omega) (by omega), by rw [l]⟩
  refine ⟨v, Z1, M2, a1, b2, ⟨b, S, N, U, F2, E, P, iR_mv h1 (by rw [l]) (eB b hb) (fun a g => o a (by omega) (by omega) (by omega) (by omega)) ⟨fun a g => ⟨o a (by omega) (by omega) (by omega) (by omega), by rw [l]⟩, fun f g1 g2 => fl f (by omega)⟩ (fl 56 (by omega)) (o 240 (by omega) (by omega) (by omega) (by omega)), ⟨u0, ?_, u2, fun k => ?_⟩, spZ_of (by omega) h3 (eB _ (by omega)), ⟨fun j g => by rw [l]; exact k1 j g, fun j g => by rw [l]; exact k2 j g⟩, ⟨?_, ?_⟩, ?_, ?_⟩, fun a g => a4.2 a (by omega) (by omega), fun a g => o a (by omega) (by omega) (by omega) (by omega)⟩
  · rw [b5.2.1 0 (by omega) (by omega)]; exact u1
  · rw [b5.2.1 1 (by omega) (by omega)]; exact u3 k
  · rw [o 182 (by omega) (by omega) (by omega) (by omega), fl 11 (by omega)]; exact f1
  · rw [o 182 (by omega) (by omega) (by omega) (by omega), fl 12 (by omega)]; exact f2
  · rw [fl 59 (by omega)]; exact f3
  · rw [fl 60 (by omega)]; exact f4
theorem o_feed (h : iG Z) (a b c d e : Int32) : oneR (fun Z => f149_feed a b c d e Z) (fun Z => f199_feed a b c d e Z) Z := fd_step h fun ht => q_feed ht a b c d e
theorem o_end (h : iG Z) (x : Int32) : oneR (fun Z => f150_end x Z) (fun Z => f200_end x Z) Z := fd_step h fun ht => q_end ht x
/-- appeals -/
theorem ap_step {fc fm : mjZt → Option (Int32 × mjZt)} (h : iG Z) (q : ∀ {Z Zm : mjZt} {b : Nat} {S : mjS} {N U : Nat} {E P : Nat → Nat → Int}, iR Z Zm b S N U E P → ∃ v Z1 Zm1 S2 N2 U2 E2 P2, fc Z = some (v, Z1) ∧ fm Zm = some (v, Zm1) ∧ iR Z1 Zm1 b S2 N2 U2 E2 P2 ∧ eqY b Z Z1 ∧ eqZ Zm Zm1) : oneR fc fm Z := by
  obtain ⟨b, S, N, U, F, E, P, h1, ⟨t0, t1, t2, t3⟩, h3, ⟨k1, k2⟩, ⟨f1, f2⟩, f3, f4⟩ := h
  have hb := iG_b h1
  obtain ⟨v, Z1, M1, S1, N1, U1, E1, P1, a1, _, _, a4, _⟩ := q h1
  have y : ∀ a, (a < b ∨ b + 90 ≤ a) → a ≠ 191 → a ≠ 192 → (a < 199 ∨ 203 < a) → a ≠ 209 → a ≠ 210 → Z1.1 a = Z.1 a ∧ Z1.2.1 a = Z.2.1 a := a4.2
  have h1' : iR Z Z1 b S N U E P := iR_mv h1 rfl (fun a _ _ => ⟨rfl, rfl⟩) (fun a _ => rfl) ⟨fun a g => y a (by omega) (by omega) (by omega) (by omega) (by omega) (by omega), fun f _ _ => by rw [(y 211 (by omega) (by omega) (by omega) (by omega) (by omega) (by omega)).1]⟩ (by rw [(y 211 (by omega) (by omega) (by omega) (by omega) (by omega) (by omega)).1]) (y 240 (by omega) (by omega) (by omega) (by omega) (by omega) (by omega)).1
  obtain ⟨v', Z1', M2, S2, N2, U2, E2, P2, b1, b2, b3, b4, b5⟩ := q h1'
  rw [a1] at b1
  have e := Option.some.inj b1
  have e1 : v = v' := congrArg Prod.fst e
  have e2 : Z1 = Z1' := congrArg Prod.snd e
  subst e1
  subst e2
  have z : ∀ a, a ≠ 239 → a ≠ 240 → a ≠ 211 → M2.1 a = Z1.1 a := b5.2.1
  have zf : ∀ f, f ≠ 56 → M2.1 211 f = Z.1 211 f := fun f g => by rw [b5.2.2 f g, (y 211 (by omega) (by omega) (by omega) (by omega) (by omega) (by omega)).1]
  have o : ∀ a, (a < b ∨ b + 90 ≤ a) → a ≠ 191 → a ≠ 192 → (a < 199 ∨ 203 < a) → a ≠ 209 → a ≠ 210 → a ≠ 239 → a ≠ 240 → a ≠ 211 → M2.1 a = Z.1 a := fun a g1 g2 g3 g4 g5 g6 g7 g8 g9 => by rw [z a g7 g8 g9, (y a g1 g2 g3 g4 g5 g6).1]
  have ol : ∀ a, (a < b ∨ b + 90 ≤ a) → a ≠ 191 → a ≠ 192 → (a < 199 ∨ 203 < a) → a ≠ 209 → a ≠ 210 → M2.2.1 a = Z.2.1 a := fun a g1 g2 g3 g4 g5 g6 => by rw [b5.1, (y a g1 g2 g3 g4 g5 g6).2]
  have hg : iR M2 M2 b S2 N2 U2 E2 P2 := iR_mv b3 (by rw [b5.1]) (fun a g1 g2 => ⟨z a (by omega) (by omega) (by omega), by rw [b5.1]⟩) (fun a g => z a (by omega) (by omega) (by omega)) eqM_rf rfl rfl
  refine ⟨v, Z1, M2, a1, b2, ⟨b, S2, N2, U2, F, E2, P2, hg, ⟨t0, ?_, ?_, fun k => ?_⟩, spZ_of (by omega) h3 (fun a g1 g2 => ⟨o a (by omega) (by omega) (by omega) (by omega) (by omega) (by omega) (by omega) (by omega) (by omega), ol a (by omega) (by omega) (by omega) (by omega) (by omega) (by omega)⟩), ⟨fun j g => ?_, fun j g => ?_⟩, ⟨?_, ?_⟩, ?_, ?_⟩, fun a g => (y a (by omega) (by omega) (by omega) (by omega) (by omega) (by omega)).1, fun a g => o a (by omega) (by omega) (by omega) (by omega) (by omega) (by omega) (by omega) (by omega) (by omega)⟩
  · rw [o 0 (by omega) (by omega) (by omega) (by omega) (by omega) (by omega) (by omega) (by omega) (by omega)]; exact t1
  · rw [zf 1 (by omega)]; exact t2
  · rw [o 1 (by omega) (by omega) (by omega) (by omega) (by omega) (by omega) (by omega) (by omega) (by omega), o 212 (by omega) (by omega) (by omega) (by omega) (by omega) (by omega) (by omega) (by omega) (by omega)]; exact t3 k
  · rw [ol 213 (by omega) (by omega) (by omega) (by omega) (by omega) (by omega)]; exact k1 j g
  · rw [ol 214 (by omega) (by omega) (by omega) (by omega) (by omega) (by omega)]; exact k2 j g
  · rw [o 182 (by omega) (by omega) (by omega) (by omega) (by omega) (by omega) (by omega) (by omega) (by omega), zf 11 (by omega)]; exact f1
  · rw [o 182 (by omega) (by omega) (by omega) (by omega) (by omega) (by omega) (by omega) (by omega) (by omega), zf 12 (by omega)]; exact f2
  · rw [zf 59 (by omega)]; exact f3
  · rw [zf 60 (by omega)]; exact f4
theorem o_appeal (h : iG Z) (x y z : Int32) : oneR (fun Z => f190_appeal x y z Z) (fun Z => f320_appeal x y z Z) Z := ap_step h fun hi => q_appeal hi x y z
theorem o_waive (h : iG Z) (x : Int32) : oneR (fun Z => f191_waive x Z) (fun Z => f321_waive x Z) Z := ap_step h fun hi => q_waive hi x
theorem o_measure (h : iG Z) (x y z u : Int32) : oneR (fun Z => f192_measure x y z u Z) (fun Z => f322_measure x y z u Z) Z := ap_step h fun hi => q_measure hi x y z u
theorem o_undo (h : iG Z) : oneR (fun Z => f193_undo Z) (fun Z => f239_undo Z) Z := ap_step h fun hi => q_undo hi
/-- book -/
theorem o_book (h : iG Z) : oneR (fun Z => f152_book Z) (fun Z => f236_book Z) Z := by
  obtain ⟨b, S, N, U, F, E, P, h1, ⟨t0, t1, t2, t3⟩, h3, ⟨k1, k2⟩, ⟨f1, f2⟩, f3, f4⟩ := h
  have hb := iG_b h1
  have hx : tpX Z (fun k => (Z.1 1 k).toInt.toNat) := by
    refine ⟨fun k => ?_, fun k => ?_⟩
    · have := t3 k; show (Z.1 1 k).toInt.toNat ≤ 255; omega
    · have := t3 k
      show Z.1 1 k = i3 (((Z.1 1 k).toInt.toNat : Nat) : Int)
      rw [Int.toNat_of_nonneg this.2.1]; exact (i3_toInt _).symm
  obtain ⟨v, Z1, M1, b1, S1, U1, E1, P1, a1, _, _, _, _, _, _, a8, _⟩ := q_book h1 ⟨t0, t1, t2, t3⟩ hx h3 ⟨k1, k2⟩
  have y : ∀ a, 188 ≤ a → a ≠ 191 → a ≠ 192 → (a < 199 ∨ 203 < a) → a ≠ 209 → Z1.1 a = Z.1 a ∧ Z1.2.1 a = Z.2.1 a := fun a g1 g2 g3 g4 g5 => a8 a (by omega) (by omega) (by omega) (by omega) (by omega) (by omega) (by omega) g2 g3 g4 g5
  have y211 := (y 211 (by omega) (by omega) (by omega) (by omega) (by omega)).1
  have y212 := (y 212 (by omega) (by omega) (by omega) (by omega) (by omega)).1
  have h1' : iR Z Z1 b S N U E P := iR_mv h1 rfl (fun a _ _ => ⟨rfl, rfl⟩) (fun a _ => rfl) ⟨fun a g => y a (by omega) (by omega) (by omega) (by omega) (by omega), fun f _ _ => by rw [y211]⟩ (by rw [y211]) (y 240 (by omega) (by omega) (by omega) (by omega) (by omega)).1
  obtain ⟨v', Z1', M2, b2, S2, U2, E2, P2, d1, d2, d3, d4, ⟨d5, d5'⟩, d6, d7, d8, d9⟩ := q_book h1' ⟨t0, t1, by rw [y211]; exact t2, fun k => by rw [y212]; exact t3 k⟩ hx h3 ⟨fun j g => by rw [(y 213 (by omega) (by omega) (by omega) (by omega) (by omega)).2]; exact k1 j g, fun j g => by rw [(y 214 (by omega) (by omega) (by omega) (by omega) (by omega)).2]; exact k2 j g⟩
  have a1' : f152_book Z = some (v, Z1) := a1
  rw [a1'] at d1
  have e := Option.some.inj d1
  have e1 : v = v' := congrArg Prod.fst e
  have e2 : Z1 = Z1' := congrArg Prod.snd e
  subst e1
  subst e2
  have hb2 := iG_b d3
  have z : ∀ a, a ≠ 211 → (a < 215 ∨ 239 < a) → M2.1 a = Z1.1 a ∧ M2.2.1 a = Z1.2.1 a := d9.2.1
  have zf : ∀ f, 43 < f → f ≠ 56 → M2.1 211 f = Z.1 211 f := fun f g g2 => by rw [d9.2.2 f (by omega) (by omega) g2, y211]
  have hg : iR M2 M2 b2 S2 N U2 E2 P2 := iR_mv d3 (by rw [d9.1]) (fun a g1 g2 => z a (by omega) (by omega)) (fun a g => (z a (by omega) (by omega)).1) eqM_rf rfl rfl
  refine ⟨v, Z1, M2, a1, d2, ⟨b2, S2, N, U2, 0, E2, P2, hg, ⟨by omega, ?_, ?_, fun k => ?_⟩, spZ_of (by omega) d4 (fun a g1 g2 => z a (by omega) (by omega)), ⟨fun j g => ?_, fun j g => ?_⟩, ⟨?_, ?_⟩, ?_, ?_⟩, fun a g => (y a (by omega) (by omega) (by omega) (by omega) (by omega)).1, fun a g => ?_⟩
  · rw [(z 0 (by omega) (by omega)).1]; exact d6
  · exact d7
  · rw [(z 1 (by omega) (by omega)).1, (z 212 (by omega) (by omega)).1, (a8 1 (by omega) (by omega) (by omega) (by omega) (by omega) (by omega) (by omega) (by omega) (by omega) (by omega) (by omega)).1, y212]; exact t3 k
  · rw [(z 213 (by omega) (by omega)).2, (y 213 (by omega) (by omega) (by omega) (by omega) (by omega)).2]; exact k1 j g
  · rw [(z 214 (by omega) (by omega)).2, (y 214 (by omega) (by omega) (by omega) (by omega) (by omega)).2]; exact k2 j g
  · rw [(z 182 (by omega) (by omega)).1]; exact d5
  · rw [(z 182 (by omega) (by omega)).1]; exact d5'
  · rw [zf 59 (by omega) (by omega)]; exact f3
  · rw [zf 60 (by omega) (by omega)]; exact f4
  · rw [(z a (by omega) (by omega)).1, (y a (by omega) (by omega) (by omega) (by omega) (by omega)).1]
end IV
