/-! what the law asks of all is the same where the same is told-/
section SA9
variable {Z Z2 : mjZt} {b N U N2 U2 : Nat} {S : mjS} {E E2 : Nat → Nat → Int}
def Zm9 (S : mjS) : mjZt := (fun a k => if a = 211 then (if k = 39 then i3 (sT S) else if k = 40 then i3 (sA S) else if k = 41 then i3 (sR S) else if k = 42 then i3 (S 10 3) else if k = 43 then i3 (S 10 4) else if k = 59 then i3 (-1) else i3 0) else if a = 229 then i3 (S 0 k) else if a = 230 then i3 (S 1 k) else if a = 231 then i3 (S 2 k) else if a = 232 then i3 (S 4 k) else if a = 233 then i3 (S 5 k) else if a = 234 then i3 (S 6 k) else if a = 235 then i3 (S 7 k) else if a = 236 then i3 (S 8 k) else if a = 239 then i3 (S 3 k) else if a = 216 then i3 (S 9 k) else 0, fun a k => if a = 237 then i6 (S 11 k) else i6 (S 12 k), 0, 0)
theorem Zm9_r : mRep (Zm9 S) S := ⟨fun _ => rfl, fun _ => rfl, fun _ => rfl, fun _ => rfl, fun _ => rfl, fun _ => rfl, fun _ => rfl, fun _ => rfl, fun _ => rfl, fun _ => rfl, rfl, rfl, rfl, rfl, rfl, fun _ => rfl, fun _ => rfl⟩
theorem Zm9_w (ho : okS S) : mWv (Zm9 S) S (sW S) := mWv_0 Zm9_r ho rfl rfl
def same9 (f : mjZt → Option Int32) (Z Z2 : mjZt) : Prop := ∃ v, f Z = some v ∧ f Z2 = some v
theorem same_1 {f : mjZt → Option Int32} {w : Option Int32} (h1 : ∃ v, f Z = some v ∧ w = some v) (h2 : ∃ v, f Z2 = some v ∧ w = some v) : same9 f Z Z2 := by
  obtain ⟨v, a1, a2⟩ := h1
  obtain ⟨v2, b1, b2⟩ := h2
  rw [a2] at b2
  have e : v = v2 := Option.some.inj b2
  exact ⟨v, a1, by rw [e]; exact b1⟩
theorem same_2 {f : mjZt → Option Int32} {w : Option (Int32 × mjZt)} {P : mjZt → Prop} (h1 : ∃ v, f Z = some v ∧ ∃ Y, w = some (v, Y) ∧ P Y) (h2 : ∃ v, f Z2 = some v ∧ ∃ Y, w = some (v, Y) ∧ P Y) : same9 f Z Z2 := by
  obtain ⟨v, a1, Y, a2, -⟩ := h1
  obtain ⟨v2, b1, Y2, b2, -⟩ := h2
  rw [a2] at b2
  have e : v = v2 := congrArg Prod.fst (Option.some.inj b2)
  exact ⟨v, a1, by rw [e]; exact b1⟩
theorem s_who (h : cI9 Z b S N U E) (g : cI9 Z2 b S N2 U2 E2) (x : Int32) : same9 (f182_who x) Z Z2 := by
  have ho := h.2.2.2.2.2.1
  have hoc := h.2.2.2.2.2.2.1
  exact same_2 (q_who ho hoc Zm9_r (Zm9_w ho) h.2.2.2.2.1 x) (q_who ho hoc Zm9_r (Zm9_w ho) g.2.2.2.2.1 x)
theorem s_rank (h : cI9 Z b S N U E) (g : cI9 Z2 b S N2 U2 E2) (x : Int32) : same9 (f180_rank x) Z Z2 := by
  have ho := h.2.2.2.2.2.1
  have hoc := h.2.2.2.2.2.2.1
  exact same_2 (q_rank h.1 h.2.1 ho hoc Zm9_r (Zm9_w ho) h.2.2.2.2.1 x) (q_rank g.1 g.2.1 ho hoc Zm9_r (Zm9_w ho) g.2.2.2.2.1 x)
theorem s_would (h : cI9 Z b S N U E) (g : cI9 Z2 b S N2 U2 E2) (x : Int32) : same9 (f183_would x) Z Z2 := by
  have ho := h.2.2.2.2.2.1
  have hoc := h.2.2.2.2.2.2.1
  exact same_2 (q_would h.1 h.2.1 ho hoc Zm9_r (Zm9_w ho) h.2.2.2.2.1 x) (q_would g.1 g.2.1 ho hoc Zm9_r (Zm9_w ho) g.2.2.2.2.1 x)
theorem s_struck (h : cI9 Z b S N U E) (g : cI9 Z2 b S N2 U2 E2) (x y : Int32) : same9 (f179_struck x y) Z Z2 := by
  have ho := h.2.2.2.2.2.1
  have hoc := h.2.2.2.2.2.2.1
  exact same_2 (q_struck h.1 h.2.1 h.2.2.1 ho hoc Zm9_r (Zm9_w ho) h.2.2.2.2.1 x y) (q_struck g.1 g.2.1 g.2.2.1 ho hoc Zm9_r (Zm9_w ho) g.2.2.2.2.1 x y)
theorem s_team (h : cI9 Z b S N U E) (g : cI9 Z2 b S N2 U2 E2) (x y : Int32) : same9 (f156_team x y) Z Z2 := by
  have ho := h.2.2.2.2.2.1
  exact same_1 (q_team h.1 h.2.1 h.2.2.1 ho Zm9_r x y) (q_team g.1 g.2.1 g.2.2.1 ho Zm9_r x y)
theorem s_act (h : cI9 Z b S N U E) (g : cI9 Z2 b S N2 U2 E2) (x y : Int32) : same9 (f170_act x y) Z Z2 := by
  have ho := h.2.2.2.2.2.1
  exact same_1 (q_act h.1 h.2.1 h.2.2.1 ho Zm9_r (Zm9_w ho) x y) (q_act g.1 g.2.1 g.2.2.1 ho Zm9_r (Zm9_w ho) x y)
theorem s_again (h : cI9 Z b S N U E) (g : cI9 Z2 b S N2 U2 E2) : same9 f187_again Z Z2 := by
  have ho := h.2.2.2.2.2.1
  have hoc := h.2.2.2.2.2.2.1
  exact same_2 (q_again ho hoc Zm9_r (Zm9_w ho) h.2.2.2.2.1) (q_again ho hoc Zm9_r (Zm9_w ho) g.2.2.2.2.1)
end SA9
