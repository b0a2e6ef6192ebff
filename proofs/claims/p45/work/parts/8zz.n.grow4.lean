/-! a row of three strings; a comparison; B -/
section GC
variable {g sb L N N2 s : Nat} {xs : Nat → Int32} {Z Z2 Z3 : mjQ} {q q2 q3 : mjGw} {u u2 : List Int32} {B : List Int32 → Prop} {F : mjQ → Option (Nat × mjQ)}
def raT (Z0 Z : mjQ) (p : Nat) : Prop := Z.2.2.2.2 p = (120, 3) ∧ 1000 + Z0.1.1 ≤ p ∧ p < 1000 + Z.1.1
theorem raT_ne {Z0 : mjQ} {p : Nat} (h0 : gS g sb L xs Z q) (h : raT Z0 Z p) : ¬ sb = p ∧ ¬ g = p ∧ ¬ q.1 = p := by
  obtain ⟨h1, h2, h3⟩ := h
  refine ⟨fun e => ?_, fun e => ?_, fun e => ?_⟩
  · have := h0.1.1; rw [e, h1] at this; exact absurd (congrArg Prod.fst this) (by simp)
  · have := h0.2.1.1; rw [e, h1] at this; exact absurd (congrArg Prod.fst this) (by simp)
  · have := h0.1.2.2.2.2.1; rw [e, h1] at this; exact absurd (congrArg Prod.fst this) (by simp)
theorem raT_x {Z0 : mjQ} {p : Nat} (h0 : gS g sb L xs Z q) (h : raT Z0 Z p) (k : gwX g sb L xs N Z q Z2 q2 u) : raT Z0 Z2 p ∧ Z2.2.2.2.1 p = Z.2.2.2.1 p := by
  obtain ⟨d1, d2, d3⟩ := raT_ne h0 h
  obtain ⟨h1, h2, h3⟩ := h
  have hm := k.2.2.1.1
  obtain ⟨x1, x2, x3⟩ := (k.2.2.1.2 p (Or.inl h3)).2 (fun e => by
    rcases e with e | e | e
    · exact d1 e.symm
    · exact d2 e.symm
    · exact d3 e.symm)
  exact ⟨⟨x3.trans h1, h2, by omega⟩, x2⟩
theorem g_newR (h : gS g sb L xs Z q) (hm : rmG 1 Z q) : ∃ Z2, qNewA sg0 Z 120 (i3 ((3 : Nat) : Int)) = some (1000 + Z.1.1, Z2) ∧ gwX g sb L xs 1 Z q Z2 q [] ∧ raT Z Z2 (1000 + Z.1.1) := by
  obtain ⟨n1, n2, n3, n4, n5, n6⟩ := gS_ne h
  obtain ⟨m1, m2, m3⟩ := hm
  obtain ⟨hb, ⟨g1, g2, g3, g4, g5, g6⟩, hw, hs⟩ := h
  have hz : mjSzK (120, 3) ≤ 8 := by decide
  have f0 : frm Z ((Z.1.1 + 1, Z.1.2 + mjSzK (120, 3)), mjZr Z.2 (1000 + Z.1.1) (120, 3)) (fun _ => False) := frm_zr (by omega)
  have f : frm Z ((Z.1.1 + 1, Z.1.2 + mjSzK (120, 3)), mjZr Z.2 (1000 + Z.1.1) (120, 3)) (fun a => a = sb ∨ a = g ∨ a = q.1) := frm_wk f0 (fun x _ e => e.elim)
  obtain ⟨x1, x2, x3⟩ := (f0.2 g (Or.inl n5)).2 (fun e => e)
  refine ⟨_, qNewA_0 (by omega) (by omega), ⟨⟨bS_frm hb f0 (fun e => e) (fun e => e), ⟨by rw [x3]; exact g1, by rw [x2]; exact g2, by rw [x1]; exact g3, by rw [x1]; exact g4, by rw [x1]; exact g5, by show g < 1000 + (Z.1.1 + 1); omega⟩, wok_frm hw f, scI_frm hs f (fun x hx e => by rcases e with e | e | e <;> omega)⟩, by rw [List.append_nil], f, Or.inl rfl, Nat.le_refl _, by show Z.1.2 + mjSzK (120, 3) + 2 * q.2.1 ≤ Z.1.2 + 2 * q.2.1 + 8 * 1; omega, Nat.le_refl _, by omega, by rw [List.length_nil]; omega⟩, if_pos rfl, Nat.le_refl _, by show 1000 + Z.1.1 < 1000 + (Z.1.1 + 1); omega⟩
theorem g_sra {Z0 : mjQ} {q0 : mjGw} {p i w : Nat} (k : gwX g sb L xs N Z0 q0 Z q u) (hp : raT Z0 Z p) (hi : i < 3) (hw : 1000000 ≤ w ∧ w < 1000059) (hm : Z.1.1 ≤ 90000) : ∃ Z2, qSra Z p (i3 (i : Nat)) w = some Z2 ∧ gwX g sb L xs N Z0 q0 Z2 q u ∧ raT Z0 Z2 p ∧ ∀ j, Z2.2.2.2.1 p j = if j = i then some w else Z.2.2.2.1 p j := by
  obtain ⟨k1, k2, k3, k4, k5, k6, k7, k8, k9⟩ := k
  obtain ⟨n1, n2, n3, n4, n5, n6⟩ := gS_ne k1
  obtain ⟨d1, d2, d3⟩ := raT_ne k1 hp
  obtain ⟨hb, ⟨g1, g2, g3, g4, g5, g6⟩, hwk, hs⟩ := k1
  obtain ⟨p1, p2, p3⟩ := hp
  have e0 : qSra Z p (i3 (i : Nat)) w = some (Z.1, mjSr Z.2 p i (some w)) := by
    unfold qSra
    have ok : mjAok Z.2 p w = true := by
      unfold mjAok
      rw [ks_of p1, show mjSid w = true from decide_eq_true hw]
      simp
    rw [if_pos ⟨ok, by rw [mjAl, p1]; exact of_eq_true (in_t (by omega))⟩, ix_nat (by omega)]
  have e2 : frm Z (Z.1, mjSr Z.2 p i (some w)) (fun a => a = p) := frm_sr rfl
  obtain ⟨x1, x2, x3⟩ := (e2.2 g (Or.inl n5)).2 d2
  refine ⟨_, e0, ⟨⟨bS_frm hb e2 d1 d3, ⟨by rw [x3]; exact g1, by rw [x2]; exact g2, by rw [x1]; exact g3, by rw [x1]; exact g4, by rw [x1]; exact g5, g6⟩, wok_frm hwk e2, scI_frm hs e2 (fun a ha e => by have e9 : a = p := e; omega)⟩, k2, frm_tr2 k3 e2 ?_, k4, k5, k6, k7, k8, k9⟩, ⟨p1, p2, p3⟩, fun j => if_pos rfl⟩
  intro a ha e
  have e9 : a = p := e
  rcases ha with o | o
  · omega
  · omega
theorem raT_at {Z0 : mjQ} {p i w : Nat} (h : raT Z0 Z p) (hi : i < 3) (hr : Z.2.2.2.1 p i = some w) (hp : p < 1000000) : qAa Z.2 p (i3 (i : Nat)) = some w := by
  have h4 : mjSrd p = none := by
    unfold mjSrd
    rw [if_neg (by omega), if_neg (by omega), if_neg (by omega)]
  unfold qAa
  rw [h4]
  dsimp only
  rw [if_pos ⟨Or.inr (Or.inr (Or.inr (ks_of h.1))), by rw [mjAl, h.1]; exact of_eq_true (in_t (by omega))⟩, ix_nat (by omega), hr]
/-- left, compared -/
theorem g_put {f : Nat} {z : Int} (h : gS g sb L xs Z q) (hm : rmG 0 Z q) (hf : f = 2 ∨ f = 3) : ∃ Z2, qSi Z g 13 f (i3 z) = some Z2 ∧ gwX g sb L xs 0 Z q Z2 (q.1, q.2.1, q.2.2.1, q.2.2.2.1, (if f = 2 then z else q.2.2.2.2.1), (if f = 3 then z else q.2.2.2.2.2)) [] := by
  obtain ⟨n1, n2, n3, n4, n5, n6⟩ := gS_ne h
  have hm1 := hm.1
  obtain ⟨hb, ⟨g1, g2, g3, g4, g5, g6⟩, hw, hs⟩ := h
  have e0 : qSi Z g 13 f (i3 z) = some (Z.1, mjSi Z.2 g f (i3 z)) := qSi_of g1 (by rcases hf with e | e <;> rw [e] <;> rfl)
  have f0 : frm Z (Z.1, mjSi Z.2 g f (i3 z)) (fun a => a = g) := frm_si rfl
  have f1 : frm Z (Z.1, mjSi Z.2 g f (i3 z)) (fun a => a = sb ∨ a = g ∨ a = q.1) := frm_wk f0 (fun x _ e => Or.inr (Or.inl e))
  have rd : ∀ j, (mjSi Z.2 g f (i3 z)).1 g j = if j = f then i3 z else Z.2.1 g j := fun j => if_pos rfl
  refine ⟨_, e0, ⟨bS_frm hb f0 n1 n2, ⟨g1, g2, ?_, ?_, ?_, g6⟩, wok_frm hw f1, scI_frm hs f1 (fun x hx e => by rcases e with e | e | e <;> omega)⟩, by rw [List.append_nil], f1, Or.inl rfl, Nat.le_refl _, Nat.le_refl _, Nat.le_refl _, Nat.le_refl _, by rw [List.length_nil]; omega⟩
  · show (mjSi Z.2 g f (i3 z)).1 g 1 = _
    rw [rd, if_neg (by omega)]; exact g3
  · show (mjSi Z.2 g f (i3 z)).1 g 2 = i3 (if f = 2 then z else q.2.2.2.2.1)
    rw [rd]
    by_cases e : f = 2
    · rw [if_pos e.symm, if_pos e]
    · rw [if_neg (fun w => e w.symm), if_neg e]; exact g4
  · show (mjSi Z.2 g f (i3 z)).1 g 3 = i3 (if f = 3 then z else q.2.2.2.2.2)
    rw [rd]
    by_cases e : f = 3
    · rw [if_pos e.symm, if_pos e]
    · rw [if_neg (fun w => e w.symm), if_neg e]; exact g5
theorem gI_cmp (h : gS g sb L xs Z q) : qI Z.2 g 13 3 = some (i3 q.2.2.2.2.2) := qI_of h.2.1.1 (by decide) h.2.1.2.2.2.2.1
theorem nU_le : ∀ n, n ≤ 2 → nUu n ≤ 219 := by decide
end GC
