/-! MACHINE: the law calls the class-/
def deW (M : mjMem) : mjWt := (M.2.2.1, M.2.2.2)
def deZ (M : mjMem) : mjZt := (M.1, M.2.1, (M.2.2.1 0 2).getD 0, (M.2.2.1 183 0).getD 0)
def isVw (M : mjMem) : Prop := mjWok (deW M) ∧ mjVw (deW M) (deZ M) = M
noncomputable def vwD (M : mjMem) : Decidable (isVw M) := Classical.propDecidable _
noncomputable def qCl {α : Type} (f : mjZt → Option (α × mjZt)) (Z : mjQ) : Option (α × mjQ) := @ite _ (isVw Z.2) (vwD Z.2) (match f (deZ Z.2) with
  | some (v, Z1) => some (v, (Z.1, mjVw (deW Z.2) Z1))
  | none => none) none
noncomputable def qClp {α : Type} (f : mjZt → Option α) (Z : mjQ) : Option α := @ite _ (isVw Z.2) (vwD Z.2) (f (deZ Z.2)) none
section QC9
variable {α : Type} {sg : Nat → Nat} {k2 : Nat} {As : List Value} {Z Z2 : mjQ} {W : mjWt} {Zc Zc2 : mjZt} {n : Nat × Nat}
theorem pE_cls {f : mjZt → Option (α × mjZt)} {v : α} {rv : α → Option Value} (hq : qCl f Z = some (v, Z2)) (hok : ∀ Zc v9 Z1, f Zc = some (v9, Z1) → pG k2 0 (mjEnt As (mjML k2)) [] (mjTo Zc) (fun r M1 => r = rv v9 ∧ M1 = mjTo Z1)) : pE sg (mjRk k2) k2 0 (mjEnt As (mjML k2)) [] Z (fun r M => r = rv v ∧ M = Z2) := by
  unfold qCl at hq
  by_cases h : isVw Z.2
  · rw [if_pos h] at hq
    cases e : f (deZ Z.2) with
    | none => rw [e] at hq; cases hq
    | some q =>
      obtain ⟨v9, Z1⟩ := q
      rw [e] at hq
      have e2 := Option.some.inj hq
      have ev : v9 = v := congrArg Prod.fst e2
      have eZ : (Z.1, mjVw (deW Z.2) Z1) = Z2 := congrArg Prod.snd e2
      obtain ⟨fu, r, Zr, h1, h2, h3⟩ := hok _ _ _ e sg Z.1 (deW Z.2) h.1
      have h3' : Zr = Z1 := h3
      have h4 : mjVw (deW Z.2) (mjTo (deZ Z.2)) = Z.2 := h.2
      rw [h4] at h1
      refine ⟨fu, r, Z2, ?_, by rw [h2, ev], rfl⟩
      rw [← eZ, h1, h3']
  · rw [if_neg h] at hq; cases hq
theorem pE_clp {f : mjZt → Option α} {v : α} {rv : α → Option Value} (hq : qClp f Z = some v) (hok : ∀ Zc v9, f Zc = some v9 → pG k2 0 (mjEnt As (mjML k2)) [] (mjTo Zc) (fun r M1 => r = rv v9 ∧ M1 = mjTo Zc)) : pE sg (mjRk k2) k2 0 (mjEnt As (mjML k2)) [] Z (fun r M => r = rv v ∧ M = Z) := by
  unfold qClp at hq
  by_cases h : isVw Z.2
  · rw [if_pos h] at hq
    obtain ⟨fu, r, Zr, h1, h2, h3⟩ := hok _ _ hq sg Z.1 (deW Z.2) h.1
    have h3' : Zr = deZ Z.2 := h3
    have h4 : mjVw (deW Z.2) (mjTo (deZ Z.2)) = Z.2 := h.2
    rw [h4] at h1
    refine ⟨fu, r, Z, ?_, h2, rfl⟩
    rw [h1, h3', h.2]
  · rw [if_neg h] at hq; cases hq
/-- nothing hidden-/
def hid9 (Z : mjZt) : mjZt := (fun a => if 211 ≤ a ∧ a < 251 then (fun _ => 0) else Z.1 a, fun a => if 211 ≤ a ∧ a < 251 then (fun _ => 0) else Z.2.1 a, Z.2.2)
def Wo9 (W : mjWt) : Prop := mjWok W
theorem vw_hid : mjVw W (hid9 Zc) = mjVw W Zc := by
  refine Prod.ext ?_ (Prod.ext ?_ rfl)
  · funext a
    show (if 211 ≤ a ∧ a < 251 then (fun _ => 0) else (if 211 ≤ a ∧ a < 251 then (fun _ => 0) else Zc.1 a)) = (if 211 ≤ a ∧ a < 251 then (fun _ => 0) else Zc.1 a)
    split <;> rfl
  · funext a
    show (if 211 ≤ a ∧ a < 251 then (fun _ => 0) else (if 211 ≤ a ∧ a < 251 then (fun _ => 0) else Zc.2.1 a)) = (if 211 ≤ a ∧ a < 251 then (fun _ => 0) else Zc.2.1 a)
    split <;> rfl
theorem deZ_vw : deZ (mjVw W Zc) = hid9 Zc := by
  refine Prod.ext rfl (Prod.ext rfl (Prod.ext ?_ ?_))
  · show (mjRv Zc.2.2.1 Zc.2.2.2 0 2).getD 0 = Zc.2.2.1
    rfl
  · show (mjRv Zc.2.2.1 Zc.2.2.2 183 0).getD 0 = Zc.2.2.2
    rfl
theorem deW_vw (Y : mjZt) : mjVw (deW (mjVw W Zc)) Y = mjVw (W.1, W.2) (Y) := by
  refine Prod.ext rfl (Prod.ext rfl (Prod.ext ?_ ?_))
  · funext a k
    show (if a < 211 then mjRv Y.2.2.1 Y.2.2.2 a k else (if a < 211 then mjRv Zc.2.2.1 Zc.2.2.2 a k else W.1 a k)) = (if a < 211 then mjRv Y.2.2.1 Y.2.2.2 a k else W.1 a k)
    split <;> rfl
  · funext a
    show (if a < 211 then mjKc (mjLay a) else (if a < 211 then mjKc (mjLay a) else W.2 a)) = (if a < 211 then mjKc (mjLay a) else W.2 a)
    split <;> rfl
theorem vw_is9 (hW : mjWok W) : isVw (mjVw W Zc) := by
  refine ⟨fun a ha => ?_, ?_⟩
  · show ((if a < 211 then mjKc (mjLay a) else W.2 a)).1 = 99
    rw [if_neg (by omega)]
    exact hW a ha
  · rw [deZ_vw, deW_vw]
    exact vw_hid
/-- a call-/
theorem cl_vw {f : mjZt → Option (α × mjZt)} {v : α} (hW : mjWok W) (h : f (hid9 Zc) = some (v, Zc2)) : qCl f (n, mjVw W Zc) = some (v, (n, mjVw W Zc2)) := by
  unfold qCl
  rw [if_pos (vw_is9 hW)]
  show (match f (deZ (mjVw W Zc)) with
    | some (v, Z1) => some (v, (n, mjVw (deW (mjVw W Zc)) Z1))
    | none => none) = _
  rw [deZ_vw, h]
  show some (v, (n, mjVw (deW (mjVw W Zc)) Zc2)) = _
  rw [deW_vw]
theorem clp_vw {f : mjZt → Option α} {v : α} (hW : mjWok W) (h : f (hid9 Zc) = some v) : qClp f (n, mjVw W Zc) = some v := by
  unfold qClp
  rw [if_pos (vw_is9 hW)]
  show f (deZ (mjVw W Zc)) = _
  rw [deZ_vw, h]
/-- what is hidden tells nothing-/
theorem cI_hid {b N U : Nat} {S : mjS} {E : Nat → Nat → Int} (hi : cI9 Zc b S N U E) : cI9 (hid9 Zc) b S N U E := by
  obtain ⟨hb, h, hd, htr, hv, ho, hoc, hl⟩ := hi
  have hb2 := b_b h
  have o1 := ok_sc ho
  have oa := all_le ho
  have ec : ∀ a, a < 211 → (hid9 Zc).1 a = Zc.1 a ∧ (hid9 Zc).2.1 a = Zc.2.1 a := fun a g => ⟨if_neg (by omega), if_neg (by omega)⟩
  have eB : eqB b Zc (hid9 Zc) := fun a g1 g2 => ec a (by omega)
  obtain ⟨l1, l2, l3, l4, l5⟩ := hl
  exact ⟨hb, cBk_of ⟨o1.1, o1.2.1⟩ h eB, cDr_of ⟨o1.1, oa⟩ hd eB, cTr_of htr eB, vRep_of hv (fun a g1 g2 => (ec a (by omega)).1), ho, hoc, l1, l2, by rw [(ec 209 (by omega)).1]; exact l3, by rw [(ec 209 (by omega)).1]; exact l4, fun k g j gj => by rw [(ec 210 (by omega)).1]; exact l5 k g j gj⟩
theorem tp_hid {u : List Nat} (h : tpC Zc u) : tpC (hid9 Zc) u := h
theorem fr_hid : fr9 Zc (hid9 Zc) := fun a q => if_neg (by omega)
theorem sp_hid {b : Nat} (hb : b = 2 ∨ b = 92) (h : spZ b Zc) : spZ b (hid9 Zc) := spZ_of hb h (fun a g1 g2 => ⟨if_neg (by omega), if_neg (by omega)⟩)
end QC9
