/-! MACHINE: the law makes the class's object-/
section IC9
variable {sg : Nat → Nat} {d k pc t : Nat} {L : mjLs} {st : List Value} {Z Z2 : mjQ} {F : Option Value → mjQ → Prop} {a : Nat}
theorem pE_lsi {d9 o : Int} {ps : Array (Int × Int)} {len : Nat} {x : Int32} (hl : mjLook (mjCode k) pc = some (.lookupswitch d9 ps, len)) (hz : (ps.toList.zip (ps.toList.drop 1)).all (fun (a, next) => a.1 < next.1) = true) (ho : Op.lookupswitch.offset ps.toList d9 x.toInt = o) (hj : mjJ pc o = some t) (g : pE sg d k t L st Z F) : pE sg d k pc L (.int x :: st) Z F := by
  refine pE_one (pc1 := t) (L1 := L) (st1 := st) (M1 := Z.2) ?_ g
  simp only [mjOne1, hl, mjLn, mjRet, mjStp, mjLsw, hz, ho, hj, if_true]
def isIn9 (sg : Nat → Nat) (a : Nat) (Z : mjQ) : Prop := a = 0 ∧ 1 ≤ Z.1.1 ∧ Z.1.1 + 210 ≤ 100000 ∧ zS9 1 ≤ Z.1.2 ∧ (∀ j, j < 211 → sg (Z.1.1 - 1 + j) = j) ∧ mjZr Z.2 0 (mjKc (mjLay 0)) = Z.2
noncomputable def in9D (sg : Nat → Nat) (a : Nat) (Z : mjQ) : Decidable (isIn9 sg a Z) := Classical.propDecidable _
noncomputable def qIni (sg : Nat → Nat) (a : Nat) (Z : mjQ) : Option mjQ := @ite _ (isIn9 sg a Z) (in9D sg a Z) (some ((Z.1.1 + 210, Z.1.2 - zS9 1 + zS9 211), cAp cW9 Z.2)) none
theorem qIni_ok (h : qIni sg a Z = some Z2) : pE sg 20 134 0 (mjEnt [.ref a] (mjML 134)) [] Z (fun r M => r = none ∧ M = Z2) := by
  unfold qIni at h
  by_cases q : isIn9 sg a Z
  · rw [if_pos q] at h
    obtain ⟨q1, q2, q3, q4, q5, q6⟩ := q
    have e := Option.some.inj h
    have b : cAp [(3, 0, 0, 0)] Z.2 = Z.2 := q6
    have kk : kOk 1 (cAp [(3, 0, 0, 0)] Z.2) := ⟨by decide, fun c hc => by
      have : c = 0 := by omega
      rw [this]; rfl⟩
    have r := cRun_ok Z.2 sg (Z.1.1 - 1, Z.1.2 - zS9 1) q5 (by show Z.1.1 - 1 + 211 ≤ 100000; omega) 3000 cRes_ok kk
    rw [b] at r
    have e1 : (Z.1.1 - 1 + 1, Z.1.2 - zS9 1 + zS9 1) = Z.1 := Prod.ext (by show Z.1.1 - 1 + 1 = Z.1.1; omega) (by show Z.1.2 - zS9 1 + zS9 1 = Z.1.2; omega)
    have r1 := r.1
    have r1' : mjRun sg 3000 20 134 0 (mjEnt [.ref 0] (mjML 134)) [] (Z.1.1 - 1 + 1, Z.1.2 - zS9 1 + zS9 1) Z.2 = some (none, (Z.1.1 - 1 + 211, Z.1.2 - zS9 1 + zS9 211), cAp cW9 Z.2) := r1
    rw [e1] at r1'
    refine ⟨3000, none, Z2, ?_, rfl, rfl⟩
    rw [q1, r1', ← e, show Z.1.1 - 1 + 211 = Z.1.1 + 210 by omega]
  · rw [if_neg q] at h; cases h
/-- World, made by the numbers 1000 and on-/
def isWo9 (sg : Nat → Nat) (Z2 : mjQ) : Prop := ∀ j, j < Z2.1.1 → sg j = sg0 j
noncomputable def wo9D (sg : Nat → Nat) (Z2 : mjQ) : Decidable (isWo9 sg Z2) := Classical.propDecidable _
noncomputable def qWo (sg : Nat → Nat) (a p : Nat) (Z : mjQ) : Option mjQ := match g197_init sg0 a p Z with
  | some (_, Z2) => @ite _ (isWo9 sg Z2) (wo9D sg Z2) (some Z2) none
  | none => none
theorem qWo_ok {p : Nat} (h : qWo sg a p Z = some Z2) : pE sg 59 197 0 (mjEnt [.ref a, .ref p] (mjML 197)) [] Z (fun r M => r = none ∧ M = Z2) := by
  unfold qWo at h
  cases e : g197_init sg0 a p Z with
  | none => rw [e] at h; cases h
  | some q =>
    obtain ⟨u, Z3⟩ := q
    rw [e] at h
    dsimp only at h
    by_cases g : isWo9 sg Z3
    · rw [if_pos g] at h
      have e3 := Option.some.inj h
      obtain ⟨f, r, Z4, h1, h2, h3⟩ := g197_init_ok e
      obtain ⟨-, k⟩ := mjRun_sg f h1
      have h3' : Z4 = Z3 := h3
      refine ⟨f, r, Z4, k sg (fun j _ hj => g j (by rw [← h3']; exact hj)), h2, by rw [h3', e3]⟩
    · rw [if_neg g] at h; cases h
theorem qWo_eq {p : Nat} {u : Unit} (h : g197_init sg0 a p Z = some (u, Z2)) (g : ∀ j, j < Z2.1.1 → sg j = sg0 j) : qWo sg a p Z = some Z2 := by
  unfold qWo
  rw [h]
  dsimp only
  rw [if_pos (show isWo9 sg Z2 from g)]
theorem qIni_eq (h1 : 1 ≤ Z.1.1) (h2 : Z.1.1 + 210 ≤ 100000) (h3 : zS9 1 ≤ Z.1.2) (h4 : ∀ j, j < 211 → sg (Z.1.1 - 1 + j) = j) (h5 : mjZr Z.2 0 (mjKc (mjLay 0)) = Z.2) : qIni sg 0 Z = some ((Z.1.1 + 210, Z.1.2 - zS9 1 + zS9 211), cAp cW9 Z.2) := by
  unfold qIni
  rw [if_pos (show isIn9 sg 0 Z from ⟨rfl, h1, h2, h3, h4, h5⟩)]
end IC9
