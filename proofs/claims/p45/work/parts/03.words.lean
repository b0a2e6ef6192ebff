/-! the words, and that the tables are right -/
def mjSelS : List Cond := mjPrv.map fun q => Cond.selects "java/lang/StringBuilder" q.1 q.1
def mjTbl : List Cond := mjSelS ++ lw_tbl
/-- a private method of the superclass is selected on a StringBuilder -/
theorem mj_selP {y z : MethodName} {s : State} {args : Array Value} (hz : (Cond.selects "java/lang/StringBuilder" z z).before args s = true) (hcl : y.cls = z.cls) (hy : y.cls ≠ "java/lang/invoke/MethodHandle" ∧ y.cls ≠ "java/lang/invoke/VarHandle")
    (hpriv : (Cond.privateMethod y).before args s = true) (hinst : (Cond.instanceMethod y).before args s = true) : (Cond.selects "java/lang/StringBuilder" y y).before args s = true := by
  obtain ⟨c, r, m, hc, -, hnz, -, kc, hkc, hki⟩ := Cond.selects_spec hz
  obtain ⟨mk, methM, hnamed, hmethM, -, -⟩ := Cond.instanceMethod_spec hinst
  have hfound : s.methodFound? y.cls y.name y.desc = some mk := State.methodFound?_of_named hnamed hy
  have h1 : s.vm.findClass y.cls = some mk.cls := findClass_of_methodNamed hnamed
  have h2 : s.vm.findClass z.cls = some m.cls := findClass_of_methodNamed hnz
  rw [hcl, h2] at h1
  have hcls : m.cls = mk.cls := Option.some.inj h1
  have hsel : selectMethod {} s.vm c mk = .method mk := selectMethod_private hmethM (Cond.privateMethod_at hpriv mk methM hnamed hmethM)
  simp only [Cond.before, Cond.holds, Cond.value, hc, hfound, hnamed, hsel, ← hcls, hkc]
  simp; exact hki
def mjW : List Cond := mjTbl.filter goodWord
theorem mjW_good : ∀ w ∈ mjW, (w.onTables && w.keeps) = true ∨ ∃ ty, w = .arrayClass ty := fun _ h => good_of_word (List.mem_filter.mp h).2
def mjSub : Nat → List Cond
  | 0 => k2_sels lw_privs
  | 1 => tables_1_1
  | 2 => tables_1_2
  | 3 => tables_1_3
  | 4 => tables_1_4
  | 5 => tables_1_5
  | 6 => tables_1_6
  | 7 => tables_1_7
  | 8 => tables_1_8
  | 9 => tables_1_9
  | 10 => mjSelS
  | _ => []
theorem mjSub_lw (j : Nat) (w : Cond) (hj : j < 10) (h : w ∈ mjSub j) : w ∈ lw_tbl := by
  show w ∈ k2_sels lw_privs ++ (tables_1_1 ++ (tables_1_2 ++ (tables_1_3 ++ (tables_1_4 ++ (tables_1_5 ++ (tables_1_6 ++ (tables_1_7 ++ (tables_1_8 ++ tables_1_9))))))))
  simp only [List.mem_append]
  unfold mjSub at h
  split at h
  · exact Or.inl h
  · exact Or.inr (Or.inl h)
  · exact Or.inr (Or.inr (Or.inl h))
  · exact Or.inr (Or.inr (Or.inr (Or.inl h)))
  · exact Or.inr (Or.inr (Or.inr (Or.inr (Or.inl h))))
  · exact Or.inr (Or.inr (Or.inr (Or.inr (Or.inr (Or.inl h)))))
  · exact Or.inr (Or.inr (Or.inr (Or.inr (Or.inr (Or.inr (Or.inl h))))))
  · exact Or.inr (Or.inr (Or.inr (Or.inr (Or.inr (Or.inr (Or.inr (Or.inl h)))))))
  · exact Or.inr (Or.inr (Or.inr (Or.inr (Or.inr (Or.inr (Or.inr (Or.inr (Or.inl h))))))))
  · exact Or.inr (Or.inr (Or.inr (Or.inr (Or.inr (Or.inr (Or.inr (Or.inr (Or.inr h))))))))
  · omega
  · cases h
theorem mjSub_in (j : Nat) (w : Cond) (h : w ∈ mjSub j) : w ∈ mjTbl := by
  by_cases hj : j < 10
  · exact List.mem_append_right _ (mjSub_lw j w hj h)
  · by_cases h10 : j = 10
    · subst h10
      exact List.mem_append_left _ h
    · have e : mjSub j = [] := by
        unfold mjSub
        split <;> first | omega | rfl
      rw [e] at h
      cases h
/-- at a start where the tables' words hold, these hold too -/
def mjPrvOk (q : MethodName × Nat × Nat) : Bool := decide ((mjSub (q.2.1 / 1000))[q.2.1 % 1000]? = some (.privateMethod q.1)) && decide ((mjSub (q.2.2 / 1000))[q.2.2 % 1000]? = some (.instanceMethod q.1)) && decide (q.2.1 < 10000 ∧ q.2.2 < 10000) && decide (q.1.cls = "java/lang/AbstractStringBuilder")
theorem mjPrv_ok : mjPrv.all mjPrvOk = true := by decide +kernel
theorem mjTbl_of {args : Array Value} {s : State} (hts : ∀ w ∈ lw_tbl, w.before args s = true) : ∀ w ∈ mjTbl, w.before args s = true := by
  intro w hw
  rcases List.mem_append.mp hw with hw | hw
  · obtain ⟨q, hq, rfl⟩ := List.mem_map.mp hw
    have h := List.all_eq_true.mp mjPrv_ok q hq
    simp only [mjPrvOk, Bool.and_eq_true, decide_eq_true_eq] at h
    obtain ⟨⟨⟨h1, h2⟩, h3⟩, h4⟩ := h
    have hz : (Cond.selects "java/lang/StringBuilder" ⟨"java/lang/AbstractStringBuilder", "isLatin1", "()Z"⟩ ⟨"java/lang/AbstractStringBuilder", "isLatin1", "()Z"⟩).before args s = true := hts _ (mjSub_lw 5 _ (by decide) (List.mem_of_getElem? (i := 200) (by decide +kernel)))
    exact mj_selP hz h4 (by rw [h4]; exact ⟨by decide, by decide⟩) (hts _ (mjSub_lw _ _ (by omega) (List.mem_of_getElem? h1))) (hts _ (mjSub_lw _ _ (by omega) (List.mem_of_getElem? h2)))
  · exact hts w hw
def mjOk (i : Nat) (w : Cond) : Bool := decide ((mjSub (i / 1000))[i % 1000]? = some w) && goodWord w
theorem mjOk_in {i : Nat} {w : Cond} (h : mjOk i w = true) : w ∈ mjW := by
  simp only [mjOk, Bool.and_eq_true, decide_eq_true_eq] at h
  exact List.mem_filter.mpr ⟨mjSub_in _ _ (List.mem_of_getElem? h.1), h.2⟩
def mjTx (c : Nat) : u_T := mjTL.getD c TX0
def mjTy (c : Nat) : Nat → FieldType := mjTyL.getD c tyX0
/-- a field reference: its word; where it goes through a subclass, the word that it is the same field -/
def mjFOk (o : Nat) (q : Nat × Nat × Nat × Nat × Nat) : Bool := (if q.2.2.2.2 = 0 then mjOk q.2.2.2.1 (.fieldLink (mjCn o) q.1 (mjTx q.2.1 q.2.2.1).1 (mjTx q.2.1 q.2.2.1).2.1 (mjTx q.2.1 q.2.2.1).2.2.1) else mjOk q.2.2.2.1 (.fieldLink (mjCn o) q.1 "java/util/ArrayList" (mjTx q.2.1 q.2.2.1).2.1 (mjTx q.2.1 q.2.2.1).2.2.1) && mjOk q.2.2.2.2 (.sameField "java/util/ArrayList" (mjTx q.2.1 q.2.2.1).1 (mjTx q.2.1 q.2.2.1).2.1 (mjTx q.2.1 q.2.2.1).2.2.1)) && (decide (q.2.1 < 21) && decide (q.2.2.1 < mjNf q.2.1))
set_option maxRecDepth 100000 in
theorem mjFL_ok : ((List.range 37).all fun o => (mjFL.getD o []).all (mjFOk o)) = true := by decide +kernel
def mjFld (o ix : Nat) : Option (Nat × Nat) := match (mjFL.getD o []).find? (fun q => q.1 == ix) with
  | some q => some (q.2.1, q.2.2.1)
  | none => none
theorem mjFld_spec {o ix ci k : Nat} (h : mjFld o ix = some (ci, k)) : (∃ ref, Cond.fieldLink (mjCn o) ix ref (mjTx ci k).2.1 (mjTx ci k).2.2.1 ∈ mjW ∧ (ref = (mjTx ci k).1 ∨ Cond.sameField ref (mjTx ci k).1 (mjTx ci k).2.1 (mjTx ci k).2.2.1 ∈ mjW)) ∧ ci < 21 ∧ k < mjNf ci := by
  unfold mjFld at h
  by_cases ho : o < 37
  · cases hq : (mjFL.getD o []).find? (fun q => q.1 == ix) with
    | none => rw [hq] at h; cases h
    | some q =>
      rw [hq] at h
      have h1 := List.all_eq_true.mp mjFL_ok o (List.mem_range.mpr ho)
      have h2 := List.all_eq_true.mp h1 q (List.mem_of_find?_eq_some hq)
      have h3 := List.find?_some hq
      obtain ⟨q1, q2, q3, q4, q5⟩ := q
      simp only [beq_iff_eq] at h3
      subst h3
      simp only [Option.some.injEq, Prod.mk.injEq] at h
      obtain ⟨rfl, rfl⟩ := h
      simp only [mjFOk, Bool.and_eq_true, decide_eq_true_eq] at h2
      refine ⟨?_, h2.2.1, h2.2.2⟩
      have h9 := h2.1
      split at h9
      · exact ⟨_, mjOk_in h9, Or.inl rfl⟩
      · simp only [Bool.and_eq_true] at h9
        exact ⟨_, mjOk_in h9.1, Or.inr (mjOk_in h9.2)⟩
  · have : mjFL.getD o [] = [] := by
      have h9 : mjFL[o]? = none := List.getElem?_eq_none (by have : mjFL.length = 37 := rfl; omega)
      simp [List.getD_eq_getElem?_getD, h9]
    rw [this] at h
    cases h
/-- a class's own field words -/
def mjUOk (c : Nat) : Bool := decide (((mjUw.getD c []).filterMap fun i => (mjSub (i / 1000))[i % 1000]?) = u_ws (mjCn c) (mjTx c) (mjNf c)) && (u_ws (mjCn c) (mjTx c) (mjNf c)).all goodWord
set_option maxRecDepth 100000 in
theorem mjU_ok : ((List.range 21).all mjUOk) = true := by decide +kernel
theorem mjU_in {c : Nat} (hc : c < 21) : ∀ w ∈ u_ws (mjCn c) (mjTx c) (mjNf c), w ∈ mjW := by
  have h := List.all_eq_true.mp mjU_ok c (List.mem_range.mpr hc)
  simp only [mjUOk, Bool.and_eq_true, decide_eq_true_eq] at h
  intro w hw
  have hg := List.all_eq_true.mp h.2 w hw
  rw [← h.1] at hw
  obtain ⟨i, -, hi⟩ := List.mem_filterMap.mp hw
  exact List.mem_filter.mpr ⟨mjSub_in _ _ (List.mem_of_getElem? hi), hg⟩
/-- the classes' own facts -/
def mjCOk (c : Nat) : Bool := (decide (∀ a, a < mjNf c → ∀ b, b < mjNf c → a ≠ b → (mjTx c a).2.1 ≠ (mjTx c b).2.1)) && ((List.range (mjNf c)).all fun k => decide (parseFieldDescriptor (mjTx c k).2.2.1 = some (mjTy c k)) && decide ((mjTx c k).2.2.2 = true → (mjTx c k).1 = mjCn c))
set_option maxRecDepth 100000 in
theorem mjC_ok : ((List.range 21).all mjCOk) = true := by decide +kernel
theorem mjC_nm {c : Nat} (hc : c < 21) : ∀ a, a < mjNf c → ∀ b, b < mjNf c → a ≠ b → (mjTx c a).2.1 ≠ (mjTx c b).2.1 := by
  have h := List.all_eq_true.mp mjC_ok c (List.mem_range.mpr hc)
  simp only [mjCOk, Bool.and_eq_true, decide_eq_true_eq] at h
  exact h.1
theorem mjC_ty {c : Nat} (hc : c < 21) : ∀ k, k < mjNf c → parseFieldDescriptor (mjTx c k).2.2.1 = some (mjTy c k) := by
  have h := List.all_eq_true.mp mjC_ok c (List.mem_range.mpr hc)
  simp only [mjCOk, Bool.and_eq_true] at h
  intro k hk
  have h2 := List.all_eq_true.mp h.2 k (List.mem_range.mpr hk)
  simp only [Bool.and_eq_true, decide_eq_true_eq] at h2
  exact h2.1
theorem mjC_own {c : Nat} (hc : c < 21) : ∀ k, k < mjNf c → (mjTx c k).2.2.2 = true → (mjTx c k).1 = mjCn c := by
  have h := List.all_eq_true.mp mjC_ok c (List.mem_range.mpr hc)
  simp only [mjCOk, Bool.and_eq_true] at h
  intro k hk
  have h2 := List.all_eq_true.mp h.2 k (List.mem_range.mpr hk)
  simp only [Bool.and_eq_true, decide_eq_true_eq] at h2
  exact h2.2
theorem mjCl_at {c : Nat} (hc : c < 21) : mjCl[c]? = some (mjCn c, mjTx c, mjNf c) := by
  have h : ∀ c, c < 21 → mjCl[c]? = some (mjCn c, mjTx c, mjNf c) := by
    intro c hc
    rcases (show c = 0 ∨ c = 1 ∨ c = 2 ∨ c = 3 ∨ c = 4 ∨ c = 5 ∨ c = 6 ∨ c = 7 ∨ c = 8 ∨ c = 9 ∨ c = 10 ∨ c = 11 ∨ c = 12 ∨ c = 13 ∨ c = 14 ∨ c = 15 ∨ c = 16 ∨ c = 17 ∨ c = 18 ∨ c = 19 ∨ c = 20 by omega) with rfl | rfl | rfl | rfl | rfl | rfl | rfl | rfl | rfl | rfl | rfl | rfl | rfl | rfl | rfl | rfl | rfl | rfl | rfl | rfl | rfl <;> rfl
  exact h c hc
/-- a method's words -/
def mjMw (k : Nat) : Nat × Nat × Nat × Nat := mjMwL.getD k (0, 0, 9, 0)
