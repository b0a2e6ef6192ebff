/-! ONE STEP of the small interpreter is one step of the machine -/
def mjRp (D : va_G) (kA : Nat → ClassId) (lo : Nat → Nat) (base : Nat) (sc : Nat × (Nat → Int32)) (n : Nat) (M : mjMem) (H : Heap) : Prop :=
  mjRep D kA lo base n M H ∧ n ≤ 1000 ∧ M.1 2000000 = sc.2 ∧ M.1 2000001 0 = Int32.ofNat sc.1 ∧ M.1 2000001 1 = Int32.ofNat (lo 1200001) ∧ lo 1200001 ≤ 1
theorem mjII_spec {f : Int32 → Int32 → Value} {pc pc1 : Nat} {L L1 : mjLs} {st st1 : List Value} {M M1 : mjMem} (h : mjII f pc L st M = some (pc1, L1, st1, M1)) : ∃ x y r, st = .int y :: .int x :: r ∧ pc = pc1 ∧ L = L1 ∧ st1 = f x y :: r ∧ M = M1 := by
  unfold mjII at h; split at h <;> cases h; exact ⟨_, _, _, rfl, rfl, rfl, rfl, rfl⟩
theorem mjLL_spec {f : Int64 → Int64 → Value} {pc pc1 : Nat} {L L1 : mjLs} {st st1 : List Value} {M M1 : mjMem} (h : mjLL f pc L st M = some (pc1, L1, st1, M1)) : ∃ x y r, st = .long y :: .long x :: r ∧ pc = pc1 ∧ L = L1 ∧ st1 = f x y :: r ∧ M = M1 := by
  unfold mjLL at h; split at h <;> cases h; exact ⟨_, _, _, rfl, rfl, rfl, rfl, rfl⟩
theorem mjLI_spec {f : Int64 → Int32 → Value} {pc pc1 : Nat} {L L1 : mjLs} {st st1 : List Value} {M M1 : mjMem} (h : mjLI f pc L st M = some (pc1, L1, st1, M1)) : ∃ x y r, st = .int y :: .long x :: r ∧ pc = pc1 ∧ L = L1 ∧ st1 = f x y :: r ∧ M = M1 := by
  unfold mjLI at h; split at h <;> cases h; exact ⟨_, _, _, rfl, rfl, rfl, rfl, rfl⟩
theorem mjI1_spec {f : Int32 → Value} {pc pc1 : Nat} {L L1 : mjLs} {st st1 : List Value} {M M1 : mjMem} (h : mjI1 f pc L st M = some (pc1, L1, st1, M1)) : ∃ x r, st = .int x :: r ∧ pc = pc1 ∧ L = L1 ∧ st1 = f x :: r ∧ M = M1 := by
  unfold mjI1 at h; split at h <;> cases h; exact ⟨_, _, rfl, rfl, rfl, rfl, rfl⟩
theorem mjLoadI_spec {j pc pc1 : Nat} {L L1 : mjLs} {st st1 : List Value} {M M1 : mjMem} (h : mjLoadI L j pc st M = some (pc1, L1, st1, M1)) : ∃ x, mjLd L j = some (.int x) ∧ pc = pc1 ∧ L = L1 ∧ st1 = .int x :: st ∧ M = M1 := by
  unfold mjLoadI at h; split at h <;> cases h; exact ⟨_, by assumption, rfl, rfl, rfl, rfl⟩
theorem mjLoadL_spec {j pc pc1 : Nat} {L L1 : mjLs} {st st1 : List Value} {M M1 : mjMem} (h : mjLoadL L j pc st M = some (pc1, L1, st1, M1)) : ∃ x, mjLd L j = some (.long x) ∧ pc = pc1 ∧ L = L1 ∧ st1 = .long x :: st ∧ M = M1 := by
  unfold mjLoadL at h; split at h <;> cases h; exact ⟨_, by assumption, rfl, rfl, rfl, rfl⟩
theorem mjLoadA_spec {j pc pc1 : Nat} {L L1 : mjLs} {st st1 : List Value} {M M1 : mjMem} (h : mjLoadA L j pc st M = some (pc1, L1, st1, M1)) : ∃ x, mjLd L j = some (.ref x) ∧ pc = pc1 ∧ L = L1 ∧ st1 = .ref x :: st ∧ M = M1 := by
  unfold mjLoadA at h; split at h <;> cases h; exact ⟨_, by assumption, rfl, rfl, rfl, rfl⟩
theorem mjStoI_spec {j pc pc1 : Nat} {L L1 : mjLs} {st st1 : List Value} {M M1 : mjMem} (h : mjStoI L j pc st M = some (pc1, L1, st1, M1)) : ∃ x r, st = .int x :: r ∧ j < L.length ∧ pc = pc1 ∧ L1 = mjSet1 L j (.int x) ∧ r = st1 ∧ M = M1 := by
  unfold mjStoI at h; split at h
  · split at h <;> cases h; exact ⟨_, _, rfl, by assumption, rfl, rfl, rfl, rfl⟩
  · cases h
theorem mjStoL_spec {j pc pc1 : Nat} {L L1 : mjLs} {st st1 : List Value} {M M1 : mjMem} (h : mjStoL L j pc st M = some (pc1, L1, st1, M1)) : ∃ x r, st = .long x :: r ∧ j + 1 < L.length ∧ pc = pc1 ∧ L1 = mjSet2 L j (.long x) ∧ r = st1 ∧ M = M1 := by
  unfold mjStoL at h; split at h
  · split at h <;> cases h; exact ⟨_, _, rfl, by assumption, rfl, rfl, rfl, rfl⟩
  · cases h
theorem mjStoA_spec {j pc pc1 : Nat} {L L1 : mjLs} {st st1 : List Value} {M M1 : mjMem} (h : mjStoA L j pc st M = some (pc1, L1, st1, M1)) : ∃ x r, st = .ref x :: r ∧ j < L.length ∧ pc = pc1 ∧ L1 = mjSet1 L j (.ref x) ∧ r = st1 ∧ M = M1 := by
  unfold mjStoA at h; split at h
  · split at h <;> cases h; exact ⟨_, _, rfl, by assumption, rfl, rfl, rfl, rfl⟩
  · cases h
theorem mjJ_spec {pc t : Nat} {off : Int} (h : mjJ pc off = some t) : (pc : Int) + off = (t : Int) := by
  unfold mjJ at h; split at h <;> cases h; omega
theorem mjBr_spec {b : Bool} {pc pc1 : Nat} {off : Int} {L L1 : mjLs} {r st1 : List Value} {M M1 : mjMem} (h : mjBr b pc off L r M = some (pc1, L1, st1, M1)) : ∃ t : Nat, (pc : Int) + off = (t : Int) ∧ pc1 = (if b = true then t else pc + 3) ∧ L = L1 ∧ r = st1 ∧ M = M1 := by
  unfold mjBr at h; split at h <;> cases h; exact ⟨_, mjJ_spec (by assumption), rfl, rfl, rfl, rfl⟩
theorem mjOne_cat {lo : Nat → Nat} {v : Value} (h : mjOne v = true) : (mjRn lo v).category = 1 := by cases v <;> first | rfl | (simp [mjOne] at h)
theorem mjCell_ne {kA : Nat → ClassId} {lo : Nat → Nat} {M M1 : mjMem} {j : Nat} (h1 : M1.1 j = M.1 j) (h2 : M1.2.1 j = M.2.1 j) (h3 : M1.2.2 j = M.2.2 j) : mjCell kA lo M1 j = mjCell kA lo M j := by
  simp only [mjCell, mjFs, mjFv, mjAr, h1, h2, h3]
  congr 2
  · congr 1
    apply List.map_congr_left
    intro k _
    simp only [mjFv, h1, h2, h3]
theorem mjSi_ne {kA : Nat → ClassId} {lo : Nat → Nat} {M : mjMem} {a k : Nat} {v : Int32} : ∀ j, j ≠ a → mjCell kA lo (mjSi M a k v) j = mjCell kA lo M j := fun j hj => mjCell_ne (by funext q; simp [mjSi, hj]) rfl rfl
theorem mjSl_ne {kA : Nat → ClassId} {lo : Nat → Nat} {M : mjMem} {a k : Nat} {v : Int64} : ∀ j, j ≠ a → mjCell kA lo (mjSl M a k v) j = mjCell kA lo M j := fun j hj => mjCell_ne rfl (by funext q; simp [mjSl, hj]) rfl
theorem mjSr_ne {kA : Nat → ClassId} {lo : Nat → Nat} {M : mjMem} {a k : Nat} {v : Option Nat} : ∀ j, j ≠ a → mjCell kA lo (mjSr M a k v) j = mjCell kA lo M j := fun j hj => mjCell_ne rfl rfl (by funext q; simp [mjSr, hj])
theorem mjZr_ne {kA : Nat → ClassId} {lo : Nat → Nat} {M : mjMem} {a : Nat} : ∀ j, j ≠ a → mjCell kA lo (mjZr M a) j = mjCell kA lo M j := fun j hj => mjCell_ne (by funext q; simp [mjZr, hj]) (by funext q; simp [mjZr, hj]) (by funext q; simp [mjZr, hj])
/-- the kinds of the fields are what their descriptors say -/
def mjTOk (c : Nat) : Bool := (List.range (mjNf c)).all fun k => match mjFk c k with
  | 0 => decide (mjTy c k = .int)
  | 1 => decide (mjTy c k = .long)
  | 2 => (match mjTy c k with | .object _ => true | .array _ => true | _ => false)
  | 3 => decide (mjTy c k = .boolean)
  | _ => false
theorem mjT_ok : ((List.range 13).all mjTOk) = true := by decide +kernel
theorem mjT_at {c k : Nat} (hc : c < 13) (hk : k < mjNf c) : (mjFk c k = 0 ∧ mjTy c k = .int) ∨ (mjFk c k = 1 ∧ mjTy c k = .long) ∨ (mjFk c k = 2 ∧ ((∃ z, mjTy c k = .object z) ∨ ∃ z, mjTy c k = .array z)) ∨ (mjFk c k = 3 ∧ mjTy c k = .boolean) := by
  have h1 := List.all_eq_true.mp mjT_ok c (List.mem_range.mpr hc)
  have h2 := List.all_eq_true.mp h1 k (List.mem_range.mpr hk)
  split at h2
  · rename_i h; exact Or.inl ⟨h, by simpa using h2⟩
  · rename_i h; exact Or.inr (Or.inl ⟨h, by simpa using h2⟩)
  · rename_i h
    split at h2
    · rename_i z hz; exact Or.inr (Or.inr (Or.inl ⟨h, Or.inl ⟨_, hz⟩⟩))
    · rename_i z hz; exact Or.inr (Or.inr (Or.inl ⟨h, Or.inr ⟨_, hz⟩⟩))
    · cases h2
  · rename_i h; exact Or.inr (Or.inr (Or.inr ⟨h, by simpa using h2⟩))
  · cases h2
def mjStr (lo : Nat → Nat) (base : Nat) (U : State) (H : Heap) : Prop :=
  (∀ i : Nat, i < 10 → vk_S 1 [(mjTxL.getD i []).length] [mjTxL.getD i []] (fun _ => lo (1000000 + i)) (fun _ => lo (1100000 + i)) (fun q => base ≤ q) U H) ∧
  va_Z "java/lang/String" "COMPACT_STRINGS" "Z" (.int 1) (fun q => base ≤ q) U H ∧ va_Z "jdk/internal/util/Preconditions" "SIOOBE_FORMATTER" "Ljava/util/function/BiFunction;" (if lo 1200001 = 0 then .null else .ref (lo 1200000)) (fun q => base ≤ q) U H
theorem mjStr.moved {lo : Nat → Nat} {base : Nat} {u U : State} {H : Heap} (hvm : u.vm.Alike U.vm) (h : mjStr lo base u H) : mjStr lo base U H := ⟨fun i hi => vk_S.moved hvm (h.1 i hi), va_Z.moved hvm h.2.1, va_Z.moved hvm h.2.2⟩
theorem mjStr.kept {lo : Nat → Nat} {base : Nat} {U : State} {H H1 : Heap} (h : mjStr lo base U H) (hq : ∀ a : Nat, a < H.size → ¬ base ≤ a → H1[a]? = H[a]?) : mjStr lo base U H1 := ⟨fun i hi => (h.1 i hi).kept hq, h.2.1.kept hq, h.2.2.kept hq⟩
/-- what is so of the machine in a frame of method k -/
def mjCx (p : Program) (s : State) (m : MethodId) (args : Array Value) (meth : Method) (c : Code) (D : va_G) (kA : Nat → ClassId) (lo : Nat → Nat) (base : Nat) (sc : Nat × (Nat → Int32)) (H0 : Heap) (k : Nat) : Prop :=
  p.tables.exec = Jvm.exec ∧ c.code = mjB k ∧ (∀ w ∈ mjW, w.before args s = true) ∧ s.vm.findClass (mjCn (mjCls k)) = some m.cls ∧ va_K D mjCl (mjTys kA) s ∧ (mjKd k = 2 → meth.name = "<init>") ∧ (∀ i, i < 1000000 → lo i = base + i) ∧
  (∀ ix j, mjCs (mjCls k) ix = some (.ref j) → ∃ tx, vk_R (mjCn (mjCls k)) ix tx (lo j) s) ∧ (va_AO "BatonZones$Team" s ∧ va_AO "BatonZones$Act" s) ∧ (va_X (lo 2000000) sc.1 sc.2 s H0 ∧ lo 2000000 < H0.size ∧ lo 2000000 < base ∧ sc.1 < 2147483648) ∧ mjStr lo base s H0
section MJ3
variable {p : Program} {l : Launch} {e : Env} {R : Room} {s : State} {m : MethodId} {args : Array Value} {below : List Frame} {meth : Method} {c : Code} {H : Heap} {locs : List Loc} {cells slots : Nat} {Q : State → Prop}
variable {ls : Array Slot} {D : va_G} {kA : Nat → ClassId} {lo : Nat → Nat} {base : Nat} {sc : Nat × (Nat → Int32)} {H0 : Heap} {k n len pc pc1 nL : Nat} {i : Instr} {L L1 : mjLs} {st st1 : List Value} {M M1 : mjMem}
theorem mjRp.si {a k : Nat} {v : Int32} {H1 : Heap} (h : mjRp D kA lo base sc n M H) (ha : a < n) (h1 : mjRep D kA lo base n (mjSi M a k v) H1) : mjRp D kA lo base sc n (mjSi M a k v) H1 := by
  obtain ⟨-, h2, h3, h4, h5, h6⟩ := h
  refine ⟨h1, h2, ?_, ?_, ?_, h6⟩
  · show (fun j => if 2000000 = a then _ else M.1 2000000 j) = _
    rw [← h3]; funext j; rw [if_neg (by omega)]
  · show (if 2000001 = a then _ else M.1 2000001 0) = _
    rw [if_neg (by omega)]; exact h4
  · show (if 2000001 = a then _ else M.1 2000001 1) = _
    rw [if_neg (by omega)]; exact h5
theorem mj_sto1 {nL j : Nat} {v : Value} {r : List Value} {pc0 : Nat} (hLR : mjLR lo ls nL L) (hj : j < L.length)
    (row : j < nL → ∀ lv', (j, mjRn lo v) :: (mjPl lo L).filter (fun q => !(q.1 == j) && !(q.1 + 1 == j && q.2.category == 2)) = lv' → (∀ ls', lv_has ls' nL lv' → W p l e R s m args below meth c H locs cells slots Q (F0 m pc0 ls' r)) → W p l e R s m args below meth c H locs cells slots Q (F0 m pc ls (mjRn lo v :: r)))
    (kk : ∀ ls', mjLR lo ls' nL (mjSet1 L j v) → W p l e R s m args below meth c H locs cells slots Q (F0 m pc0 ls' r)) : W p l e R s m args below meth c H locs cells slots Q (F0 m pc ls (mjRn lo v :: r)) :=
  row (by rw [← hLR.1]; exact hj) _ rfl (fun ls' h' => kk ls' (hLR.sto1 h'))
theorem mj_sto2 {nL j : Nat} {v : Value} {r : List Value} {pc0 : Nat} (hLR : mjLR lo ls nL L) (hj : j + 1 < L.length)
    (row : j + 1 < nL → ∀ lv', (j, mjRn lo v) :: (mjPl lo L).filter (fun q => !(q.1 == j) && (!(q.1 == j + 1) && !(q.1 + 1 == j && q.2.category == 2))) = lv' → (∀ ls', lv_has ls' nL lv' → W p l e R s m args below meth c H locs cells slots Q (F0 m pc0 ls' r)) → W p l e R s m args below meth c H locs cells slots Q (F0 m pc ls (mjRn lo v :: r)))
    (kk : ∀ ls', mjLR lo ls' nL (mjSet2 L j v) → W p l e R s m args below meth c H locs cells slots Q (F0 m pc0 ls' r)) : W p l e R s m args below meth c H locs cells slots Q (F0 m pc ls (mjRn lo v :: r)) :=
  row (by rw [← hLR.1]; exact hj) _ rfl (fun ls' h' => kk ls' (hLR.sto2 h'))
end MJ3
def mjCsOk (o : Nat) (q : Nat × Value × Nat) : Bool := match q.2.1 with
  | .int x => mjOk q.2.2 (.constant (mjCn o) q.1 x)
  | .long x => mjOk q.2.2 (.constantLong (mjCn o) q.1 x)
  | .ref _ => true
  | _ => false
set_option maxRecDepth 100000 in
theorem mjCsL_ok : ((List.range 21).all fun o => (mjCsL.getD o []).all (mjCsOk o)) = true := by decide +kernel
theorem mjCls_lt (k : Nat) : mjCls k < 21 := by
  have h : (mjT.all fun q => decide (q.1 < 21)) = true := by decide +kernel
  by_cases hk : k < mjT.length
  · have h1 : mjG k = mjT[k] := by simp [mjG, List.getD_eq_getElem?_getD, hk]
    have h2 := List.all_eq_true.mp h _ (List.getElem_mem hk)
    rw [← h1] at h2
    simpa using h2
  · have h1 : mjG k = mjD := by simp [mjG, List.getD_eq_getElem?_getD, List.getElem?_eq_none (Nat.not_lt.mp hk)]
    show (mjG k).1 < 21
    rw [h1]
    decide
section MJ4
variable {p : Program} {l : Launch} {e : Env} {R : Room} {s : State} {m : MethodId} {args : Array Value} {below : List Frame} {meth : Method} {c : Code} {H : Heap} {locs : List Loc} {cells slots : Nat} {Q : State → Prop}
variable {ls : Array Slot} {D : va_G} {kA : Nat → ClassId} {lo : Nat → Nat} {base : Nat} {sc : Nat × (Nat → Int32)} {H0 : Heap} {k n len pc pc1 nL : Nat} {i : Instr} {L L1 : mjLs} {st st1 : List Value} {M M1 : mjMem}
theorem mjCmp_eq {x y : Int32} : (mjCmp .eq x y = true) ↔ x = y := by simp [mjCmp]
theorem mjCs_spec {own ix : Nat} {v : Value} (ho : own < 21) (h : mjCs own ix = some v) : (∃ x, v = .int x ∧ Cond.constant (mjCn own) ix x ∈ mjW) ∨ (∃ x, v = .long x ∧ Cond.constantLong (mjCn own) ix x ∈ mjW) ∨ ∃ j, v = .ref j := by
  unfold mjCs at h
  cases hq : (mjCsL.getD own []).find? (fun q => q.1 == ix) with
  | none => rw [hq] at h; cases h
  | some q =>
    rw [hq] at h
    have h1 := List.all_eq_true.mp mjCsL_ok own (List.mem_range.mpr ho)
    have h2 := List.all_eq_true.mp h1 q (List.mem_of_find?_eq_some hq)
    have h3 := List.find?_some hq
    obtain ⟨q1, q2, q3⟩ := q
    simp only [beq_iff_eq] at h3
    subst h3
    simp only [Option.some.injEq] at h
    subst h
    unfold mjCsOk at h2
    split at h2
    · exact Or.inl ⟨_, by assumption, mjOk_in h2⟩
    · exact Or.inr (Or.inl ⟨_, by assumption, mjOk_in h2⟩)
    · exact Or.inr (Or.inr ⟨_, by assumption⟩)
    · cases h2
end MJ4
