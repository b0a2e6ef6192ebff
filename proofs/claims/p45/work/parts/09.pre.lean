/-! what stands before ONE STEP of the small interpreter as one step of the machine -/
def mjRp (D : va_G) (kA : Nat → ClassId) (lo sg : Nat → Nat) (base : Nat) (sc : Nat × (Nat → Int32)) (n : Nat) (M : mjMem) (H : Heap) : Prop :=
  mjRep D kA lo sg base n M H ∧ M.1 2000000 = sc.2 ∧ M.1 2000001 0 = Int32.ofNat sc.1 ∧ M.1 2000001 1 = Int32.ofNat (lo 1200001) ∧ lo 1200001 ≤ 1
theorem mjII_spec {f : Int32 → Int32 → Value} {pc pc1 : Nat} {L L1 : mjLs} {st st1 : List Value} {M M1 : mjMem} (h : mjII f pc L st M = some (pc1, L1, st1, M1)) : ∃ x y r, st = .int y :: .int x :: r ∧ pc = pc1 ∧ L = L1 ∧ st1 = f x y :: r ∧ M = M1 := by
  unfold mjII at h; split at h <;> cases h; exact ⟨_, _, _, rfl, rfl, rfl, rfl, rfl⟩
theorem mjLL_spec {f : Int64 → Int64 → Value} {pc pc1 : Nat} {L L1 : mjLs} {st st1 : List Value} {M M1 : mjMem} (h : mjLL f pc L st M = some (pc1, L1, st1, M1)) : ∃ x y r, st = .long y :: .long x :: r ∧ pc = pc1 ∧ L = L1 ∧ st1 = f x y :: r ∧ M = M1 := by
  unfold mjLL at h; split at h <;> cases h; exact ⟨_, _, _, rfl, rfl, rfl, rfl, rfl⟩
theorem mjLI_spec {f : Int64 → Int32 → Value} {pc pc1 : Nat} {L L1 : mjLs} {st st1 : List Value} {M M1 : mjMem} (h : mjLI f pc L st M = some (pc1, L1, st1, M1)) : ∃ x y r, st = .int y :: .long x :: r ∧ pc = pc1 ∧ L = L1 ∧ st1 = f x y :: r ∧ M = M1 := by
  unfold mjLI at h; split at h <;> cases h; exact ⟨_, _, _, rfl, rfl, rfl, rfl, rfl⟩
theorem mjI1_spec {f : Int32 → Value} {pc pc1 : Nat} {L L1 : mjLs} {st st1 : List Value} {M M1 : mjMem} (h : mjI1 f pc L st M = some (pc1, L1, st1, M1)) : ∃ x r, st = .int x :: r ∧ pc = pc1 ∧ L = L1 ∧ st1 = f x :: r ∧ M = M1 := by
  unfold mjI1 at h; split at h <;> cases h; exact ⟨_, _, rfl, rfl, rfl, rfl, rfl⟩
theorem mjLoadI_spec {j pc pc1 : Nat} {L L1 : mjLs} {st st1 : List Value} {M M1 : mjMem} (h : mjLoadI L j pc st M = some (pc1, L1, st1, M1)) : ∃ x, mjLd L j = some (.int x) ∧ pc = pc1 ∧ L = L1 ∧ st1 = .int x :: st ∧ M = M1 := by
  unfold mjLoadI at h; split at h <;> cases h; exact ⟨_, by assumption, rfl, rfl, rfl, rfl⟩
theorem mjLoadL_spec {j pc pc1 : Nat} {L L1 : mjLs} {st st1 : List Value} {M M1 : mjMem} (h : mjLoadL L j pc st M = some (pc1, L1, st1, M1)) : ∃ x, mjLd L j = some (.long x) ∧ pc = pc1 ∧ L = L1 ∧ st1 = .long x :: st ∧ M = M1 := by
  unfold mjLoadL at h; split at h <;> cases h; exact ⟨_, by assumption, rfl, rfl, rfl, rfl⟩
theorem mjLoadA_spec {j pc pc1 : Nat} {L L1 : mjLs} {st st1 : List Value} {M M1 : mjMem} (h : mjLoadA L j pc st M = some (pc1, L1, st1, M1)) : ∃ x, (x = .null ∨ ∃ a, x = .ref a) ∧ mjLd L j = some x ∧ pc = pc1 ∧ L = L1 ∧ st1 = x :: st ∧ M = M1 := by
  unfold mjLoadA at h; split at h <;> cases h
  · exact ⟨_, Or.inr ⟨_, rfl⟩, by assumption, rfl, rfl, rfl, rfl⟩
  · exact ⟨_, Or.inl rfl, by assumption, rfl, rfl, rfl, rfl⟩
theorem mjStoI_spec {j pc pc1 : Nat} {L L1 : mjLs} {st st1 : List Value} {M M1 : mjMem} (h : mjStoI L j pc st M = some (pc1, L1, st1, M1)) : ∃ x r, st = .int x :: r ∧ j < L.length ∧ pc = pc1 ∧ L1 = mjSet1 L j (.int x) ∧ r = st1 ∧ M = M1 := by
  unfold mjStoI at h; split at h
  · split at h <;> cases h; exact ⟨_, _, rfl, by assumption, rfl, rfl, rfl, rfl⟩
  · cases h
theorem mjStoL_spec {j pc pc1 : Nat} {L L1 : mjLs} {st st1 : List Value} {M M1 : mjMem} (h : mjStoL L j pc st M = some (pc1, L1, st1, M1)) : ∃ x r, st = .long x :: r ∧ j + 1 < L.length ∧ pc = pc1 ∧ L1 = mjSet2 L j (.long x) ∧ r = st1 ∧ M = M1 := by
  unfold mjStoL at h; split at h
  · split at h <;> cases h; exact ⟨_, _, rfl, by assumption, rfl, rfl, rfl, rfl⟩
  · cases h
theorem mjStoA_spec {j pc pc1 : Nat} {L L1 : mjLs} {st st1 : List Value} {M M1 : mjMem} (h : mjStoA L j pc st M = some (pc1, L1, st1, M1)) : ∃ x r, st = .ref x :: r ∧ j < L.length ∧ pc = pc1 ∧ L1 = mjSet1 L j (.ref x) ∧ r = st1 ∧ M = M1 := by
  unfold mjStoA at h; split at h
  · split at h <;> cases h; exact ⟨_, _, rfl, by assumption, rfl, rfl, rfl, rfl⟩
  · cases h
theorem mjJ_spec {pc t : Nat} {off : Int} (h : mjJ pc off = some t) : (pc : Int) + off = (t : Int) := by
  unfold mjJ at h; split at h <;> cases h; omega
theorem mjBr_spec {b : Bool} {pc pc1 : Nat} {off : Int} {L L1 : mjLs} {r st1 : List Value} {M M1 : mjMem} (h : mjBr b pc off L r M = some (pc1, L1, st1, M1)) : ∃ t : Nat, (pc : Int) + off = (t : Int) ∧ pc1 = (if b = true then t else pc + 3) ∧ L = L1 ∧ r = st1 ∧ M = M1 := by
  unfold mjBr at h; split at h <;> cases h; exact ⟨_, mjJ_spec (by assumption), rfl, rfl, rfl, rfl⟩
theorem mjOne_cat {lo : Nat → Nat} {v : Value} (h : mjOne v = true) : (mjRn lo v).category = 1 := by cases v <;> first | rfl | (simp [mjOne] at h)
theorem mjCell_ne {kA : Nat → ClassId} {lo : Nat → Nat} {M M1 : mjMem} {j : Nat} (h1 : M1.1 j = M.1 j) (h2 : M1.2.1 j = M.2.1 j) (h3 : M1.2.2.1 j = M.2.2.1 j) (h4 : M1.2.2.2 j = M.2.2.2 j) : mjCell kA lo M1 j = mjCell kA lo M j := by
  simp only [mjCell, mjFs, mjFv, mjAr, h1, h2, h3, h4]
  congr 2
  · congr 1
    apply List.map_congr_left
    intro k _
    simp only [mjFv, h1, h2, h3]
theorem mjSi_ne {kA : Nat → ClassId} {lo : Nat → Nat} {M : mjMem} {a k : Nat} {v : Int32} : ∀ j, j ≠ a → mjCell kA lo (mjSi M a k v) j = mjCell kA lo M j := fun j hj => mjCell_ne (by funext q; simp [mjSi, hj]) rfl rfl rfl
theorem mjSl_ne {kA : Nat → ClassId} {lo : Nat → Nat} {M : mjMem} {a k : Nat} {v : Int64} : ∀ j, j ≠ a → mjCell kA lo (mjSl M a k v) j = mjCell kA lo M j := fun j hj => mjCell_ne rfl (by funext q; simp [mjSl, hj]) rfl rfl
theorem mjSr_ne {kA : Nat → ClassId} {lo : Nat → Nat} {M : mjMem} {a k : Nat} {v : Option Nat} : ∀ j, j ≠ a → mjCell kA lo (mjSr M a k v) j = mjCell kA lo M j := fun j hj => mjCell_ne rfl rfl (by funext q; simp [mjSr, hj]) rfl
theorem mjCp_ne {kA : Nat → ClassId} {lo : Nat → Nat} {M : mjMem} {f : Nat → Int32} {a sp dp w : Nat} : ∀ j, j ≠ a → mjCell kA lo (mjCp M f a sp dp w) j = mjCell kA lo M j := fun j hj => mjCell_ne (by funext q; simp [mjCp, hj]) rfl rfl rfl
theorem mjZr_ne {kA : Nat → ClassId} {lo : Nat → Nat} {M : mjMem} {a : Nat} {q0 : Nat × Nat} : ∀ j, j ≠ a → mjCell kA lo (mjZr M a q0) j = mjCell kA lo M j := fun j hj => mjCell_ne (by funext q; simp [mjZr, hj]) (by funext q; simp [mjZr, hj]) (by funext q; simp [mjZr, hj]) (by simp [mjZr, hj])
/-- the kinds of the fields are what their descriptors say -/
def mjTOk (c : Nat) : Bool := (List.range (mjNf c)).all fun k => match mjFk c k with
  | 0 => decide (mjTy c k = .int)
  | 1 => decide (mjTy c k = .long)
  | 2 => (match mjTy c k with | .object _ => true | .array _ => true | _ => false)
  | 3 => decide (mjTy c k = .boolean)
  | 4 => decide (mjTy c k = .byte)
  | _ => false
theorem mjT_ok : ((List.range 21).all mjTOk) = true := by decide +kernel
theorem mjT_at {c k : Nat} (hc : c < 21) (hk : k < mjNf c) : (mjFk c k = 0 ∧ mjTy c k = .int) ∨ (mjFk c k = 1 ∧ mjTy c k = .long) ∨ (mjFk c k = 2 ∧ ((∃ z, mjTy c k = .object z) ∨ ∃ z, mjTy c k = .array z)) ∨ (mjFk c k = 3 ∧ mjTy c k = .boolean) ∨ (mjFk c k = 4 ∧ mjTy c k = .byte) := by
  have h1 := List.all_eq_true.mp mjT_ok c (List.mem_range.mpr hc)
  have h2 := List.all_eq_true.mp h1 k (List.mem_range.mpr hk)
  split at h2
  · rename_i h; exact Or.inl ⟨h, by simpa using h2⟩
  · rename_i h; exact Or.inr (Or.inl ⟨h, by simpa using h2⟩)
  · rename_i h
    split at h2
    · rename_i z hz; exact Or.inr (Or.inr (Or.inl ⟨h, Or.inl ⟨_, hz⟩⟩))
    · rename_i z hz; exact Or.inr (Or.inr (Or.inl ⟨h, Or.inr ⟨_, hz⟩⟩))
    · cases h2
  · rename_i h; exact Or.inr (Or.inr (Or.inr (Or.inl ⟨h, by simpa using h2⟩)))
  · rename_i h; exact Or.inr (Or.inr (Or.inr (Or.inr ⟨h, by simpa using h2⟩)))
  · cases h2
/-- statics read, and what they hold -/
def mjStN (q : Nat) : String × String × String := match q with
  | 0 => ("java/lang/String", "COMPACT_STRINGS", "Z")
  | 1 => ("jdk/internal/util/Preconditions", "SIOOBE_FORMATTER", "Ljava/util/function/BiFunction;")
  | 2 => ("java/util/ArrayList", "DEFAULTCAPACITY_EMPTY_ELEMENTDATA", "[Ljava/lang/Object;")
  | 3 => ("java/lang/Integer", "DigitOnes", "[B")
  | 4 => ("java/lang/Integer", "DigitTens", "[B")
  | 5 => ("java/lang/Integer$IntegerCache", "high", "I")
  | 6 => ("java/lang/Integer$IntegerCache", "cache", "[Ljava/lang/Integer;")
  | _ => ("BatonZonesLaw$Grown", "FACTS", "[Ljava/lang/String;")
def mjStV (lo : Nat → Nat) (q : Nat) : Value := match q with
  | 0 => .int 1
  | 1 => if lo 1200001 = 0 then .null else .ref (lo 1200000)
  | 2 => .ref (lo 1300003)
  | 3 => .ref (lo 1300001)
  | 4 => .ref (lo 1300002)
  | 5 => .int 127
  | 6 => .ref (lo 1300004)
  | _ => .ref (lo 1300000)
def mjStOk (q : Nat × Nat × Nat × Nat) : Bool := mjOk q.2.2.2 (.fieldLink (mjCn q.1) q.2.1 (mjStN q.2.2.1).1 (mjStN q.2.2.1).2.1 (mjStN q.2.2.1).2.2) && decide (q.2.2.1 < 8)
theorem mjStL_ok : mjStL.all mjStOk = true := by decide +kernel
theorem mjSt_spec {own ix q : Nat} (h : mjSt own ix = some q) : Cond.fieldLink (mjCn own) ix (mjStN q).1 (mjStN q).2.1 (mjStN q).2.2 ∈ mjW ∧ q < 8 := by
  unfold mjSt at h
  cases hq : mjStL.find? (fun q => q.1 == own && q.2.1 == ix) with
  | none => rw [hq] at h; cases h
  | some w =>
    rw [hq] at h
    have h2 := List.all_eq_true.mp mjStL_ok w (List.mem_of_find?_eq_some hq)
    have h3 := List.find?_some hq
    obtain ⟨w1, w2, w3, w4⟩ := w
    simp only [Bool.and_eq_true, beq_iff_eq] at h3
    obtain ⟨rfl, rfl⟩ := h3
    simp only [Option.some.injEq] at h
    subst h
    simp only [mjStOk, Bool.and_eq_true, decide_eq_true_eq] at h2
    exact ⟨mjOk_in h2.1, h2.2⟩
/-- casts -/
def mjCkN (q : Nat) : String := match q with
  | 0 => "java/lang/Integer"
  | 1 => "java/lang/String"
  | 2 => "java/lang/AbstractStringBuilder"
  | 4 => "[B"
  | _ => "java/util/List"
def mjCkOk (q : Nat × Nat × Nat × Nat) : Bool := mjOk q.2.2.2 (.classLink (mjCn q.1) q.2.1 (mjCkN q.2.2.1))
theorem mjCkL_ok : mjCkL.all mjCkOk = true := by decide +kernel
theorem mjCk_spec {own ix q : Nat} (h : mjCkF own ix = some q) : Cond.classLink (mjCn own) ix (mjCkN q) ∈ mjW := by
  unfold mjCkF at h
  cases hq : mjCkL.find? (fun q => q.1 == own && q.2.1 == ix) with
  | none => rw [hq] at h; cases h
  | some w =>
    rw [hq] at h
    have h2 := List.all_eq_true.mp mjCkL_ok w (List.mem_of_find?_eq_some hq)
    have h3 := List.find?_some hq
    obtain ⟨w1, w2, w3, w4⟩ := w
    simp only [Bool.and_eq_true, beq_iff_eq] at h3
    obtain ⟨rfl, rfl⟩ := h3
    simp only [Option.some.injEq] at h
    subst h
    exact mjOk_in h2
def mjCaL : List (String × String) := [("java/lang/StringBuilder", "java/lang/AbstractStringBuilder"), ("java/util/ArrayList", "java/util/List"), ("java/lang/Integer", "java/lang/Object"), ("BatonZonesLaw$Act", "java/lang/Object"), ("BatonZonesLaw$Rule", "java/lang/Object"), ("java/util/ArrayList", "java/lang/Object"), ("[I", "java/lang/Object"), ("[B", "java/lang/Cloneable")]
/-- what was there before the law began, and that nobody writes -/
def mjPre (lo : Nat → Nat) (base : Nat) (U : State) (H : Heap) : Prop :=
  (∀ i : Nat, i < 59 → vk_S 1 [(mjTxL.getD i []).length] [mjTxL.getD i []] (fun _ => lo (1000000 + i)) (fun _ => lo (1100000 + i)) (fun q => base ≤ q) U H) ∧
  va_T .byte (lo 1300001) mjOnL.length (fun j => .int (mjOnL.getD j 0)) (fun q => base ≤ q) U H ∧ va_T .byte (lo 1300002) mjTeL.length (fun j => .int (mjTeL.getD j 0)) (fun q => base ≤ q) U H ∧
  va_T (.object "java/lang/String") (lo 1300000) 11 (fun j => .ref (lo (mjFxL.getD j 0))) (fun q => base ≤ q) U H ∧ va_T (.object "java/lang/Object") (lo 1300003) 0 (fun _ => .null) (fun q => base ≤ q) U H ∧ va_T (.object "java/lang/Integer") (lo 1300004) 256 (fun j => .ref (lo (1400000 + j))) (fun q => base ≤ q) U H ∧
  vb_C (fun k => lo (1400000 + k)) (fun q => base ≤ q) U H ∧ ∀ q : Nat, q < 8 → va_Z (mjStN q).1 (mjStN q).2.1 (mjStN q).2.2 (mjStV lo q) (fun q => base ≤ q) U H
theorem mjPre.moved {lo : Nat → Nat} {base : Nat} {u U : State} {H : Heap} (hvm : u.vm.Alike U.vm) (h : mjPre lo base u H) : mjPre lo base U H :=
  ⟨fun i hi => vk_S.moved hvm (h.1 i hi), va_T.moved hvm h.2.1, va_T.moved hvm h.2.2.1, va_T.moved hvm h.2.2.2.1, va_T.moved hvm h.2.2.2.2.1, va_T.moved hvm h.2.2.2.2.2.1, vb_C.moved hvm h.2.2.2.2.2.2.1, fun q hq => va_Z.moved hvm (h.2.2.2.2.2.2.2 q hq)⟩
theorem mjPre.kept {lo : Nat → Nat} {base : Nat} {U : State} {H H1 : Heap} (h : mjPre lo base U H) (hq : ∀ a : Nat, a < H.size → ¬ base ≤ a → H1[a]? = H[a]?) : mjPre lo base U H1 :=
  ⟨fun i hi => (h.1 i hi).kept hq, h.2.1.kept hq, h.2.2.1.kept hq, h.2.2.2.1.kept hq, h.2.2.2.2.1.kept hq, h.2.2.2.2.2.1.kept hq, h.2.2.2.2.2.2.1.kept hq, fun q h9 => (h.2.2.2.2.2.2.2 q h9).kept hq⟩
/-- a row of bytes that was there before -/
theorem mjPre.byt {lo : Nat → Nat} {base : Nat} {U : State} {H : Heap} (h : mjPre lo base U H) {a : Nat} (ha : mjSbd a = true) : va_T .byte (lo a) (mjTx0 (a - 1100000)).length (fun j => .int ((mjTx0 (a - 1100000)).getD j 0)) (fun q => base ≤ q) U H := by
  simp only [mjSbd, decide_eq_true_eq] at ha
  rcases ha with ha | rfl | rfl
  · obtain ⟨i, hi, rfl⟩ : ∃ i, i < 59 ∧ a = 1100000 + i := ⟨a - 1100000, by omega, by omega⟩
    have h1 := ((h.1 i hi).1 0 (by decide)).2.2.2
    rw [show 1100000 + i - 1100000 = i by omega, show mjTx0 i = mjTxL.getD i [] by unfold mjTx0; rw [if_neg (by omega), if_neg (by omega)]]
    exact h1
  · exact h.2.1
  · exact h.2.2.1
/-- what is so of the machine in a frame of method k -/
def mjCx (p : Program) (s : State) (m : MethodId) (args : Array Value) (meth : Method) (c : Code) (D : va_G) (kA : Nat → ClassId) (lo : Nat → Nat) (base : Nat) (sc : Nat × (Nat → Int32)) (H0 : Heap) (k : Nat) : Prop :=
  p.tables.exec = Jvm.exec ∧ c.code = mjB k ∧ (∀ w ∈ mjW, w.before args s = true) ∧ s.vm.findClass (mjCn (mjCls k)) = some m.cls ∧ va_K D mjCl (mjTys kA) s ∧ (mjKd k = 2 → meth.name = "<init>") ∧
  (∀ ix j, mjCs (mjCls k) ix = some (.ref j) → ∃ tx, vk_R (mjCn (mjCls k)) ix tx (lo j) s) ∧ (va_AO "BatonZones$Team" s ∧ va_AO "BatonZones$Act" s ∧ va_AO "java/lang/Object" s ∧ va_AO "java/lang/String" s) ∧ (va_X (lo 2000000) sc.1 sc.2 s H0 ∧ lo 2000000 < H0.size ∧ lo 2000000 < base ∧ sc.1 < 2147483648) ∧ mjPre lo base s H0 ∧
  (∀ q ∈ mjCaL, va_Nw (.castable q.1 q.2) s) ∧ va_Nc "java/lang/StringBuilder" "java/lang/String" s
section MJ3
variable {p : Program} {l : Launch} {e : Env} {R : Room} {s : State} {m : MethodId} {args : Array Value} {below : List Frame} {meth : Method} {c : Code} {H : Heap} {locs : List Loc} {cells slots : Nat} {Q : State → Prop}
variable {ls : Array Slot} {D : va_G} {kA : Nat → ClassId} {lo sg : Nat → Nat} {base : Nat} {sc : Nat × (Nat → Int32)} {H0 : Heap} {k n len pc pc1 nL : Nat} {i : Instr} {L L1 : mjLs} {st st1 : List Value} {M M1 : mjMem}
theorem mjRp.keep {H1 : Heap} (h : mjRp D kA lo sg base sc n M H) {n1 a : Nat} (ha : a < 1000000) (h0 : ∀ b, b ≠ a → M1.1 b = M.1 b) (h1 : mjRep D kA lo sg base n1 M1 H1) : mjRp D kA lo sg base sc n1 M1 H1 := by
  obtain ⟨-, h3, h4, h5, h6⟩ := h
  exact ⟨h1, by rw [h0 _ (by omega)]; exact h3, by rw [h0 _ (by omega)]; exact h4, by rw [h0 _ (by omega)]; exact h5, h6⟩
theorem mjRp.lt {a ci : Nat} (h : mjRp D kA lo sg base sc n M H) (ha : mjKs M a ci = true) (hc : ci ≠ 99) : a < 1000000 := by
  obtain ⟨-, -, -, -, h4⟩ := h.1.at ha hc
  exact h4
theorem mjSi_int {a k : Nat} {v : Int32} : ∀ b, b ≠ a → (mjSi M a k v).1 b = M.1 b := fun b hb => by funext q; simp [mjSi, hb]
theorem mjCp_int {f : Nat → Int32} {a sp dp w : Nat} : ∀ b, b ≠ a → (mjCp M f a sp dp w).1 b = M.1 b := fun b hb => by funext q; simp [mjCp, hb]
theorem mjZr_int {a : Nat} {q0 : Nat × Nat} : ∀ b, b ≠ a → (mjZr M a q0).1 b = M.1 b := fun b hb => by funext q; simp [mjZr, hb]
theorem mj_sto1 {nL j : Nat} {v : Value} {r : List Value} {pc0 : Nat} (hLR : mjLR lo ls nL L) (hj : j < L.length)
    (row : j < nL → ∀ lv', (j, mjRn lo v) :: (mjPl lo L).filter (fun q => !(q.1 == j) && !(q.1 + 1 == j && q.2.category == 2)) = lv' → (∀ ls', lv_has ls' nL lv' → W p l e R s m args below meth c H locs cells slots Q (F0 m pc0 ls' r)) → W p l e R s m args below meth c H locs cells slots Q (F0 m pc ls (mjRn lo v :: r)))
    (kk : ∀ ls', mjLR lo ls' nL (mjSet1 L j v) → W p l e R s m args below meth c H locs cells slots Q (F0 m pc0 ls' r)) : W p l e R s m args below meth c H locs cells slots Q (F0 m pc ls (mjRn lo v :: r)) :=
  row (by rw [← hLR.1]; exact hj) _ rfl (fun ls' h' => kk ls' (hLR.sto1 h'))
theorem mj_sto2 {nL j : Nat} {v : Value} {r : List Value} {pc0 : Nat} (hLR : mjLR lo ls nL L) (hj : j + 1 < L.length)
    (row : j + 1 < nL → ∀ lv', (j, mjRn lo v) :: (mjPl lo L).filter (fun q => !(q.1 == j) && (!(q.1 == j + 1) && !(q.1 + 1 == j && q.2.category == 2))) = lv' → (∀ ls', lv_has ls' nL lv' → W p l e R s m args below meth c H locs cells slots Q (F0 m pc0 ls' r)) → W p l e R s m args below meth c H locs cells slots Q (F0 m pc ls (mjRn lo v :: r)))
    (kk : ∀ ls', mjLR lo ls' nL (mjSet2 L j v) → W p l e R s m args below meth c H locs cells slots Q (F0 m pc0 ls' r)) : W p l e R s m args below meth c H locs cells slots Q (F0 m pc ls (mjRn lo v :: r)) :=
  row (by rw [← hLR.1]; exact hj) _ rfl (fun ls' h' => kk ls' (hLR.sto2 h'))
end MJ3
def mjCsOk (o : Nat) (q : Nat × Value × Nat) : Bool := match q.2.1 with
  | .int x => mjOk q.2.2 (.constant (mjCn o) q.1 x)
  | .long x => mjOk q.2.2 (.constantLong (mjCn o) q.1 x)
  | .ref _ => true
  | _ => false
set_option maxRecDepth 100000 in
theorem mjCsL_ok : ((List.range 37).all fun o => (mjCsL.getD o []).all (mjCsOk o)) = true := by decide +kernel
theorem mjCls_lt (k : Nat) : mjCls k < 37 := by
  have h : (mjT.all fun q => decide (q.1 < 37)) = true := by decide +kernel
  by_cases hk : k < mjT.length
  · have h1 : mjG k = mjT[k] := by simp [mjG, List.getD_eq_getElem?_getD, hk]
    have h2 := List.all_eq_true.mp h _ (List.getElem_mem hk)
    rw [← h1] at h2
    simpa using h2
  · have h1 : mjG k = mjD := by simp [mjG, List.getD_eq_getElem?_getD, List.getElem?_eq_none (Nat.not_lt.mp hk)]
    show (mjG k).1 < 37
    rw [h1]
    decide
section MJ4
variable {p : Program} {l : Launch} {e : Env} {R : Room} {s : State} {m : MethodId} {args : Array Value} {below : List Frame} {meth : Method} {c : Code} {H : Heap} {locs : List Loc} {cells slots : Nat} {Q : State → Prop}
variable {ls : Array Slot} {D : va_G} {kA : Nat → ClassId} {lo : Nat → Nat} {base : Nat} {sc : Nat × (Nat → Int32)} {H0 : Heap} {k n len pc pc1 nL : Nat} {i : Instr} {L L1 : mjLs} {st st1 : List Value} {M M1 : mjMem}
theorem mjCmp_eq {x y : Int32} : (mjCmp .eq x y = true) ↔ x = y := by simp [mjCmp]
theorem mjCs_spec {own ix : Nat} {v : Value} (ho : own < 37) (h : mjCs own ix = some v) : (∃ x, v = .int x ∧ Cond.constant (mjCn own) ix x ∈ mjW) ∨ (∃ x, v = .long x ∧ Cond.constantLong (mjCn own) ix x ∈ mjW) ∨ ∃ j, v = .ref j := by
  unfold mjCs at h
  cases hq : (mjCsL.getD own []).find? (fun q => q.1 == ix) with
  | none => rw [hq] at h; cases h
  | some q =>
    rw [hq] at h
    have h1 := List.all_eq_true.mp mjCsL_ok own (List.mem_range.mpr ho)
    have h2 := List.all_eq_true.mp h1 q (List.mem_of_find?_eq_some hq)
    have h3 := List.find?_some hq
    obtain ⟨q1, q2, q3⟩ := q
    simp only [beq_iff_eq] at h3
    subst h3
    simp only [Option.some.injEq] at h
    subst h
    unfold mjCsOk at h2
    split at h2
    · exact Or.inl ⟨_, by assumption, mjOk_in h2⟩
    · exact Or.inr (Or.inl ⟨_, by assumption, mjOk_in h2⟩)
    · exact Or.inr (Or.inr ⟨_, by assumption⟩)
    · cases h2
end MJ4
