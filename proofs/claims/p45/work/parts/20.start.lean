/-! THE LAW'S START: the claim out of the pure statement -/
/-- the string constants: (class, index, text, place of its word, place of its contents among what is given) -/
def mjSref : List (Nat × Nat × String × Nat × Nat) := [(3, 82, "when    excuse  and     or      not     ", 4055, 774), (3, 88, "tenth   size    leg     place   lane    other   ahead   cut     again   forced  rank    ", 4077, 820), (6, 55, "track   team    runs    act     rule    through within  ", 3134, 383), (6, 172, "drop    lane    cut     impede  box     ", 4010, 684), (6, 181, "when    excuse  and     or      not     ", 4027, 729), (9, 54, ";+-*(){}<>=", 3045, 368), (9, 79, "track   team    runs    act     rule    through within  ", 3188, 443), (9, 85, "drop    lane    cut     impede  box     ", 3190, 504), (9, 87, "when    excuse  and     or      not     ", 3191, 548), (9, 89, "tenth   size    leg     place   lane    other   ahead   cut     again   forced  rank    ", 3192, 592), (13, 34, " or ", 7188, 1131), (13, 44, "or", 7189, 1139), (13, 52, " and ", 7186, 1115), (13, 54, "and", 7187, 1124), (13, 56, "not ", 7133, 1027), (13, 58, "not", 7137, 1035), (13, 60, "(", 7155, 1042), (13, 65, ")", 7157, 1047), (13, 72, "<", 7182, 1094), (13, 74, ">", 7183, 1099), (13, 76, "=", 7184, 1104), (13, 78, " ", 7185, 1109), (13, 86, "+", 7178, 1077), (13, 88, " - ", 7179, 1082), (13, 90, "-", 7180, 1089), (13, 95, "*", 7177, 1072), (13, 97, "{", 7170, 1052), (13, 99, "}", 7171, 1057), (13, 104, "n", 7173, 1062), (13, 110, "f", 7176, 1067), (13, 112, "tenth", 9167, 1188), (13, 114, "size", 9168, 1197), (13, 116, "leg", 9169, 1205), (13, 118, "place", 9170, 1212), (13, 120, "lane", 9171, 1221), (13, 122, "other", 9172, 1230), (13, 124, "ahead", 9173, 1239), (13, 126, "cut", 9174, 1248), (13, 128, "again", 9175, 1256), (13, 130, "forced", 9176, 1265), (13, 132, "rank", 9177, 1275), (16, 70, "track ", 5154, 913), (16, 79, " ", 6028, 923), (16, 81, ";", 6029, 928), (16, 102, "team t", 6173, 933), (16, 120, "runs t", 7018, 943), (16, 128, "drop", 7039, 953), (16, 130, "lane", 7040, 961), (16, 132, "cut", 7041, 969), (16, 133, "impede", 7042, 976), (16, 135, "box", 7043, 986), (16, 154, "act ", 7069, 993), (16, 156, " t", 7070, 1001), (16, 162, "rule r", 7094, 1007), (16, 164, " when ", 7095, 1017), (16, 185, " excuse ", 7190, 1145), (16, 198, "through ", 8047, 1165), (16, 200, "within ", 8048, 1177), (27, 230, "null", 8006, 1157)]
def mjSrOk (i : Nat) (q : Nat × Nat × String × Nat × Nat) : Bool := decide ((mjSub (q.2.2.2.1 / 1000))[q.2.2.2.1 % 1000]? = some (.stringRef (mjCn q.1) q.2.1 q.2.2.1)) && (mjCs q.1 q.2.1 == some (.ref (1000000 + i)))
def mjSat (q : Nat × Nat × String × Nat × Nat) (txt : List Int32) : List Cond :=
  .exactly (.string (mjCn q.1) q.2.1) "java/lang/String" :: .eq (.field (.string (mjCn q.1) q.2.1) "java/lang/String" "coder" "B") (.int 0) :: .arrayOf (.field (.string (mjCn q.1) q.2.1) "java/lang/String" "value" "[B") .byte :: .eq (.length (.field (.string (mjCn q.1) q.2.1) "java/lang/String" "value" "[B")) (.int (Int32.ofNat txt.length)) ::
  ((List.range txt.length).map fun j => .eq (.elem (.field (.string (mjCn q.1) q.2.1) "java/lang/String" "value" "[B") (.int (Int32.ofNat j))) (.int (txt.getD j 0)))
def mjGiv : List Cond := flatC (Jvm.Cond.and given_1 narrow_1)
def mjSatOk (i : Nat) : Bool := decide (((mjGiv.drop (mjSref.getD i (0, 0, "", 0, 0)).2.2.2.2).take (4 + (mjTxL.getD i []).length)) = mjSat (mjSref.getD i (0, 0, "", 0, 0)) (mjTxL.getD i []))
set_option maxRecDepth 100000 in
theorem mjSat_ok : ((List.range 59).all mjSatOk) = true := by decide +kernel
set_option maxRecDepth 100000 in
theorem mjSr_ok : ((List.range 59).all fun i => mjSrOk i (mjSref.getD i (0, 0, "", 0, 0))) = true := by decide +kernel
theorem mjSat_in {i : Nat} (hi : i < 59) : ∀ w ∈ mjSat (mjSref.getD i (0, 0, "", 0, 0)) (mjTxL.getD i []), w ∈ mjGiv := by
  have h := List.all_eq_true.mp mjSat_ok i (List.mem_range.mpr hi)
  simp only [mjSatOk, decide_eq_true_eq] at h
  intro w hw
  rw [← h] at hw
  exact List.mem_of_mem_drop (List.mem_of_mem_take hw)
/-- each string constant of the classes is one of the ten -/
def mjRfOk (o : Nat) (q : Nat × Value × Nat) : Bool := match q.2.1 with
  | .ref j => (List.range 59).any fun i => ((mjSref.getD i (0, 0, "", 0, 0)).1 == o && (mjSref.getD i (0, 0, "", 0, 0)).2.1 == q.1) && j == 1000000 + i
  | _ => true
set_option maxRecDepth 100000 in
theorem mjRf_ok : ((List.range 37).all fun o => (mjCsL.getD o []).all (mjRfOk o)) = true := by decide +kernel
theorem mjRf_spec {own ix j : Nat} (h : mjCs own ix = some (.ref j)) : ∃ i, i < 59 ∧ (mjSref.getD i (0, 0, "", 0, 0)).1 = own ∧ (mjSref.getD i (0, 0, "", 0, 0)).2.1 = ix ∧ j = 1000000 + i := by
  unfold mjCs at h
  by_cases ho : own < 37
  · cases hq : (mjCsL.getD own []).find? (fun q => q.1 == ix) with
    | none => rw [hq] at h; cases h
    | some q =>
      rw [hq] at h
      have h1 := List.all_eq_true.mp mjRf_ok own (List.mem_range.mpr ho)
      have h2 := List.all_eq_true.mp h1 q (List.mem_of_find?_eq_some hq)
      have h3 := List.find?_some hq
      obtain ⟨q1, q2, q3⟩ := q
      simp only [beq_iff_eq] at h3
      subst h3
      simp only [Option.some.injEq] at h
      subst h
      simp only [mjRfOk, List.any_eq_true, List.mem_range, Bool.and_eq_true, beq_iff_eq] at h2
      obtain ⟨i, hi, ⟨g1, g2⟩, g3⟩ := h2
      exact ⟨i, hi, g1, g2, g3⟩
  · have h9 : mjCsL[own]? = none := List.getElem?_eq_none (by have : mjCsL.length = 37 := rfl; omega)
    rw [List.getD_eq_getElem?_getD, h9] at h
    cases h

/-- words of the calls through an interface -/
def mjFwL : List (Nat × MethodName × Nat × Nat × Nat × Nat × Nat × Nat) := [(20, (⟨"java/util/List", "contains", "(Ljava/lang/Object;)Z"⟩ : MethodName), 242, 6121, 6120, 6126, 6124, 6122), (20, (⟨"java/util/List", "size", "()I"⟩ : MethodName), 249, 6177, 6176, 6181, 6179, 6122), (20, (⟨"java/util/List", "add", "(Ljava/lang/Object;)Z"⟩ : MethodName), 240, 6199, 6198, 6203, 6201, 6122), (20, (⟨"java/util/List", "get", "(I)Ljava/lang/Object;"⟩ : MethodName), 244, 7022, 7021, 7026, 7024, 6122)]
def mjCaP : List Nat := [9134, 6122, 9138, 9142, 9143, 9140, 9159, 5191]
def mjSw (i : Nat) (w : Cond) : Bool := decide ((mjSub (i / 1000))[i % 1000]? = some w)
def mjFwOk (q : Nat × Nat × Nat × Nat × Nat × Nat × Nat) : Bool := mjFwL.any fun r => decide (r.1 = q.2.2.2.1 ∧ r.2.1 = (mjXr q.2.2.2.2.2.2).1 ∧ r.2.2.1 = q.2.1) && mjSw r.2.2.2.1 (.declares r.2.1) && mjSw r.2.2.2.2.1 (.interfaceMethod r.2.1.cls r.2.1.cls r.2.1.name r.2.1.desc) && mjSw r.2.2.2.2.2.1 (.publicMethod (mjY r.2.2.1)) && mjSw r.2.2.2.2.2.2.1 (.unhidden (mjCn r.1) r.2.1.name r.2.1.desc) && mjSw r.2.2.2.2.2.2.2 (.castable (mjCn r.1) r.2.1.cls)
set_option maxRecDepth 100000 in
theorem mjFw_ok : ((List.range 37).all fun o => (mjLkL.getD o []).all fun q => q.2.2.1 != 4 || mjFwOk q) = true := by decide +kernel
theorem mjCa_ok : ((List.range 8).all fun i => mjSw (mjCaP.getD i 0) (.castable (mjCaL.getD i ("", "")).1 (mjCaL.getD i ("", "")).2)) = true := by decide +kernel
set_option maxRecDepth 100000 in
theorem mjInst_ok : ((List.range 21).all fun c => mjOk (mjInL.getD c 0) (.instantiable (mjCn c) (mjNf c))) = true := by decide +kernel
theorem mjInsW {c : Nat} (hc : c < 21) : Cond.instantiable (mjCn c) (mjNf c) ∈ mjW := mjOk_in (List.all_eq_true.mp mjInst_ok c (List.mem_range.mpr hc))
/-- the memory at the start: nothing but the script -/
def mjM0 (L : Nat) (xs : Nat → Int32) (w : Nat) : mjMem := (fun i j => if i = 2000000 then xs j else if i = 2000001 then (if j = 0 then Int32.ofNat L else Int32.ofNat w) else 0, fun _ _ => 0, fun _ _ => none, fun _ => (99, 0))
/-- THE PURE STATEMENT: for every script there is a numbering of the objects under which the small interpreter comes to true -/
def mjPure : Prop := ∀ (L : Nat) (xs : Nat → Int32) (w : Nat), L ≤ 260 → w ≤ 1 → ∃ (sg ta : Nat → Nat) (fuel : Nat) (n1 : Nat × Nat) (M1 : mjMem), (∀ j, j < 100000 → sg j < 1000000 ∧ ta (sg j) = j) ∧ n1.1 ≤ 500000 ∧ n1.2 ≤ 7000000 ∧ mjRun sg fuel 1000 256 0 (mjEnt [.ref 2000000] 7) [] (0, 0) (mjM0 L xs w) = some (some (.int 1), n1, M1)
section MJ10
variable {s : State} {args : Array Value}
theorem mjArrC {ty : FieldType} (h : (Cond.arrayClass ty).before args s = true) : ∃ cA, ArrOfT s cA ty ∧ s.vm.findClass ("[" ++ ty.toString) = some cA := by
  obtain ⟨c, k, comp, h1, h2, h3⟩ := Cond.arrayClass_spec h
  exact ⟨c, fun n z => ⟨fun k h => (by cases h), k, h2, comp, h3⟩, h1⟩
theorem mjArrO {C : String} (h : (Cond.arrayOver (.object C)).before args s = true) : ∃ cA, ArrOfT s cA (.object C) ∧ va_RA s cA (.object C) := by
  obtain ⟨comp, c, k, f1, f2, f3, f4, f5⟩ := Cond.arrayOver_spec h
  exact ⟨c, fun n z => ⟨fun k h => (by cases h), k, f3, comp, f4⟩, k, comp, f3, f4, f1, f5⟩
theorem mjEqI {t u : Term} {v : Value} (h : (Cond.eq t u).before args s = true) (hu : u.eval args s none [] s = some v) : t.eval args s none [] s = some v := va_eqI (by simpa [Cond.before, Cond.holds] using h) hu
/-- a table of bytes that a static field holds -/
def mjTbAt (C n : String) (l : List Int32) : List Cond := .arrayOf (.static C n "[B") .byte :: .eq (.length (.static C n "[B")) (.int (Int32.ofNat l.length)) :: (List.range l.length).map fun j => .eq (.elem (.static C n "[B") (.int (Int32.ofNat j))) (.int (l.getD j 0))
set_option maxRecDepth 100000 in
theorem mjTb1_ok : ((mjGiv.drop 14).take 102) = mjTbAt "java/lang/Integer" "DigitOnes" mjOnL := by decide +kernel
set_option maxRecDepth 100000 in
theorem mjTb2_ok : ((mjGiv.drop 117).take 102) = mjTbAt "java/lang/Integer" "DigitTens" mjTeL := by decide +kernel
def mjFaC (j : Nat) : Cond := .eq (.elem (.static "BatonZonesLaw$Grown" "FACTS" "[Ljava/lang/String;") (.int (Int32.ofNat j))) (.string (mjCn (mjSref.getD (mjFxL.getD j 0 - 1000000) (0, 0, "", 0, 0)).1) (mjSref.getD (mjFxL.getD j 0 - 1000000) (0, 0, "", 0, 0)).2.1)
set_option maxRecDepth 100000 in
theorem mjFa_ok : ((List.range 11).all fun j => decide (mjGiv[227 + j]? = some (mjFaC j)) && decide (1000000 ≤ mjFxL.getD j 0 ∧ mjFxL.getD j 0 < 1000059)) = true := by decide +kernel
theorem mjTbOf {C n : String} {l : List Int32} {A : Nat → Prop} (hl : l.length < 2 ^ 31) (h : ∀ w ∈ mjTbAt C n l, w.before args s = true) (hA : ∀ a : Nat, a < s.heap.size → ¬ A a) : ∃ t : Nat, (Term.static C n "[B").eval args s none [] s = some (.ref t) ∧ va_T .byte t l.length (fun j => .int (l.getD j 0)) A s s.heap :=
  va_Tof hl (h _ (by simp [mjTbAt])) (va_eqt (h _ (by simp [mjTbAt]))) (fun j hj => va_eqt (h _ (by
    simp only [mjTbAt, List.mem_cons, List.mem_map, List.mem_range]
    exact Or.inr (Or.inr ⟨j, hj, rfl⟩)))) hA
set_option maxHeartbeats 1000000 in
theorem mjStart {ta : Nat → Nat} {b L : Nat} {xs : Nat → Int32} (hL : L ≤ 260) (hts0 : ∀ w ∈ lw_tbl, w.before #[Value.ref b] s = true) (hX : va_X b L xs s s.heap) (hbl : b < s.heap.size) (hgv : (Jvm.Cond.and given_1 narrow_1).before #[Value.ref b] s = true) :
    ∃ (zf : Nat), zf ≤ 1 ∧ ∀ (ta : Nat → Nat), ∃ (D : va_G) (kA : Nat → ClassId) (lo : Nat → Nat), lo 2000000 = b ∧ lo 1200001 = zf ∧ (∀ a, a < 1000000 → lo a = s.heap.size + ta a) ∧ mjEnv D kA lo s.heap.size (L, xs) s s.heap := by
  have hts : ∀ w ∈ mjTbl, w.before #[Value.ref b] s = true := mjTbl_of hts0
  have htw : ∀ w ∈ mjW, w.before #[Value.ref b] s = true := fun w hw => hts w (List.mem_filter.mp hw).1
  have hsub : ∀ (i : Nat) (w : Cond), (mjSub (i / 1000))[i % 1000]? = some w → w.before #[Value.ref b] s = true := fun i w h => hts w (mjSub_in _ _ (List.mem_of_getElem? h))
  have hsw : ∀ (i : Nat) (w : Cond), mjSw i w = true → w.before #[Value.ref b] s = true := fun i w h => hsub i w (of_decide_eq_true h)
  have hA : ∀ a : Nat, a < s.heap.size → ¬ s.heap.size ≤ a := fun a h1 h2 => by omega
  have hgf : ∀ w ∈ mjGiv, w.before #[Value.ref b] s = true := flat_of_before _ hgv
  -- the classes
  have hc0 : ∀ c : Nat, ∃ q : ClassId × (Nat → Nat), c < 21 → u_Kn s (mjCn c) (mjTx c) (mjNf c) q.1 q.2 := by
    intro c
    by_cases hc : c < 21
    · obtain ⟨cC, iS, h⟩ := u_known htw (mjU_in hc) (htw _ (mjInsW hc))
      exact ⟨(cC, iS), fun _ => h⟩
    · exact ⟨(0, fun _ => 0), fun h => absurd h hc⟩
  obtain ⟨fD, hD⟩ := Classical.axiomOfChoice hc0
  obtain ⟨cI, hI1, hI2⟩ := mjArrC (htw _ mjAcI)
  obtain ⟨cJ, hJ1, hJ2⟩ := mjArrC (htw _ mjAcL)
  obtain ⟨cZ, hZ1, hZ2⟩ := mjArrC (htw _ mjAcZ)
  obtain ⟨cB, hB1, hB2⟩ := mjArrC (htw _ mjAcB)
  have hoT : (Cond.arrayOver (.object "BatonZones$Team")).before #[Value.ref b] s = true := hsub 1085 _ (by decide +kernel)
  have hoA : (Cond.arrayOver (.object "BatonZones$Act")).before #[Value.ref b] s = true := hsub 1087 _ (by decide +kernel)
  have hoO : (Cond.arrayOver (.object "java/lang/Object")).before #[Value.ref b] s = true := hsub 7010 _ (by decide +kernel)
  have hoS : (Cond.arrayOver (.object "java/lang/String")).before #[Value.ref b] s = true := hsub 7038 _ (by decide +kernel)
  obtain ⟨cT, hT1, hT2⟩ := mjArrO hoT
  obtain ⟨cX, hX1, hX2⟩ := mjArrO hoA
  obtain ⟨cO, hO1, hO2⟩ := mjArrO hoO
  obtain ⟨cS, hS1, hS2⟩ := mjArrO hoS

  have hstr : ∀ i : Nat, ∃ q : Nat × Nat, i < 59 → vk_S 1 [(mjTxL.getD i []).length] [mjTxL.getD i []] (fun _ => q.1) (fun _ => q.2) (fun q => s.heap.size ≤ q) s s.heap ∧ (Term.string (mjCn (mjSref.getD i (0, 0, "", 0, 0)).1) (mjSref.getD i (0, 0, "", 0, 0)).2.1).eval #[Value.ref b] s none [] s = some (.ref q.1) := by
    intro i
    by_cases hi : i < 59
    · have hin := fun w hw => hgf w (mjSat_in hi w hw)
      generalize mjSref.getD i (0, 0, "", 0, 0) = z at hin ⊢
      have hlen : (mjTxL.getD i []).length < 2 ^ 31 := by
        have : ((List.range 59).all fun i => decide ((mjTxL.getD i []).length < 2 ^ 31)) = true := by decide +kernel
        simpa using List.all_eq_true.mp this i (List.mem_range.mpr hi)
      generalize mjTxL.getD i [] = txt at hin hlen ⊢
      have hz : ∀ {j : Nat}, j < 1 → j = 0 := fun h => by omega
      obtain ⟨adK, adV, hS, he⟩ := vk_Sof (args := #[Value.ref b]) (s := s) (N := 1) (tm := fun _ => .string (mjCn z.1) z.2.1) (len := [txt.length]) (byt := [txt]) (A := fun q => s.heap.size ≤ q)
        (fun j hj => by obtain rfl := hz hj; exact hlen) (fun j hj => hin _ (by simp [mjSat])) (fun j hj => hin _ (by simp [mjSat])) (fun j hj => hin _ (by simp [mjSat]))
        (fun j hj => by obtain rfl := hz hj; exact hin _ (by simp [mjSat])) (fun j hj k hk => by
          obtain rfl := hz hj
          refine hin _ ?_
          simp only [mjSat, List.mem_cons, List.mem_map, List.mem_range]
          exact Or.inr (Or.inr (Or.inr (Or.inr ⟨k, hk, rfl⟩)))) (fun i j h1 h2 h3 => absurd ((hz h1).trans (hz h2).symm) h3) hA
      refine ⟨(adK 0, adV 0), fun _ => ⟨?_, he 0 (by decide)⟩⟩
      refine ⟨fun j hj => ?_, fun i j h1 h2 _ => (hz h1).trans (hz h2).symm⟩
      obtain rfl := hz hj
      exact hS.1 0 (by decide)
    · exact ⟨(0, 0), fun h => absurd h hi⟩
  obtain ⟨fS, hSt⟩ := Classical.axiomOfChoice hstr
  have h5 : (Cond.laysStatic "jdk/internal/util/Preconditions" "SIOOBE_FORMATTER" "Ljava/util/function/BiFunction;").before #[Value.ref b] s = true := hsub 3100 _ (by decide +kernel)
  obtain ⟨zt, zf, hzf, hzt⟩ : ∃ t f : Nat, f ≤ 1 ∧ va_Z "jdk/internal/util/Preconditions" "SIOOBE_FORMATTER" "Ljava/util/function/BiFunction;" (if f = 0 then .null else .ref t) (fun q => s.heap.size ≤ q) s s.heap := by
    have h2 : (Cond.initialized "jdk/internal/util/Preconditions").before #[Value.ref b] s = true := hsub 1013 _ (by decide +kernel)
    have h3 : (Cond.isRef (.static "jdk/internal/util/Preconditions" "SIOOBE_FORMATTER" "Ljava/util/function/BiFunction;")).before #[Value.ref b] s = true := hgf _ (List.mem_of_getElem? (i := 5) (by decide +kernel))
    rcases va_Zqof h5 h2 h3 hA with h | ⟨t, h⟩
    · exact ⟨0, 0, by decide, h⟩
    · exact ⟨t, 1, by decide, h⟩
  -- the tables
  obtain ⟨t1, ht1, hT1t⟩ := mjTbOf (args := #[Value.ref b]) (s := s) (C := "java/lang/Integer") (n := "DigitOnes") (l := mjOnL) (A := fun q => s.heap.size ≤ q) (by decide +kernel) (fun w hw => hgf w (by rw [← mjTb1_ok] at hw; exact List.mem_of_mem_drop (List.mem_of_mem_take hw))) hA
  obtain ⟨t2, ht2, hT2t⟩ := mjTbOf (args := #[Value.ref b]) (s := s) (C := "java/lang/Integer") (n := "DigitTens") (l := mjTeL) (A := fun q => s.heap.size ≤ q) (by decide +kernel) (fun w hw => hgf w (by rw [← mjTb2_ok] at hw; exact List.mem_of_mem_drop (List.mem_of_mem_take hw))) hA
  obtain ⟨t3, ht3, hT3t⟩ := va_Tof (args := #[Value.ref b]) (s := s) (tm := .static "java/util/ArrayList" "DEFAULTCAPACITY_EMPTY_ELEMENTDATA" "[Ljava/lang/Object;") (ty := .object "java/lang/Object") (N := 0) (f := fun _ => .null) (A := fun q => s.heap.size ≤ q) (by decide) (hgf _ (List.mem_of_getElem? (i := 10) (by decide +kernel))) (va_eqt (hgf _ (List.mem_of_getElem? (i := 12) (by decide +kernel)))) (fun j hj => absurd hj (Nat.not_lt_zero j)) hA
  have hclen := va_eqt (hgf (.eq (.length (.static "java/lang/Integer$IntegerCache" "cache" "[Ljava/lang/Integer;")) (.int (Int32.ofNat 256))) (List.mem_of_getElem? (i := 222) (by decide +kernel)))
  obtain ⟨aC, hC1, hC2⟩ := vb_Cof (args := #[Value.ref b]) (s := s) (A := fun q => s.heap.size ≤ q) (st := .static "java/lang/Integer$IntegerCache" "cache" "[Ljava/lang/Integer;") rfl hclen (hgf _ (List.mem_of_getElem? (i := 223) (by decide +kernel))) hA
  obtain ⟨t4, ht4, hT4t⟩ := va_Tof (args := #[Value.ref b]) (s := s) (tm := .static "java/lang/Integer$IntegerCache" "cache" "[Ljava/lang/Integer;") (ty := .object "java/lang/Integer") (N := 256) (f := fun j => .ref (aC j)) (A := fun q => s.heap.size ≤ q) (by decide) (hgf _ (List.mem_of_getElem? (i := 221) (by decide +kernel))) hclen hC2 hA
  have hfa : ∀ j, j < 11 → (Term.elem (.static "BatonZonesLaw$Grown" "FACTS" "[Ljava/lang/String;") (.int (Int32.ofNat j))).eval #[Value.ref b] s none [] s = some (.ref (fS (mjFxL.getD j 0 - 1000000)).1) := by
    intro j hj
    have h := List.all_eq_true.mp mjFa_ok j (List.mem_range.mpr hj)
    simp only [Bool.and_eq_true, decide_eq_true_eq] at h
    have h9 := hgf _ (List.mem_of_getElem? h.1)
    exact mjEqI h9 (hSt _ (by omega)).2
  obtain ⟨t0, ht0, hT0t⟩ := va_Tof (args := #[Value.ref b]) (s := s) (tm := .static "BatonZonesLaw$Grown" "FACTS" "[Ljava/lang/String;") (ty := .object "java/lang/String") (N := 11) (f := fun j => .ref (fS (mjFxL.getD j 0 - 1000000)).1) (A := fun q => s.heap.size ≤ q) (by decide) (hgf _ (List.mem_of_getElem? (i := 225) (by decide +kernel))) (va_eqt (hgf _ (List.mem_of_getElem? (i := 226) (by decide +kernel)))) hfa hA
  refine ⟨zf, hzf, fun ta => ?_⟩
  let lo : Nat → Nat := fun a => if a < 1000000 then s.heap.size + ta a else if a < 1100000 then (fS (a - 1000000)).1 else if a < 1200000 then (fS (a - 1100000)).2 else if a = 1200001 then zf else if a < 1300000 then zt else if a = 1300000 then t0 else if a = 1300001 then t1 else if a = 1300002 then t2 else if a = 1300003 then t3 else if a < 1400000 then t4 else if a < 2000000 then aC (a - 1400000) else b
  have hlo1 : ∀ i, i < 1000000 → lo i = s.heap.size + ta i := fun i hi => if_pos hi
  have hlo2 : ∀ i, i < 59 → lo (1000000 + i) = (fS i).1 := fun i hi => by
    show (if 1000000 + i < 1000000 then _ else if 1000000 + i < 1100000 then _ else _) = _
    rw [if_neg (by omega), if_pos (by omega), show 1000000 + i - 1000000 = i by omega]
  have hlo4 : ∀ i, i < 59 → lo (1100000 + i) = (fS i).2 := fun i hi => by
    show (if 1100000 + i < 1000000 then _ else if 1100000 + i < 1100000 then _ else if 1100000 + i < 1200000 then _ else _) = _
    rw [if_neg (by omega), if_neg (by omega), if_pos (by omega), show 1100000 + i - 1100000 = i by omega]
  have hlo5 : lo 1200000 = zt := rfl
  have hlo6 : lo 1200001 = zf := rfl
  have hlo7 : lo 1300000 = t0 := rfl
  have hlo8 : lo 1300001 = t1 := rfl
  have hlo9 : lo 1300002 = t2 := rfl
  have hlo10 : lo 1300003 = t3 := rfl
  have hlo11 : lo 1300004 = t4 := rfl
  have hlo12 : ∀ k, k < 256 → lo (1400000 + k) = aC k := fun k hk => by
    show (if 1400000 + k < 1000000 then _ else if 1400000 + k < 1100000 then _ else if 1400000 + k < 1200000 then _ else if 1400000 + k = 1200001 then _ else if 1400000 + k < 1300000 then _ else if 1400000 + k = 1300000 then _ else if 1400000 + k = 1300001 then _ else if 1400000 + k = 1300002 then _ else if 1400000 + k = 1300003 then _ else if 1400000 + k < 1400000 then _ else if 1400000 + k < 2000000 then _ else _) = _
    rw [if_neg (by omega), if_neg (by omega), if_neg (by omega), if_neg (by omega), if_neg (by omega), if_neg (by omega), if_neg (by omega), if_neg (by omega), if_neg (by omega), if_neg (by omega), if_pos (by omega), show 1400000 + k - 1400000 = k by omega]
  have hlo3 : lo 2000000 = b := rfl
  have hTf : ∀ {ty : FieldType} {t N : Nat} {f g : Nat → Value}, va_T ty t N f (fun q => s.heap.size ≤ q) s s.heap → (∀ j, j < N → f j = g j) → va_T ty t N g (fun q => s.heap.size ≤ q) s s.heap := by
    rintro ty t N f g ⟨cell, c1, c2, c3, c4, c5, c6, c7⟩ hfg
    exact ⟨cell, c1, c2, c3, c4, c5, fun j hj => by rw [← hfg j hj]; exact c6 j hj, c7⟩
  refine ⟨(fun c => (fD c).1, fun c => (fD c).2), fun t => if t = 113 then cI else if t = 114 then cJ else if t = 115 then cZ else if t = 116 then cT else if t = 117 then cX else if t = 118 then cB else if t = 119 then cO else cS, lo, hlo3, hlo6, hlo1, ⟨fun c q hq => ?_, fun k q hk => ?_⟩, fun own ix j hj => ?_, ⟨va_AO.of hoT, va_AO.of hoA, va_AO.of hoO, va_AO.of hoS⟩, ⟨by rw [hlo3]; exact hX, by rw [hlo3]; exact hbl, by rw [hlo3]; exact hbl, by show L < 2147483648; omega⟩, ⟨fun i hi => ?_, by rw [hlo8]; exact hT1t, by rw [hlo9]; exact hT2t, ?_, by rw [hlo10]; exact hT3t, ?_, ?_, fun q hq => ?_⟩, fun q hq => ?_, va_Nc.of (hgf _ (List.mem_of_getElem? (i := 262) (by decide +kernel))), fun o q hq hm => ?_, fun o q hq hm => ?_, va_Nw.of rfl (hsub 6136 _ (by decide +kernel))⟩
  · have hc : c < 21 := by
      have := (List.getElem?_eq_some_iff.mp hq).1
      exact this
    rw [mjCl_at hc] at hq
    obtain rfl := Option.some.inj hq
    exact hD c hc
  · match k, hk with
    | 0, hk => cases hk; exact ⟨hI1, hI2⟩
    | 1, hk => cases hk; exact ⟨hJ1, hJ2⟩
    | 2, hk => cases hk; exact ⟨hZ1, hZ2⟩
    | 3, hk => cases hk; exact ⟨hT1, hT2⟩
    | 4, hk => cases hk; exact ⟨hX1, hX2⟩
    | 5, hk => cases hk; exact ⟨hB1, hB2⟩
    | 6, hk => cases hk; exact ⟨hO1, hO2⟩
    | 7, hk => cases hk; exact ⟨hS1, hS2⟩
    | k + 8, hk => simp [mjTys] at hk
  · obtain ⟨i, hi, rfl, rfl, rfl⟩ := mjRf_spec hj
    have h := List.all_eq_true.mp mjSr_ok i (List.mem_range.mpr hi)
    simp only [mjSrOk, Bool.and_eq_true, decide_eq_true_eq] at h
    rw [hlo2 i hi]
    exact ⟨_, vk_R.of (hsub _ _ h.1) (hSt i hi).2⟩
  · rw [hlo2 i hi, hlo4 i hi]
    exact (hSt i hi).1
  · rw [hlo7]
    refine hTf hT0t (fun j hj => ?_)
    have h := List.all_eq_true.mp mjFa_ok j (List.mem_range.mpr hj)
    simp only [Bool.and_eq_true, decide_eq_true_eq] at h
    rw [show mjFxL.getD j 0 = 1000000 + (mjFxL.getD j 0 - 1000000) by omega, hlo2 _ (by omega)]
    rw [show 1000000 + (mjFxL.getD j 0 - 1000000) - 1000000 = mjFxL.getD j 0 - 1000000 by omega]
  · rw [hlo11]
    exact hTf hT4t (fun j hj => by rw [hlo12 j hj])
  · refine ⟨fun k hk => by dsimp only; rw [hlo12 k hk]; exact hC1.1 k hk, fun k hk => by dsimp only; rw [hlo12 k hk]; exact hC1.2 k hk⟩
  · match q, hq with
    | 0, _ =>
      have h1 : (Cond.laysStatic "java/lang/String" "COMPACT_STRINGS" "Z").before #[Value.ref b] s = true := hsub 3059 _ (by decide +kernel)
      have h2 : (Cond.initialized "java/lang/String").before #[Value.ref b] s = true := hsub 1007 _ (by decide +kernel)
      have h3 : (Cond.eq (.static "java/lang/String" "COMPACT_STRINGS" "Z") (.int 1)).before #[Value.ref b] s = true := hgf _ (List.mem_of_getElem? (i := 4) (by decide +kernel))
      exact va_Zof h1 h2 (va_eqi h3) hA
    | 1, _ =>
      show va_Z _ _ _ (if lo 1200001 = 0 then .null else .ref (lo 1200000)) _ _ _
      rw [hlo5, hlo6]
      exact hzt
    | 2, _ =>
      show va_Z _ _ _ (.ref (lo 1300003)) _ _ _
      rw [hlo10]
      exact va_Zref (hsub 5098 _ (by decide +kernel)) (hsub 1004 _ (by decide +kernel)) ht3 hA
    | 3, _ =>
      show va_Z _ _ _ (.ref (lo 1300001)) _ _ _
      rw [hlo8]
      exact va_Zref (hsub 6017 _ (by decide +kernel)) (hsub 1016 _ (by decide +kernel)) ht1 hA
    | 4, _ =>
      show va_Z _ _ _ (.ref (lo 1300002)) _ _ _
      rw [hlo9]
      exact va_Zref (hsub 6019 _ (by decide +kernel)) (hsub 1016 _ (by decide +kernel)) ht2 hA
    | 5, _ =>
      have h3 : (Cond.eq (.static "java/lang/Integer$IntegerCache" "high" "I") (.int 127)).before #[Value.ref b] s = true := hgf _ (List.mem_of_getElem? (i := 219) (by decide +kernel))
      exact va_Zof (hsub 6102 _ (by decide +kernel)) (hsub 1017 _ (by decide +kernel)) (va_eqi h3) hA
    | 6, _ =>
      show va_Z _ _ _ (.ref (lo 1300004)) _ _ _
      rw [hlo11]
      exact va_Zref (hsub 6104 _ (by decide +kernel)) (hsub 1017 _ (by decide +kernel)) ht4 hA
    | 7, _ =>
      show va_Z _ _ _ (.ref (lo 1300000)) _ _ _
      rw [hlo7]
      exact va_Zref (hsub 7175 _ (by decide +kernel)) (hsub 1021 _ (by decide +kernel)) ht0 hA
    | q + 8, hq => exact absurd hq (by omega)
  · obtain ⟨i, hi⟩ := List.getElem?_of_mem hq
    have hi7 : i < 8 := (List.getElem?_eq_some_iff.mp hi).1
    have h := List.all_eq_true.mp mjCa_ok i (List.mem_range.mpr hi7)
    rw [List.getD_eq_getElem?_getD (l := mjCaL), hi] at h
    exact va_Nw.of rfl (hsw _ _ h)
  · have h9 := mjLk_in hq
    obtain ⟨ix, k2, md, C, pl, ps, xi⟩ := q
    rcases hm with rfl | rfl
    · exact va_Nw.of rfl (hsub _ _ (of_decide_eq_true h9))
    · exact va_Nw.of rfl (hsub _ _ (of_decide_eq_true h9))
  · have ho := mjLkL_lt hq
    have h9 := List.all_eq_true.mp (List.all_eq_true.mp mjFw_ok o (List.mem_range.mpr ho)) q hq
    rw [hm] at h9
    simp only [bne_self_eq_false, Bool.false_or, mjFwOk, List.any_eq_true, Bool.and_eq_true, decide_eq_true_eq] at h9
    obtain ⟨r, -, ⟨⟨⟨⟨⟨e1, e2, e3⟩, w1⟩, w2⟩, w3⟩, w4⟩, w5⟩ := h9
    rw [← e1, ← e2, ← e3]
    exact va_Fw.of (hsw _ _ w1) (hsw _ _ w2) (hsw _ _ w3) (hsw _ _ w4) (hsw _ _ w5)
end MJ10
