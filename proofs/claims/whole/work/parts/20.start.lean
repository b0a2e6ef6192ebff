/-! THE LAW'S START: the claim out of the pure statement -/
def mjSref : List (Nat × Nat × String × Nat × Nat) := [(3, 82, "when    excuse  and     or      not     ", 4059, 440), (3, 88, "tenth   size    leg     place   lane    other   ahead   cut     again   forced  rank    ", 4081, 492), (6, 55, "track   team    runs    act     rule    through within  ", 3138, 24), (6, 172, "drop    lane    cut     impede  box     ", 4014, 339), (6, 181, "when    excuse  and     or      not     ", 4031, 389), (9, 54, ";+-*(){}<>=", 3049, 9), (9, 79, "track   team    runs    act     rule    through within  ", 3192, 85), (9, 85, "drop    lane    cut     impede  box     ", 3194, 147), (9, 87, "when    excuse  and     or      not     ", 3195, 194), (9, 89, "tenth   size    leg     place   lane    other   ahead   cut     again   forced  rank    ", 3196, 242)]
def mjIn13 : List Nat := [1108, 2182, 1032, 2049, 2111, 2101, 2009, 1074, 1038, 2015, 2143, 1024, 6190]
def mjSrOk (i : Nat) (q : Nat × Nat × String × Nat × Nat) : Bool := decide ((mjSub (q.2.2.2.1 / 1000))[q.2.2.2.1 % 1000]? = some (.stringRef (mjCn q.1) q.2.1 q.2.2.1)) && (mjCs q.1 q.2.1 == some (.ref (1000000 + i)))
def mjSat (q : Nat × Nat × String × Nat × Nat) (txt : List Int32) : List Cond :=
  .exactly (.string (mjCn q.1) q.2.1) "java/lang/String" :: .eq (.field (.string (mjCn q.1) q.2.1) "java/lang/String" "coder" "B") (.int 0) :: .arrayOf (.field (.string (mjCn q.1) q.2.1) "java/lang/String" "value" "[B") .byte :: .eq (.length (.field (.string (mjCn q.1) q.2.1) "java/lang/String" "value" "[B")) (.int (Int32.ofNat txt.length)) ::
  ((List.range txt.length).map fun j => .eq (.elem (.field (.string (mjCn q.1) q.2.1) "java/lang/String" "value" "[B") (.int (Int32.ofNat j))) (.int (txt.getD j 0)))
def mjGiv : List Cond := flatC (Jvm.Cond.and given_1 narrow_1)
def mjSatOk (i : Nat) : Bool := decide (((mjGiv.drop (mjSref.getD i (0, 0, "", 0, 0)).2.2.2.2).take (4 + (mjTxL.getD i []).length)) = mjSat (mjSref.getD i (0, 0, "", 0, 0)) (mjTxL.getD i []))
set_option maxRecDepth 100000 in
theorem mjSat_ok : ((List.range 10).all mjSatOk) = true := by decide +kernel
set_option maxRecDepth 100000 in
theorem mjSr_ok : ((List.range 10).all fun i => mjSrOk i (mjSref.getD i (0, 0, "", 0, 0))) = true := by decide +kernel
theorem mjSat_in {i : Nat} (hi : i < 10) : ∀ w ∈ mjSat (mjSref.getD i (0, 0, "", 0, 0)) (mjTxL.getD i []), w ∈ mjGiv := by
  have h := List.all_eq_true.mp mjSat_ok i (List.mem_range.mpr hi)
  simp only [mjSatOk, decide_eq_true_eq] at h
  intro w hw
  rw [← h] at hw
  exact List.mem_of_mem_drop (List.mem_of_mem_take hw)
/-- each string constant of the classes is one of the ten -/
def mjRfOk (o : Nat) (q : Nat × Value × Nat) : Bool := match q.2.1 with
  | .ref j => (List.range 10).any fun i => ((mjSref.getD i (0, 0, "", 0, 0)).1 == o && (mjSref.getD i (0, 0, "", 0, 0)).2.1 == q.1) && j == 1000000 + i
  | _ => true
set_option maxRecDepth 100000 in
theorem mjRf_ok : ((List.range 21).all fun o => (mjCsL.getD o []).all (mjRfOk o)) = true := by decide +kernel
theorem mjRf_spec {own ix j : Nat} (h : mjCs own ix = some (.ref j)) : ∃ i, i < 10 ∧ (mjSref.getD i (0, 0, "", 0, 0)).1 = own ∧ (mjSref.getD i (0, 0, "", 0, 0)).2.1 = ix ∧ j = 1000000 + i := by
  unfold mjCs at h
  by_cases ho : own < 21
  · cases hq : (mjCsL.getD own []).find? (fun q => q.1 == ix) with
    | none => rw [hq] at h; cases h
    | some q =>
      rw [hq] at h
      have h1 := List.all_eq_true.mp mjRf_ok own (List.mem_range.mpr ho)
      have h2 := List.all_eq_true.mp h1 q (List.mem_of_find?_eq_some hq)
      have h3 := List.find?_some hq
      obtain ⟨q1, q2, q3⟩ := q
      simp only [beq_iff_eq] at h3
      subst h3
      simp only [Option.some.injEq] at h
      subst h
      simp only [mjRfOk, List.any_eq_true, List.mem_range, Bool.and_eq_true, beq_iff_eq] at h2
      obtain ⟨i, hi, ⟨g1, g2⟩, g3⟩ := h2
      exact ⟨i, hi, g1, g2, g3⟩
  · have h9 : mjCsL[own]? = none := List.getElem?_eq_none (by have : mjCsL.length = 21 := rfl; omega)
    rw [List.getD_eq_getElem?_getD, h9] at h
    cases h
set_option maxRecDepth 100000 in
theorem mjInst_ok : ((List.range 13).all fun c => mjOk (mjIn13.getD c 0) (.instantiable (mjCn c) (mjNf c))) = true := by decide +kernel
theorem mjInst {c : Nat} (hc : c < 13) : Cond.instantiable (mjCn c) (mjNf c) ∈ mjW := mjOk_in (List.all_eq_true.mp mjInst_ok c (List.mem_range.mpr hc))
theorem mjMlF_18 {o ix k2 w : Nat} (h : mjMlF o ix = some (k2, w))   : o < 21 := by
  by_cases ho : o < 21
  · exact ho
  · have h9 : mjMLk[o]? = none := List.getElem?_eq_none (by have : mjMLk.length = 21 := rfl; omega)
    unfold mjMlF at h
    rw [List.getD_eq_getElem?_getD, h9] at h
    cases h
/-- the memory at the start: nothing but the script -/
def mjM0 (L : Nat) (xs : Nat → Int32) (w : Nat) : mjMem := (fun i j => if i = 2000000 then xs j else if i = 2000001 then (if j = 0 then Int32.ofNat L else Int32.ofNat w) else 0, fun _ _ => 0, fun _ _ => none)
/-- THE PURE STATEMENT -/
def mjPure : Prop := ∀ (L : Nat) (xs : Nat → Int32) (w : Nat), L ≤ 3072 → w ≤ 1 → ∃ (fuel n1 : Nat) (M1 : mjMem), n1 ≤ 600000 ∧ mjCum n1 ≤ 7302249 ∧ mjRun fuel 339 0 (mjEnt [.ref 2000000] 4) [] 0 (mjM0 L xs w) = some (some (.int 1), n1, M1)
section MJ10
variable {s : State} {args : Array Value}
theorem mjArrC {ty : FieldType} (h : (Cond.arrayClass ty).before args s = true) : ∃ cA, ArrOfT s cA ty ∧ s.vm.findClass ("[" ++ ty.toString) = some cA := by
  obtain ⟨c, k, comp, h1, h2, h3⟩ := Cond.arrayClass_spec h
  exact ⟨c, fun n z => ⟨fun k h => (by cases h), k, h2, comp, h3⟩, h1⟩
theorem mjArrO {C : String} (h : (Cond.arrayOver (.object C)).before args s = true) : ∃ cA, ArrOfT s cA (.object C) ∧ va_RA s cA (.object C) := by
  obtain ⟨comp, c, k, f1, f2, f3, f4, f5⟩ := Cond.arrayOver_spec h
  exact ⟨c, fun n z => ⟨fun k h => (by cases h), k, f3, comp, f4⟩, k, comp, f3, f4, f1, f5⟩
theorem mjStart {b L : Nat} {xs : Nat → Int32} (hL : L ≤ 3072) (hts : ∀ w ∈ lw_tbl, w.before #[Value.ref b] s = true) (hX : va_X b L xs s s.heap) (hbl : b < s.heap.size) (hgv : (Jvm.Cond.and given_1 narrow_1).before #[Value.ref b] s = true) :
    ∃ (D : va_G) (kA : Nat → ClassId) (lo adV : Nat → Nat), lo 2000000 = b ∧ lo 1200001 ≤ 1 ∧ mjEnv D kA lo s.heap.size (L, xs) adV s s.heap := by
  have htw : ∀ w ∈ mjW, w.before #[Value.ref b] s = true := fun w hw => hts w (List.mem_filter.mp hw).1
  have hsub : ∀ (i : Nat) (w : Cond), (mjSub (i / 1000))[i % 1000]? = some w → w.before #[Value.ref b] s = true := fun i w h => hts w (mjSub_in _ _ (List.mem_of_getElem? h))
  have hA : ∀ a : Nat, a < s.heap.size → ¬ s.heap.size ≤ a := fun a h1 h2 => by omega
  have hgf : ∀ w ∈ mjGiv, w.before #[Value.ref b] s = true := flat_of_before _ hgv
  -- the classes
  have hc0 : ∀ c : Nat, ∃ q : ClassId × (Nat → Nat), c < 13 → u_Kn s (mjCn c) (mjTx c) (mjNf c) q.1 q.2 := by
    intro c
    by_cases hc : c < 13
    · obtain ⟨cC, iS, h⟩ := u_known htw (mjU_in hc) (htw _ (mjInst hc))
      exact ⟨(cC, iS), fun _ => h⟩
    · exact ⟨(0, fun _ => 0), fun h => absurd h hc⟩
  obtain ⟨fD, hD⟩ := Classical.axiomOfChoice hc0
  obtain ⟨cI, hI1, hI2⟩ := mjArrC (htw _ mjAcI)
  obtain ⟨cJ, hJ1, hJ2⟩ := mjArrC (htw _ mjAcL)
  obtain ⟨cZ, hZ1, hZ2⟩ := mjArrC (htw _ mjAcZ)
  have hoT : (Cond.arrayOver (.object "BatonZones$Team")).before #[Value.ref b] s = true := hsub 1071 _ (by decide +kernel)
  have hoA : (Cond.arrayOver (.object "BatonZones$Act")).before #[Value.ref b] s = true := hsub 1073 _ (by decide +kernel)
  obtain ⟨cT, hT1, hT2⟩ := mjArrO hoT
  obtain ⟨cX, hX1, hX2⟩ := mjArrO hoA
  have hstr : ∀ i : Nat, ∃ q : Nat × Nat, i < 10 → vk_S 1 [(mjTxL.getD i []).length] [mjTxL.getD i []] (fun _ => q.1) (fun _ => q.2) (fun q => s.heap.size ≤ q) s s.heap ∧ (Term.string (mjCn (mjSref.getD i (0, 0, "", 0, 0)).1) (mjSref.getD i (0, 0, "", 0, 0)).2.1).eval #[Value.ref b] s none [] s = some (.ref q.1) := by
    intro i
    by_cases hi : i < 10
    · have hin := fun w hw => hgf w (mjSat_in hi w hw)
      generalize mjSref.getD i (0, 0, "", 0, 0) = z at hin ⊢
      have hlen : (mjTxL.getD i []).length < 2 ^ 31 := by
        have : ((List.range 10).all fun i => decide ((mjTxL.getD i []).length < 2 ^ 31)) = true := by decide +kernel
        simpa using List.all_eq_true.mp this i (List.mem_range.mpr hi)
      generalize mjTxL.getD i [] = txt at hin hlen ⊢
      have hz : ∀ {j : Nat}, j < 1 → j = 0 := fun h => by omega
      obtain ⟨adK, adV, hS, he⟩ := vk_Sof (args := #[Value.ref b]) (s := s) (N := 1) (tm := fun _ => .string (mjCn z.1) z.2.1) (len := [txt.length]) (byt := [txt]) (A := fun q => s.heap.size ≤ q)
        (fun j hj => by obtain rfl := hz hj; exact hlen) (fun j hj => hin _ (by simp [mjSat])) (fun j hj => hin _ (by simp [mjSat])) (fun j hj => hin _ (by simp [mjSat]))
        (fun j hj => by obtain rfl := hz hj; exact hin _ (by simp [mjSat])) (fun j hj k hk => by
          obtain rfl := hz hj
          refine hin _ ?_
          simp only [mjSat, List.mem_cons, List.mem_map, List.mem_range]
          exact Or.inr (Or.inr (Or.inr (Or.inr ⟨k, hk, rfl⟩)))) (fun i j h1 h2 h3 => absurd ((hz h1).trans (hz h2).symm) h3) hA
      refine ⟨(adK 0, adV 0), fun _ => ⟨?_, he 0 (by decide)⟩⟩
      refine ⟨fun j hj => ?_, fun i j h1 h2 _ => (hz h1).trans (hz h2).symm⟩
      obtain rfl := hz hj
      exact hS.1 0 (by decide)
    · exact ⟨(0, 0), fun h => absurd h hi⟩
  obtain ⟨fS, hSt⟩ := Classical.axiomOfChoice hstr
  obtain ⟨zt, zf, hzf, hzt⟩ : ∃ t f : Nat, f ≤ 1 ∧ va_Z "jdk/internal/util/Preconditions" "SIOOBE_FORMATTER" "Ljava/util/function/BiFunction;" (if f = 0 then .null else .ref t) (fun q => s.heap.size ≤ q) s s.heap := by
    have h1 : (Cond.laysStatic "jdk/internal/util/Preconditions" "SIOOBE_FORMATTER" "Ljava/util/function/BiFunction;").before #[Value.ref b] s = true := hsub 3104 _ (by decide +kernel)
    have h2 : (Cond.initialized "jdk/internal/util/Preconditions").before #[Value.ref b] s = true := hsub 1019 _ (by decide +kernel)
    have h3 : (Cond.isRef (.static "jdk/internal/util/Preconditions" "SIOOBE_FORMATTER" "Ljava/util/function/BiFunction;")).before #[Value.ref b] s = true := hgf _ (List.mem_of_getElem? (i := 5) (by decide +kernel))
    rcases va_Zqof h1 h2 h3 hA with h | ⟨t, h⟩
    · exact ⟨0, 0, by decide, h⟩
    · exact ⟨t, 1, by decide, h⟩
  let lo : Nat → Nat := fun a => if a < 1000000 then s.heap.size + a else if a < 1100000 then (fS (a - 1000000)).1 else if a < 1200000 then (fS (a - 1100000)).2 else if a = 1200001 then zf else if a < 2000000 then zt else b
  have hlo1 : ∀ i, i < 1000000 → lo i = s.heap.size + i := fun i hi => if_pos hi
  have hlo2 : ∀ i, i < 10 → lo (1000000 + i) = (fS i).1 := fun i hi => by
    show (if 1000000 + i < 1000000 then _ else if 1000000 + i < 1100000 then _ else _) = _
    rw [if_neg (by omega), if_pos (by omega), show 1000000 + i - 1000000 = i by omega]
  have hlo4 : ∀ i, i < 10 → lo (1100000 + i) = (fS i).2 := fun i hi => by
    show (if 1100000 + i < 1000000 then _ else if 1100000 + i < 1100000 then _ else if 1100000 + i < 1200000 then _ else _) = _
    rw [if_neg (by omega), if_neg (by omega), if_pos (by omega), show 1100000 + i - 1100000 = i by omega]
  have hlo5 : lo 1200000 = zt := by
    show (if 1200000 < 1000000 then _ else if 1200000 < 1100000 then _ else if 1200000 < 1200000 then _ else if 1200000 = 1200001 then _ else if 1200000 < 2000000 then _ else _) = _
    rw [if_neg (by decide), if_neg (by decide), if_neg (by decide), if_neg (by decide), if_pos (by decide)]
  have hlo6 : lo 1200001 = zf := by
    show (if 1200001 < 1000000 then _ else if 1200001 < 1100000 then _ else if 1200001 < 1200000 then _ else if 1200001 = 1200001 then _ else _) = _
    rw [if_neg (by decide), if_neg (by decide), if_neg (by decide), if_pos rfl]
  have hlo3 : lo 2000000 = b := by
    show (if 2000000 < 1000000 then _ else if 2000000 < 1100000 then _ else if 2000000 < 1200000 then _ else if 2000000 = 1200001 then _ else if 2000000 < 2000000 then _ else _) = _
    rw [if_neg (by decide), if_neg (by decide), if_neg (by decide), if_neg (by decide), if_neg (by decide)]
  refine ⟨(fun c => (fD c).1, fun c => (fD c).2), fun t => if t = 13 then cI else if t = 14 then cJ else if t = 15 then cZ else if t = 16 then cT else cX, lo, fun i => 0, hlo3, by rw [hlo6]; exact hzf, ⟨fun c q hq => ?_, fun k q hk => ?_⟩, hlo1, fun own ix j hj => ?_, ⟨va_AO.of hoT, va_AO.of hoA⟩, ⟨by rw [hlo3]; exact hX, by rw [hlo3]; exact hbl, by rw [hlo3]; exact hbl, by show L < 2147483648; omega⟩, fun o ix k2 hm => ?_, fun i hi => ?_, ?_, ?_⟩
  · have hc : c < 13 := by
      have := (List.getElem?_eq_some_iff.mp hq).1
      exact this
    rw [mjCl_at hc] at hq
    obtain rfl := Option.some.inj hq
    exact hD c hc
  · match k, hk with
    | 0, hk => cases hk; exact ⟨hI1, hI2⟩
    | 1, hk => cases hk; exact ⟨hJ1, hJ2⟩
    | 2, hk => cases hk; exact ⟨hZ1, hZ2⟩
    | 3, hk => cases hk; exact ⟨hT1, hT2⟩
    | 4, hk => cases hk; exact ⟨hX1, hX2⟩
    | k + 5, hk => simp [mjTys] at hk
  · obtain ⟨i, hi, rfl, rfl, rfl⟩ := mjRf_spec hj
    have h := List.all_eq_true.mp mjSr_ok i (List.mem_range.mpr hi)
    simp only [mjSrOk, Bool.and_eq_true, decide_eq_true_eq] at h
    rw [hlo2 i hi]
    exact ⟨_, vk_R.of (hsub _ _ h.1) (hSt i hi).2⟩
  · rcases mjMlF_spec (mjMlF_18 hm) hm with ⟨-, h⟩ | ⟨h, -⟩
    · exact va_Nw.of rfl (hts _ h)
    · exact absurd rfl h
  · rw [hlo2 i hi, hlo4 i hi]
    exact (hSt i hi).1
  · have h1 : (Cond.laysStatic "java/lang/String" "COMPACT_STRINGS" "Z").before #[Value.ref b] s = true := hsub 3063 _ (by decide +kernel)
    have h2 : (Cond.initialized "java/lang/String").before #[Value.ref b] s = true := hsub 1016 _ (by decide +kernel)
    have h3 : (Cond.eq (.static "java/lang/String" "COMPACT_STRINGS" "Z") (.int 1)).before #[Value.ref b] s = true := hgf _ (List.mem_of_getElem? (i := 4) (by decide +kernel))
    exact va_Zof h1 h2 (va_eqi h3) hA
  · rw [hlo5, hlo6]
    exact hzt
end MJ10
