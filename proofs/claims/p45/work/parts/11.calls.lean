/-! the words of calls and makings; one that makes a cell; returns -/
def mjNwOk (o : Nat) (q : Nat × Nat × Nat × Nat × Nat) : Bool := mjOk q.2.2.1 (.classLink (mjCn o) q.1 (mjCn q.2.1)) && mjOk q.2.2.2.1 (.instantiable (mjCn q.2.1) (mjNf q.2.1)) && mjOk q.2.2.2.2 (.initialized (mjCn q.2.1)) && decide (q.2.1 < 21)
set_option maxRecDepth 100000 in
theorem mjNwL_ok : ((List.range 37).all fun o => (mjNwL.getD o []).all (mjNwOk o)) = true := by decide +kernel
theorem mjNwF_spec {own ix ci : Nat} (ho : own < 37) (h : mjNwF own ix = some ci) : Cond.classLink (mjCn own) ix (mjCn ci) ∈ mjW ∧ Cond.instantiable (mjCn ci) (mjNf ci) ∈ mjW ∧ Cond.initialized (mjCn ci) ∈ mjW ∧ ci < 21 := by
  unfold mjNwF at h
  cases hq : (mjNwL.getD own []).find? (fun q => q.1 == ix) with
  | none => rw [hq] at h; cases h
  | some q =>
    rw [hq] at h
    have h1 := List.all_eq_true.mp mjNwL_ok own (List.mem_range.mpr ho)
    have h2 := List.all_eq_true.mp h1 q (List.mem_of_find?_eq_some hq)
    have h3 := List.find?_some hq
    obtain ⟨q1, q2, q3, q4, q5⟩ := q
    simp only [beq_iff_eq] at h3
    subst h3
    simp only [Option.some.injEq] at h
    subst h
    simp only [mjNwOk, Bool.and_eq_true, decide_eq_true_eq] at h2
    exact ⟨mjOk_in h2.1.1.1, mjOk_in h2.1.1.2, mjOk_in h2.1.2, h2.2⟩
def mjNaN (t : Nat) : String := if t = 116 then "BatonZones$Team" else if t = 117 then "BatonZones$Act" else if t = 119 then "java/lang/Object" else "java/lang/String"
def mjNaOk (q : Nat × Nat × Nat × Nat) : Bool := mjOk q.2.2.2 (.classLink (mjCn q.1) q.2.1 (mjNaN q.2.2.1)) && decide (q.2.2.1 = 116 ∨ q.2.2.1 = 117 ∨ q.2.2.1 = 119 ∨ q.2.2.1 = 120)
theorem mjNaL_ok : mjNaL.all mjNaOk = true := by decide +kernel
theorem mjNaF_spec {own ix t : Nat} (h : mjNaF own ix = some t) : Cond.classLink (mjCn own) ix (mjNaN t) ∈ mjW ∧ (t = 116 ∨ t = 117 ∨ t = 119 ∨ t = 120) := by
  unfold mjNaF at h
  cases hq : mjNaL.find? (fun q => q.1 == own && q.2.1 == ix) with
  | none => rw [hq] at h; cases h
  | some w =>
    rw [hq] at h
    have h2 := List.all_eq_true.mp mjNaL_ok w (List.mem_of_find?_eq_some hq)
    have h3 := List.find?_some hq
    obtain ⟨w1, w2, w3, w4⟩ := w
    simp only [Bool.and_eq_true, beq_iff_eq] at h3
    obtain ⟨rfl, rfl⟩ := h3
    simp only [Option.some.injEq] at h
    subst h
    simp only [mjNaOk, Bool.and_eq_true, decide_eq_true_eq] at h2
    exact ⟨mjOk_in h2.1, h2.2⟩
def mjYq (k : Nat) : MethodName := if k = 999 then Lib.objectInit else if k = 1003 then Lib.Math.max.name else if k = 1004 then Lib.Math.min.name else if k = 1005 then arraycopyName else mjY k
def mjHost (n : Nat) : String := if n = 0 then "BatonZones" else "BatonZonesLaw"
def mjXr (i : Nat) : MethodName × String × Nat × Nat := mjXL.getD i (⟨"", "", ""⟩, "", 0, 0)
def mjNmh (C : String) : Bool := decide (C ≠ "java/lang/invoke/MethodHandle" ∧ C ≠ "java/lang/invoke/VarHandle")
def mjNpa (d : String) (n : Nat) : Bool := decide ((parseMethodDescriptor d).map (fun d => d.parameters.length) = some n)
/-- a row of mjLkL: (index, method, mode, class of the receiver, place of the link, place of selects, row of mjXL) -/
def mjLkOk (o : Nat) : Nat × Nat × Nat × Nat × Nat × Nat × Nat → Bool
  | (ix, k2, md, C, pl, ps, xi) => match md with
    | 0 => mjOk pl (.methodLink (mjCn o) ix (mjYq k2)) && mjOk ps (.selects (mjCn C) (mjY k2) (mjY k2)) && decide (mjCn C = (mjY k2).cls)
    | 8 => decide (k2 = 1006) && mjOk pl (.methodLink (mjCn o) ix ⟨"[B", "clone", "()Ljava/lang/Object;"⟩)
    | 1 => mjOk pl (.methodLink (mjCn o) ix (mjYq k2))
    | 2 => mjOk pl (.methodLink (mjCn o) ix (mjYq k2))
    | 3 => mjOk pl (.methodLink (mjCn o) ix (mjXr xi).1) && mjOk ps (.selects (mjCn C) (mjXr xi).1 (mjY k2)) && mjOk (mjXr xi).2.2.1 (.sameMethod (mjXr xi).1.cls (mjXr xi).2.1 (mjXr xi).1.name (mjXr xi).1.desc) && mjNmh (mjXr xi).2.1 && mjNpa (mjXr xi).1.desc (mjNa k2) && (if (mjXr xi).2.2.2 = 998 then decide ((⟨(mjXr xi).2.1, (mjXr xi).1.name, (mjXr xi).1.desc⟩ : MethodName) = ⟨"java/lang/Object", "equals", "(Ljava/lang/Object;)Z"⟩) else decide ((mjXr xi).2.2.2 < 256) && decide (mjKd (mjXr xi).2.2.2 = 0) && decide (mjY (mjXr xi).2.2.2 = ⟨(mjXr xi).2.1, (mjXr xi).1.name, (mjXr xi).1.desc⟩))
    | 4 => mjOk pl (.methodLink (mjCn o) ix (mjXr xi).1) && mjOk ps (.selects (mjCn C) (mjXr xi).1 (mjY k2)) && mjNmh (mjXr xi).1.cls && mjNpa (mjXr xi).1.desc (mjNa k2)
    | 5 => mjOk pl (.methodLink (mjCn o) ix (mjY k2)) && mjOk (mjXr xi).2.2.1 (.sameMethod (mjY k2).cls (mjY k2).cls (mjY k2).name (mjY k2).desc) && mjOk (mjXr xi).2.2.2 (.superclass (mjCn o) (mjY k2).cls) && decide ((mjY k2).name ≠ "<init>")
    | 6 => decide ((mjSub (pl / 1000))[pl % 1000]? = some (.methodLinkNest (mjCn o) ix (mjY k2) (mjHost xi)))
    | 7 => decide ((mjSub (pl / 1000))[pl % 1000]? = some (.methodLinkNest (mjCn o) ix (mjY k2) (mjHost xi)))
    | _ => false
set_option maxRecDepth 100000 in
theorem mjLk_ok0 : ((List.range 12).all fun o => (mjLkL.getD o []).all (mjLkOk o)) = true := by decide +kernel
set_option maxRecDepth 100000 in
theorem mjLk_ok1 : (((List.range 25).map (· + 12)).all fun o => (mjLkL.getD o []).all (mjLkOk o)) = true := by decide +kernel
theorem mjLkL_lt {o : Nat} {q : Nat × Nat × Nat × Nat × Nat × Nat × Nat} (h : q ∈ mjLkL.getD o []) : o < 37 := by
  by_cases ho : o < 37
  · exact ho
  · have h9 : mjLkL[o]? = none := List.getElem?_eq_none (by have : mjLkL.length = 37 := rfl; omega)
    rw [List.getD_eq_getElem?_getD, h9] at h
    cases h
theorem mjLk_in {o : Nat} {q : Nat × Nat × Nat × Nat × Nat × Nat × Nat} (h : q ∈ mjLkL.getD o []) : mjLkOk o q = true := by
  have ho := mjLkL_lt h
  by_cases h12 : o < 12
  · exact List.all_eq_true.mp (List.all_eq_true.mp mjLk_ok0 o (List.mem_range.mpr h12)) q h
  · exact List.all_eq_true.mp (List.all_eq_true.mp mjLk_ok1 o (List.mem_map.mpr ⟨o - 12, List.mem_range.mpr (by omega), by omega⟩)) q h
theorem mjLkF_spec {own ix k2 md C : Nat} (h : mjLkF own ix = some (k2, md, C)) : ∃ pl ps xi, (ix, k2, md, C, pl, ps, xi) ∈ mjLkL.getD own [] := by
  unfold mjLkF at h
  cases hq : (mjLkL.getD own []).find? (fun q => q.1 == ix) with
  | none => rw [hq] at h; cases h
  | some q =>
    rw [hq] at h
    have h2 := List.mem_of_find?_eq_some hq
    have h3 := List.find?_some hq
    obtain ⟨q1, q2, q3, q4, q5, q6, q7⟩ := q
    simp only [beq_iff_eq] at h3
    subst h3
    simp only [Option.some.injEq, Prod.mk.injEq] at h
    obtain ⟨rfl, rfl, rfl⟩ := h
    exact ⟨_, _, _, h2⟩
theorem mjAcI : Cond.arrayClass .int ∈ mjW := mjOk_in (i := 1083) (by decide +kernel)
theorem mjAcL : Cond.arrayClass .long ∈ mjW := mjOk_in (i := 1120) (by decide +kernel)
theorem mjAcZ : Cond.arrayClass .boolean ∈ mjW := mjOk_in (i := 2149) (by decide +kernel)
theorem mjAcB : Cond.arrayClass .byte ∈ mjW := mjOk_in (i := 5022) (by decide +kernel)
theorem mjMaxS : Cond.static Lib.Math.max.name ∈ mjW := mjOk_in (i := 3075) (by decide +kernel)
theorem mjMinS : Cond.static Lib.Math.min.name ∈ mjW := mjOk_in (i := 3021) (by decide +kernel)
theorem mjMathI : Cond.initialized "java/lang/Math" ∈ mjW := mjOk_in (i := 1010) (by decide +kernel)
theorem mjMaxC : Cond.code Lib.Math.max.name Lib.Math.max.code 2 (some .int) ∈ mjW := mjOk_in (i := 3076) (by decide +kernel)
theorem mjMinC : Cond.code Lib.Math.min.name Lib.Math.min.code 2 (some .int) ∈ mjW := mjOk_in (i := 3022) (by decide +kernel)
theorem mjObI : Cond.instanceMethod Lib.objectInit ∈ mjW := mjOk_in (i := 1043) (by decide +kernel)
theorem mjObC : Cond.code Lib.objectInit ⟨#[0xb1]⟩ 1 none ∈ mjW := mjOk_in (i := 1044) (by decide +kernel)
theorem mjClN : Cond.native ⟨"java/lang/Object", "clone", "()Ljava/lang/Object;"⟩ ∈ mjW := mjOk_in (i := 5188) (by decide +kernel)
theorem mjClI : Cond.instanceMethod ⟨"java/lang/Object", "clone", "()Ljava/lang/Object;"⟩ ∈ mjW := mjOk_in (i := 5189) (by decide +kernel)
theorem mjClS : Cond.sameMethod "[B" "java/lang/Object" "clone" "()Ljava/lang/Object;" ∈ mjW := mjOk_in (i := 5187) (by decide +kernel)
theorem mjClE : Cond.selects "[B" ⟨"[B", "clone", "()Ljava/lang/Object;"⟩ ⟨"java/lang/Object", "clone", "()Ljava/lang/Object;"⟩ ∈ mjW := mjOk_in (i := 5190) (by decide +kernel)
theorem mjCyN : Cond.native arraycopyName ∈ mjW := mjOk_in (i := 5196) (by decide +kernel)
theorem mjCyS : Cond.static arraycopyName ∈ mjW := mjOk_in (i := 5195) (by decide +kernel)
theorem mjCyI : Cond.initialized "java/lang/System" ∈ mjW := mjOk_in (i := 1012) (by decide +kernel)
theorem mjM_spec {k : Nat} (hk : k < 256) : Cond.initialized (mjY k).cls ∈ mjW ∧ (mjKd k = 1 → Cond.static (mjY k) ∈ mjW) ∧ (¬ mjKd k = 1 → Cond.instanceMethod (mjY k) ∈ mjW) ∧ (mjKd k = 2 → (mjY k).name = "<init>") ∧ (mjY k).cls = mjCn (mjCls k) ∧ ((mjY k).cls ≠ "java/lang/invoke/MethodHandle" ∧ (mjY k).cls ≠ "java/lang/invoke/VarHandle" ∧ (parseMethodDescriptor (mjY k).desc).map (fun d => d.parameters.length) = some (mjNa k)) ∧ plainName (mjY k).cls = true ∧ (mjKd k = 2 → mjRt k = none) := by
  have h := mjM_ok k hk
  have hkd : mjKd k = (mjMw k).2.2.1 := rfl
  unfold mjMOk at h
  generalize mjMw k = q at h hkd
  obtain ⟨q1, b, kd, c⟩ := q
  dsimp only at h hkd
  subst hkd
  simp only [Bool.and_eq_true, decide_eq_true_eq] at h
  obtain ⟨⟨⟨⟨⟨⟨⟨h1, h2⟩, h3⟩, h4⟩, h5⟩, h6⟩, h7⟩, h8⟩ := h
  refine ⟨mjOk_in h1, fun e => ?_, fun e => ?_, fun e => ?_, h4, h5, h6, fun e => ?_⟩
  · rw [if_pos e] at h2; exact mjOk_in h2
  · rw [if_neg e] at h2; exact mjOk_in h2
  · rw [if_pos e] at h3; exact of_decide_eq_true h3
  · rw [if_pos e] at h7; exact of_decide_eq_true h7
section MJ5
variable {p : Program} {l : Launch} {e : Env} {R : Room} {s : State} {m : MethodId} {args : Array Value} {below : List Frame} {meth : Method} {c : Code} {H : Heap} {locs : List Loc} {cells slots : Nat} {Q : State → Prop}
variable {ls : Array Slot} {D : va_G} {kA : Nat → ClassId} {lo sg : Nat → Nat} {base : Nat} {sc : Nat × (Nat → Int32)} {H0 : Heap} {k n len pc pc1 nL : Nat} {i : Instr} {L L1 : mjLs} {st st1 : List Value} {M M1 : mjMem} {q0 : Nat × Nat}
theorem mjNwA_spec {t w a : Nat} (h : mjNwA pc t w st a = some (pc1, st1, q0)) : ∃ x r, st = .int x :: r ∧ 0 ≤ x.toInt ∧ x.toInt ≤ 100000 ∧ pc1 = pc + w ∧ st1 = .ref a :: r ∧ q0 = (t, x.toInt.toNat) := by
  unfold mjNwA at h
  split at h
  · split at h
    · rename_i hc
      cases h
      exact ⟨_, _, rfl, hc.1, hc.2, rfl, rfl, rfl⟩
    · cases h
  · cases h
set_option maxHeartbeats 1000000 in
theorem mj_mk (hC : mjCx p s m args meth c D kA lo base sc s.heap k) (h : mjNew k i pc st (sg n) = some (pc1, st1, q0)) (hn : n < 100000) (hln : mjLn i len = true) (hdg : decode (mjB k) pc = .ok (i, len)) (hLR : mjLR lo ls nL L) (hR : mjRp D kA lo sg base sc n M H) (hS : va_S (fun q => base ≤ q) s.heap H locs)
    (hcells : cells + 1 ≤ R.cells) (hslots : slots + mjSzK q0 ≤ R.slots)
    (kk : ∀ (H1 : Heap) (ls1 : Array Slot), mjRp D kA lo sg base sc (n + 1) (mjZr M (sg n) q0) H1 → va_S (fun q => base ≤ q) s.heap H1 locs → mjLR lo ls1 nL L → W p l e R s m args below meth c H1 locs (cells + 1) (slots + mjSzK q0) Q (F0 m pc1 ls1 (st1.map (mjRn lo)))) :
    W p l e R s m args below meth c H locs cells slots Q (F0 m pc ls (st.map (mjRn lo))) := by
  obtain ⟨hx, hb, hts, hown, hK, hinit, hcs, hao, hscr, hpre, hca, hnc⟩ := hC
  obtain ⟨hsl, hsa⟩ := hR.1.1.2.2 n hn
  have hkz : ∀ a, a ≠ sg n → (mjZr M (sg n) q0).2.2.2 a = M.2.2.2 a := fun a ha => by simp [mjZr, ha]
  have hlz : (mjZr M (sg n) q0).2.2.2 (sg n) = q0 := by simp [mjZr]
  have harr : ∀ {atype : ArrayType} {t t0 : Nat} (hw : Cond.arrayClass (newarray.typeOf atype) ∈ mjW) (ht : (mjTys kA)[t0]? = some (kA t, newarray.typeOf atype)) (ht2 : 113 ≤ t) (hcell : ∀ z, vp_cell (kA t) (z, mjAr lo (mjZr M (sg n) q0) (sg n) t) = arrV (kA t) z (fun _ => defaultValue (newarray.typeOf atype))), decode (mjB k) pc = .ok (.newarray atype, 2) → mjNwA pc t 2 st (sg n) = some (pc1, st1, q0) → W p l e R s m args below meth c H locs cells slots Q (F0 m pc ls (st.map (mjRn lo))) := by
    intro atype t t0 hw ht ht2 hcell hdg h
    obtain ⟨x, r, rfl, h1, h3, rfl, rfl, rfl⟩ := mjNwA_spec h
    have hsz : mjSzK (t, x.toInt.toNat) = x.toInt.toNat := by
      rw [mjSzK, if_neg (by show ¬ t < 100; omega)]
    rw [hsz] at hslots kk
    refine mj_newa (M' := mjZr M (sg n) (t, x.toInt.toNat)) hx hb hts hw ht ht2 hn hK hR.1 hS h1 h3 hlz hkz mjZr_ne (hcell _) hcells hslots hdg (fun H1 hR1 hS1 => ?_)
    rw [← hsa]
    exact kk H1 ls (hR.keep hsl mjZr_int hR1) hS1 hLR
  have hrefs : ∀ {ix t t0 : Nat} {C : String} (hw : Cond.classLink (mjCn (mjCls k)) ix C ∈ mjW) (hover : va_AO C s) (ht : (mjTys kA)[t0]? = some (kA t, .object C)) (ht2 : t = 116 ∨ t = 117 ∨ t = 119 ∨ t = 120), decode (mjB k) pc = .ok (.anewarray ix, 3) → mjNwA pc t 3 st (sg n) = some (pc1, st1, q0) → W p l e R s m args below meth c H locs cells slots Q (F0 m pc ls (st.map (mjRn lo))) := by
    intro ix t t0 C hw hover ht ht2 hdg h
    obtain ⟨x, r, rfl, h1, h3, rfl, rfl, rfl⟩ := mjNwA_spec h
    have hsz : mjSzK (t, x.toInt.toNat) = x.toInt.toNat := by
      rw [mjSzK, if_neg (by show ¬ t < 100; omega)]
    rw [hsz] at hslots kk
    refine mj_anew (M' := mjZr M (sg n) (t, x.toInt.toNat)) hx hb hts hown hw hover ht ht2 hn hK hR.1 hS h1 h3 hlz hkz mjZr_ne (by intro q; simp [mjZr]) hcells hslots hdg (fun H1 hR1 hS1 => ?_)
    rw [← hsa]
    exact kk H1 ls (hR.keep hsl mjZr_int hR1) hS1 hLR
  unfold mjNew at h
  split at h
  · rename_i ix
    split at h
    · rename_i ci hci
      cases h
      obtain rfl : len = 3 := by simpa [mjLn] using hln
      obtain ⟨w1, w2, w3, hc⟩ := mjNwF_spec (mjCls_lt k) hci
      have hsz : mjSzK (ci, 0) = mjNf ci := by
        rw [mjSzK, if_pos (by show ci < 100; omega)]
      rw [hsz] at hslots kk
      refine mj_new (M' := mjZr M (sg n) (ci, 0)) hx hb hts hown hK hR.1 hS hc hn w1 w2 w3 hlz hkz mjZr_ne (fun q hq => ?_) hcells hslots hdg (fun H1 hR1 hS1 => ?_)
      · rcases mjT_at hc hq with ⟨h1, h2⟩ | ⟨h1, h2⟩ | ⟨h1, h2⟩ | ⟨h1, h2⟩ | ⟨h1, h2⟩
        · simp [mjFv, h1, h2, mjZr, defaultValue]
        · simp [mjFv, h1, h2, mjZr, defaultValue]
        · rcases h2 with ⟨z, h2⟩ | ⟨z, h2⟩ <;> simp [mjFv, h1, h2, mjZr, defaultValue, va_rf]
        · simp [mjFv, h1, h2, mjZr, defaultValue]
        · simp [mjFv, h1, h2, mjZr, defaultValue]
      · rw [← hsa]
        exact kk H1 ls (hR.keep hsl mjZr_int hR1) hS1 hLR
    · cases h
  · obtain rfl : len = 2 := by simpa [mjLn] using hln
    exact harr (atype := .int) (t0 := 0) mjAcI rfl (by decide) (fun z => by rw [show mjAr lo (mjZr M (sg n) q0) (sg n) 113 = .inl ((mjZr M (sg n) q0).1 (sg n)) from rfl, vp_cell_i]; congr 1; funext q; simp [mjZr, newarray.typeOf, defaultValue]) hdg h
  · obtain rfl : len = 2 := by simpa [mjLn] using hln
    exact harr (atype := .long) (t0 := 1) mjAcL rfl (by decide) (fun z => by rw [show mjAr lo (mjZr M (sg n) q0) (sg n) 114 = .inr (.inl ((mjZr M (sg n) q0).2.1 (sg n))) from rfl, vp_cell_l]; congr 1; funext q; simp [mjZr, newarray.typeOf, defaultValue]) hdg h
  · obtain rfl : len = 2 := by simpa [mjLn] using hln
    exact harr (atype := .boolean) (t0 := 2) mjAcZ rfl (by decide) (fun z => by rw [show mjAr lo (mjZr M (sg n) q0) (sg n) 115 = .inl ((mjZr M (sg n) q0).1 (sg n)) from rfl, vp_cell_i]; congr 1; funext q; simp [mjZr, newarray.typeOf, defaultValue]) hdg h
  · obtain rfl : len = 2 := by simpa [mjLn] using hln
    exact harr (atype := .byte) (t0 := 5) mjAcB rfl (by decide) (fun z => by rw [show mjAr lo (mjZr M (sg n) q0) (sg n) 118 = .inl ((mjZr M (sg n) q0).1 (sg n)) from rfl, vp_cell_i]; congr 1; funext q; simp [mjZr, newarray.typeOf, defaultValue]) hdg h
  · rename_i ix
    obtain rfl : len = 3 := by simpa [mjLn] using hln
    split at h
    · rename_i t hna
      obtain ⟨w1, ht⟩ := mjNaF_spec hna
      rcases ht with rfl | rfl | rfl | rfl
      · exact hrefs (t0 := 3) w1 hao.1 rfl (Or.inl rfl) hdg h
      · exact hrefs (t0 := 4) w1 hao.2.1 rfl (Or.inr (Or.inl rfl)) hdg h
      · exact hrefs (t0 := 6) w1 hao.2.2.1 rfl (Or.inr (Or.inr (Or.inl rfl))) hdg h
      · exact hrefs (t0 := 7) w1 hao.2.2.2 rfl (Or.inr (Or.inr (Or.inr rfl))) hdg h
    · cases h
  · cases h
theorem mj_ret {Qc : Array Value → State → Outcome → State → Prop} {free : Addr → Prop} {r : Option Value} (hx : p.tables.exec = Jvm.exec) (hb : c.code = mjB k) (hr : meth.sig.returnType = mjRt k) (hlocks : meth.locks = false) (h : mjRet k i st = some r) (hln : mjLn i len = true) (hdg : decode (mjB k) pc = .ok (i, len))
    (hq : ∀ t : State, t.heap = H → s.WarmedH t.vm → Qc args s (.returned (r.map (mjRn lo))) t) (hf : ∀ q ∈ locs, free q.base) : W p l e R s m args below meth c H locs cells slots (MQ below Qc args s cells slots free) (F0 m pc ls (st.map (mjRn lo))) := by
  unfold mjRet at h
  split at h
  · split at h
    · rename_i h1
      cases h
      obtain rfl : len = 1 := by simpa [mjLn] using hln
      exact W.vret hx hb (hr.trans h1) hq hf hdg hlocks
    · cases h
  · split at h
    · rename_i h1
      cases h
      obtain rfl : len = 1 := by simpa [mjLn] using hln
      exact W.iret hx hb (hr.trans h1) hq hf hdg hlocks
    · rename_i x h1
      split at h
      · rename_i h2
        cases h
        obtain rfl : len = 1 := by simpa [mjLn] using hln
        exact W.zret hx hb (hr.trans h1) (by rcases h2 with rfl | rfl <;> rfl) hq hf hdg hlocks
      · cases h
    · rename_i x h1
      split at h
      · rename_i h2
        cases h
        obtain rfl : len = 1 := by simpa [mjLn] using hln
        exact W.zret hx hb (hr.trans h1) (congrArg Value.int h2) hq hf hdg hlocks
      · cases h
    · rename_i x h1
      split at h
      · rename_i h2
        cases h
        obtain rfl : len = 1 := by simpa [mjLn] using hln
        exact W.zret hx hb (hr.trans h1) (congrArg Value.int h2) hq hf hdg hlocks
      · cases h
    · cases h
  · split at h
    · rename_i h1
      cases h
      obtain rfl : len = 1 := by simpa [mjLn] using hln
      exact W.lret hx hb (hr.trans h1) hq hf hdg hlocks
    · cases h
  · split at h
    · rename_i h1
      cases h
      obtain rfl : len = 1 := by simpa [mjLn] using hln
      exact W.aret hx hb (hr.trans h1) (Or.inl ⟨_, rfl⟩) (Or.inr ⟨_, rfl⟩) hq hf hdg hlocks
    · rename_i h1
      cases h
      obtain rfl : len = 1 := by simpa [mjLn] using hln
      exact W.aret hx hb (hr.trans h1) (Or.inr ⟨_, rfl⟩) (Or.inr ⟨_, rfl⟩) hq hf hdg hlocks
    · cases h
  · cases h
end MJ5
