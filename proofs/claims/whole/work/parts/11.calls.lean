/-! the words of calls and makings; one that makes a cell; returns -/
def mjNwOk (o : Nat) (q : Nat × Nat × Nat × Nat × Nat) : Bool := mjOk q.2.2.1 (.classLink (mjCn o) q.1 (mjCn q.2.1)) && mjOk q.2.2.2.1 (.instantiable (mjCn q.2.1) (mjNf q.2.1)) && mjOk q.2.2.2.2 (.initialized (mjCn q.2.1)) && decide (q.2.1 < 13)
set_option maxRecDepth 100000 in
theorem mjNwL_ok : ((List.range 21).all fun o => (mjNwL.getD o []).all (mjNwOk o)) = true := by decide +kernel
theorem mjNwF_spec {own ix ci : Nat} (ho : own < 21) (h : mjNwF own ix = some ci) : Cond.classLink (mjCn own) ix (mjCn ci) ∈ mjW ∧ Cond.instantiable (mjCn ci) (mjNf ci) ∈ mjW ∧ Cond.initialized (mjCn ci) ∈ mjW ∧ ci < 13 := by
  unfold mjNwF at h
  cases hq : (mjNwL.getD own []).find? (fun q => q.1 == ix) with
  | none => rw [hq] at h; cases h
  | some q =>
    rw [hq] at h
    have h1 := List.all_eq_true.mp mjNwL_ok own (List.mem_range.mpr ho)
    have h2 := List.all_eq_true.mp h1 q (List.mem_of_find?_eq_some hq)
    have h3 := List.find?_some hq
    obtain ⟨q1, q2, q3, q4, q5⟩ := q
    simp only [beq_iff_eq] at h3
    subst h3
    simp only [Option.some.injEq] at h
    subst h
    simp only [mjNwOk, Bool.and_eq_true, decide_eq_true_eq] at h2
    exact ⟨mjOk_in h2.1.1.1, mjOk_in h2.1.1.2, mjOk_in h2.1.2, h2.2⟩
def mjYq (k : Nat) : MethodName := if k = 999 then Lib.objectInit else if k = 1003 then Lib.Math.max.name else if k = 1004 then Lib.Math.min.name else mjY k
def mjMLOk (o : Nat) (q : Nat × Nat × Nat × Nat) : Bool := if q.2.2.1 = 1 then decide ((mjSub (q.2.2.2 / 1000))[q.2.2.2 % 1000]? = some (.methodLinkNest (mjCn o) q.1 (mjY q.2.1) "BatonZones")) else mjOk q.2.2.2 (.methodLink (mjCn o) q.1 (mjYq q.2.1))
set_option maxRecDepth 100000 in
theorem mjMLk_ok0 : ((List.range 12).all fun o => (mjMLk.getD o []).all (mjMLOk o)) = true := by decide +kernel
set_option maxRecDepth 100000 in
theorem mjMLk_ok1 : (((List.range 9).map (· + 12)).all fun o => (mjMLk.getD o []).all (mjMLOk o)) = true := by decide +kernel
theorem mjMlF_spec {own ix k2 nest : Nat} (ho : own < 21) (h : mjMlF own ix = some (k2, nest)) : (nest = 1 ∧ Cond.methodLinkNest (mjCn own) ix (mjY k2) "BatonZones" ∈ lw_tbl) ∨ (¬ nest = 1 ∧ Cond.methodLink (mjCn own) ix (mjYq k2) ∈ mjW) := by
  unfold mjMlF at h
  cases hq : (mjMLk.getD own []).find? (fun q => q.1 == ix) with
  | none => rw [hq] at h; cases h
  | some q =>
    rw [hq] at h
    have h1 : ((mjMLk.getD own []).all (mjMLOk own)) = true := by
      by_cases h12 : own < 12
      · exact List.all_eq_true.mp mjMLk_ok0 own (List.mem_range.mpr h12)
      · exact List.all_eq_true.mp mjMLk_ok1 own (List.mem_map.mpr ⟨own - 12, List.mem_range.mpr (by omega), by omega⟩)
    have h2 := List.all_eq_true.mp h1 q (List.mem_of_find?_eq_some hq)
    have h3 := List.find?_some hq
    obtain ⟨q1, q2, q3, q4⟩ := q
    simp only [beq_iff_eq] at h3
    subst h3
    simp only [Option.some.injEq, Prod.mk.injEq] at h
    obtain ⟨rfl, rfl⟩ := h
    unfold mjMLOk at h2
    split at h2
    · exact Or.inl ⟨by assumption, mjSub_in _ _ (List.mem_of_getElem? (of_decide_eq_true h2))⟩
    · exact Or.inr ⟨by assumption, mjOk_in h2⟩
theorem mjAcI : Cond.arrayClass .int ∈ mjW := mjOk_in (i := 1069) (by decide +kernel)
theorem mjAcL : Cond.arrayClass .long ∈ mjW := mjOk_in (i := 1107) (by decide +kernel)
theorem mjAcZ : Cond.arrayClass .boolean ∈ mjW := mjOk_in (i := 2141) (by decide +kernel)
theorem mjMaxS : Cond.static Lib.Math.max.name ∈ mjW := mjOk_in (i := 3079) (by decide +kernel)
theorem mjMinS : Cond.static Lib.Math.min.name ∈ mjW := mjOk_in (i := 3025) (by decide +kernel)
theorem mjMathI : Cond.initialized "java/lang/Math" ∈ mjW := mjOk_in (i := 1015) (by decide +kernel)
theorem mjMaxC : Cond.code Lib.Math.max.name Lib.Math.max.code 2 (some .int) ∈ mjW := mjOk_in (i := 3080) (by decide +kernel)
theorem mjMinC : Cond.code Lib.Math.min.name Lib.Math.min.code 2 (some .int) ∈ mjW := mjOk_in (i := 3026) (by decide +kernel)
theorem mjObI : Cond.instanceMethod Lib.objectInit ∈ mjW := mjOk_in (i := 1029) (by decide +kernel)
theorem mjObC : Cond.code Lib.objectInit ⟨#[0xb1]⟩ 1 none ∈ mjW := mjOk_in (i := 1030) (by decide +kernel)
theorem mjM_spec {k : Nat} (hk : k < 339) : Cond.initialized (mjY k).cls ∈ mjW ∧ (mjKd k = 1 → Cond.static (mjY k) ∈ mjW) ∧ (¬ mjKd k = 1 → Cond.instanceMethod (mjY k) ∈ mjW) ∧ (mjKd k = 0 → Cond.selects (mjY k).cls (mjY k) (mjY k) ∈ mjW) ∧ (mjKd k = 2 → (mjY k).name = "<init>") ∧ (mjY k).cls = mjCn (mjCls k) ∧ ((mjY k).cls ≠ "java/lang/invoke/MethodHandle" ∧ (mjY k).cls ≠ "java/lang/invoke/VarHandle" ∧ (parseMethodDescriptor (mjY k).desc).map (fun d => d.parameters.length) = some (mjNa k)) ∧ plainName (mjY k).cls = true ∧ (mjKd k = 2 → mjRt k = none) := by
  have h := mjM_ok k hk
  have hkd : mjKd k = (mjMw k).2.2.1 := rfl
  unfold mjMOk at h
  generalize mjMw k = q at h hkd
  obtain ⟨q1, b, kd, c, d⟩ := q
  dsimp only at h hkd
  subst hkd
  simp only [Bool.and_eq_true, decide_eq_true_eq] at h
  obtain ⟨⟨⟨⟨⟨⟨⟨⟨h1, h2⟩, h3⟩, h4⟩, h5⟩, h6⟩, h7⟩, h8⟩, h9⟩ := h
  refine ⟨mjOk_in h1, fun e => ?_, fun e => ?_, fun e => ?_, fun e => ?_, h5, h6, h7, h9⟩
  · rw [if_pos e] at h2; exact mjOk_in h2
  · rw [if_neg e] at h2; exact mjOk_in h2
  · rw [if_pos e] at h3; exact mjOk_in h3
  · rw [if_pos e] at h4; exact of_decide_eq_true h4
def mjSz (i : Nat) : Nat := if (mjLay i).1 < 13 then mjNf (mjLay i).1 else (mjLay i).2
def mjCum : Nat → Nat
  | 0 => 0
  | n + 1 => mjCum n + mjSz n
theorem mjCum_le {a b : Nat} (h : a ≤ b) : mjCum a ≤ mjCum b := by
  induction b with
  | zero => rw [show a = 0 by omega]; exact Nat.le_refl _
  | succ b ih =>
    by_cases hb : a = b + 1
    · rw [hb]; exact Nat.le_refl _
    · exact Nat.le_trans (ih (by omega)) (Nat.le_add_right _ _)
theorem mjLayL_len : mjLayL.length = 251 := by decide +kernel
theorem mjLay_lt {n t w : Nat} (h : mjLay n = (t, w)) (ht : t < 18) : n < 251 := by
  by_cases hn : n < 251
  · exact hn
  · have h9 : mjLayL[n]? = none := List.getElem?_eq_none (by have : mjLayL.length = 251 := mjLayL_len; omega)
    rw [mjLay, List.getD_eq_getElem?_getD, h9] at h
    cases h
    omega
section MJ5
variable {p : Program} {l : Launch} {e : Env} {R : Room} {s : State} {m : MethodId} {args : Array Value} {below : List Frame} {meth : Method} {c : Code} {H : Heap} {locs : List Loc} {cells slots : Nat} {Q : State → Prop}
variable {ls : Array Slot} {D : va_G} {kA : Nat → ClassId} {lo : Nat → Nat} {base : Nat} {sc : Nat × (Nat → Int32)} {H0 : Heap} {k n len pc pc1 nL : Nat} {i : Instr} {L L1 : mjLs} {st st1 : List Value} {M M1 : mjMem}
theorem mjRp.zr {H1 : Heap} (h : mjRp D kA lo base sc n M H) (hn : n < 251) (h1 : mjRep D kA lo base (n + 1) (mjZr M n) H1) : mjRp D kA lo base sc (n + 1) (mjZr M n) H1 := by
  obtain ⟨-, h2, h3, h4, h5, h6⟩ := h
  refine ⟨h1, by omega, ?_, ?_, ?_, h6⟩
  · show (fun j => if 2000000 = n then _ else M.1 2000000 j) = _
    rw [← h3]; funext j; rw [if_neg (by omega)]
  · show (if 2000001 = n then _ else M.1 2000001 0) = _
    rw [if_neg (by omega)]; exact h4
  · show (if 2000001 = n then _ else M.1 2000001 1) = _
    rw [if_neg (by omega)]; exact h5
theorem mjNwA_spec {t w : Nat} {pc0 : Nat} (h : mjNwA pc n t w L st M = some (pc1, L1, st1, M1)) : ∃ x r, st = .int x :: r ∧ 0 ≤ x.toInt ∧ mjLay n = (t, x.toInt.toNat) ∧ x.toInt ≤ 100000 ∧ pc1 = pc + w ∧ L = L1 ∧ st1 = .ref n :: r ∧ M1 = mjZr M n := by
  unfold mjNwA at h
  split at h
  · split at h
    · rename_i hc
      cases h
      exact ⟨_, _, rfl, hc.1, hc.2.1, hc.2.2, rfl, rfl, rfl, rfl⟩
    · cases h
  · cases h
set_option maxHeartbeats 1000000 in
theorem mj_mk (hC : mjCx p s m args meth c D kA lo base sc H0 k) (h : mjNew k i pc n L st M = some (pc1, L1, st1, M1)) (hln : mjLn i len = true) (hdg : decode (mjB k) pc = .ok (i, len)) (hLR : mjLR lo ls nL L) (hR : mjRp D kA lo base sc n M H) (hS : va_S (fun q => base ≤ q) H0 H locs)
    (hcells : cells + 1 ≤ R.cells) (hslots : slots + mjSz n ≤ R.slots)
    (kk : ∀ (H1 : Heap) (ls1 : Array Slot), mjRp D kA lo base sc (n + 1) M1 H1 → va_S (fun q => base ≤ q) H0 H1 locs → mjLR lo ls1 nL L1 → W p l e R s m args below meth c H1 locs (cells + 1) (slots + mjSz n) Q (F0 m pc1 ls1 (st1.map (mjRn lo)))) :
    W p l e R s m args below meth c H locs cells slots Q (F0 m pc ls (st.map (mjRn lo))) := by
  obtain ⟨hx, hb, hts, hown, hK, hinit, hlo, hcs, hao, hscr, hstr⟩ := hC
  have harr : ∀ {atype : ArrayType} {t t0 : Nat} (hw : Cond.arrayClass (newarray.typeOf atype) ∈ mjW) (ht : (mjTys kA)[t0]? = some (kA t, newarray.typeOf atype)) (ht2 : 13 ≤ t) (ht3 : t < 18) (hcell : ∀ z, vp_cell (kA t) (z, mjAr lo (mjZr M n) n t) = arrV (kA t) z (fun _ => defaultValue (newarray.typeOf atype))), decode (mjB k) pc = .ok (.newarray atype, 2) → mjNwA pc n t 2 L st M = some (pc1, L1, st1, M1) → W p l e R s m args below meth c H locs cells slots Q (F0 m pc ls (st.map (mjRn lo))) := by
    intro atype t t0 hw ht ht2 ht3 hcell hdg h
    obtain ⟨x, r, rfl, h1, h2, h3, rfl, rfl, rfl, rfl⟩ := mjNwA_spec (pc0 := 0) h
    have hn := mjLay_lt h2 ht3
    have hsz : mjSz n = x.toInt.toNat := by
      rw [mjSz, h2, if_neg (by show ¬ t < 13; omega)]
    rw [hsz] at hslots kk
    refine mj_newa (M' := mjZr M n) hx hb hts hw ht ht2 hK hR.1 hS h1 h3 h2 mjZr_ne (hcell _) hcells hslots hdg (fun H1 hR1 hS1 => ?_)
    rw [← hlo n (by omega)]
    exact kk H1 ls (hR.zr hn hR1) hS1 hLR
  have hrefs : ∀ {ix t t0 : Nat} {C : String} (hw : Cond.classLink (mjCn (mjCls k)) ix C ∈ mjW) (hover : va_AO C s) (ht : (mjTys kA)[t0]? = some (kA t, .object C)) (ht2 : t = 16 ∨ t = 17), decode (mjB k) pc = .ok (.anewarray ix, 3) → mjNwA pc n t 3 L st M = some (pc1, L1, st1, M1) → W p l e R s m args below meth c H locs cells slots Q (F0 m pc ls (st.map (mjRn lo))) := by
    intro ix t t0 C hw hover ht ht2 hdg h
    obtain ⟨x, r, rfl, h1, h2, h3, rfl, rfl, rfl, rfl⟩ := mjNwA_spec (pc0 := 0) h
    have hn := mjLay_lt h2 (by omega)
    have hsz : mjSz n = x.toInt.toNat := by
      rw [mjSz, h2, if_neg (by show ¬ t < 13; omega)]
    rw [hsz] at hslots kk
    refine mj_anew (M' := mjZr M n) hx hb hts hown hw hover ht ht2 hK hR.1 hS h1 h3 h2 mjZr_ne (by intro q; simp [mjZr]) hcells hslots hdg (fun H1 hR1 hS1 => ?_)
    rw [← hlo n (by omega)]
    exact kk H1 ls (hR.zr hn hR1) hS1 hLR
  unfold mjNew at h
  split at h
  · rename_i ix
    split at h
    · rename_i ci hci
      split at h
      · rename_i hl
        cases h
        obtain rfl : len = 3 := by simpa [mjLn] using hln
        obtain ⟨w1, w2, w3, hc⟩ := mjNwF_spec (mjCls_lt k) hci
        have hn := mjLay_lt hl (by omega)
        have hsz : mjSz n = mjNf ci := by
          rw [mjSz, hl, if_pos hc]
        rw [hsz] at hslots kk
        refine mj_new (M' := mjZr M n) hx hb hts hown hK hR.1 hS hc w1 w2 w3 hl mjZr_ne (fun q hq => ?_) hcells hslots hdg (fun H1 hR1 hS1 => ?_)
        · rcases mjT_at hc hq with ⟨h1, h2⟩ | ⟨h1, h2⟩ | ⟨h1, h2⟩ | ⟨h1, h2⟩
          · simp [mjFv, h1, h2, mjZr, defaultValue]
          · simp [mjFv, h1, h2, mjZr, defaultValue]
          · rcases h2 with ⟨z, h2⟩ | ⟨z, h2⟩ <;> simp [mjFv, h1, h2, mjZr, defaultValue, va_rf]
          · simp [mjFv, h1, h2, mjZr, defaultValue]
        · rw [← hlo n (by omega)]
          exact kk H1 ls (hR.zr hn hR1) hS1 hLR
      · cases h
    · cases h
  · obtain rfl : len = 2 := by simpa [mjLn] using hln
    exact harr (atype := .int) (t0 := 0) mjAcI rfl (by decide) (by decide) (fun z => by rw [show mjAr lo (mjZr M n) n 13 = .inl ((mjZr M n).1 n) from rfl, vp_cell_i]; congr 1; funext q; simp [mjZr, newarray.typeOf, defaultValue]) hdg h
  · obtain rfl : len = 2 := by simpa [mjLn] using hln
    exact harr (atype := .long) (t0 := 1) mjAcL rfl (by decide) (by decide) (fun z => by rw [show mjAr lo (mjZr M n) n 14 = .inr (.inl ((mjZr M n).2.1 n)) from rfl, vp_cell_l]; congr 1; funext q; simp [mjZr, newarray.typeOf, defaultValue]) hdg h
  · obtain rfl : len = 2 := by simpa [mjLn] using hln
    exact harr (atype := .boolean) (t0 := 2) mjAcZ rfl (by decide) (by decide) (fun z => by rw [show mjAr lo (mjZr M n) n 15 = .inl ((mjZr M n).1 n) from rfl, vp_cell_i]; congr 1; funext q; simp [mjZr, newarray.typeOf, defaultValue]) hdg h
  · rename_i ix
    obtain rfl : len = 3 := by simpa [mjLn] using hln
    split at h
    · rename_i hci
      obtain ⟨w1, -, -, -⟩ := mjNwF_spec (mjCls_lt k) hci
      exact hrefs (t0 := 3) (C := "BatonZones$Team") w1 hao.1 rfl (Or.inl rfl) hdg h
    · rename_i hci
      obtain ⟨w1, -, -, -⟩ := mjNwF_spec (mjCls_lt k) hci
      exact hrefs (t0 := 4) (C := "BatonZones$Act") w1 hao.2 rfl (Or.inr rfl) hdg h
    · cases h
  · cases h
theorem mj_ret {Qc : Array Value → State → Outcome → State → Prop} {free : Addr → Prop} {r : Option Value} (hx : p.tables.exec = Jvm.exec) (hb : c.code = mjB k) (hr : meth.sig.returnType = mjRt k) (hlocks : meth.locks = false) (h : mjRet k i st = some r) (hln : mjLn i len = true) (hdg : decode (mjB k) pc = .ok (i, len))
    (hq : ∀ t : State, t.heap = H → s.WarmedH t.vm → Qc args s (.returned (r.map (mjRn lo))) t) (hf : ∀ q ∈ locs, free q.base) : W p l e R s m args below meth c H locs cells slots (MQ below Qc args s cells slots free) (F0 m pc ls (st.map (mjRn lo))) := by
  unfold mjRet at h
  split at h
  · split at h
    · rename_i h1
      cases h
      obtain rfl : len = 1 := by simpa [mjLn] using hln
      exact W.vret hx hb (hr.trans h1) hq hf hdg hlocks
    · cases h
  · split at h
    · rename_i h1
      cases h
      obtain rfl : len = 1 := by simpa [mjLn] using hln
      exact W.iret hx hb (hr.trans h1) hq hf hdg hlocks
    · rename_i x h1
      split at h
      · rename_i h2
        cases h
        obtain rfl : len = 1 := by simpa [mjLn] using hln
        exact W.zret hx hb (hr.trans h1) (by rcases h2 with rfl | rfl <;> rfl) hq hf hdg hlocks
      · cases h
    · rename_i x h1
      split at h
      · rename_i h2
        cases h
        obtain rfl : len = 1 := by simpa [mjLn] using hln
        exact W.zret hx hb (hr.trans h1) (congrArg Value.int h2) hq hf hdg hlocks
      · cases h
    · rename_i x h1
      split at h
      · rename_i h2
        cases h
        obtain rfl : len = 1 := by simpa [mjLn] using hln
        exact W.zret hx hb (hr.trans h1) (congrArg Value.int h2) hq hf hdg hlocks
      · cases h
    · cases h
  · split at h
    · rename_i h1
      cases h
      obtain rfl : len = 1 := by simpa [mjLn] using hln
      exact W.lret hx hb (hr.trans h1) hq hf hdg hlocks
    · cases h
  · split at h
    · rename_i h1
      cases h
      obtain rfl : len = 1 := by simpa [mjLn] using hln
      exact W.aret hx hb (hr.trans h1) (Or.inl ⟨_, rfl⟩) (Or.inr ⟨_, rfl⟩) hq hf hdg hlocks
    · cases h
  · cases h
end MJ5
