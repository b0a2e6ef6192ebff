section MJ4
variable {p : Program} {l : Launch} {e : Env} {R : Room} {s : State} {m : MethodId} {args : Array Value} {below : List Frame} {meth : Method} {c : Code} {H : Heap} {locs : List Loc} {cells slots : Nat} {Q : State → Prop}
variable {ls : Array Slot} {D : va_G} {kA : Nat → ClassId} {lo : Nat → Nat} {base : Nat} {sc : Nat × (Nat → Int32)} {H0 : Heap} {k n len pc pc1 nL : Nat} {i : Instr} {L L1 : mjLs} {st st1 : List Value} {M M1 : mjMem}
theorem mjSid_spec {a : Nat} (h : mjSid a = true) : ∃ i, i < 10 ∧ a = 1000000 + i := ⟨a - 1000000, by simp [mjSid] at h; omega, by simp [mjSid] at h; omega⟩
theorem mjSbd_spec {a : Nat} (h : mjSbd a = true) : ∃ i, i < 10 ∧ a = 1100000 + i := ⟨a - 1100000, by simp [mjSbd] at h; omega, by simp [mjSbd] at h; omega⟩
theorem mjSvW : Cond.fieldLink (mjCn 18) 9 "java/lang/String" "value" "[B" ∈ mjW := mjOk_in (i := 9239) (by decide +kernel)
theorem mjScW : Cond.fieldLink (mjCn 18) 15 "java/lang/String" "coder" "B" ∈ mjW := mjOk_in (i := 9238) (by decide +kernel)
theorem mjCpW : Cond.fieldLink (mjCn 18) 38 "java/lang/String" "COMPACT_STRINGS" "Z" ∈ mjW := mjOk_in (i := 3062) (by decide +kernel)
theorem mjSiW : Cond.fieldLink (mjCn 18) 1053 "jdk/internal/util/Preconditions" "SIOOBE_FORMATTER" "Ljava/util/function/BiFunction;" ∈ mjW := mjOk_in (i := 3103) (by decide +kernel)
theorem mjLt7 {a n : Nat} (h : a < n) (h2 : n ≤ 1000) : a < 1000000 := by omega
set_option maxHeartbeats 4000000 in
theorem mj_step (hC : mjCx p s m args meth c D kA lo base sc s.heap k) (h : mjStp k i pc n L st M = some (pc1, L1, st1, M1)) (hln : mjLn i len = true) (hdg : decode (mjB k) pc = .ok (i, len)) (hLR : mjLR lo ls nL L) (hR : mjRp D kA lo base sc n M H) (hS : va_S (fun q => base ≤ q) s.heap H locs)
    (kk : ∀ (H1 : Heap) (locs1 : List Loc) (ls1 : Array Slot), mjRp D kA lo base sc n M1 H1 → va_S (fun q => base ≤ q) s.heap H1 locs1 → mjLR lo ls1 nL L1 → W p l e R s m args below meth c H1 locs1 cells slots Q (F0 m pc1 ls1 (st1.map (mjRn lo)))) :
    W p l e R s m args below meth c H locs cells slots Q (F0 m pc ls (st.map (mjRn lo))) := by
  obtain ⟨hx, hb, hts, hown, hK, hinit, hlo, hcs, hao, hscr, hstr⟩ := hC
  cases i with
  | aload j =>
    obtain ⟨x, hv, rfl, rfl, rfl, rfl⟩ := mjLoadA_spec (show mjLoadA L j (pc + 2) st M = _ from h)
    obtain rfl : len = 2 := by simpa [mjLn] using hln
    exact lv_aload hx hb hdg (hLR.ld hv) (kk _ _ _ hR hS hLR)
  | aload_n j =>
    obtain ⟨x, hv, rfl, rfl, rfl, rfl⟩ := mjLoadA_spec (show mjLoadA L j (pc + 1) st M = _ from h)
    obtain rfl : len = 1 := by simpa [mjLn] using hln
    exact lv_aload_n hx hb hdg rfl (hLR.ld hv) (kk _ _ _ hR hS hLR)
  | iload j =>
    obtain ⟨x, hv, rfl, rfl, rfl, rfl⟩ := mjLoadI_spec (show mjLoadI L j (pc + 2) st M = _ from h)
    obtain rfl : len = 2 := by simpa [mjLn] using hln
    exact lv_iload hx hb hdg (hLR.ld hv) (kk _ _ _ hR hS hLR)
  | iload_n j =>
    obtain ⟨x, hv, rfl, rfl, rfl, rfl⟩ := mjLoadI_spec (show mjLoadI L j (pc + 1) st M = _ from h)
    obtain rfl : len = 1 := by simpa [mjLn] using hln
    exact lv_iload_n hx hb hdg rfl (hLR.ld hv) (kk _ _ _ hR hS hLR)
  | lload j =>
    obtain ⟨x, hv, rfl, rfl, rfl, rfl⟩ := mjLoadL_spec (show mjLoadL L j (pc + 2) st M = _ from h)
    obtain rfl : len = 2 := by simpa [mjLn] using hln
    exact lv_lload hx hb hdg (hLR.ld hv) (kk _ _ _ hR hS hLR)
  | lload_n j =>
    obtain ⟨x, hv, rfl, rfl, rfl, rfl⟩ := mjLoadL_spec (show mjLoadL L j (pc + 1) st M = _ from h)
    obtain rfl : len = 1 := by simpa [mjLn] using hln
    exact lv_lload_n hx hb hdg rfl (hLR.ld hv) (kk _ _ _ hR hS hLR)
  | astore j =>
    obtain ⟨x, r, rfl, hj, rfl, rfl, rfl, rfl⟩ := mjStoA_spec (show mjStoA L j (pc + 2) st M = _ from h)
    obtain rfl : len = 2 := by simpa [mjLn] using hln
    exact mj_sto1 hLR hj (fun h1 lv' h2 h3 => lv_astore hx hb hdg hLR.has h1 h2 h3) (fun ls' h4 => kk _ _ _ hR hS h4)
  | astore_n j =>
    obtain ⟨x, r, rfl, hj, rfl, rfl, rfl, rfl⟩ := mjStoA_spec (show mjStoA L j (pc + 1) st M = _ from h)
    obtain rfl : len = 1 := by simpa [mjLn] using hln
    exact mj_sto1 hLR hj (fun h1 lv' h2 h3 => lv_astore_n hx hb hdg rfl hLR.has h1 h2 h3) (fun ls' h4 => kk _ _ _ hR hS h4)
  | istore j =>
    obtain ⟨x, r, rfl, hj, rfl, rfl, rfl, rfl⟩ := mjStoI_spec (show mjStoI L j (pc + 2) st M = _ from h)
    obtain rfl : len = 2 := by simpa [mjLn] using hln
    exact mj_sto1 hLR hj (fun h1 lv' h2 h3 => lv_istore hx hb hdg hLR.has h1 h2 h3) (fun ls' h4 => kk _ _ _ hR hS h4)
  | istore_n j =>
    obtain ⟨x, r, rfl, hj, rfl, rfl, rfl, rfl⟩ := mjStoI_spec (show mjStoI L j (pc + 1) st M = _ from h)
    obtain rfl : len = 1 := by simpa [mjLn] using hln
    exact mj_sto1 hLR hj (fun h1 lv' h2 h3 => lv_istore_n hx hb hdg rfl hLR.has h1 h2 h3) (fun ls' h4 => kk _ _ _ hR hS h4)
  | lstore j =>
    obtain ⟨x, r, rfl, hj, rfl, rfl, rfl, rfl⟩ := mjStoL_spec (show mjStoL L j (pc + 2) st M = _ from h)
    obtain rfl : len = 2 := by simpa [mjLn] using hln
    exact mj_sto2 hLR hj (fun h1 lv' h2 h3 => lv_lstore hx hb hdg hLR.has h1 h2 h3) (fun ls' h4 => kk _ _ _ hR hS h4)
  | lstore_n j =>
    obtain ⟨x, r, rfl, hj, rfl, rfl, rfl, rfl⟩ := mjStoL_spec (show mjStoL L j (pc + 1) st M = _ from h)
    obtain rfl : len = 1 := by simpa [mjLn] using hln
    exact mj_sto2 hLR hj (fun h1 lv' h2 h3 => lv_lstore_n hx hb hdg rfl hLR.has h1 h2 h3) (fun ls' h4 => kk _ _ _ hR hS h4)
  | iconst v =>
    cases h
    obtain rfl : len = 1 := by simpa [mjLn] using hln
    exact lv_iconst hx hb hdg rfl (kk _ _ _ hR hS hLR)
  | bipush v =>
    cases h
    obtain rfl : len = 2 := by simpa [mjLn] using hln
    exact lv_bipush hx hb hdg rfl (kk _ _ _ hR hS hLR)
  | sipush v =>
    cases h
    obtain rfl : len = 3 := by simpa [mjLn] using hln
    exact lv_sipush hx hb hdg rfl (kk _ _ _ hR hS hLR)
  | lconst v =>
    cases h
    obtain rfl : len = 1 := by simpa [mjLn] using hln
    exact lv_lconst hx hb hdg rfl (kk _ _ _ hR hS hLR)
  | iadd =>
    obtain ⟨x, y, r, rfl, rfl, rfl, rfl, rfl⟩ := mjII_spec (show mjII _ (pc + 1) L st M = _ from h)
    obtain rfl : len = 1 := by simpa [mjLn] using hln
    exact lv_iadd hx hb hdg (kk _ _ _ hR hS hLR)
  | isub =>
    obtain ⟨x, y, r, rfl, rfl, rfl, rfl, rfl⟩ := mjII_spec (show mjII _ (pc + 1) L st M = _ from h)
    obtain rfl : len = 1 := by simpa [mjLn] using hln
    exact lv_isub hx hb hdg (kk _ _ _ hR hS hLR)
  | imul =>
    obtain ⟨x, y, r, rfl, rfl, rfl, rfl, rfl⟩ := mjII_spec (show mjII _ (pc + 1) L st M = _ from h)
    obtain rfl : len = 1 := by simpa [mjLn] using hln
    exact lv_imul hx hb hdg (kk _ _ _ hR hS hLR)
  | iand =>
    obtain ⟨x, y, r, rfl, rfl, rfl, rfl, rfl⟩ := mjII_spec (show mjII _ (pc + 1) L st M = _ from h)
    obtain rfl : len = 1 := by simpa [mjLn] using hln
    exact lv_iand hx hb hdg (kk _ _ _ hR hS hLR)
  | ior =>
    obtain ⟨x, y, r, rfl, rfl, rfl, rfl, rfl⟩ := mjII_spec (show mjII _ (pc + 1) L st M = _ from h)
    obtain rfl : len = 1 := by simpa [mjLn] using hln
    exact lv_ior hx hb hdg (kk _ _ _ hR hS hLR)
  | ixor =>
    obtain ⟨x, y, r, rfl, rfl, rfl, rfl, rfl⟩ := mjII_spec (show mjII _ (pc + 1) L st M = _ from h)
    obtain rfl : len = 1 := by simpa [mjLn] using hln
    exact lv_ixor hx hb hdg (kk _ _ _ hR hS hLR)
  | ishl =>
    obtain ⟨x, y, r, rfl, rfl, rfl, rfl, rfl⟩ := mjII_spec (show mjII _ (pc + 1) L st M = _ from h)
    obtain rfl : len = 1 := by simpa [mjLn] using hln
    exact lv_ishl hx hb hdg (kk _ _ _ hR hS hLR)
  | ishr =>
    obtain ⟨x, y, r, rfl, rfl, rfl, rfl, rfl⟩ := mjII_spec (show mjII _ (pc + 1) L st M = _ from h)
    obtain rfl : len = 1 := by simpa [mjLn] using hln
    exact lv_ishr hx hb hdg (kk _ _ _ hR hS hLR)
  | iushr =>
    obtain ⟨x, y, r, rfl, rfl, rfl, rfl, rfl⟩ := mjII_spec (show mjII _ (pc + 1) L st M = _ from h)
    obtain rfl : len = 1 := by simpa [mjLn] using hln
    exact lv_iushr hx hb hdg rfl (kk _ _ _ hR hS hLR)
  | ladd =>
    obtain ⟨x, y, r, rfl, rfl, rfl, rfl, rfl⟩ := mjLL_spec (show mjLL _ (pc + 1) L st M = _ from h)
    obtain rfl : len = 1 := by simpa [mjLn] using hln
    exact lv_ladd hx hb hdg (kk _ _ _ hR hS hLR)
  | lsub =>
    obtain ⟨x, y, r, rfl, rfl, rfl, rfl, rfl⟩ := mjLL_spec (show mjLL _ (pc + 1) L st M = _ from h)
    obtain rfl : len = 1 := by simpa [mjLn] using hln
    exact lv_lsub hx hb hdg (kk _ _ _ hR hS hLR)
  | lmul =>
    obtain ⟨x, y, r, rfl, rfl, rfl, rfl, rfl⟩ := mjLL_spec (show mjLL _ (pc + 1) L st M = _ from h)
    obtain rfl : len = 1 := by simpa [mjLn] using hln
    exact lv_lmul hx hb hdg (kk _ _ _ hR hS hLR)
  | land =>
    obtain ⟨x, y, r, rfl, rfl, rfl, rfl, rfl⟩ := mjLL_spec (show mjLL _ (pc + 1) L st M = _ from h)
    obtain rfl : len = 1 := by simpa [mjLn] using hln
    exact lv_land hx hb hdg (kk _ _ _ hR hS hLR)
  | lor =>
    obtain ⟨x, y, r, rfl, rfl, rfl, rfl, rfl⟩ := mjLL_spec (show mjLL _ (pc + 1) L st M = _ from h)
    obtain rfl : len = 1 := by simpa [mjLn] using hln
    exact lv_lor hx hb hdg (kk _ _ _ hR hS hLR)
  | lxor =>
    obtain ⟨x, y, r, rfl, rfl, rfl, rfl, rfl⟩ := mjLL_spec (show mjLL _ (pc + 1) L st M = _ from h)
    obtain rfl : len = 1 := by simpa [mjLn] using hln
    exact lv_lxor hx hb hdg (kk _ _ _ hR hS hLR)
  | lcmp =>
    obtain ⟨x, y, r, rfl, rfl, rfl, rfl, rfl⟩ := mjLL_spec (show mjLL _ (pc + 1) L st M = _ from h)
    obtain rfl : len = 1 := by simpa [mjLn] using hln
    exact W.lcmp hx hb hdg (kk _ _ _ hR hS hLR)
  | lshl =>
    obtain ⟨x, y, r, rfl, rfl, rfl, rfl, rfl⟩ := mjLI_spec (show mjLI _ (pc + 1) L st M = _ from h)
    obtain rfl : len = 1 := by simpa [mjLn] using hln
    exact lv_lshl hx hb hdg rfl (kk _ _ _ hR hS hLR)
  | lshr =>
    obtain ⟨x, y, r, rfl, rfl, rfl, rfl, rfl⟩ := mjLI_spec (show mjLI _ (pc + 1) L st M = _ from h)
    obtain rfl : len = 1 := by simpa [mjLn] using hln
    exact lv_lshr hx hb hdg rfl (kk _ _ _ hR hS hLR)
  | lushr =>
    obtain ⟨x, y, r, rfl, rfl, rfl, rfl, rfl⟩ := mjLI_spec (show mjLI _ (pc + 1) L st M = _ from h)
    obtain rfl : len = 1 := by simpa [mjLn] using hln
    exact lv_lushr hx hb hdg rfl (kk _ _ _ hR hS hLR)
  | ineg =>
    obtain ⟨x, r, rfl, rfl, rfl, rfl, rfl⟩ := mjI1_spec (show mjI1 _ (pc + 1) L st M = _ from h)
    obtain rfl : len = 1 := by simpa [mjLn] using hln
    exact lv_ineg hx hb hdg (kk _ _ _ hR hS hLR)
  | i2l =>
    obtain ⟨x, r, rfl, rfl, rfl, rfl, rfl⟩ := mjI1_spec (show mjI1 _ (pc + 1) L st M = _ from h)
    obtain rfl : len = 1 := by simpa [mjLn] using hln
    exact lv_i2l hx hb hdg rfl (kk _ _ _ hR hS hLR)
  | i2c =>
    obtain ⟨x, r, rfl, rfl, rfl, rfl, rfl⟩ := mjI1_spec (show mjI1 _ (pc + 1) L st M = _ from h)
    obtain rfl : len = 1 := by simpa [mjLn] using hln
    exact lv_i2c hx hb hdg rfl (kk _ _ _ hR hS hLR)
  | i2b =>
    obtain ⟨x, r, rfl, rfl, rfl, rfl, rfl⟩ := mjI1_spec (show mjI1 _ (pc + 1) L st M = _ from h)
    obtain rfl : len = 1 := by simpa [mjLn] using hln
    exact lv_i2b hx hb hdg rfl (kk _ _ _ hR hS hLR)
  | idiv =>
    unfold mjStp at h
    dsimp only at h
    split at h
    · split at h
      · cases h
      · cases h
        obtain rfl : len = 1 := by simpa [mjLn] using hln
        exact lv_idiv hx hb hdg (by assumption) (kk _ _ _ hR hS hLR)
    · cases h
  | l2i =>
    unfold mjStp at h
    dsimp only at h
    split at h
    · cases h
      obtain rfl : len = 1 := by simpa [mjLn] using hln
      exact lv_l2i hx hb hdg rfl (kk _ _ _ hR hS hLR)
    · cases h
  | ifCond cc off =>
    replace h : mjIf cc off pc L st M = _ := h
    unfold mjIf at h
    split at h
    · rename_i x r
      obtain ⟨t, ht, rfl, rfl, rfl, rfl⟩ := mjBr_spec h
      obtain rfl : len = 3 := by simpa [mjLn] using hln
      have kt : ∀ (b : Bool), b = mjCmp cc x 0 → W p l e R s m args below meth c H locs cells slots Q (F0 m (if b = true then t else pc + 3) ls (r.map (mjRn lo))) := fun b hb => by subst hb; exact kk _ _ _ hR hS hLR
      cases cc with
      | eq => exact lv_if_eq hx hb hdg ht (fun q => kt true (by simp [mjCmp, q])) (fun q => kt false (by simp [mjCmp, q]))
      | ne => exact lv_if_ne hx hb hdg ht (fun q => kt true (by simp [mjCmp, q])) (fun q => kt false (by simp [mjCmp, q]))
      | lt => exact lv_if_lt hx hb hdg ht (fun q => kt true (by simp [mjCmp, q])) (fun q => kt false (by simp [mjCmp, q]))
      | ge => exact lv_if_ge hx hb hdg ht (fun q => kt true (by simp [mjCmp, q])) (fun q => kt false (by simp [mjCmp, q]))
      | gt => exact lv_if_gt hx hb hdg ht (fun q => kt true (by simp [mjCmp, q])) (fun q => kt false (by simp [mjCmp, q]))
      | le => exact lv_if_le hx hb hdg ht (fun q => kt true (by simp [mjCmp, q])) (fun q => kt false (by simp [mjCmp, q]))
    · cases h
  | if_icmp cc off =>
    replace h : mjIcmp cc off pc L st M = _ := h
    unfold mjIcmp at h
    split at h
    · rename_i y x r
      obtain ⟨t, ht, rfl, rfl, rfl, rfl⟩ := mjBr_spec h
      obtain rfl : len = 3 := by simpa [mjLn] using hln
      have kt : ∀ (b : Bool), b = mjCmp cc x y → W p l e R s m args below meth c H locs cells slots Q (F0 m (if b = true then t else pc + 3) ls (r.map (mjRn lo))) := fun b hb => by subst hb; exact kk _ _ _ hR hS hLR
      cases cc with
      | eq => exact lv_icmp_eq hx hb hdg ht (fun q => kt true (by simp [mjCmp, q])) (fun q => kt false (by simp [mjCmp, q]))
      | ne => exact lv_icmp_ne hx hb hdg ht (fun q => kt true (by simp [mjCmp, q])) (fun q => kt false (by simp [mjCmp, q]))
      | lt => exact lv_icmp_lt hx hb hdg ht (fun q => kt true (by simp [mjCmp, q])) (fun q => kt false (by simp [mjCmp, q]))
      | ge => exact lv_icmp_ge hx hb hdg ht (fun q => kt true (by simp [mjCmp, q])) (fun q => kt false (by simp [mjCmp, q]))
      | gt => exact lv_icmp_gt hx hb hdg ht (fun q => kt true (by simp [mjCmp, q])) (fun q => kt false (by simp [mjCmp, q]))
      | le => exact lv_icmp_le hx hb hdg ht (fun q => kt true (by simp [mjCmp, q])) (fun q => kt false (by simp [mjCmp, q]))
    · cases h
  | goto off =>
    unfold mjStp at h
    dsimp only at h
    split at h
    · cases h
      obtain rfl : len = 3 := by simpa [mjLn] using hln
      exact lv_goto hx hb hdg (mjJ_spec (by assumption)) (kk _ _ _ hR hS hLR)
    · cases h
  | tableswitch d lo9 hi9 offs =>
    replace h : mjTsw d lo9 hi9 offs pc L st M = _ := h
    unfold mjTsw at h
    split at h
    · split at h
      · split at h
        · cases h
          exact lv_tableOut hx hb hdg (by assumption) (mjJ_spec (by assumption)) (kk _ _ _ hR hS hLR)
        · cases h
      · rename_i hno
        split at h
        · split at h
          · cases h
            exact lv_tableIn hx hb hdg (fun q => hno (Or.inl q)) (fun q => hno (Or.inr q)) (by assumption) (mjJ_spec (by assumption)) (kk _ _ _ hR hS hLR)
          · cases h
        · cases h
    · cases h
  | lookupswitch d ps =>
    replace h : mjLsw d ps pc L st M = _ := h
    unfold mjLsw at h
    split at h
    · split at h
      · split at h
        · cases h
          exact lv_lookup hx hb hdg (by assumption) rfl (mjJ_spec (by assumption)) (kk _ _ _ hR hS hLR)
        · cases h
      · cases h
    · cases h
  | iinc j cst =>
    replace h : mjIinc j cst pc L st M = _ := h
    unfold mjIinc at h
    split at h
    · rename_i x hv
      cases h
      obtain rfl : len = 3 := by simpa [mjLn] using hln
      have hj := mjLd_lt hv
      have hm : (j, Value.int x) ∈ mjPl lo L := mjPl_mem.mpr ⟨.int x, by simpa [mjLd, List.getD_eq_getElem?_getD, hj] using hv, rfl⟩
      obtain ⟨q, hq⟩ := List.getElem?_of_mem hm
      exact lv_iinc hx hb hdg hLR.has hq rfl (by rw [← hLR.1]; exact hj) rfl (fun ls' h' => kk _ _ _ hR hS (hLR.sto1 h'))
    · cases h
  | dup =>
    replace h : mjDup pc L st M = _ := h
    unfold mjDup at h
    split at h
    · split at h
      · cases h
        obtain rfl : len = 1 := by simpa [mjLn] using hln
        exact lv_dup hx hb hdg (mjOne_cat (by assumption)) (kk _ _ _ hR hS hLR)
      · cases h
    · cases h
  | pop =>
    replace h : mjPop pc L st M = _ := h
    unfold mjPop at h
    split at h
    · split at h
      · cases h
        obtain rfl : len = 1 := by simpa [mjLn] using hln
        exact lv_pop hx hb hdg (mjOne_cat (lo := lo) (by assumption)) (kk _ _ _ hR hS hLR)
      · cases h
    · cases h
  | dup2 =>
    replace h : mjDup2 pc L st M = _ := h
    unfold mjDup2 at h
    split at h
    · cases h
      obtain rfl : len = 1 := by simpa [mjLn] using hln
      exact lv_dup2_2 hx hb hdg rfl (kk _ _ _ hR hS hLR)
    · split at h
      · rename_i hc
        cases h
        obtain rfl : len = 1 := by simpa [mjLn] using hln
        exact lv_dup2_11 hx hb hdg (mjOne_cat hc.1) (mjOne_cat hc.2) (kk _ _ _ hR hS hLR)
      · cases h
    · cases h
  | ldc ix =>
    replace h : mjLdc (mjCls k) ix pc L st M = _ := h
    unfold mjLdc at h
    split at h
    · rename_i x hv
      cases h
      obtain rfl : len = 2 := by simpa [mjLn] using hln
      rcases mjCs_spec (mjCls_lt k) hv with ⟨y, e9, hw⟩ | ⟨y, e9, hw⟩ | ⟨y, e9⟩
      · cases e9
        exact lv_ldc hx hb hown (hts _ hw) hdg (kk _ _ _ hR hS hLR)
      · cases e9
      · cases e9
    · rename_i x hv
      cases h
      obtain rfl : len = 2 := by simpa [mjLn] using hln
      obtain ⟨tx, hr⟩ := hcs ix x hv
      exact va_ldcS hx hb hown hr hdg (kk _ _ _ hR hS hLR)
    · cases h
  | ldc_w ix =>
    replace h : mjLdcw (mjCls k) ix pc L st M = _ := h
    unfold mjLdcw at h
    split at h
    · rename_i x hv
      cases h
      obtain rfl : len = 3 := by simpa [mjLn] using hln
      rcases mjCs_spec (mjCls_lt k) hv with ⟨y, e9, hw⟩ | ⟨y, e9, hw⟩ | ⟨y, e9⟩
      · cases e9
        exact lv_ldcw hx hb hown (hts _ hw) hdg (kk _ _ _ hR hS hLR)
      · cases e9
      · cases e9
    · cases h
  | ldc2_w ix =>
    replace h : mjLdc2 (mjCls k) ix pc L st M = _ := h
    unfold mjLdc2 at h
    split at h
    · rename_i x hv
      cases h
      obtain rfl : len = 3 := by simpa [mjLn] using hln
      rcases mjCs_spec (mjCls_lt k) hv with ⟨y, e9, hw⟩ | ⟨y, e9, hw⟩ | ⟨y, e9⟩
      · cases e9
      · cases e9
        exact lv_ldc2 hx hb hown (hts _ hw) hdg (kk _ _ _ hR hS hLR)
      · cases e9
    · cases h
  | getfield ix =>
    replace h : mjGet (mjCls k) ix pc n L st M = _ := h
    unfold mjGet at h
    split at h
    · unfold mjGetX at h
      split at h
      · rename_i h18
        split at h
        · rename_i a r
          split at h
          · rename_i ha
            obtain ⟨i9, hi9, rfl⟩ := mjSid_spec ha
            have hz := (hstr.1 i9 hi9).1 0 (by decide)
            rw [h18] at hown
            split at h
            · rename_i h9
              subst h9
              cases h
              obtain rfl : len = 3 := by simpa [mjLn] using hln
              refine vk_getf hx hb hz.2.2.1 hS hown (hts _ mjSvW) (fun _ h => h) hdg ?_
              have k9 := kk _ _ _ hR hS hLR
              rw [show 1000000 + i9 + 100000 = 1100000 + i9 by omega] at k9
              exact k9
            · split at h
              · rename_i h9
                subst h9
                cases h
                obtain rfl : len = 3 := by simpa [mjLn] using hln
                exact vk_getf hx hb hz.2.1 hS hown (hts _ mjScW) (fun _ h => h) hdg (kk _ _ _ hR hS hLR)
              · cases h
          · cases h
        · cases h
      · cases h
    · rename_i ci f hf
      split at h
      · rename_i a r
        split at h
        · rename_i ha
          cases h
          obtain rfl : len = 3 := by simpa [mjLn] using hln
          have ea : lo a = base + a := hlo a (mjLt7 (mjIs_spec ha).1 hR.2.1)
          show W p l e R s m args below meth c H locs cells slots Q (F0 m pc ls (.ref (lo a) :: r.map (mjRn lo)))
          rw [ea]
          refine mj_get hx hb hts hown hK hR.1 hf ha hdg ?_
          have e2 : mjFv lo M a ci f = mjRn lo (match mjFk ci f with | 1 => Value.long (M.2.1 a f) | 2 => va_rf (M.2.2 a f) | _ => Value.int (M.1 a f)) := by
            unfold mjFv
            by_cases h1 : mjFk ci f = 1
            · rw [if_pos h1, h1]; rfl
            · rw [if_neg h1]
              by_cases h2 : mjFk ci f = 2
              · rw [if_pos h2, h2]; cases M.2.2 a f <;> rfl
              · rw [if_neg h2]
                split
                · exact absurd (by assumption) h1
                · exact absurd (by assumption) h2
                · rfl
          rw [e2]
          exact kk _ _ _ hR hS hLR
        · cases h
      · cases h
  | putfield ix =>
    replace h : mjPut k (mjCls k) ix pc n L st M = _ := h
    unfold mjPut at h
    split at h
    · cases h
    · rename_i ci f hf
      obtain ⟨-, hc1, hc2⟩ := mjFld_spec hf
      split at h
      · cases h
      · rename_i hfin
        have hfin : (mjTx ci f).2.2.2 = false ∨ (meth.name = "<init>" ∧ ci = mjCls k) := by
          by_cases h1 : (mjTx ci f).2.2.2 = true
          · by_cases h2 : mjKd k = 2 ∧ ci = mjCls k
            · exact Or.inr ⟨hinit h2.1, h2.2⟩
            · exact absurd ⟨h1, h2⟩ hfin
          · exact Or.inl (by simpa using h1)
        have hT := mjT_at hc1 hc2
        split at h
        · rename_i x a r
          split at h
          · rename_i ha
            obtain ⟨ha, hx2⟩ := ha
            cases h
            obtain rfl : len = 3 := by simpa [mjLn] using hln
            have han := (mjIs_spec ha).1
            have ea : lo a = base + a := hlo a (mjLt7 han hR.2.1)
            show W p l e R s m args below meth c H locs cells slots Q (F0 m pc ls (.int x :: .ref (lo a) :: st1.map (mjRn lo)))
            rw [ea]
            have hkd : (mjFk ci f = 0 ∧ mjTy ci f = .int) ∨ (mjFk ci f = 3 ∧ mjTy ci f = .boolean ∧ (x = 0 ∨ x = 1)) := by
              unfold mjPutI at hx2
              split at hx2
              · rename_i h3
                rcases hT with h | h | h | h
                · omega
                · omega
                · omega
                · exact Or.inr ⟨h3, h.2, by simpa using hx2⟩
              · have h0 : mjFk ci f = 0 := by simpa using hx2
                rcases hT with h | h | h | h
                · exact Or.inl h
                · omega
                · omega
                · omega
            refine mj_put (v := .int x) (M' := mjSi M a f x) hx hb hts hown hK hR.1 hS hf ha hfin ?_ ?_ mjSi_ne ?_ hdg (fun H1 locs1 hR1 hS1 => kk _ _ _ (hR.si han hR1) hS1 hLR)
            · rcases hkd with ⟨-, h⟩ | ⟨-, h, rfl | rfl⟩ <;> rw [h] <;> rfl
            · rcases hkd with ⟨-, h⟩ | ⟨-, h, rfl | rfl⟩ <;> rw [h] <;> rfl
            · intro j hj
              by_cases hjf : j = f
              · subst hjf
                have h1 : ¬ mjFk ci j = 1 := by rcases hkd with ⟨h, -⟩ | ⟨h, -, -⟩ <;> omega
                have h2 : ¬ mjFk ci j = 2 := by rcases hkd with ⟨h, -⟩ | ⟨h, -, -⟩ <;> omega
                simp [mjFv, h1, h2, mjSi]
              · simp [mjFv, hjf, mjSi]
          · cases h
        · rename_i x a r
          split at h
          · rename_i ha
            obtain ⟨ha, hx2⟩ := ha
            cases h
            obtain rfl : len = 3 := by simpa [mjLn] using hln
            have han := (mjIs_spec ha).1
            have ea : lo a = base + a := hlo a (mjLt7 han hR.2.1)
            show W p l e R s m args below meth c H locs cells slots Q (F0 m pc ls (.long x :: .ref (lo a) :: st1.map (mjRn lo)))
            rw [ea]
            have hty : mjTy ci f = .long := by rcases hT with h | h | h | h <;> first | exact h.2 | (have := h.1; omega)
            refine mj_put (v := .long x) (M' := mjSl M a f x) hx hb hts hown hK hR.1 hS hf ha hfin ?_ ?_ mjSl_ne ?_ hdg (fun H1 locs1 hR1 hS1 => kk _ _ _ ⟨hR1, hR.2⟩ hS1 hLR)
            · rw [hty]; rfl
            · rw [hty]; rfl
            · intro j hj
              by_cases hjf : j = f
              · subst hjf
                simp [mjFv, hx2, mjSl]
              · simp [mjFv, hjf, mjSl]
          · cases h
        · rename_i b a r
          split at h
          · rename_i ha
            obtain ⟨ha, hx2⟩ := ha
            cases h
            obtain rfl : len = 3 := by simpa [mjLn] using hln
            have han := (mjIs_spec ha).1
            have ea : lo a = base + a := hlo a (mjLt7 han hR.2.1)
            show W p l e R s m args below meth c H locs cells slots Q (F0 m pc ls (.ref (lo b) :: .ref (lo a) :: st1.map (mjRn lo)))
            rw [ea]
            have hty : (∃ z, mjTy ci f = .object z) ∨ ∃ z, mjTy ci f = .array z := by rcases hT with h | h | h | h <;> first | exact h.2 | (have := h.1; omega)
            refine mj_put (v := .ref (lo b)) (M' := mjSr M a f (some b)) hx hb hts hown hK hR.1 hS hf ha hfin ?_ ?_ mjSr_ne ?_ hdg (fun H1 locs1 hR1 hS1 => kk _ _ _ ⟨hR1, hR.2⟩ hS1 hLR)
            · rcases hty with ⟨z, h⟩ | ⟨z, h⟩ <;> rw [h] <;> rfl
            · rcases hty with ⟨z, h⟩ | ⟨z, h⟩ <;> rw [h] <;> rfl
            · intro j hj
              by_cases hjf : j = f
              · subst hjf
                simp [mjFv, hx2, mjSr, va_rf]
              · simp [mjFv, hjf, mjSr]
          · cases h
        · cases h
  | iaload =>
    replace h : mjIal pc n L st M = _ := h
    unfold mjIal at h
    split at h
    · rename_i i9 a r
      split at h
      · rename_i ha
        subst ha
        split at h
        · rename_i hi
          cases h
          obtain rfl : len = 1 := by simpa [mjLn] using hln
          obtain ⟨hX, hX1, hX2, hX3⟩ := hscr
          have hin : vp_in i9 sc.1 := by
            have h9 := hi.2
            rw [hR.2.2.2.1] at h9
            rw [Int32.toInt_ofNat_of_lt (by omega)] at h9
            rintro (q | q)
            · rw [Int32.lt_iff_toInt_lt] at q
              simp at q
              omega
            · have : i9.toNatClampNeg = i9.toInt.toNat := rfl
              omega
          refine va_sld hx hb hX hX1 (fun q => by omega) hS hin hdg ?_
          rw [show sc.2 i9.toNatClampNeg = M.1 2000000 (mjIx i9) by rw [hR.2.2.1]; rfl]
          exact kk _ _ _ hR hS hLR
        · cases h
      · split at h
        · rename_i ha
          obtain ⟨ha, hi⟩ := ha
          cases h
          obtain rfl : len = 1 := by simpa [mjLn] using hln
          have ea : lo a = base + a := hlo a (mjLt7 (mjIs_spec ha).1 hR.2.1)
          show W p l e R s m args below meth c H locs cells slots Q (F0 m pc ls (.int i9 :: .ref (lo a) :: r.map (mjRn lo)))
          rw [ea]
          exact mj_ial hx hb hK hR.1 ha hi hdg (kk _ _ _ hR hS hLR)
        · cases h
    · cases h
  | laload =>
    replace h : mjLal pc n L st M = _ := h
    unfold mjLal at h
    split at h
    · rename_i i9 a r
      split at h
      · rename_i ha
        obtain ⟨ha, hi⟩ := ha
        cases h
        obtain rfl : len = 1 := by simpa [mjLn] using hln
        have ea : lo a = base + a := hlo a (mjLt7 (mjIs_spec ha).1 hR.2.1)
        show W p l e R s m args below meth c H locs cells slots Q (F0 m pc ls (.int i9 :: .ref (lo a) :: r.map (mjRn lo)))
        rw [ea]
        exact mj_lal hx hb hK hR.1 ha hi hdg (kk _ _ _ hR hS hLR)
      · cases h
    · cases h
  | baload =>
    replace h : mjBal pc n L st M = _ := h
    unfold mjBal at h
    split at h
    · rename_i i9 a r
      split at h
      · rename_i ha
        obtain ⟨j9, hj9, rfl⟩ := mjSbd_spec ha
        rw [show 1100000 + j9 - 1100000 = j9 from Nat.add_sub_cancel_left _ _] at h
        have hz := (hstr.1 j9 hj9).1 0 (by decide)
        split at h
        · rename_i hi
          cases h
          obtain rfl : len = 1 := by simpa [mjLn] using hln
          exact va_tb hx hb hz.2.2.2 hS (mjIn_spec hi).1 rfl hdg (kk _ _ _ hR hS hLR)
        · cases h
      · split at h
        · rename_i ha
          obtain ⟨ha, hi⟩ := ha
          cases h
          obtain rfl : len = 1 := by simpa [mjLn] using hln
          have ea : lo a = base + a := hlo a (mjLt7 (mjIs_spec ha).1 hR.2.1)
          show W p l e R s m args below meth c H locs cells slots Q (F0 m pc ls (.int i9 :: .ref (lo a) :: r.map (mjRn lo)))
          rw [ea]
          exact mj_bal hx hb hK hR.1 ha hi hdg (kk _ _ _ hR hS hLR)
        · cases h
    · cases h
  | getstatic ix =>
    replace h : mjGst (mjCls k) ix pc L st M = _ := h
    unfold mjGst at h
    split at h
    · rename_i h18
      rw [h18] at hown
      split at h
      · rename_i h9
        subst h9
        cases h
        obtain rfl : len = 3 := by simpa [mjLn] using hln
        exact va_gets hx hb hstr.2.1 hS hown (hts _ mjCpW) (fun _ h => h) hdg (kk _ _ _ hR hS hLR)
      · split at h
        · rename_i h9
          subst h9
          obtain rfl : len = 3 := by simpa [mjLn] using hln
          refine va_gets hx hb hstr.2.2 hS hown (hts _ mjSiW) (fun _ h => h) hdg ?_
          have hz1 := hR.2.2.2.2.1
          have hz2 := hR.2.2.2.2.2
          split at h
          · rename_i h0
            cases h
            rw [if_pos (by
              rcases (show lo 1200001 = 0 ∨ lo 1200001 = 1 by omega) with h | h
              · exact h
              · rw [h, h0] at hz1; exact absurd hz1 (by decide))]
            exact kk _ _ _ hR hS hLR
          · rename_i h0
            cases h
            rw [if_neg (fun q => h0 (by rw [hz1, q]; rfl))]
            exact kk _ _ _ hR hS hLR
        · cases h
    · cases h
  | aaload =>
    replace h : mjAal pc n L st M = _ := h
    unfold mjAal at h
    split at h
    · rename_i i9 a r
      split at h
      · rename_i ha
        obtain ⟨ha, hi⟩ := ha
        cases h
        obtain rfl : len = 1 := by simpa [mjLn] using hln
        have han : a < n := by rcases ha with ha | ha <;> exact (mjIs_spec ha).1
        have ea : lo a = base + a := hlo a (mjLt7 han hR.2.1)
        show W p l e R s m args below meth c H locs cells slots Q (F0 m pc ls (.int i9 :: .ref (lo a) :: r.map (mjRn lo)))
        rw [ea]
        refine mj_aal hx hb hK hR.1 ha hi hdg ?_
        rw [show va_rf ((M.2.2 a (mjIx i9)).map lo) = mjRn lo (va_rf (M.2.2 a (mjIx i9))) by cases M.2.2 a (mjIx i9) <;> rfl]
        exact kk _ _ _ hR hS hLR
      · cases h
    · cases h
  | iastore =>
    replace h : mjIas pc n L st M = _ := h
    unfold mjIas at h
    split at h
    · rename_i x i9 a r
      split at h
      · rename_i ha
        obtain ⟨ha, hi⟩ := ha
        cases h
        obtain rfl : len = 1 := by simpa [mjLn] using hln
        have han := (mjIs_spec ha).1
        have ea : lo a = base + a := hlo a (mjLt7 han hR.2.1)
        show W p l e R s m args below meth c H locs cells slots Q (F0 m pc ls (.int x :: .int i9 :: .ref (lo a) :: st1.map (mjRn lo)))
        rw [ea]
        exact mj_ias (M' := mjSi M a (mjIx i9) x) hx hb hK hR.1 hS ha hi mjSi_ne (by funext q; simp [mjSi, upd]) hdg (fun H1 locs1 hR1 hS1 => kk _ _ _ (hR.si han hR1) hS1 hLR)
      · cases h
    · cases h
  | lastore =>
    replace h : mjLas pc n L st M = _ := h
    unfold mjLas at h
    split at h
    · rename_i x i9 a r
      split at h
      · rename_i ha
        obtain ⟨ha, hi⟩ := ha
        cases h
        obtain rfl : len = 1 := by simpa [mjLn] using hln
        have han := (mjIs_spec ha).1
        have ea : lo a = base + a := hlo a (mjLt7 han hR.2.1)
        show W p l e R s m args below meth c H locs cells slots Q (F0 m pc ls (.long x :: .int i9 :: .ref (lo a) :: st1.map (mjRn lo)))
        rw [ea]
        exact mj_las (M' := mjSl M a (mjIx i9) x) hx hb hK hR.1 hS ha hi mjSl_ne (by funext q; simp [mjSl, vp_updL]) hdg (fun H1 locs1 hR1 hS1 => kk _ _ _ (⟨hR1, hR.2⟩) hS1 hLR)
      · cases h
    · cases h
  | bastore =>
    replace h : mjBas pc n L st M = _ := h
    unfold mjBas at h
    split at h
    · rename_i x i9 a r
      split at h
      · rename_i ha
        obtain ⟨ha, hi, hxx⟩ := ha
        cases h
        obtain rfl : len = 1 := by simpa [mjLn] using hln
        have han := (mjIs_spec ha).1
        have ea : lo a = base + a := hlo a (mjLt7 han hR.2.1)
        show W p l e R s m args below meth c H locs cells slots Q (F0 m pc ls (.int x :: .int i9 :: .ref (lo a) :: st1.map (mjRn lo)))
        rw [ea]
        exact mj_bas (M' := mjSi M a (mjIx i9) x) hx hb hK hR.1 hS ha hi hxx mjSi_ne (by funext q; simp [mjSi, upd]) hdg (fun H1 locs1 hR1 hS1 => kk _ _ _ (hR.si han hR1) hS1 hLR)
      · cases h
    · cases h
  | aastore =>
    replace h : mjAas pc n L st M = _ := h
    unfold mjAas at h
    split at h
    · rename_i b i9 a r
      split at h
      · rename_i ha
        obtain ⟨ha, hi⟩ := ha
        cases h
        obtain rfl : len = 1 := by simpa [mjLn] using hln
        have han2 : a < n ∧ b < n := by rcases ha with ha | ha <;> exact ⟨(mjIs_spec ha.1).1, (mjIs_spec ha.2).1⟩
        have ea : lo a = base + a := hlo a (mjLt7 han2.1 hR.2.1)
        have eb : lo b = base + b := hlo b (mjLt7 han2.2 hR.2.1)
        show W p l e R s m args below meth c H locs cells slots Q (F0 m pc ls (.ref (lo b) :: .int i9 :: .ref (lo a) :: st1.map (mjRn lo)))
        rw [ea, eb]
        have hv : ∀ q, (mjSr M a (mjIx i9) (some b)).2.2 a q = if q = mjIx i9 then some b else M.2.2 a q := by intro q; simp [mjSr]
        rcases ha with ⟨ha, hb2⟩ | ⟨ha, hb2⟩
        · exact mj_aas0 (M' := mjSr M a (mjIx i9) (some b)) (t0 := 3) (r := (mjCn 7, mjTx 7, mjNf 7)) hx hb hK hR.1 hS rfl (Or.inl rfl) (mjCl_at (by decide)) (by decide) ha hb2 hi eb mjSr_ne hv hdg (fun H1 locs1 hR1 hS1 => kk _ _ _ ⟨hR1, hR.2⟩ hS1 hLR)
        · exact mj_aas0 (M' := mjSr M a (mjIx i9) (some b)) (t0 := 4) (r := (mjCn 0, mjTx 0, mjNf 0)) hx hb hK hR.1 hS rfl (Or.inr rfl) (mjCl_at (by decide)) (by decide) ha hb2 hi eb mjSr_ne hv hdg (fun H1 locs1 hR1 hS1 => kk _ _ _ ⟨hR1, hR.2⟩ hS1 hLR)
      · cases h
    · cases h
  | arraylength =>
    replace h : mjLen pc n L st M = _ := h
    unfold mjLen at h
    split at h
    · rename_i a r
      split at h
      · rename_i ha
        subst ha
        cases h
        obtain rfl : len = 1 := by simpa [mjLn] using hln
        obtain ⟨hX, hX1, hX2, hX3⟩ := hscr
        refine va_slen hx hb hX hX1 (fun q => by omega) hS hdg ?_
        rw [← hR.2.2.2.1]
        exact kk _ _ _ hR hS hLR
      · split at h
        · rename_i ha
          obtain ⟨j9, hj9, rfl⟩ := mjSbd_spec ha
          rw [show 1100000 + j9 - 1100000 = j9 from Nat.add_sub_cancel_left _ _] at h
          have hz := (hstr.1 j9 hj9).1 0 (by decide)
          cases h
          obtain rfl : len = 1 := by simpa [mjLn] using hln
          exact va_tlen hx hb hz.2.2.2 hS rfl hdg (kk _ _ _ hR hS hLR)
        split at h
        · rename_i ha
          cases h
          obtain rfl : len = 1 := by simpa [mjLn] using hln
          have ea : lo a = base + a := hlo a (mjLt7 ha.1 hR.2.1)
          show W p l e R s m args below meth c H locs cells slots Q (F0 m pc ls (.ref (lo a) :: r.map (mjRn lo)))
          rw [ea]
          have hat := hR.1.2 a ha.1
          rw [mjCell, if_neg (by omega)] at hat
          have hg : ∀ (t0 : Nat) (ty : FieldType), (mjTys kA)[t0]? = some (kA (mjLay a).1, ty) → W p l e R s m args below meth c H locs cells slots Q (F0 m pc ls (.ref (base + a) :: r.map (mjRn lo))) := fun t0 ty ht => va_alen hx hb hK (mjP1 hat) 0 t0 rfl ht rfl hdg (kk _ _ _ hR hS hLR)
          have hl : (mjLay a).1 = 13 ∨ (mjLay a).1 = 14 ∨ (mjLay a).1 = 15 ∨ (mjLay a).1 = 16 ∨ (mjLay a).1 = 17 := by omega
          rcases hl with h1 | h1 | h1 | h1 | h1
          · exact hg 0 .int (by rw [h1]; rfl)
          · exact hg 1 .long (by rw [h1]; rfl)
          · exact hg 2 .boolean (by rw [h1]; rfl)
          · exact hg 3 (.object "BatonZones$Team") (by rw [h1]; rfl)
          · exact hg 4 (.object "BatonZones$Act") (by rw [h1]; rfl)
        · cases h
    · cases h
  | _ => cases (show (none : mjO) = some (pc1, L1, st1, M1) from h)
end MJ4
