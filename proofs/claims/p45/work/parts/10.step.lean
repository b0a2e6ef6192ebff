/-! ONE STEP of the small interpreter is one step of the machine -/
section MJ4
variable {p : Program} {l : Launch} {e : Env} {R : Room} {s : State} {m : MethodId} {args : Array Value} {below : List Frame} {meth : Method} {c : Code} {H : Heap} {locs : List Loc} {cells slots : Nat} {Q : State → Prop}
variable {ls : Array Slot} {D : va_G} {kA : Nat → ClassId} {lo sg : Nat → Nat} {base : Nat} {sc : Nat × (Nat → Int32)} {H0 : Heap} {k n len pc pc1 nL : Nat} {i : Instr} {L L1 : mjLs} {st st1 : List Value} {M M1 : mjMem}
theorem mjSid_spec {a : Nat} (h : mjSid a = true) : ∃ i, i < 59 ∧ a = 1000000 + i := ⟨a - 1000000, by simp [mjSid] at h; omega, by simp [mjSid] at h; omega⟩
theorem mjIcd_spec {a : Nat} (h : mjIcd a = true) : ∃ i, i < 256 ∧ a = 1400000 + i := ⟨a - 1400000, by simp [mjIcd] at h; omega, by simp [mjIcd] at h; omega⟩
/-- an object that is known: its class -/
theorem mjRo_recv {a C : Nat} (hK : va_K D mjCl (mjTys kA) s) (hpre : mjPre lo base s s.heap) (hR : mjRep D kA lo sg base n M H) (hS : va_S (fun q => base ≤ q) s.heap H locs) (hC : C < 21) (h : mjRo M a C = true) : ∃ cell : Cell, H[lo a]? = some cell ∧ cell.vm.isStatics = false ∧ s.vm.findClass (mjCn C) = some cell.cls := by
  simp only [mjRo, Bool.or_eq_true, Bool.and_eq_true, beq_iff_eq] at h
  rcases h with (h | ⟨rfl, h⟩) | ⟨rfl, h⟩
  · exact va_recv (q := (mjCn C, mjTx C, mjNf C)) hK (mjP1 (hR.obj h hC)) (mjCl_at hC) (q0 := 0) rfl
  · obtain ⟨i, hi, rfl⟩ := mjSid_spec h
    exact vk_recv (i := 0) (hpre.1 i hi) (by decide) hS
  · obtain ⟨i, hi, rfl⟩ := mjIcd_spec h
    obtain ⟨cell, h1, h2, h3, -⟩ := ((hpre.2.2.2.2.2.2.1).1 i hi).kept hS.2.1
    exact ⟨cell, h1, h2, h3⟩
theorem mjKs_ro {a C : Nat} (h : mjKs M a C = true) : mjRo M a C = true := by simp [mjRo, h]
theorem mjIcd_ro {a : Nat} (h : mjIcd a = true) : mjRo M a 17 = true := by simp [mjRo, h]
theorem mjSid_ro {a : Nat} (h : mjSid a = true) : mjRo M a 18 = true := by simp [mjRo, h]
/-- what may lie in a row of E -/
theorem mjAny {a C : Nat} {E : String} (hK : va_K D mjCl (mjTys kA) s) (hpre : mjPre lo base s s.heap) (hR : mjRep D kA lo sg base n M H) (hS : va_S (fun q => base ≤ q) s.heap H locs) (hC : C < 21) (h : mjRo M a C = true) (hasg : mjCn C = E ∨ va_Nw (.castable (mjCn C) E) s) : va_Any E s H (lo a) := by
  obtain ⟨cell, h1, h2, h3⟩ := mjRo_recv hK hpre hR hS hC h
  obtain ⟨kC, hkC, -⟩ := Vm.findClass_spec h3
  refine ⟨cell, h1, h2, ⟨kC, hkC⟩, fun comp hc => ?_⟩
  rcases hasg with rfl | hasg
  · exact vb_asgS comp _ hc h3
  · exact vb_asgC hasg comp _ hc h3
theorem mjAnyI {a : Nat} (hK : va_K D mjCl (mjTys kA) s) (hR : mjRep D kA lo sg base n M H) (h : mjKs M a 113 = true) (hasg : va_Nw (.castable "[I" "java/lang/Object") s) : va_Any "java/lang/Object" s H (lo a) := by
  have h1 : H[lo a]? = some (arrV (kA 113) (mjAl M a) (fun j => .int (M.1 a j))) := hR.arr h (by decide)
  obtain ⟨-, k1, hk1, -⟩ := (hK.2 0 (kA 113, .int) rfl).1 (mjAl M a) (fun j => .int (M.1 a j))
  have hf : s.vm.findClass "[I" = some (kA 113) := (hK.2 0 (kA 113, .int) rfl).2
  exact ⟨_, h1, rfl, ⟨k1, hk1⟩, fun comp hc => vb_asgC hasg comp _ hc hf⟩
theorem mjGst_one {own ix q : Nat} {v : Value} (hx : p.tables.exec = Jvm.exec) (hb : c.code = mjB k) (hts : ∀ w ∈ mjW, w.before args s = true) (hown : s.vm.findClass (mjCn own) = some m.cls) (hpre : mjPre lo base s s.heap) (hS : va_S (fun q => base ≤ q) s.heap H locs) (hst : mjSt own ix = some q) (hv : mjStV lo q = v) (hdg : decode (mjB k) pc = .ok (.getstatic ix, 3)) {r : List Value}
    (kk : W p l e R s m args below meth c H locs cells slots Q (F0 m (pc + 3) ls (v :: r))) : W p l e R s m args below meth c H locs cells slots Q (F0 m pc ls r) := by
  subst hv
  obtain ⟨h1, h2⟩ := mjSt_spec hst
  exact va_gets hx hb (hpre.2.2.2.2.2.2.2 q h2) hS hown (hts _ h1) (fun _ h => h) hdg kk
set_option maxHeartbeats 4000000 in
theorem mj_step (hC : mjCx p s m args meth c D kA lo base sc s.heap k) (h : mjStp k i pc L st M = some (pc1, L1, st1, M1)) (hln : mjLn i len = true) (hdg : decode (mjB k) pc = .ok (i, len)) (hLR : mjLR lo ls nL L) (hR : mjRp D kA lo sg base sc n M H) (hS : va_S (fun q => base ≤ q) s.heap H locs)
    (kk : ∀ (H1 : Heap) (locs1 : List Loc) (ls1 : Array Slot), mjRp D kA lo sg base sc n M1 H1 → va_S (fun q => base ≤ q) s.heap H1 locs1 → mjLR lo ls1 nL L1 → W p l e R s m args below meth c H1 locs1 cells slots Q (F0 m pc1 ls1 (st1.map (mjRn lo)))) :
    W p l e R s m args below meth c H locs cells slots Q (F0 m pc ls (st.map (mjRn lo))) := by
  obtain ⟨hx, hb, hts, hown, hK, hinit, hcs, hao, hscr, hpre, hca, hnc⟩ := hC
  cases i with
  | aload j =>
    obtain ⟨x, hq, hv, rfl, rfl, rfl, rfl⟩ := mjLoadA_spec (show mjLoadA L j (pc + 2) st M = _ from h)
    obtain rfl : len = 2 := by simpa [mjLn] using hln
    rcases hq with rfl | ⟨y, rfl⟩
    · exact lv_aloadN hx hb hdg (hLR.ld hv) (kk _ _ _ hR hS hLR)
    · exact lv_aload hx hb hdg (hLR.ld hv) (kk _ _ _ hR hS hLR)
  | aload_n j =>
    obtain ⟨x, hq, hv, rfl, rfl, rfl, rfl⟩ := mjLoadA_spec (show mjLoadA L j (pc + 1) st M = _ from h)
    obtain rfl : len = 1 := by simpa [mjLn] using hln
    rcases hq with rfl | ⟨y, rfl⟩
    · exact lv_aload_nN hx hb hdg rfl (hLR.ld hv) (kk _ _ _ hR hS hLR)
    · exact lv_aload_n hx hb hdg rfl (hLR.ld hv) (kk _ _ _ hR hS hLR)
  | iload j =>
    obtain ⟨x, hv, rfl, rfl, rfl, rfl⟩ := mjLoadI_spec (show mjLoadI L j (pc + 2) st M = _ from h)
    obtain rfl : len = 2 := by simpa [mjLn] using hln
    exact lv_iload hx hb hdg (hLR.ld hv) (kk _ _ _ hR hS hLR)
  | iload_n j =>
    obtain ⟨x, hv, rfl, rfl, rfl, rfl⟩ := mjLoadI_spec (show mjLoadI L j (pc + 1) st M = _ from h)
    obtain rfl : len = 1 := by simpa [mjLn] using hln
    exact lv_iload_n hx hb hdg rfl (hLR.ld hv) (kk _ _ _ hR hS hLR)
  | lload j =>
    obtain ⟨x, hv, rfl, rfl, rfl, rfl⟩ := mjLoadL_spec (show mjLoadL L j (pc + 2) st M = _ from h)
    obtain rfl : len = 2 := by simpa [mjLn] using hln
    exact lv_lload hx hb hdg (hLR.ld hv) (kk _ _ _ hR hS hLR)
  | lload_n j =>
    obtain ⟨x, hv, rfl, rfl, rfl, rfl⟩ := mjLoadL_spec (show mjLoadL L j (pc + 1) st M = _ from h)
    obtain rfl : len = 1 := by simpa [mjLn] using hln
    exact lv_lload_n hx hb hdg rfl (hLR.ld hv) (kk _ _ _ hR hS hLR)
  | astore j =>
    obtain ⟨x, r, rfl, hj, rfl, rfl, rfl, rfl⟩ := mjStoA_spec (show mjStoA L j (pc + 2) st M = _ from h)
    obtain rfl : len = 2 := by simpa [mjLn] using hln
    exact mj_sto1 hLR hj (fun h1 lv' h2 h3 => lv_astore hx hb hdg hLR.has h1 h2 h3) (fun ls' h4 => kk _ _ _ hR hS h4)
  | astore_n j =>
    obtain ⟨x, r, rfl, hj, rfl, rfl, rfl, rfl⟩ := mjStoA_spec (show mjStoA L j (pc + 1) st M = _ from h)
    obtain rfl : len = 1 := by simpa [mjLn] using hln
    exact mj_sto1 hLR hj (fun h1 lv' h2 h3 => lv_astore_n hx hb hdg rfl hLR.has h1 h2 h3) (fun ls' h4 => kk _ _ _ hR hS h4)
  | istore j =>
    obtain ⟨x, r, rfl, hj, rfl, rfl, rfl, rfl⟩ := mjStoI_spec (show mjStoI L j (pc + 2) st M = _ from h)
    obtain rfl : len = 2 := by simpa [mjLn] using hln
    exact mj_sto1 hLR hj (fun h1 lv' h2 h3 => lv_istore hx hb hdg hLR.has h1 h2 h3) (fun ls' h4 => kk _ _ _ hR hS h4)
  | istore_n j =>
    obtain ⟨x, r, rfl, hj, rfl, rfl, rfl, rfl⟩ := mjStoI_spec (show mjStoI L j (pc + 1) st M = _ from h)
    obtain rfl : len = 1 := by simpa [mjLn] using hln
    exact mj_sto1 hLR hj (fun h1 lv' h2 h3 => lv_istore_n hx hb hdg rfl hLR.has h1 h2 h3) (fun ls' h4 => kk _ _ _ hR hS h4)
  | lstore j =>
    obtain ⟨x, r, rfl, hj, rfl, rfl, rfl, rfl⟩ := mjStoL_spec (show mjStoL L j (pc + 2) st M = _ from h)
    obtain rfl : len = 2 := by simpa [mjLn] using hln
    exact mj_sto2 hLR hj (fun h1 lv' h2 h3 => lv_lstore hx hb hdg hLR.has h1 h2 h3) (fun ls' h4 => kk _ _ _ hR hS h4)
  | lstore_n j =>
    obtain ⟨x, r, rfl, hj, rfl, rfl, rfl, rfl⟩ := mjStoL_spec (show mjStoL L j (pc + 1) st M = _ from h)
    obtain rfl : len = 1 := by simpa [mjLn] using hln
    exact mj_sto2 hLR hj (fun h1 lv' h2 h3 => lv_lstore_n hx hb hdg rfl hLR.has h1 h2 h3) (fun ls' h4 => kk _ _ _ hR hS h4)
  | iconst v =>
    cases h
    obtain rfl : len = 1 := by simpa [mjLn] using hln
    exact lv_iconst hx hb hdg rfl (kk _ _ _ hR hS hLR)
  | bipush v =>
    cases h
    obtain rfl : len = 2 := by simpa [mjLn] using hln
    exact lv_bipush hx hb hdg rfl (kk _ _ _ hR hS hLR)
  | sipush v =>
    cases h
    obtain rfl : len = 3 := by simpa [mjLn] using hln
    exact lv_sipush hx hb hdg rfl (kk _ _ _ hR hS hLR)
  | lconst v =>
    cases h
    obtain rfl : len = 1 := by simpa [mjLn] using hln
    exact lv_lconst hx hb hdg rfl (kk _ _ _ hR hS hLR)
  | iadd =>
    obtain ⟨x, y, r, rfl, rfl, rfl, rfl, rfl⟩ := mjII_spec (show mjII _ (pc + 1) L st M = _ from h)
    obtain rfl : len = 1 := by simpa [mjLn] using hln
    exact lv_iadd hx hb hdg (kk _ _ _ hR hS hLR)
  | isub =>
    obtain ⟨x, y, r, rfl, rfl, rfl, rfl, rfl⟩ := mjII_spec (show mjII _ (pc + 1) L st M = _ from h)
    obtain rfl : len = 1 := by simpa [mjLn] using hln
    exact lv_isub hx hb hdg (kk _ _ _ hR hS hLR)
  | imul =>
    obtain ⟨x, y, r, rfl, rfl, rfl, rfl, rfl⟩ := mjII_spec (show mjII _ (pc + 1) L st M = _ from h)
    obtain rfl : len = 1 := by simpa [mjLn] using hln
    exact lv_imul hx hb hdg (kk _ _ _ hR hS hLR)
  | iand =>
    obtain ⟨x, y, r, rfl, rfl, rfl, rfl, rfl⟩ := mjII_spec (show mjII _ (pc + 1) L st M = _ from h)
    obtain rfl : len = 1 := by simpa [mjLn] using hln
    exact lv_iand hx hb hdg (kk _ _ _ hR hS hLR)
  | ior =>
    obtain ⟨x, y, r, rfl, rfl, rfl, rfl, rfl⟩ := mjII_spec (show mjII _ (pc + 1) L st M = _ from h)
    obtain rfl : len = 1 := by simpa [mjLn] using hln
    exact lv_ior hx hb hdg (kk _ _ _ hR hS hLR)
  | ixor =>
    obtain ⟨x, y, r, rfl, rfl, rfl, rfl, rfl⟩ := mjII_spec (show mjII _ (pc + 1) L st M = _ from h)
    obtain rfl : len = 1 := by simpa [mjLn] using hln
    exact lv_ixor hx hb hdg (kk _ _ _ hR hS hLR)
  | ishl =>
    obtain ⟨x, y, r, rfl, rfl, rfl, rfl, rfl⟩ := mjII_spec (show mjII _ (pc + 1) L st M = _ from h)
    obtain rfl : len = 1 := by simpa [mjLn] using hln
    exact lv_ishl hx hb hdg (kk _ _ _ hR hS hLR)
  | ishr =>
    obtain ⟨x, y, r, rfl, rfl, rfl, rfl, rfl⟩ := mjII_spec (show mjII _ (pc + 1) L st M = _ from h)
    obtain rfl : len = 1 := by simpa [mjLn] using hln
    exact lv_ishr hx hb hdg (kk _ _ _ hR hS hLR)
  | iushr =>
    obtain ⟨x, y, r, rfl, rfl, rfl, rfl, rfl⟩ := mjII_spec (show mjII _ (pc + 1) L st M = _ from h)
    obtain rfl : len = 1 := by simpa [mjLn] using hln
    exact lv_iushr hx hb hdg rfl (kk _ _ _ hR hS hLR)
  | ladd =>
    obtain ⟨x, y, r, rfl, rfl, rfl, rfl, rfl⟩ := mjLL_spec (show mjLL _ (pc + 1) L st M = _ from h)
    obtain rfl : len = 1 := by simpa [mjLn] using hln
    exact lv_ladd hx hb hdg (kk _ _ _ hR hS hLR)
  | lsub =>
    obtain ⟨x, y, r, rfl, rfl, rfl, rfl, rfl⟩ := mjLL_spec (show mjLL _ (pc + 1) L st M = _ from h)
    obtain rfl : len = 1 := by simpa [mjLn] using hln
    exact lv_lsub hx hb hdg (kk _ _ _ hR hS hLR)
  | lmul =>
    obtain ⟨x, y, r, rfl, rfl, rfl, rfl, rfl⟩ := mjLL_spec (show mjLL _ (pc + 1) L st M = _ from h)
    obtain rfl : len = 1 := by simpa [mjLn] using hln
    exact lv_lmul hx hb hdg (kk _ _ _ hR hS hLR)
  | land =>
    obtain ⟨x, y, r, rfl, rfl, rfl, rfl, rfl⟩ := mjLL_spec (show mjLL _ (pc + 1) L st M = _ from h)
    obtain rfl : len = 1 := by simpa [mjLn] using hln
    exact lv_land hx hb hdg (kk _ _ _ hR hS hLR)
  | lor =>
    obtain ⟨x, y, r, rfl, rfl, rfl, rfl, rfl⟩ := mjLL_spec (show mjLL _ (pc + 1) L st M = _ from h)
    obtain rfl : len = 1 := by simpa [mjLn] using hln
    exact lv_lor hx hb hdg (kk _ _ _ hR hS hLR)
  | lxor =>
    obtain ⟨x, y, r, rfl, rfl, rfl, rfl, rfl⟩ := mjLL_spec (show mjLL _ (pc + 1) L st M = _ from h)
    obtain rfl : len = 1 := by simpa [mjLn] using hln
    exact lv_lxor hx hb hdg (kk _ _ _ hR hS hLR)
  | lcmp =>
    obtain ⟨x, y, r, rfl, rfl, rfl, rfl, rfl⟩ := mjLL_spec (show mjLL _ (pc + 1) L st M = _ from h)
    obtain rfl : len = 1 := by simpa [mjLn] using hln
    exact W.lcmp hx hb hdg (kk _ _ _ hR hS hLR)
  | lshl =>
    obtain ⟨x, y, r, rfl, rfl, rfl, rfl, rfl⟩ := mjLI_spec (show mjLI _ (pc + 1) L st M = _ from h)
    obtain rfl : len = 1 := by simpa [mjLn] using hln
    exact lv_lshl hx hb hdg rfl (kk _ _ _ hR hS hLR)
  | lshr =>
    obtain ⟨x, y, r, rfl, rfl, rfl, rfl, rfl⟩ := mjLI_spec (show mjLI _ (pc + 1) L st M = _ from h)
    obtain rfl : len = 1 := by simpa [mjLn] using hln
    exact lv_lshr hx hb hdg rfl (kk _ _ _ hR hS hLR)
  | lushr =>
    obtain ⟨x, y, r, rfl, rfl, rfl, rfl, rfl⟩ := mjLI_spec (show mjLI _ (pc + 1) L st M = _ from h)
    obtain rfl : len = 1 := by simpa [mjLn] using hln
    exact lv_lushr hx hb hdg rfl (kk _ _ _ hR hS hLR)
  | ineg =>
    obtain ⟨x, r, rfl, rfl, rfl, rfl, rfl⟩ := mjI1_spec (show mjI1 _ (pc + 1) L st M = _ from h)
    obtain rfl : len = 1 := by simpa [mjLn] using hln
    exact lv_ineg hx hb hdg (kk _ _ _ hR hS hLR)
  | i2l =>
    obtain ⟨x, r, rfl, rfl, rfl, rfl, rfl⟩ := mjI1_spec (show mjI1 _ (pc + 1) L st M = _ from h)
    obtain rfl : len = 1 := by simpa [mjLn] using hln
    exact lv_i2l hx hb hdg rfl (kk _ _ _ hR hS hLR)
  | i2c =>
    obtain ⟨x, r, rfl, rfl, rfl, rfl, rfl⟩ := mjI1_spec (show mjI1 _ (pc + 1) L st M = _ from h)
    obtain rfl : len = 1 := by simpa [mjLn] using hln
    exact lv_i2c hx hb hdg rfl (kk _ _ _ hR hS hLR)
  | i2b =>
    obtain ⟨x, r, rfl, rfl, rfl, rfl, rfl⟩ := mjI1_spec (show mjI1 _ (pc + 1) L st M = _ from h)
    obtain rfl : len = 1 := by simpa [mjLn] using hln
    exact lv_i2b hx hb hdg rfl (kk _ _ _ hR hS hLR)
  | idiv =>
    unfold mjStp at h
    dsimp only at h
    split at h
    · split at h
      · cases h
      · cases h
        obtain rfl : len = 1 := by simpa [mjLn] using hln
        exact lv_idiv hx hb hdg (by assumption) (kk _ _ _ hR hS hLR)
    · cases h
  | l2i =>
    unfold mjStp at h
    dsimp only at h
    split at h
    · cases h
      obtain rfl : len = 1 := by simpa [mjLn] using hln
      exact lv_l2i hx hb hdg rfl (kk _ _ _ hR hS hLR)
    · cases h
  | ifCond cc off =>
    replace h : mjIf cc off pc L st M = _ := h
    unfold mjIf at h
    split at h
    · rename_i x r
      obtain ⟨t, ht, rfl, rfl, rfl, rfl⟩ := mjBr_spec h
      obtain rfl : len = 3 := by simpa [mjLn] using hln
      have kt : ∀ (b : Bool), b = mjCmp cc x 0 → W p l e R s m args below meth c H locs cells slots Q (F0 m (if b = true then t else pc + 3) ls (r.map (mjRn lo))) := fun b hb => by subst hb; exact kk _ _ _ hR hS hLR
      cases cc with
      | eq => exact lv_if_eq hx hb hdg ht (fun q => kt true (by simp [mjCmp, q])) (fun q => kt false (by simp [mjCmp, q]))
      | ne => exact lv_if_ne hx hb hdg ht (fun q => kt true (by simp [mjCmp, q])) (fun q => kt false (by simp [mjCmp, q]))
      | lt => exact lv_if_lt hx hb hdg ht (fun q => kt true (by simp [mjCmp, q])) (fun q => kt false (by simp [mjCmp, q]))
      | ge => exact lv_if_ge hx hb hdg ht (fun q => kt true (by simp [mjCmp, q])) (fun q => kt false (by simp [mjCmp, q]))
      | gt => exact lv_if_gt hx hb hdg ht (fun q => kt true (by simp [mjCmp, q])) (fun q => kt false (by simp [mjCmp, q]))
      | le => exact lv_if_le hx hb hdg ht (fun q => kt true (by simp [mjCmp, q])) (fun q => kt false (by simp [mjCmp, q]))
    · cases h
  | if_icmp cc off =>
    replace h : mjIcmp cc off pc L st M = _ := h
    unfold mjIcmp at h
    split at h
    · rename_i y x r
      obtain ⟨t, ht, rfl, rfl, rfl, rfl⟩ := mjBr_spec h
      obtain rfl : len = 3 := by simpa [mjLn] using hln
      have kt : ∀ (b : Bool), b = mjCmp cc x y → W p l e R s m args below meth c H locs cells slots Q (F0 m (if b = true then t else pc + 3) ls (r.map (mjRn lo))) := fun b hb => by subst hb; exact kk _ _ _ hR hS hLR
      cases cc with
      | eq => exact lv_icmp_eq hx hb hdg ht (fun q => kt true (by simp [mjCmp, q])) (fun q => kt false (by simp [mjCmp, q]))
      | ne => exact lv_icmp_ne hx hb hdg ht (fun q => kt true (by simp [mjCmp, q])) (fun q => kt false (by simp [mjCmp, q]))
      | lt => exact lv_icmp_lt hx hb hdg ht (fun q => kt true (by simp [mjCmp, q])) (fun q => kt false (by simp [mjCmp, q]))
      | ge => exact lv_icmp_ge hx hb hdg ht (fun q => kt true (by simp [mjCmp, q])) (fun q => kt false (by simp [mjCmp, q]))
      | gt => exact lv_icmp_gt hx hb hdg ht (fun q => kt true (by simp [mjCmp, q])) (fun q => kt false (by simp [mjCmp, q]))
      | le => exact lv_icmp_le hx hb hdg ht (fun q => kt true (by simp [mjCmp, q])) (fun q => kt false (by simp [mjCmp, q]))
    · cases h
  | goto off =>
    unfold mjStp at h
    dsimp only at h
    split at h
    · cases h
      obtain rfl : len = 3 := by simpa [mjLn] using hln
      exact lv_goto hx hb hdg (mjJ_spec (by assumption)) (kk _ _ _ hR hS hLR)
    · cases h
  | tableswitch d lo9 hi9 offs =>
    replace h : mjTsw d lo9 hi9 offs pc L st M = _ := h
    unfold mjTsw at h
    split at h
    · split at h
      · split at h
        · cases h
          exact lv_tableOut hx hb hdg (by assumption) (mjJ_spec (by assumption)) (kk _ _ _ hR hS hLR)
        · cases h
      · rename_i hno
        split at h
        · split at h
          · cases h
            exact lv_tableIn hx hb hdg (fun q => hno (Or.inl q)) (fun q => hno (Or.inr q)) (by assumption) (mjJ_spec (by assumption)) (kk _ _ _ hR hS hLR)
          · cases h
        · cases h
    · cases h
  | lookupswitch d ps =>
    replace h : mjLsw d ps pc L st M = _ := h
    unfold mjLsw at h
    split at h
    · split at h
      · split at h
        · cases h
          exact lv_lookup hx hb hdg (by assumption) rfl (mjJ_spec (by assumption)) (kk _ _ _ hR hS hLR)
        · cases h
      · cases h
    · cases h
  | iinc j cst =>
    replace h : mjIinc j cst pc L st M = _ := h
    unfold mjIinc at h
    split at h
    · rename_i x hv
      cases h
      obtain rfl : len = 3 := by simpa [mjLn] using hln
      have hj := mjLd_lt hv
      have hm : (j, Value.int x) ∈ mjPl lo L := mjPl_mem.mpr ⟨.int x, by simpa [mjLd, List.getD_eq_getElem?_getD, hj] using hv, rfl⟩
      obtain ⟨q, hq⟩ := List.getElem?_of_mem hm
      exact lv_iinc hx hb hdg hLR.has hq rfl (by rw [← hLR.1]; exact hj) rfl (fun ls' h' => kk _ _ _ hR hS (hLR.sto1 h'))
    · cases h
  | dup =>
    replace h : mjDup pc L st M = _ := h
    unfold mjDup at h
    split at h
    · split at h
      · cases h
        obtain rfl : len = 1 := by simpa [mjLn] using hln
        exact lv_dup hx hb hdg (mjOne_cat (by assumption)) (kk _ _ _ hR hS hLR)
      · cases h
    · cases h
  | pop =>
    replace h : mjPop pc L st M = _ := h
    unfold mjPop at h
    split at h
    · split at h
      · cases h
        obtain rfl : len = 1 := by simpa [mjLn] using hln
        exact lv_pop hx hb hdg (mjOne_cat (lo := lo) (by assumption)) (kk _ _ _ hR hS hLR)
      · cases h
    · cases h
  | dup2 =>
    replace h : mjDup2 pc L st M = _ := h
    unfold mjDup2 at h
    split at h
    · cases h
      obtain rfl : len = 1 := by simpa [mjLn] using hln
      exact lv_dup2_2 hx hb hdg rfl (kk _ _ _ hR hS hLR)
    · split at h
      · rename_i hc
        cases h
        obtain rfl : len = 1 := by simpa [mjLn] using hln
        exact lv_dup2_11 hx hb hdg (mjOne_cat hc.1) (mjOne_cat hc.2) (kk _ _ _ hR hS hLR)
      · cases h
    · cases h
  | ldc ix =>
    replace h : mjLdc (mjCls k) ix pc L st M = _ := h
    unfold mjLdc at h
    split at h
    · rename_i x hv
      cases h
      obtain rfl : len = 2 := by simpa [mjLn] using hln
      rcases mjCs_spec (mjCls_lt k) hv with ⟨y, e9, hw⟩ | ⟨y, e9, hw⟩ | ⟨y, e9⟩
      · cases e9
        exact lv_ldc hx hb hown (hts _ hw) hdg (kk _ _ _ hR hS hLR)
      · cases e9
      · cases e9
    · rename_i x hv
      cases h
      obtain rfl : len = 2 := by simpa [mjLn] using hln
      obtain ⟨tx, hr⟩ := hcs ix x hv
      exact va_ldcS hx hb hown hr hdg (kk _ _ _ hR hS hLR)
    · cases h
  | ldc_w ix =>
    replace h : mjLdcw (mjCls k) ix pc L st M = _ := h
    unfold mjLdcw at h
    split at h
    · rename_i x hv
      cases h
      obtain rfl : len = 3 := by simpa [mjLn] using hln
      rcases mjCs_spec (mjCls_lt k) hv with ⟨y, e9, hw⟩ | ⟨y, e9, hw⟩ | ⟨y, e9⟩
      · cases e9
        exact lv_ldcw hx hb hown (hts _ hw) hdg (kk _ _ _ hR hS hLR)
      · cases e9
      · cases e9
    · cases h
  | ldc2_w ix =>
    replace h : mjLdc2 (mjCls k) ix pc L st M = _ := h
    unfold mjLdc2 at h
    split at h
    · rename_i x hv
      cases h
      obtain rfl : len = 3 := by simpa [mjLn] using hln
      rcases mjCs_spec (mjCls_lt k) hv with ⟨y, e9, hw⟩ | ⟨y, e9, hw⟩ | ⟨y, e9⟩
      · cases e9
      · cases e9
        exact lv_ldc2 hx hb hown (hts _ hw) hdg (kk _ _ _ hR hS hLR)
      · cases e9
    · cases h
  | getfield ix =>
    replace h : mjGet (mjCls k) ix pc L st M = _ := h
    unfold mjGet at h
    split at h
    · cases h
    · rename_i ci f hf
      split at h
      · rename_i a r
        split at h
        · rename_i ha
          cases h
          obtain rfl : len = 3 := by simpa [mjLn] using hln
          show W p l e R s m args below meth c H locs cells slots Q (F0 m pc ls (.ref (lo a) :: r.map (mjRn lo)))
          refine mj_get hx hb hts hown hK hR.1 hf ha hdg ?_
          have e2 : mjFv lo M a ci f = mjRn lo (match mjFk ci f with | 1 => Value.long (M.2.1 a f) | 2 => va_rf (M.2.2.1 a f) | _ => Value.int (M.1 a f)) := by
            unfold mjFv
            by_cases h1 : mjFk ci f = 1
            · rw [if_pos h1, h1]; rfl
            · rw [if_neg h1]
              by_cases h2 : mjFk ci f = 2
              · rw [if_pos h2, h2]; cases M.2.2.1 a f <;> rfl
              · rw [if_neg h2]
                split
                · exact absurd (by assumption) h1
                · exact absurd (by assumption) h2
                · rfl
          rw [e2]
          exact kk _ _ _ hR hS hLR
        · obtain ⟨ref, hl1, hl2⟩ := mjSame hts hf
          split at h
          · rename_i hc18
            obtain ⟨rfl, hsid⟩ := hc18
            obtain ⟨i9, hi9, rfl⟩ := mjSid_spec hsid
            have hz := (hpre.1 i9 hi9).1 0 (by decide)
            split at h
            · rename_i h0
              subst h0
              cases h
              obtain rfl : len = 3 := by simpa [mjLn] using hln
              refine vk_getf hx hb hz.2.2.1 hS hown hl1 hl2 hdg ?_
              have k9 := kk _ _ _ hR hS hLR
              rw [show 1000000 + i9 + 100000 = 1100000 + i9 by omega] at k9
              exact k9
            · split at h
              · rename_i h1
                subst h1
                cases h
                obtain rfl : len = 3 := by simpa [mjLn] using hln
                exact vk_getf hx hb hz.2.1 hS hown hl1 hl2 hdg (kk _ _ _ hR hS hLR)
              · cases h
          · split at h
            · rename_i hc17
              obtain ⟨rfl, hicd, rfl⟩ := hc17
              obtain ⟨i9, hi9, rfl⟩ := mjIcd_spec hicd
              cases h
              obtain rfl : len = 3 := by simpa [mjLn] using hln
              rw [show 1400000 + i9 - 1400000 = i9 by omega] at kk
              exact vk_getf hx hb ((hpre.2.2.2.2.2.2.1).2 i9 hi9) hS hown hl1 hl2 hdg (kk _ _ _ hR hS hLR)
            · cases h
      · cases h
  | putfield ix =>
    replace h : mjPut k (mjCls k) ix pc L st M = _ := h
    unfold mjPut at h
    split at h
    · cases h
    · rename_i ci f hf
      obtain ⟨-, hc1, hc2⟩ := mjFld_spec hf
      split at h
      · cases h
      · rename_i hfin
        have hfin : (mjTx ci f).2.2.2 = false ∨ (meth.name = "<init>" ∧ ci = mjCls k) := by
          by_cases h1 : (mjTx ci f).2.2.2 = true
          · by_cases h2 : mjKd k = 2 ∧ ci = mjCls k
            · exact Or.inr ⟨hinit h2.1, h2.2⟩
            · exact absurd ⟨h1, h2⟩ hfin
          · exact Or.inl (by simpa using h1)
        have hT := mjT_at hc1 hc2
        split at h
        · rename_i x a r
          split at h
          · rename_i ha
            obtain ⟨ha, hx2, -⟩ := ha
            cases h
            obtain rfl : len = 3 := by simpa [mjLn] using hln
            have hal := hR.lt ha (by omega)
            show W p l e R s m args below meth c H locs cells slots Q (F0 m pc ls (.int x :: .ref (lo a) :: st1.map (mjRn lo)))
            have hkd : (mjFk ci f = 0 ∧ mjTy ci f = .int) ∨ ((mjFk ci f = 3 ∨ mjFk ci f = 4) ∧ (mjTy ci f = .boolean ∨ mjTy ci f = .byte) ∧ (x = 0 ∨ x = 1)) := by
              unfold mjPutI at hx2
              split at hx2
              · rename_i h3
                rcases hT with h | h | h | h | h
                · omega
                · omega
                · omega
                · exact Or.inr ⟨h3, Or.inl h.2, by simpa using hx2⟩
                · exact Or.inr ⟨h3, Or.inr h.2, by simpa using hx2⟩
              · have h0 : mjFk ci f = 0 := by simpa using hx2
                rcases hT with h | h | h | h | h
                · exact Or.inl h
                · omega
                · omega
                · omega
                · omega
            refine mj_put (v := .int x) (M' := mjSi M a f x) hx hb hts hown hK hR.1 hS hf ha hfin ?_ ?_ rfl mjSi_ne ?_ hdg (fun H1 locs1 hR1 hS1 => kk _ _ _ (hR.keep hal mjSi_int hR1) hS1 hLR)
            · rcases hkd with ⟨-, h⟩ | ⟨-, h | h, rfl | rfl⟩ <;> rw [h] <;> rfl
            · rcases hkd with ⟨-, h⟩ | ⟨-, h | h, rfl | rfl⟩ <;> rw [h] <;> rfl
            · intro j hj
              by_cases hjf : j = f
              · subst hjf
                have h1 : ¬ mjFk ci j = 1 := by rcases hkd with ⟨h, -⟩ | ⟨h, -, -⟩ <;> omega
                have h2 : ¬ mjFk ci j = 2 := by rcases hkd with ⟨h, -⟩ | ⟨h, -, -⟩ <;> omega
                simp [mjFv, h1, h2, mjSi]
              · simp [mjFv, hjf, mjSi]
          · cases h
        · rename_i x a r
          split at h
          · rename_i ha
            obtain ⟨ha, hx2, -⟩ := ha
            cases h
            obtain rfl : len = 3 := by simpa [mjLn] using hln
            have hal := hR.lt ha (by omega)
            show W p l e R s m args below meth c H locs cells slots Q (F0 m pc ls (.long x :: .ref (lo a) :: st1.map (mjRn lo)))
            have hty : mjTy ci f = .long := by rcases hT with h | h | h | h | h <;> first | exact h.2 | (have := h.1; omega)
            refine mj_put (v := .long x) (M' := mjSl M a f x) hx hb hts hown hK hR.1 hS hf ha hfin ?_ ?_ rfl mjSl_ne ?_ hdg (fun H1 locs1 hR1 hS1 => kk _ _ _ (hR.keep hal (fun _ _ => rfl) hR1) hS1 hLR)
            · rw [hty]; rfl
            · rw [hty]; rfl
            · intro j hj
              by_cases hjf : j = f
              · subst hjf
                simp [mjFv, hx2, mjSl]
              · simp [mjFv, hjf, mjSl]
          · cases h
        · rename_i b a r
          split at h
          · rename_i ha
            obtain ⟨ha, hx2, -⟩ := ha
            cases h
            obtain rfl : len = 3 := by simpa [mjLn] using hln
            have hal := hR.lt ha (by omega)
            show W p l e R s m args below meth c H locs cells slots Q (F0 m pc ls (.ref (lo b) :: .ref (lo a) :: st1.map (mjRn lo)))
            have hty : (∃ z, mjTy ci f = .object z) ∨ ∃ z, mjTy ci f = .array z := by rcases hT with h | h | h | h | h <;> first | exact h.2 | (have := h.1; omega)
            refine mj_put (v := .ref (lo b)) (M' := mjSr M a f (some b)) hx hb hts hown hK hR.1 hS hf ha hfin ?_ ?_ rfl mjSr_ne ?_ hdg (fun H1 locs1 hR1 hS1 => kk _ _ _ (hR.keep hal (fun _ _ => rfl) hR1) hS1 hLR)
            · rcases hty with ⟨z, h⟩ | ⟨z, h⟩ <;> rw [h] <;> rfl
            · rcases hty with ⟨z, h⟩ | ⟨z, h⟩ <;> rw [h] <;> rfl
            · intro j hj
              by_cases hjf : j = f
              · subst hjf
                simp [mjFv, hx2, mjSr, va_rf]
              · simp [mjFv, hjf, mjSr]
          · cases h
        · rename_i a r
          split at h
          · rename_i ha
            obtain ⟨ha, hx2, -⟩ := ha
            cases h
            obtain rfl : len = 3 := by simpa [mjLn] using hln
            have hal := hR.lt ha (by omega)
            show W p l e R s m args below meth c H locs cells slots Q (F0 m pc ls (.null :: .ref (lo a) :: st1.map (mjRn lo)))
            have hty : (∃ z, mjTy ci f = .object z) ∨ ∃ z, mjTy ci f = .array z := by rcases hT with h | h | h | h | h <;> first | exact h.2 | (have := h.1; omega)
            refine mj_put (v := .null) (M' := mjSr M a f none) hx hb hts hown hK hR.1 hS hf ha hfin ?_ ?_ rfl mjSr_ne ?_ hdg (fun H1 locs1 hR1 hS1 => kk _ _ _ (hR.keep hal (fun _ _ => rfl) hR1) hS1 hLR)
            · rcases hty with ⟨z, h⟩ | ⟨z, h⟩ <;> rw [h] <;> rfl
            · rcases hty with ⟨z, h⟩ | ⟨z, h⟩ <;> rw [h] <;> rfl
            · intro j hj
              by_cases hjf : j = f
              · subst hjf
                simp [mjFv, hx2, mjSr, va_rf]
              · simp [mjFv, hjf, mjSr]
          · cases h
        · cases h
  | iaload =>
    replace h : mjIal pc L st M = _ := h
    unfold mjIal at h
    split at h
    · rename_i i9 a r
      split at h
      · rename_i ha
        subst ha
        split at h
        · rename_i hi
          cases h
          obtain rfl : len = 1 := by simpa [mjLn] using hln
          obtain ⟨hX, hX1, hX2, hX3⟩ := hscr
          have hin : vp_in i9 sc.1 := by
            have h9 := hi.2
            rw [hR.2.2.1] at h9
            rw [Int32.toInt_ofNat_of_lt (by omega)] at h9
            rintro (q | q)
            · rw [Int32.lt_iff_toInt_lt] at q
              simp at q
              omega
            · have : i9.toNatClampNeg = i9.toInt.toNat := rfl
              omega
          refine va_sld hx hb hX hX1 (fun q => by omega) hS hin hdg ?_
          rw [show sc.2 i9.toNatClampNeg = M.1 2000000 (mjIx i9) by rw [hR.2.1]; rfl]
          exact kk _ _ _ hR hS hLR
        · cases h
      · split at h
        · rename_i ha
          obtain ⟨ha, hi⟩ := ha
          cases h
          obtain rfl : len = 1 := by simpa [mjLn] using hln
          exact mj_ial hx hb hK hR.1 ha hi hdg (kk _ _ _ hR hS hLR)
        · cases h
    · cases h
  | laload =>
    replace h : mjLal pc L st M = _ := h
    unfold mjLal at h
    split at h
    · rename_i i9 a r
      split at h
      · rename_i ha
        obtain ⟨ha, hi⟩ := ha
        cases h
        obtain rfl : len = 1 := by simpa [mjLn] using hln
        exact mj_lal hx hb hK hR.1 ha hi hdg (kk _ _ _ hR hS hLR)
      · cases h
    · cases h
  | baload =>
    replace h : mjBal pc L st M = _ := h
    unfold mjBal at h
    split at h
    · rename_i i9 a r
      split at h
      · rename_i ha
        split at h
        · rename_i hi
          cases h
          obtain rfl : len = 1 := by simpa [mjLn] using hln
          exact va_tb hx hb (hpre.byt ha) hS (mjIn_spec hi).1 rfl hdg (kk _ _ _ hR hS hLR)
        · cases h
      · split at h
        · rename_i ha
          obtain ⟨ha, hi⟩ := ha
          cases h
          obtain rfl : len = 1 := by simpa [mjLn] using hln
          exact mj_bal hx hb hK hR.1 ha hi hdg (kk _ _ _ hR hS hLR)
        · cases h
    · cases h
  | getstatic ix =>
    replace h : mjGst (mjCls k) ix pc L st M = _ := h
    obtain rfl : len = 3 := by simpa [mjLn] using hln
    unfold mjGst at h
    split at h
    · rename_i h9
      cases h
      exact mjGst_one hx hb hts hown hpre hS h9 rfl hdg (kk _ _ _ hR hS hLR)
    · rename_i h9
      have hz1 := hR.2.2.2.1
      have hz2 := hR.2.2.2.2
      split at h
      · rename_i h0
        cases h
        refine mjGst_one (v := .null) hx hb hts hown hpre hS h9 ?_ hdg (kk _ _ _ hR hS hLR)
        show (if lo 1200001 = 0 then Value.null else .ref (lo 1200000)) = .null
        rw [if_pos]
        rcases (show lo 1200001 = 0 ∨ lo 1200001 = 1 by omega) with h | h
        · exact h
        · rw [h, h0] at hz1; exact absurd hz1 (by decide)
      · rename_i h0
        cases h
        refine mjGst_one (v := .ref (lo 1200000)) hx hb hts hown hpre hS h9 ?_ hdg (kk _ _ _ hR hS hLR)
        show (if lo 1200001 = 0 then Value.null else .ref (lo 1200000)) = .ref (lo 1200000)
        rw [if_neg (fun q => h0 (by rw [hz1, q]; rfl))]
    · rename_i h9; cases h; exact mjGst_one hx hb hts hown hpre hS h9 rfl hdg (kk _ _ _ hR hS hLR)
    · rename_i h9; cases h; exact mjGst_one hx hb hts hown hpre hS h9 rfl hdg (kk _ _ _ hR hS hLR)
    · rename_i h9; cases h; exact mjGst_one hx hb hts hown hpre hS h9 rfl hdg (kk _ _ _ hR hS hLR)
    · rename_i h9; cases h; exact mjGst_one hx hb hts hown hpre hS h9 rfl hdg (kk _ _ _ hR hS hLR)
    · rename_i h9; cases h; exact mjGst_one hx hb hts hown hpre hS h9 rfl hdg (kk _ _ _ hR hS hLR)
    · rename_i h9; cases h; exact mjGst_one hx hb hts hown hpre hS h9 rfl hdg (kk _ _ _ hR hS hLR)
    · cases h
  | aaload =>
    replace h : mjAal pc L st M = _ := h
    unfold mjAal at h
    split at h
    · rename_i i9 a r
      split at h
      · rename_i w hw
        split at h
        · rename_i hi
          cases h
          obtain rfl : len = 1 := by simpa [mjLn] using hln
          have k9 := kk _ _ _ hR hS hLR
          unfold mjSrd at hw
          split at hw
          · rename_i ha
            subst ha
            cases hw
            exact vb_tq hx hb hpre.2.2.2.1 hS (mjIn_spec hi).1 rfl hdg k9
          · split at hw
            · cases hw
              simp only [mjIn, decide_eq_true_eq] at hi
              omega
            · split at hw
              · rename_i ha
                subst ha
                cases hw
                exact vb_tq hx hb hpre.2.2.2.2.2.1 hS (mjIn_spec hi).1 rfl hdg k9
              · cases hw
        · cases h
      · split at h
        · rename_i ha
          obtain ⟨ha, hi⟩ := ha
          cases h
          obtain rfl : len = 1 := by simpa [mjLn] using hln
          refine mj_aal hx hb hK hR.1 ha hi hdg ?_
          rw [show va_rf ((M.2.2.1 a (mjIx i9)).map lo) = mjRn lo (va_rf (M.2.2.1 a (mjIx i9))) by cases M.2.2.1 a (mjIx i9) <;> rfl]
          exact kk _ _ _ hR hS hLR
        · cases h
    · cases h
  | iastore =>
    replace h : mjIas k pc L st M = _ := h
    unfold mjIas at h
    split at h
    · rename_i x i9 a r
      split at h
      · rename_i ha
        obtain ⟨ha, hi, -⟩ := ha
        cases h
        obtain rfl : len = 1 := by simpa [mjLn] using hln
        have hal := hR.lt ha (by decide)
        exact mj_ias (M' := mjSi M a (mjIx i9) x) hx hb hK hR.1 hS ha hi rfl mjSi_ne (by funext q; simp [mjSi, upd]) hdg (fun H1 locs1 hR1 hS1 => kk _ _ _ (hR.keep hal mjSi_int hR1) hS1 hLR)
      · cases h
    · cases h
  | lastore =>
    replace h : mjLas k pc L st M = _ := h
    unfold mjLas at h
    split at h
    · rename_i x i9 a r
      split at h
      · rename_i ha
        obtain ⟨ha, hi, -⟩ := ha
        cases h
        obtain rfl : len = 1 := by simpa [mjLn] using hln
        have hal := hR.lt ha (by decide)
        exact mj_las (M' := mjSl M a (mjIx i9) x) hx hb hK hR.1 hS ha hi rfl mjSl_ne (by funext q; simp [mjSl, vp_updL]) hdg (fun H1 locs1 hR1 hS1 => kk _ _ _ (hR.keep hal (fun _ _ => rfl) hR1) hS1 hLR)
      · cases h
    · cases h
  | bastore =>
    replace h : mjBas k pc L st M = _ := h
    unfold mjBas at h
    split at h
    · rename_i x i9 a r
      split at h
      · rename_i ha
        obtain ⟨ha, hi, hxx, -⟩ := ha
        cases h
        obtain rfl : len = 1 := by simpa [mjLn] using hln
        have hal := hR.lt ha (by decide)
        exact mj_zas (M' := mjSi M a (mjIx i9) x) hx hb hK hR.1 hS ha hi hxx rfl mjSi_ne (by funext q; simp [mjSi, upd]) hdg (fun H1 locs1 hR1 hS1 => kk _ _ _ (hR.keep hal mjSi_int hR1) hS1 hLR)
      · split at h
        · rename_i ha
          obtain ⟨ha, hi, -⟩ := ha
          cases h
          obtain rfl : len = 1 := by simpa [mjLn] using hln
          have hal := hR.lt ha (by decide)
          exact mj_bas (M' := mjSi M a (mjIx i9) (vp_nar .byte x)) hx hb hK hR.1 hS ha hi rfl mjSi_ne (by funext q; simp [mjSi, upd]) hdg (fun H1 locs1 hR1 hS1 => kk _ _ _ (hR.keep hal mjSi_int hR1) hS1 hLR)
        · cases h
    · cases h
  | aastore =>
    replace h : mjAas k pc L st M = _ := h
    unfold mjAas at h
    split at h
    · rename_i b i9 a r
      split at h
      · rename_i ha
        obtain ⟨hok, hi, -⟩ := ha
        cases h
        obtain rfl : len = 1 := by simpa [mjLn] using hln
        have hv : ∀ q, (mjSr M a (mjIx i9) (some b)).2.2.1 a q = if q = mjIx i9 then some b else M.2.2.1 a q := by intro q; simp [mjSr]
        simp only [mjAok, Bool.or_eq_true, Bool.and_eq_true] at hok
        have hcast : ∀ q ∈ mjCaL, va_Nw (.castable q.1 q.2) s := hca
        rcases hok with ((⟨ha, hb2⟩ | ⟨ha, hb2⟩) | ⟨ha, hb2⟩) | ⟨ha, hb2⟩
        · have hal := hR.lt ha (by decide)
          exact mj_aas0 (t0 := 3) (M' := mjSr M a (mjIx i9) (some b)) hx hb hK hR.1 hS rfl (Or.inl rfl) ha (mjAny (C := 7) hK hpre hR.1 hS (by decide) (mjKs_ro hb2) (Or.inl rfl)) hi rfl mjSr_ne hv hdg (fun H1 locs1 hR1 hS1 => kk _ _ _ (hR.keep hal (fun _ _ => rfl) hR1) hS1 hLR)
        · have hal := hR.lt ha (by decide)
          exact mj_aas0 (t0 := 4) (M' := mjSr M a (mjIx i9) (some b)) hx hb hK hR.1 hS rfl (Or.inr (Or.inl rfl)) ha (mjAny (C := 0) hK hpre hR.1 hS (by decide) (mjKs_ro hb2) (Or.inl rfl)) hi rfl mjSr_ne hv hdg (fun H1 locs1 hR1 hS1 => kk _ _ _ (hR.keep hal (fun _ _ => rfl) hR1) hS1 hLR)
        · have hal := hR.lt ha (by decide)
          have hany : va_Any "java/lang/Object" s H (lo b) := by
            rcases hb2 with (((hb2 | hb2) | hb2) | hb2) | hb2
            · exact mjAny (C := 12) hK hpre hR.1 hS (by decide) (mjKs_ro hb2) (Or.inr (hcast ("BatonZonesLaw$Act", "java/lang/Object") (by decide)))
            · exact mjAny (C := 15) hK hpre hR.1 hS (by decide) (mjKs_ro hb2) (Or.inr (hcast ("BatonZonesLaw$Rule", "java/lang/Object") (by decide)))
            · exact mjAny (C := 20) hK hpre hR.1 hS (by decide) (mjKs_ro hb2) (Or.inr (hcast ("java/util/ArrayList", "java/lang/Object") (by decide)))
            · exact mjAnyI hK hR.1 hb2 (hcast ("[I", "java/lang/Object") (by decide))
            · exact mjAny (C := 17) hK hpre hR.1 hS (by decide) (mjIcd_ro hb2) (Or.inr (hcast ("java/lang/Integer", "java/lang/Object") (by decide)))
          exact mj_aas0 (t0 := 6) (M' := mjSr M a (mjIx i9) (some b)) hx hb hK hR.1 hS rfl (Or.inr (Or.inr (Or.inl rfl))) ha hany hi rfl mjSr_ne hv hdg (fun H1 locs1 hR1 hS1 => kk _ _ _ (hR.keep hal (fun _ _ => rfl) hR1) hS1 hLR)
        · have hal := hR.lt ha (by decide)
          exact mj_aas0 (t0 := 7) (M' := mjSr M a (mjIx i9) (some b)) hx hb hK hR.1 hS rfl (Or.inr (Or.inr (Or.inr rfl))) ha (mjAny (C := 18) hK hpre hR.1 hS (by decide) (mjSid_ro hb2) (Or.inl rfl)) hi rfl mjSr_ne hv hdg (fun H1 locs1 hR1 hS1 => kk _ _ _ (hR.keep hal (fun _ _ => rfl) hR1) hS1 hLR)
      · cases h
    · cases h
  | arraylength =>
    replace h : mjLen pc L st M = _ := h
    unfold mjLen at h
    split at h
    · rename_i a r
      split at h
      · rename_i ha
        subst ha
        cases h
        obtain rfl : len = 1 := by simpa [mjLn] using hln
        obtain ⟨hX, hX1, hX2, hX3⟩ := hscr
        refine va_slen hx hb hX hX1 (fun q => by omega) hS hdg ?_
        rw [← hR.2.2.1]
        exact kk _ _ _ hR hS hLR
      · split at h
        · rename_i ha
          cases h
          obtain rfl : len = 1 := by simpa [mjLn] using hln
          exact va_tlen hx hb (hpre.byt ha) hS rfl hdg (kk _ _ _ hR hS hLR)
        · split at h
          · rename_i w hw
            cases h
            obtain rfl : len = 1 := by simpa [mjLn] using hln
            have k9 := kk _ _ _ hR hS hLR
            unfold mjSrd at hw
            split at hw
            · rename_i ha
              subst ha
              cases hw
              exact va_tlen hx hb hpre.2.2.2.1 hS rfl hdg k9
            · split at hw
              · rename_i ha
                subst ha
                cases hw
                exact va_tlen hx hb hpre.2.2.2.2.1 hS rfl hdg k9
              · split at hw
                · rename_i ha
                  subst ha
                  cases hw
                  exact va_tlen hx hb hpre.2.2.2.2.2.1 hS rfl hdg k9
                · cases hw
          · split at h
            · rename_i ha
              cases h
              obtain rfl : len = 1 := by simpa [mjLn] using hln
              have hat := hR.1.arr (a := a) (t := (M.2.2.2 a).1) (by simp [mjKs]) ha.1
              have hg : ∀ (t0 : Nat) (ty : FieldType), (mjTys kA)[t0]? = some (kA (M.2.2.2 a).1, ty) → W p l e R s m args below meth c H locs cells slots Q (F0 m pc ls (.ref (lo a) :: r.map (mjRn lo))) := fun t0 ty ht => va_alen hx hb hK (mjP1 hat) 0 t0 rfl ht rfl hdg (kk _ _ _ hR hS hLR)
              have hl : (M.2.2.2 a).1 = 113 ∨ (M.2.2.2 a).1 = 114 ∨ (M.2.2.2 a).1 = 115 ∨ (M.2.2.2 a).1 = 116 ∨ (M.2.2.2 a).1 = 117 ∨ (M.2.2.2 a).1 = 118 ∨ (M.2.2.2 a).1 = 119 ∨ (M.2.2.2 a).1 = 120 := by omega
              rcases hl with h1 | h1 | h1 | h1 | h1 | h1 | h1 | h1
              · exact hg 0 .int (by rw [h1]; rfl)
              · exact hg 1 .long (by rw [h1]; rfl)
              · exact hg 2 .boolean (by rw [h1]; rfl)
              · exact hg 3 (.object "BatonZones$Team") (by rw [h1]; rfl)
              · exact hg 4 (.object "BatonZones$Act") (by rw [h1]; rfl)
              · exact hg 5 .byte (by rw [h1]; rfl)
              · exact hg 6 (.object "java/lang/Object") (by rw [h1]; rfl)
              · exact hg 7 (.object "java/lang/String") (by rw [h1]; rfl)
            · cases h
    · cases h
  | irem =>
    unfold mjStp at h
    dsimp only at h
    split at h
    · split at h
      · cases h
      · rename_i y x r hy
        cases h
        obtain rfl : len = 1 := by simpa [mjLn] using hln
        exact lv_irem hx hb hdg hy (kk _ _ _ hR hS hLR)
    · cases h
  | aconst_null =>
    replace h : some (pc + 1, L, Value.null :: st, M) = some (pc1, L1, st1, M1) := h
    cases h
    obtain rfl : len = 1 := by simpa [mjLn] using hln
    exact lv_null hx hb hdg (kk _ _ _ hR hS hLR)
  | dup_x1 =>
    replace h : mjDupx pc L st M = _ := h
    unfold mjDupx at h
    split at h
    · split at h
      · rename_i hc
        cases h
        obtain rfl : len = 1 := by simpa [mjLn] using hln
        exact lv_dup_x1 hx hb hdg (mjOne_cat hc.1) (mjOne_cat hc.2) (kk _ _ _ hR hS hLR)
      · cases h
    · cases h
  | ifnonnull off =>
    replace h : mjNn off pc L st M = _ := h
    unfold mjNn at h
    split at h
    · split at h
      · cases h
        obtain rfl : len = 3 := by simpa [mjLn] using hln
        exact lv_ifnonnull hx hb hdg (mjJ_spec (by assumption)) (kk _ _ _ hR hS hLR)
      · cases h
    · cases h
  | if_acmp cc off =>
    replace h : mjAcm cc off pc L st M = _ := h
    unfold mjAcm at h
    split at h
    · split at h
      · rename_i hxy
        subst hxy
        split at h
        · cases h
          obtain rfl : len = 3 := by simpa [mjLn] using hln
          exact lv_acmp_eq (rx := some _) (ry := some _) hx hb hdg (mjJ_spec (by assumption)) (fun _ => kk _ _ _ hR hS hLR) (fun q => absurd rfl q)
        · cases h
      · cases h
    · cases h
  | checkcast ix =>
    replace h : mjCast (mjCls k) ix pc L st M = _ := h
    unfold mjCast at h
    split at h
    · rename_i a r
      split at h
      · rename_i hc
        cases h
        obtain rfl : len = 3 := by simpa [mjLn] using hln
        rcases hc with ⟨h1, h2⟩ | ⟨h1, h2⟩ | ⟨h1, h2⟩ | ⟨h1, h2⟩
        · exact va_castE (nm := "java/lang/Integer") hx hb hown (hts _ (mjCk_spec h1)) (mjRo_recv (C := 17) hK hpre hR.1 hS (by decide) (mjIcd_ro h2)) hdg (kk _ _ _ hR hS hLR)
        · exact va_castY (C := "java/lang/StringBuilder") (nm := "java/lang/AbstractStringBuilder") hx hb hown (hts _ (mjCk_spec h1)) (hca ("java/lang/StringBuilder", "java/lang/AbstractStringBuilder") (by decide)) (mjRo_recv (C := 19) hK hpre hR.1 hS (by decide) (mjKs_ro h2)) hdg (kk _ _ _ hR hS hLR)
        · exact va_castY (C := "java/util/ArrayList") (nm := "java/util/List") hx hb hown (hts _ (mjCk_spec h1)) (hca ("java/util/ArrayList", "java/util/List") (by decide)) (mjRo_recv (C := 20) hK hpre hR.1 hS (by decide) (mjKs_ro h2)) hdg (kk _ _ _ hR hS hLR)
        · refine va_castA (D := D) (cl := mjCl) (ws := [(lo a, .inl (kA 118, (mjAl M a, mjAr lo M a 118)))]) (cA := kA 118) (x := (mjAl M a, mjAr lo M a 118)) (nm := "[B") hx hb hown (hts _ (mjCk_spec h1)) (fun k9 y9 hy9 => ?_) 0 rfl (va_nm_byte (hK.2 5 (kA 118, .byte) rfl).2) hdg (kk _ _ _ hR hS hLR)
          match k9, hy9 with
          | 0, hy9 => cases hy9; exact hR.1.arr h2 (by decide)
          | k9 + 1, hy9 => cases hy9
      · cases h
    · cases h
  | instanceof ix =>
    replace h : mjInst (mjCls k) ix pc L st M = _ := h
    unfold mjInst at h
    split at h
    · rename_i a r
      split at h
      · rename_i hc
        cases h
        obtain rfl : len = 3 := by simpa [mjLn] using hln
        rcases hc with ⟨h1, h2⟩ | ⟨h1, h2⟩
        · exact va_instE (nm := "java/lang/Integer") hx hb hown (hts _ (mjCk_spec h1)) (mjRo_recv (C := 17) hK hpre hR.1 hS (by decide) (mjIcd_ro h2)) hdg (kk _ _ _ hR hS hLR)
        · exact va_instY (C := "java/lang/StringBuilder") (nm := "java/lang/AbstractStringBuilder") hx hb hown (hts _ (mjCk_spec h1)) (hca ("java/lang/StringBuilder", "java/lang/AbstractStringBuilder") (by decide)) (mjRo_recv (C := 19) hK hpre hR.1 hS (by decide) (mjKs_ro h2)) hdg (kk _ _ _ hR hS hLR)
      · split at h
        · rename_i hc
          cases h
          obtain rfl : len = 3 := by simpa [mjLn] using hln
          exact va_instNo (C := "java/lang/StringBuilder") (nm := "java/lang/String") hx hb hown (hts _ (mjCk_spec hc.1)) hnc (mjRo_recv (C := 19) hK hpre hR.1 hS (by decide) (mjKs_ro hc.2)) hdg (kk _ _ _ hR hS hLR)
        · cases h
    · cases h
  | _ => cases (show (none : mjO) = some (pc1, L1, st1, M1) from h)
end MJ4
