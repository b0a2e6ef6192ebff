/-! rows that store references, copy bytes and make cells; the locals -/
section MJ2
variable {p : Program} {l : Launch} {e : Env} {R : Room} {s : State} {m : MethodId} {args : Array Value} {below : List Frame} {meth : Method} {c : Code} {H : Heap} {locs : List Loc} {cells slots : Nat} {Q : State → Prop}
variable {cc : ByteArray} {pc : Nat} {ls : Array Slot} {rest : List Value} {D : va_G} {kA : Nat → ClassId} {lo sg : Nat → Nat} {base n : Nat} {M M' : mjMem} {H0 : Heap} {A : Nat → Prop}
theorem mj_aas0 (hexec : p.tables.exec = Jvm.exec) (hb : c.code = cc) (hK : va_K D mjCl (mjTys kA) s) (hR : mjRep D kA lo sg base n M H) (hS : va_S (fun q => base ≤ q) H0 H locs) {a b t t0 : Nat} {E : String} {i : Int32} (ht : (mjTys kA)[t0]? = some (kA t, .object E)) (ht2 : t = 116 ∨ t = 117 ∨ t = 119 ∨ t = 120) (ha : mjKs M a t = true) (hr : va_Any E s H (lo b)) (hi : mjIn i (mjAl M a) = true) (hk' : M'.2.2.2 = M.2.2.2) (ho : ∀ j, j ≠ a → mjCell kA lo M' j = mjCell kA lo M j) (hv : ∀ k, M'.2.2.1 a k = if k = mjIx i then some b else M.2.2.1 a k) (hdg : decode cc pc = .ok (.aastore, 1))
    (kk : ∀ (H1 : Heap) (locs1 : List Loc), mjRep D kA lo sg base n M' H1 → va_S (fun q => base ≤ q) H0 H1 locs1 → W p l e R s m args below meth c H1 locs1 cells slots Q (F0 m (pc + 1) ls rest)) : W p l e R s m args below meth c H locs cells slots Q (F0 m pc ls (.ref (lo b) :: .int i :: .ref (lo a) :: rest)) := by
  have har : ∀ M0 : mjMem, mjAr lo M0 a t = .inr (.inr (.inr (.inr (fun k => (M0.2.2.1 a k).map lo)))) := fun M0 => by
    unfold mjAr
    rw [if_neg (by omega), if_pos ht2]
  have hat := hR.arr ha (by omega)
  rw [har] at hat
  have hat2 : H[lo a]? = some (arrV (kA t) (mjAl M a) (fun j => va_rf ((M.2.2.1 a j).map lo))) := hat
  obtain ⟨hin, hix⟩ := mjIn_spec hi
  have hlt : i.toNatClampNeg < mjAl M a := Nat.not_le.mp fun q => hin (Or.inr q)
  have h0 : ¬ i < 0 := fun q => hin (Or.inl q)
  obtain ⟨cellV, g1, g3, ⟨kC, hkC⟩, hasg⟩ := hr
  obtain ⟨kA', comp, k1, k2, k3, -⟩ := (hK.2 t0 _ ht).2
  obtain ⟨kE, hkE, -⟩ := Vm.findClass_spec k3
  refine W.aast hexec hb hat2 (fun q h => by cases h) (fun h => by cases h) k1 k2 rfl hkE ⟨h0, by show _ < (arrV _ _ _).slots.size; rw [arrV_size]; exact hlt⟩ g1 (fun q h => by rw [h] at g3; cases g3) hkC (hasg _ k3) rfl rfl hdg fun H1 e z oq => ?_
  rw [hix] at e
  refine kk H1 _ (hR.upd ha (by omega) z oq hk' ho (mj_arr0 hR ha (by omega) hk' e ?_)) (hS.put z oq (hR.low ha (by omega)))
  rw [har]
  show arrV (kA t) (mjAl M a) (fun j => va_rf ((M'.2.2.1 a j).map lo)) = _
  congr 1
  funext q
  rw [hv q]
  by_cases hq : q = mjIx i
  · subst hq
    simp [updV, va_rf]
  · simp [updV, hq]
theorem mj_nn {z : Int32} (hz : 0 ≤ z.toInt) : ¬ z < 0 ∧ z.toNatClampNeg = z.toInt.toNat ∧ z.toInt = (z.toNatClampNeg : Int) := by
  refine ⟨fun q => ?_, rfl, ?_⟩
  · rw [Int32.lt_iff_toInt_lt] at q
    simp at q
    omega
  · show z.toInt = ((z.toInt.toNat : Nat) : Int)
    omega
/-- a run of bytes copied into a row of bytes of ours -/
theorem mj_copy0 (hexec : p.tables.exec = Jvm.exec) (hb : c.code = cc) (hml : c.maxLocals = ls.size) {own : String} {index : Nat} (hown : s.vm.findClass own = some m.cls) (hlink : (Cond.methodLink own index arraycopyName).before args s = true) (hnat : (Cond.native arraycopyName).before args s = true) (hstat : (Cond.static arraycopyName).before args s = true) (hini : (Cond.initialized "java/lang/System").before args s = true)
    (hK : va_K D mjCl (mjTys kA) s) (hR : mjRep D kA lo sg base n M H) (hS : va_S (fun q => base ≤ q) H0 H locs) {a b0 n0 : Nat} {cs : Cell} {f : Nat → Int32} (hc0 : H[b0]? = some cs) (hs2 : s.isArrayOf cs .byte) (hs3 : cs.vm ≠ .unknown) (hs4 : n0 ≤ cs.slots.size) (hs5 : ∀ j : Nat, j < n0 → cs.slots[j]? = some (.int (f j))) (ha : mjKs M a 118 = true)
    {sp dp w : Int32} (h1 : 0 ≤ sp.toInt) (h2 : 0 ≤ dp.toInt) (h3 : 0 ≤ w.toInt) (h4 : sp.toInt.toNat + w.toInt.toNat ≤ n0) (h5 : dp.toInt.toNat + w.toInt.toNat ≤ mjAl M a) (hfit : mjFit f sp.toInt.toNat w.toInt.toNat = true) (hk' : M'.2.2.2 = M.2.2.2) (ho : ∀ j, j ≠ a → mjCell kA lo M' j = mjCell kA lo M j) (hv : M'.1 a = va_cpy f (M.1 a) sp.toInt.toNat dp.toInt.toNat w.toInt.toNat)
    (hframes : 1 ≤ R.frames) (hlocals : (rest.map fun v => v.category).sum + (nativeFrameWords "java/lang/System" "arraycopy" 5 + 11) ≤ R.locals) (hdg : decode cc pc = .ok (.invokestatic index, 3))
    (kk : ∀ (H1 : Heap) (locs1 : List Loc), mjRep D kA lo sg base n M' H1 → va_S (fun q => base ≤ q) H0 H1 locs1 → W p l e R s m args below meth c H1 locs1 cells slots Q (F0 m (pc + 3) ls rest)) : W p l e R s m args below meth c H locs cells slots Q (F0 m pc ls (.int w :: .int dp :: .ref (lo a) :: .int sp :: .ref b0 :: rest)) := by
  obtain ⟨p1, p2, p3⟩ := mj_nn h1
  obtain ⟨q1, q2, q3⟩ := mj_nn h2
  obtain ⟨w1, w2, w3⟩ := mj_nn h3
  have hc1 : H[lo a]? = some (arrV (kA 118) (mjAl M a) (fun j => .int (M.1 a j))) := hR.arr ha (by decide)
  have hcd : vp_cell (kA 118) (mjAl M a, .inl (M.1 a)) = arrV (kA 118) (mjAl M a) (fun j => .int (M.1 a j)) := rfl
  obtain ⟨hs6, k0, hk0, cm0, hkk0⟩ := hs2
  obtain ⟨-, k1, hk1, cm1, hkk1⟩ := (hK.2 5 (kA 118, .byte) rfl).1 (mjAl M a) (fun j => .int (M.1 a j))
  have hrun : copied cs (arrV (kA 118) (mjAl M a) (fun j => .int (M.1 a j))) sp dp w = arrV (kA 118) (mjAl M a) (fun j => .int (M'.1 a j)) := by
    rw [hv]
    exact va_copiedX (fun z => .int z) cs (kA 118) f (M.1 a) hs5 h4
  have hbase := hR.low ha (by decide)
  intro T hT X
  obtain ⟨vm', X', step⟩ := X.arraycopy hexec hown hlink hnat hstat hini (src := b0) (dst := lo a) (cs := cs) (cd := arrV (kA 118) (mjAl M a) (fun j => .int (M.1 a j))) (srcPos := sp) (destPos := dp) (n := w) (by rw [hT]; exact hc0) (by rw [hT]; exact hc1)
    hs6 (fun _ h => by cases h) hs3 (fun h => by cases h) hk0 hk1 hkk0 hkk1 (by simp [refKind]) p1 q1 w1
    (by rw [p3, w3]; omega)
    (by rw [q3, w3, arrV_size]; omega)
    (fun vm₁ _ i hi => by
      have e : cs.slots.getD (sp.toNatClampNeg + i) .null = .int (f (sp.toNatClampNeg + i)) := by
        rw [Array.getD_eq_getD_getElem?, hs5 _ (by omega)]
        rfl
      rw [e]
      exact ⟨List.all_eq_true.mp hfit i (List.mem_range.mpr hi), trivial⟩)
    (g := F0 m pc ls (.int w :: .int dp :: .ref (lo a) :: .int sp :: .ref b0 :: rest)) rfl (by rw [hml]) (rest := rest) rfl (by rw [hb]; exact hdg) hframes (by show 2 * 0 + _ + _ ≤ _; omega)
  rw [hrun] at X' step
  generalize hN : arrV (kA 118) (mjAl M a) (fun j => .int (M'.1 a j)) = N at X' step
  have hl : lo a < H.size := (Array.getElem?_eq_some_iff.mp hc1).1
  have hheap : ((T.setVm vm').setCell (lo a) N).heap = H.setIfInBounds (lo a) N := by rw [← hT]; rfl
  have oq : ∀ q : Nat, q ≠ lo a → (H.setIfInBounds (lo a) N)[q]? = H[q]? := fun q hq => by simp [Array.getElem?_setIfInBounds, Ne.symm hq]
  have hz : (H.setIfInBounds (lo a) N).size = H.size := by simp
  have hat : va_at D mjCl (lo a, mjCell kA lo M' a) (H.setIfInBounds (lo a) N) := by
    rw [mjCell, hk', mjKs_spec ha, if_neg (by decide)]
    show (H.setIfInBounds (lo a) N)[lo a]? = some (arrV (kA 118) (mjAl M a) (fun j => .int (M'.1 a j)))
    rw [hN]
    simp [Array.getElem?_setIfInBounds, hl]
  obtain ⟨t, a1, b1⟩ := kk _ _ (hR.upd ha (by decide) hz oq hk' ho hat) ⟨by rw [hz]; exact hS.1, fun q g1 g2 => by
      rw [oq q (fun e => g2 (by rw [e]; exact hbase))]
      exact hS.2.1 q g1 g2, fun q hq => by
      rcases List.mem_append.mp hq with h | h
      · exact hS.2.2 q h
      · obtain ⟨z, -, hz2⟩ := List.mem_map.mp h
        rw [← hz2]
        exact hbase⟩ _ hheap X'
  exact ⟨t, step t a1, b1⟩
theorem mj_new (hexec : p.tables.exec = Jvm.exec) (hb : c.code = cc) (hts : ∀ w ∈ mjW, w.before args s = true) {own ix ci : Nat} (hown : s.vm.findClass (mjCn own) = some m.cls) (hK : va_K D mjCl (mjTys kA) s) (hR : mjRep D kA lo sg base n M H) (hS : va_S (fun q => base ≤ q) H0 H locs) (hci : ci < 21) (hn : n < 100000) (h1 : Cond.classLink (mjCn own) ix (mjCn ci) ∈ mjW) (h2 : Cond.instantiable (mjCn ci) (mjNf ci) ∈ mjW) (h3 : Cond.initialized (mjCn ci) ∈ mjW) (hl : M'.2.2.2 (sg n) = (ci, 0))
    (hk : ∀ a, a ≠ sg n → M'.2.2.2 a = M.2.2.2 a) (ho : ∀ j, j ≠ sg n → mjCell kA lo M' j = mjCell kA lo M j) (hv : ∀ k, k < mjNf ci → mjFv lo M' (sg n) ci k = defaultValue (mjTy ci k)) (hcells : cells + 1 ≤ R.cells) (hslots : slots + mjNf ci ≤ R.slots) (hdg : decode cc pc = .ok (.new ix, 3))
    (kk : ∀ (H1 : Heap), mjRep D kA lo sg base (n + 1) M' H1 → va_S (fun q => base ≤ q) H0 H1 locs → W p l e R s m args below meth c H1 locs (cells + 1) (slots + mjNf ci) Q (F0 m (pc + 3) ls (.ref (base + n) :: rest))) : W p l e R s m args below meth c H locs cells slots Q (F0 m pc ls rest) := by
  have hc := mjCl_at hci
  have hKn := hK.1 ci _ hc
  have hsz := hR.1.1
  refine W.newcK hexec hb hown (hts _ h1) (hts _ h2) (hts _ h3) rfl hdg hcells hslots hKn.2.1 hsz fun H1 kC hkC e1 z1 o1 => ?_
  refine kk H1 (hR.push hn (by rw [z1, hsz]) (fun q hq => o1 q (by rw [← hsz]; exact hq)) hk ho ?_) ⟨Nat.le_trans hS.1 (by rw [z1, hsz]; omega), fun x g1 g2 => (o1 x (by have := hS.1; omega)).trans (hS.2.1 x g1 g2), hS.2.2⟩
  rw [mjCell, hl, if_pos (by show ci < 100; omega)]
  refine ⟨_, hc, (u_born (mjTy ci) hts (mjU_in hci) hKn hkC e1 (mjC_ty hci)).to (fun k hk => ?_)⟩
  show _ = vp_V (mjFs lo M' (sg n) ci) k
  rw [vp_V, List.getD_eq_getElem?_getD, mjFs_at hk, Option.getD_some, hv k hk]
theorem mj_cln (hexec : p.tables.exec = Jvm.exec) (hb : c.code = cc) (hml : c.maxLocals = ls.size) {own : String} {index : Nat} (hown : s.vm.findClass own = some m.cls) (hlink : (Cond.methodLink own index ⟨"[B", "clone", "()Ljava/lang/Object;"⟩).before args s = true) (hsame : (Cond.sameMethod "[B" "java/lang/Object" "clone" "()Ljava/lang/Object;").before args s = true)
    (hnat : (Cond.native ⟨"java/lang/Object", "clone", "()Ljava/lang/Object;"⟩).before args s = true) (hinst : (Cond.instanceMethod ⟨"java/lang/Object", "clone", "()Ljava/lang/Object;"⟩).before args s = true)
    (hsel : (Cond.selects "[B" ⟨"[B", "clone", "()Ljava/lang/Object;"⟩ ⟨"java/lang/Object", "clone", "()Ljava/lang/Object;"⟩).before args s = true) (hcl : va_Nw (.castable "[B" "java/lang/Cloneable") s) (hn : n < 100000)
    (hK : va_K D mjCl (mjTys kA) s) (hR : mjRep D kA lo sg base n M H) (hS : va_S (fun q => base ≤ q) H0 H locs) {a : Nat} (ha : mjKs M a 118 = true) (hfit : mjFit (M.1 a) 0 (mjAl M a) = true)
    (hframes : 1 ≤ R.frames) (hlocals : (rest.map fun v => v.category).sum + 14 ≤ R.locals) (hcells : cells + 1 ≤ R.cells) (hslots : slots + mjAl M a ≤ R.slots) (hdg : decode cc pc = .ok (.invokevirtual index, 3))
    (hk' : ∀ b, b ≠ sg n → M'.2.2.2 b = M.2.2.2 b) (hl' : M'.2.2.2 (sg n) = (118, mjAl M a)) (ho : ∀ j, j ≠ sg n → mjCell kA lo M' j = mjCell kA lo M j) (hv : M'.1 (sg n) = M.1 a)
    (kk : ∀ (H1 : Heap), mjRep D kA lo sg base (n + 1) M' H1 → va_S (fun q => base ≤ q) H0 H1 locs → W p l e R s m args below meth c H1 locs (cells + 1) (slots + mjAl M a) Q (F0 m (pc + 3) ls (.ref (base + n) :: rest))) : W p l e R s m args below meth c H locs cells slots Q (F0 m pc ls (.ref (lo a) :: rest)) := by
  have hc1 : H[lo a]? = some (arrV (kA 118) (mjAl M a) (fun j => .int (M.1 a j))) := hR.arr ha (by decide)
  have hnm : s.vm.findClass "[B" = some (kA 118) := va_nm_byte (hK.2 5 (kA 118, .byte) rfl).2
  obtain ⟨c0, t0', f1, f2, f3⟩ := Cond.castable_spec (va_Nw.use (A := args) rfl hcl)
  cases hnm.symm.trans f1
  have hH : H.size = base + n := hR.1.1
  generalize hN : arrV (kA 118) (mjAl M a) (fun j => .int (M.1 a j)) = N at hc1
  have hcl0 : N.cls = kA 118 := by rw [← hN]; rfl
  have hvm0 : N.vm = .none := by rw [← hN]; rfl
  have hszN : N.slots.size = mjAl M a := by rw [← hN]; exact arrV_size _ _ _
  have hcellE : ({ cls := N.cls, slots := N.slots } : Cell) = N := by rw [← hN]; rfl
  intro T hT X
  obtain ⟨-, k1, hk1, cm1, hkk1⟩ := State.isArrayOf_alike X.warmed.alike ((hK.2 5 (kA 118, .byte) rfl).1 0 (fun _ => .null))
  obtain ⟨-, k2, hk2, cm2, hkk2⟩ := (hK.2 5 (kA 118, .byte) rfl).1 0 (fun _ => .null)
  obtain ⟨vm', X', st⟩ := X.cloneArray hexec hown hlink hsame hnat hinst hsel (a := lo a) (cell := N) (by rw [hT]; exact hc1) (fun k h => by rw [hvm0] at h; cases h) (by rw [hvm0]; exact fun h => by cases h) (by rw [hcl0]; exact hnm) f2 (by rw [hcl0]; exact f3)
    (fun i v hv9 => by
      rw [hcl0]
      have hk9 : T.vm.classes[kA 118]? = some k1 := hk1
      have hf9 : fits .byte v = true := by
        rw [← hN] at hv9
        refine va_fit (cA := kA 118) (n := mjAl M a) (F := fun j => .int (M.1 a j)) (fun i hi => ?_) i v hv9
        have := List.all_eq_true.mp hfit i (List.mem_range.mpr hi)
        rwa [Nat.zero_add] at this
      simpa [State.fitsSlot, State.slotType?, hk9, hkk1] using hf9)
    (g := F0 m pc ls (.ref (lo a) :: rest)) rfl (by rw [hml]) rfl (by rw [hb]; exact hdg) hframes (by show 2 * 0 + _ + 14 ≤ _; omega) hcells (by rw [hszN]; exact hslots) (hloader := by rw [hcl0]; exact Vm.clonesLoader_of_array hk2 hkk2)
  rw [hcellE, hszN] at X'
  generalize hH1 : H.push N = H1
  have z1 : H1.size = H.size + 1 := by rw [← hH1, Array.size_push]
  have e1 : H1[base + n]? = some N := by rw [← hH1, ← hH, Array.getElem?_push_size]
  have o1 : ∀ q : Nat, q < H.size → H1[q]? = H[q]? := fun q hq => by rw [← hH1, Array.getElem?_push, if_neg (Nat.ne_of_lt hq)]
  have hkk := kk H1 (hR.push hn z1 o1 hk' ho (by
    rw [mjCell, hl', if_neg (show ¬ (118 : Nat) < 100 by decide)]
    show H1[base + n]? = some (arrV (kA 118) (mjAl M a) (fun j => .int (M'.1 (sg n) j)))
    rw [hv, hN]
    exact e1)) ⟨Nat.le_trans hS.1 (by omega), fun y h1 h2 => (o1 y (Nat.lt_of_lt_of_le h1 hS.1)).trans (hS.2.1 y h1 h2), hS.2.2⟩
  have hgo := hkk ((T.setVm vm').pushCell N) (by rw [← hH1, ← hT]; rfl)
  rw [← hH, ← hT] at hgo
  obtain ⟨t, b1, b2⟩ := hgo X'
  refine ⟨t, st t ?_, b2⟩
  rw [hcellE]
  exact b1
theorem mj_newa (hexec : p.tables.exec = Jvm.exec) (hb : c.code = cc) (hts : ∀ w ∈ mjW, w.before args s = true) {atype : ArrayType} {t t0 : Nat} (hw : Cond.arrayClass (newarray.typeOf atype) ∈ mjW) (ht : (mjTys kA)[t0]? = some (kA t, newarray.typeOf atype)) (ht2 : 113 ≤ t) (hn : n < 100000) (hK : va_K D mjCl (mjTys kA) s) (hR : mjRep D kA lo sg base n M H) (hS : va_S (fun q => base ≤ q) H0 H locs) {x : Int32} (hx : 0 ≤ x.toInt) (hx2 : x.toInt ≤ 100000) (hl : M'.2.2.2 (sg n) = (t, x.toInt.toNat))
    (hk : ∀ a, a ≠ sg n → M'.2.2.2 a = M.2.2.2 a) (ho : ∀ j, j ≠ sg n → mjCell kA lo M' j = mjCell kA lo M j) (hcell : vp_cell (kA t) (x.toInt.toNat, mjAr lo M' (sg n) t) = arrV (kA t) x.toInt.toNat (fun _ => defaultValue (newarray.typeOf atype))) (hcells : cells + 1 ≤ R.cells) (hslots : slots + x.toInt.toNat ≤ R.slots) (hdg : decode cc pc = .ok (.newarray atype, 2))
    (kk : ∀ (H1 : Heap), mjRep D kA lo sg base (n + 1) M' H1 → va_S (fun q => base ≤ q) H0 H1 locs → W p l e R s m args below meth c H1 locs (cells + 1) (slots + x.toInt.toNat) Q (F0 m (pc + 2) ls (.ref (base + n) :: rest))) : W p l e R s m args below meth c H locs cells slots Q (F0 m pc ls (.int x :: rest)) := by
  have hsz := hR.1.1
  have hbt : x.toInt.toNat * componentBytes (newarray.typeOf atype) ≤ 536870912 := by
    have h1 : componentBytes (newarray.typeOf atype) ≤ 8 := by cases atype <;> decide
    have h2 := Nat.mul_le_mul (show x.toInt.toNat ≤ 100000 by omega) h1
    omega
  refine va_newaK hexec hb (hts _ hw) rfl hdg rfl (by rw [Int32.lt_iff_toInt_lt]; simp; omega) (show x.toNatClampNeg = x.toInt.toNat from rfl) hbt hcells hslots hsz fun H1 cA e1 z1 o1 hAr hNm => ?_
  have hcA : cA = kA t := by
    have h9 := (hK.2 t0 _ ht).2
    have h8 : s.vm.findClass ("[" ++ (newarray.typeOf atype).toString) = some (kA t) := by cases atype <;> exact h9
    exact Option.some.inj (hNm.symm.trans h8)
  subst hcA
  refine kk H1 (hR.push hn (by rw [z1, hsz]) (fun q hq => o1 q (by rw [← hsz]; exact hq)) hk ho ?_) ⟨Nat.le_trans hS.1 (by rw [z1, hsz]; omega), fun x g1 g2 => (o1 x (by have := hS.1; omega)).trans (hS.2.1 x g1 g2), hS.2.2⟩
  rw [mjCell, hl, if_neg (by show ¬ t < 100; omega)]
  show H1[base + n]? = some (vp_cell _ _)
  rw [hcell]
  exact e1
theorem mj_anew (hexec : p.tables.exec = Jvm.exec) (hb : c.code = cc) (hts : ∀ w ∈ mjW, w.before args s = true) {own ix t t0 : Nat} {C : String} (hown : s.vm.findClass (mjCn own) = some m.cls) (hw : Cond.classLink (mjCn own) ix C ∈ mjW) (hover : va_AO C s) (ht : (mjTys kA)[t0]? = some (kA t, .object C)) (ht2 : t = 116 ∨ t = 117 ∨ t = 119 ∨ t = 120) (hn : n < 100000) (hK : va_K D mjCl (mjTys kA) s) (hR : mjRep D kA lo sg base n M H) (hS : va_S (fun q => base ≤ q) H0 H locs) {x : Int32} (hx : 0 ≤ x.toInt) (hx2 : x.toInt ≤ 100000) (hl : M'.2.2.2 (sg n) = (t, x.toInt.toNat))
    (hk : ∀ a, a ≠ sg n → M'.2.2.2 a = M.2.2.2 a) (ho : ∀ j, j ≠ sg n → mjCell kA lo M' j = mjCell kA lo M j) (hv : ∀ k, M'.2.2.1 (sg n) k = none) (hcells : cells + 1 ≤ R.cells) (hslots : slots + x.toInt.toNat ≤ R.slots) (hdg : decode cc pc = .ok (.anewarray ix, 3))
    (kk : ∀ (H1 : Heap), mjRep D kA lo sg base (n + 1) M' H1 → va_S (fun q => base ≤ q) H0 H1 locs → W p l e R s m args below meth c H1 locs (cells + 1) (slots + x.toInt.toNat) Q (F0 m (pc + 3) ls (.ref (base + n) :: rest))) : W p l e R s m args below meth c H locs cells slots Q (F0 m pc ls (.int x :: rest)) := by
  have hsz := hR.1.1
  refine W.eq (g2 := F0 m pc ls (.int x :: rest)) rfl ?_
  refine W.anew hexec hb hown (hts _ hw) (va_AO.use hover) rfl hdg rfl (by rw [Int32.lt_iff_toInt_lt]; simp; omega) (show x.toNatClampNeg * 4 ≤ 536870912 by have : x.toNatClampNeg = x.toInt.toNat := rfl; omega) hcells hslots fun cA kA' comp f1 f2 f3 f4 => ?_
  have hcA : cA = kA t := by
    obtain ⟨_, _, -, -, -, h4⟩ := (hK.2 t0 _ ht).2
    exact Option.some.inj (f1.symm.trans h4)
  subst hcA
  have hxx : x.toNatClampNeg = x.toInt.toNat := rfl
  generalize hH1 : H.push ({ cls := kA t, slots := Array.replicate x.toNatClampNeg .null, vm := .none } : Cell) = H1
  have z1 : H1.size = H.size + 1 := by rw [← hH1, Array.size_push]
  have e1 : H1[H.size]? = some (arrV (kA t) x.toNatClampNeg (fun _ => .null)) := by rw [← hH1, Array.getElem?_push_size, ← arrV_new]
  have o1 : ∀ q : Nat, q < H.size → H1[q]? = H[q]? := fun q hq => by rw [← hH1, Array.getElem?_push, if_neg (Nat.ne_of_lt hq)]
  rw [show (Value.ref H.size) = Value.ref (base + n) by rw [hsz]]
  refine kk H1 (hR.push hn z1 o1 hk ho ?_) ⟨Nat.le_trans hS.1 (by omega), fun x g1 g2 => (o1 x (by have := hS.1; omega)).trans (hS.2.1 x g1 g2), hS.2.2⟩
  have har : mjAr lo M' (sg n) t = .inr (.inr (.inr (.inr (fun k => (M'.2.2.1 (sg n) k).map lo)))) := by
    unfold mjAr
    rw [if_neg (by omega), if_pos ht2]
  rw [mjCell, hl, if_neg (by show ¬ t < 100; omega)]
  show H1[base + n]? = some (vp_cell (kA t) (x.toInt.toNat, mjAr lo M' (sg n) t))
  rw [har, ← hsz, e1, hxx]
  show _ = some (arrV (kA t) x.toInt.toNat (fun j => va_rf ((M'.2.2.1 (sg n) j).map lo)))
  congr 2
  funext j
  rw [hv j]
  rfl
/-- the locals -/
def mjLR (lo : Nat → Nat) (ls : Array Slot) (nL : Nat) (L : mjLs) : Prop := L.length = nL ∧ lv_has ls nL [] ∧ ∀ (i : Nat) (v : Value), L[i]? = some (some v) → ls[i]? = some (.val (mjRn lo v))
def mjPl (lo : Nat → Nat) (L : mjLs) : List (Nat × Value) := (List.range L.length).filterMap (fun i => match L[i]? with
  | some (some v) => some (i, mjRn lo v)
  | _ => none)
theorem mjPl_mem {L : mjLs} {i : Nat} {w : Value} : (i, w) ∈ mjPl lo L ↔ ∃ v, L[i]? = some (some v) ∧ w = mjRn lo v := by
  simp only [mjPl, List.mem_filterMap, List.mem_range]
  constructor
  · rintro ⟨j, hj, h⟩
    split at h
    · rename_i v hv
      simp only [Option.some.injEq, Prod.mk.injEq] at h
      obtain ⟨rfl, rfl⟩ := h
      exact ⟨v, hv, rfl⟩
    · cases h
  · rintro ⟨v, hv, rfl⟩
    refine ⟨i, (List.getElem?_eq_some_iff.mp hv).1, ?_⟩
    rw [hv]
theorem mjLR.has {nL : Nat} {L : mjLs} (h : mjLR lo ls nL L) : lv_has ls nL (mjPl lo L) := by
  refine ⟨h.2.1.1, h.2.1.2.1, fun q hq => ?_⟩
  obtain ⟨i, w⟩ := q
  obtain ⟨v, h1, rfl⟩ := mjPl_mem.mp hq
  exact h.2.2 i v h1
theorem mjLR.ld {nL j : Nat} {L : mjLs} {v : Value} (h : mjLR lo ls nL L) (hv : mjLd L j = some v) : ls[j]? = some (.val (mjRn lo v)) := by
  refine h.2.2 j v ?_
  simp only [mjLd, List.getD_eq_getElem?_getD] at hv
  cases hx : L[j]? with
  | none => rw [hx] at hv; cases hv
  | some x => rw [hx] at hv; exact congrArg some hv
theorem mjLd_lt {L : mjLs} {j : Nat} {v : Value} (hv : mjLd L j = some v) : j < L.length := by
  simp only [mjLd, List.getD_eq_getElem?_getD] at hv
  cases hx : L[j]? with
  | none => rw [hx] at hv; cases hv
  | some x => exact (List.getElem?_eq_some_iff.mp hx).1
theorem mjRn_cat (v : Value) : (mjRn lo v).category = v.category := by cases v <;> rfl
theorem mjSet1_len : ∀ (L : mjLs) (i : Nat) (v : Value), (mjSet1 L i v).length = L.length
  | [], _, _ => rfl
  | _ :: r, 0, v => rfl
  | x :: r, 1, v => by simp only [mjSet1, List.length_cons, mjSet1_len r 0 v]
  | x :: r, j + 2, v => by simp only [mjSet1, List.length_cons, mjSet1_len r (j + 1) v]
theorem mjSet2_len : ∀ (L : mjLs) (i : Nat) (v : Value), (mjSet2 L i v).length = L.length
  | [], _, _ => rfl
  | _ :: [], 0, v => rfl
  | _ :: _ :: r, 0, v => rfl
  | x :: r, 1, v => by simp only [mjSet2, List.length_cons, mjSet2_len r 0 v]
  | x :: r, j + 2, v => by simp only [mjSet2, List.length_cons, mjSet2_len r (j + 1) v]
theorem mjK1_some {x : Option Value} {w : Value} (h : mjK1 x = some w) : x = some w ∧ ¬ w.category = 2 := by
  unfold mjK1 at h
  split at h
  · cases h
  · cases h
  · rename_i h1 h2
    refine ⟨h, ?_⟩
    subst h
    cases w <;> simp [Value.category] <;> first | exact (h1 _ rfl).elim | exact (h2 _ rfl).elim
theorem mjSet1_at : ∀ (L : mjLs) (i : Nat) (v : Value) (j : Nat) (w : Value), (mjSet1 L i v)[j]? = some (some w) → (j = i ∧ w = v) ∨ (j ≠ i ∧ L[j]? = some (some w) ∧ ¬ (j + 1 = i ∧ w.category = 2))
  | [], _, _, j, w, h => by simp [mjSet1] at h
  | x :: r, 0, v, 0, w, h => by simp [mjSet1] at h; exact Or.inl ⟨rfl, h.symm⟩
  | x :: r, 0, v, j + 1, w, h => by
    simp [mjSet1] at h
    exact Or.inr ⟨by omega, by simpa using h, by omega⟩
  | x :: r, 1, v, 0, w, h => by
    simp [mjSet1] at h
    obtain ⟨h1, h2⟩ := mjK1_some h
    subst h1
    exact Or.inr ⟨by omega, rfl, fun q => h2 q.2⟩
  | x :: r, 1, v, j + 1, w, h => by
    simp only [mjSet1, List.getElem?_cons_succ] at h
    rcases mjSet1_at r 0 v j w h with ⟨h1, h2⟩ | ⟨h1, h2, h3⟩
    · exact Or.inl ⟨by omega, h2⟩
    · exact Or.inr ⟨by omega, by simpa using h2, by omega⟩
  | x :: r, i + 2, v, 0, w, h => by
    simp [mjSet1] at h
    subst h
    exact Or.inr ⟨by omega, rfl, by omega⟩
  | x :: r, i + 2, v, j + 1, w, h => by
    simp only [mjSet1, List.getElem?_cons_succ] at h
    rcases mjSet1_at r (i + 1) v j w h with ⟨h1, h2⟩ | ⟨h1, h2, h3⟩
    · exact Or.inl ⟨by omega, h2⟩
    · exact Or.inr ⟨by omega, by simpa using h2, fun q => h3 ⟨by omega, q.2⟩⟩
theorem mjSet2_at : ∀ (L : mjLs) (i : Nat) (v : Value) (j : Nat) (w : Value), (mjSet2 L i v)[j]? = some (some w) → (j = i ∧ w = v) ∨ (j ≠ i ∧ j ≠ i + 1 ∧ L[j]? = some (some w) ∧ ¬ (j + 1 = i ∧ w.category = 2))
  | [], _, _, j, w, h => by simp [mjSet2] at h
  | [x], 0, v, 0, w, h => by simp [mjSet2] at h; exact Or.inl ⟨rfl, h.symm⟩
  | [x], 0, v, j + 1, w, h => by simp [mjSet2] at h
  | x :: y :: r, 0, v, 0, w, h => by simp [mjSet2] at h; exact Or.inl ⟨rfl, h.symm⟩
  | x :: y :: r, 0, v, 1, w, h => by simp [mjSet2] at h
  | x :: y :: r, 0, v, j + 2, w, h => by
    simp [mjSet2] at h
    exact Or.inr ⟨by omega, by omega, by simpa using h, by omega⟩
  | x :: r, 1, v, 0, w, h => by
    simp [mjSet2] at h
    obtain ⟨h1, h2⟩ := mjK1_some h
    subst h1
    exact Or.inr ⟨by omega, by omega, rfl, fun q => h2 q.2⟩
  | x :: r, 1, v, j + 1, w, h => by
    simp only [mjSet2, List.getElem?_cons_succ] at h
    rcases mjSet2_at r 0 v j w h with ⟨h1, h2⟩ | ⟨h1, h1', h2, h3⟩
    · exact Or.inl ⟨by omega, h2⟩
    · exact Or.inr ⟨by omega, by omega, by simpa using h2, by omega⟩
  | x :: r, i + 2, v, 0, w, h => by
    simp [mjSet2] at h
    subst h
    exact Or.inr ⟨by omega, by omega, rfl, by omega⟩
  | x :: r, i + 2, v, j + 1, w, h => by
    simp only [mjSet2, List.getElem?_cons_succ] at h
    rcases mjSet2_at r (i + 1) v j w h with ⟨h1, h2⟩ | ⟨h1, h1', h2, h3⟩
    · exact Or.inl ⟨by omega, h2⟩
    · exact Or.inr ⟨by omega, by omega, by simpa using h2, fun q => h3 ⟨by omega, q.2⟩⟩
theorem mjLR.sto1 {nL i : Nat} {L : mjLs} {v : Value} {ls' : Array Slot} (h : mjLR lo ls nL L) (h' : lv_has ls' nL ((i, mjRn lo v) :: (mjPl lo L).filter (fun q => !(q.1 == i) && !(q.1 + 1 == i && q.2.category == 2)))) : mjLR lo ls' nL (mjSet1 L i v) := by
  refine ⟨(mjSet1_len L i v).trans h.1, ⟨h'.1, h'.2.1, fun _ h => by cases h⟩, fun j w hw => ?_⟩
  rcases mjSet1_at L i v j w hw with ⟨rfl, rfl⟩ | ⟨h1, h2, h3⟩
  · exact h'.2.2 (j, mjRn lo w) List.mem_cons_self
  · refine h'.2.2 (j, mjRn lo w) (List.mem_cons_of_mem _ (List.mem_filter.mpr ⟨mjPl_mem.mpr ⟨w, h2, rfl⟩, ?_⟩))
    simp only [mjRn_cat, Bool.and_eq_true, Bool.not_eq_true', beq_eq_false_iff_ne, ne_eq, Bool.and_eq_false_iff]
    refine ⟨h1, ?_⟩
    by_cases hj : j + 1 = i
    · exact Or.inr (fun q => h3 ⟨hj, q⟩)
    · exact Or.inl hj
theorem mjLR.sto2 {nL i : Nat} {L : mjLs} {v : Value} {ls' : Array Slot} (h : mjLR lo ls nL L) (h' : lv_has ls' nL ((i, mjRn lo v) :: (mjPl lo L).filter (fun q => !(q.1 == i) && (!(q.1 == i + 1) && !(q.1 + 1 == i && q.2.category == 2))))) : mjLR lo ls' nL (mjSet2 L i v) := by
  refine ⟨(mjSet2_len L i v).trans h.1, ⟨h'.1, h'.2.1, fun _ h => by cases h⟩, fun j w hw => ?_⟩
  rcases mjSet2_at L i v j w hw with ⟨rfl, rfl⟩ | ⟨h1, h1', h2, h3⟩
  · exact h'.2.2 (j, mjRn lo w) List.mem_cons_self
  · refine h'.2.2 (j, mjRn lo w) (List.mem_cons_of_mem _ (List.mem_filter.mpr ⟨mjPl_mem.mpr ⟨w, h2, rfl⟩, ?_⟩))
    simp only [mjRn_cat, Bool.and_eq_true, Bool.not_eq_true', beq_eq_false_iff_ne, ne_eq, Bool.and_eq_false_iff]
    refine ⟨h1, h1', ?_⟩
    by_cases hj : j + 1 = i
    · exact Or.inr (fun q => h3 ⟨hj, q⟩)
    · exact Or.inl hj
/-- the start of a method -/
theorem mjEnt_at : ∀ (As : List Value) (n j : Nat) (v : Value) (b : Nat), (mjEnt As n)[j]? = some (some v) → (∀ w ∈ As, mjVok w = true) → (b + j, mjRn lo v) ∈ lv_args b (As.map (mjRn lo))
  | [], n, j, v, b, h, _ => by
    simp [mjEnt, List.getElem?_replicate] at h
  | w :: r, n, j, v, b, h, hc => by
    have hr : ∀ w ∈ r, mjVok w = true := fun w hw => hc w (List.mem_cons_of_mem _ hw)
    have hw := hc w List.mem_cons_self
    by_cases h2 : w.category = 2
    · cases w <;> simp [mjVok, Value.category] at hw h2
      rename_i x
      simp only [mjEnt] at h
      match j, h with
      | 0, h => simp at h; subst h; simp [lv_args, mjRn]
      | 1, h => simp at h
      | j + 2, h =>
        simp only [List.getElem?_cons_succ] at h
        have := mjEnt_at r (n - 2) j v (b + 2) h hr
        simp only [List.map_cons, lv_args, mjRn_cat, h2]
        refine List.mem_cons_of_mem _ ?_
        rw [show b + (j + 2) = b + 2 + j by omega]
        simpa [Value.category] using this
    · have he : mjEnt (w :: r) n = some w :: mjEnt r (n - 1) := by
        cases w <;> first | rfl | (exact absurd rfl h2) | (simp [mjVok] at hw)
      rw [he] at h
      match j, h with
      | 0, h => simp at h; subst h; simp [lv_args]
      | j + 1, h =>
        simp only [List.getElem?_cons_succ] at h
        have := mjEnt_at r (n - 1) j v (b + 1) h hr
        simp only [List.map_cons, lv_args, mjRn_cat, h2, if_false]
        refine List.mem_cons_of_mem _ ?_
        rw [show b + (j + 1) = b + 1 + j by omega]
        simpa using this
end MJ2
