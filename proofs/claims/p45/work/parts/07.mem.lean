/-! THE MEMORY IN THE HEAP, and a row for each instruction that touches it -/
def mjRn (lo : Nat → Nat) : Value → Value
  | .ref a => .ref (lo a)
  | v => v
def mjFv (lo : Nat → Nat) (M : mjMem) (i c k : Nat) : Value := if mjFk c k = 1 then .long (M.2.1 i k) else if mjFk c k = 2 then va_rf ((M.2.2.1 i k).map lo) else .int (M.1 i k)
def mjFs (lo : Nat → Nat) (M : mjMem) (i c : Nat) : List Value := (List.range (mjNf c)).map (mjFv lo M i c)
def mjAr (lo : Nat → Nat) (M : mjMem) (i t : Nat) : (Nat → Int32) ⊕ (Nat → Int64) ⊕ (Nat → UInt32) ⊕ (Nat → UInt64) ⊕ (Nat → Option Nat) :=
  if t = 114 then .inr (.inl (M.2.1 i)) else if t = 116 ∨ t = 117 ∨ t = 119 ∨ t = 120 then .inr (.inr (.inr (.inr (fun k => (M.2.2.1 i k).map lo)))) else .inl (M.1 i)
def mjCell (kA : Nat → ClassId) (lo : Nat → Nat) (M : mjMem) (i : Nat) : va_E :=
  if (M.2.2.2 i).1 < 100 then .inr ((M.2.2.2 i).1, mjFs lo M i (M.2.2.2 i).1) else .inl (kA (M.2.2.2 i).1, (M.2.2.2 i).2, mjAr lo M i (M.2.2.2 i).1)
def mjTys (kA : Nat → ClassId) : List (ClassId × FieldType) := [(kA 113, .int), (kA 114, .long), (kA 115, .boolean), (kA 116, .object "BatonZones$Team"), (kA 117, .object "BatonZones$Act"), (kA 118, .byte), (kA 119, .object "java/lang/Object"), (kA 120, .object "java/lang/String")]
/-- where the objects lie -/
def mjLoc (sg lo : Nat → Nat) (base : Nat) : Prop := ∀ j, j < 100000 → sg j < 1000000 ∧ lo (sg j) = base + j
def mjRep (D : va_G) (kA : Nat → ClassId) (lo sg : Nat → Nat) (base n : Nat) (M : mjMem) (H : Heap) : Prop :=
  (H.size = base + n ∧ n ≤ 100000 ∧ mjLoc sg lo base) ∧ (∀ j, j < n → va_at D mjCl (base + j, mjCell kA lo M (sg j)) H) ∧ ∀ a, (M.2.2.2 a).1 ≠ 99 → ∃ j, j < n ∧ sg j = a
theorem mjKs_spec {M : mjMem} {a c : Nat} (h : mjKs M a c = true) : (M.2.2.2 a).1 = c := by
  simpa [mjKs] using h
section MJ
variable {p : Program} {l : Launch} {e : Env} {R : Room} {s : State} {m : MethodId} {args : Array Value} {below : List Frame} {meth : Method} {c : Code} {H : Heap} {locs : List Loc} {cells slots : Nat} {Q : State → Prop}
variable {cc : ByteArray} {pc : Nat} {ls : Array Slot} {rest : List Value} {D : va_G} {kA : Nat → ClassId} {lo sg : Nat → Nat} {base n : Nat} {M M' : mjMem} {H0 : Heap} {A : Nat → Prop}
theorem mjRep.at (h : mjRep D kA lo sg base n M H) {a c : Nat} (hi : mjKs M a c = true) (hc : c ≠ 99) : ∃ j, j < n ∧ sg j = a ∧ lo a = base + j ∧ a < 1000000 := by
  obtain ⟨j, h1, h2⟩ := h.2.2 a (by rw [mjKs_spec hi]; exact hc)
  obtain ⟨h3, h4⟩ := h.1.2.2 j (by have := h.1.2.1; omega)
  exact ⟨j, h1, h2, by rw [← h2]; exact h4, by omega⟩
theorem mjRep.inj (h : mjRep D kA lo sg base n M H) {i j : Nat} (hi : i < 100000) (hj : j < 100000) (e : sg i = sg j) : i = j := by
  have h1 := (h.1.2.2 i hi).2
  have h2 := (h.1.2.2 j hj).2
  rw [e, h2] at h1
  omega
theorem mjRep.low (h : mjRep D kA lo sg base n M H) {a c : Nat} (hi : mjKs M a c = true) (hc : c ≠ 99) : base ≤ lo a := by
  obtain ⟨j, -, -, h3, -⟩ := h.at hi hc
  omega
theorem mjRep.upd {H1 : Heap} {a c : Nat} (h : mjRep D kA lo sg base n M H) (hi : mjKs M a c = true) (hc : c ≠ 99) (hz : H1.size = H.size) (oq : ∀ q, q ≠ lo a → H1[q]? = H[q]?) (hk : M'.2.2.2 = M.2.2.2) (ho : ∀ j, j ≠ a → mjCell kA lo M' j = mjCell kA lo M j) (hat : va_at D mjCl (lo a, mjCell kA lo M' a) H1) : mjRep D kA lo sg base n M' H1 := by
  obtain ⟨ja, g1, g2, g3, -⟩ := h.at hi hc
  refine ⟨⟨hz.trans h.1.1, h.1.2⟩, fun j hj => ?_, fun b hb => h.2.2 b (by rw [← hk]; exact hb)⟩
  by_cases hja : j = ja
  · subst hja
    rw [g2, ← g3]
    exact hat
  · have hn := h.1.2.1
    rw [ho (sg j) (fun q => hja (h.inj (by omega) (by omega) (q.trans g2.symm)))]
    exact (h.2.1 j hj).kept (oq _ (by show base + j ≠ lo a; omega))
theorem mjRep.push {H1 : Heap} (h : mjRep D kA lo sg base n M H) (hn : n < 100000) (hz : H1.size = H.size + 1) (oq : ∀ q, q < H.size → H1[q]? = H[q]?) (hk : ∀ a, a ≠ sg n → M'.2.2.2 a = M.2.2.2 a) (ho : ∀ j, j ≠ sg n → mjCell kA lo M' j = mjCell kA lo M j) (hat : va_at D mjCl (base + n, mjCell kA lo M' (sg n)) H1) : mjRep D kA lo sg base (n + 1) M' H1 := by
  refine ⟨⟨by rw [hz, h.1.1]; omega, by omega, h.1.2.2⟩, fun j hj => ?_, fun a ha => ?_⟩
  · by_cases hja : j = n
    · subst hja
      exact hat
    · rw [ho (sg j) (fun q => hja (h.inj (by omega) hn q))]
      exact (h.2.1 j (by omega)).kept (oq _ (by show base + j < H.size; rw [h.1.1]; omega))
  · by_cases hq : a = sg n
    · exact ⟨n, by omega, hq.symm⟩
    · rw [hk a hq] at ha
      obtain ⟨j, h1, h2⟩ := h.2.2 a ha
      exact ⟨j, by omega, h2⟩
theorem mjRep.obj {a ci : Nat} (h : mjRep D kA lo sg base n M H) (hi : mjKs M a ci = true) (hc : ci < 21) : va_at D mjCl (lo a, .inr (ci, mjFs lo M a ci)) H := by
  obtain ⟨j, h1, h2, h3, -⟩ := h.at hi (by omega)
  have h4 := h.2.1 j h1
  rw [h2, mjCell, mjKs_spec hi, if_pos (by omega), ← h3] at h4
  exact h4
theorem mjRep.arr {a t : Nat} (h : mjRep D kA lo sg base n M H) (hi : mjKs M a t = true) (hc : 113 ≤ t) : va_at D mjCl (lo a, .inl (kA t, mjAl M a, mjAr lo M a t)) H := by
  obtain ⟨j, h1, h2, h3, -⟩ := h.at hi (by omega)
  have h4 := h.2.1 j h1
  rw [h2, mjCell, mjKs_spec hi, if_neg (by omega), ← h3] at h4
  exact h4
theorem mjP1 {q : Nat × va_E} (h : va_at D mjCl q H) : va_P D mjCl [q] H := by
  intro k x hx
  have hz : k < 1 := (List.getElem?_eq_some_iff.mp hx).1
  rw [show k = 0 by omega] at hx
  cases hx
  exact h
theorem mjD1 {q : Nat × va_E} (h : A q.1) : va_D A [q] := by
  refine ⟨fun i j x y hx hy _ => ?_, fun k q' hk => ?_⟩
  · have h1 : i < 1 := (List.getElem?_eq_some_iff.mp hx).1
    have h2 : j < 1 := (List.getElem?_eq_some_iff.mp hy).1
    omega
  · have hz : k < 1 := (List.getElem?_eq_some_iff.mp hk).1
    rw [show k = 0 by omega] at hk
    cases hk
    exact h
theorem mjFs_at {a ci k : Nat} (hk : k < mjNf ci) : (mjFs lo M a ci)[k]? = some (mjFv lo M a ci k) := by
  simp [mjFs, List.getElem?_map, List.getElem?_range hk]
theorem mjSame {own ix ci k : Nat} (hts : ∀ w ∈ mjW, w.before args s = true) (hf : mjFld own ix = some (ci, k)) : ∃ ref, (Cond.fieldLink (mjCn own) ix ref (mjTx ci k).2.1 (mjTx ci k).2.2.1).before args s = true ∧ ∀ x, s.fieldFound? (mjTx ci k).1 (mjTx ci k).2.1 (mjTx ci k).2.2.1 = some x → s.fieldFound? ref (mjTx ci k).2.1 (mjTx ci k).2.2.1 = some x := by
  obtain ⟨⟨ref, h1, h2⟩, -, -⟩ := mjFld_spec hf
  refine ⟨ref, hts _ h1, fun x hx => ?_⟩
  rcases h2 with rfl | h2
  · exact hx
  · exact u_same (hts _ h2) x hx
theorem mj_get (hexec : p.tables.exec = Jvm.exec) (hb : c.code = cc) (hts : ∀ w ∈ mjW, w.before args s = true) {own ix ci k a : Nat} (hown : s.vm.findClass (mjCn own) = some m.cls) (hK : va_K D mjCl (mjTys kA) s) (hR : mjRep D kA lo sg base n M H) (hf : mjFld own ix = some (ci, k)) (ha : mjKs M a ci = true) (hdg : decode cc pc = .ok (.getfield ix, 3))
    (kk : W p l e R s m args below meth c H locs cells slots Q (F0 m (pc + 3) ls (mjFv lo M a ci k :: rest))) : W p l e R s m args below meth c H locs cells slots Q (F0 m pc ls (.ref (lo a) :: rest)) := by
  obtain ⟨-, h2, h3⟩ := mjFld_spec hf
  obtain ⟨ref, h1, hsame⟩ := mjSame hts hf
  exact va_get (D := D) (ci := ci) (C := mjCn ci) (T := mjTx ci) (N := mjNf ci) hexec hb hts (mjU_in h2) hown hK (mjP1 (hR.obj ha h2)) 0 rfl (mjCl_at h2) k h3 h1 hsame (mjFs_at h3) hdg kk
theorem mj_put (hexec : p.tables.exec = Jvm.exec) (hb : c.code = cc) (hts : ∀ w ∈ mjW, w.before args s = true) {own ix ci k a : Nat} {v : Value} (hown : s.vm.findClass (mjCn own) = some m.cls) (hK : va_K D mjCl (mjTys kA) s) (hR : mjRep D kA lo sg base n M H) (hS : va_S (fun q => base ≤ q) H0 H locs) (hf : mjFld own ix = some (ci, k)) (ha : mjKs M a ci = true)
    (hfin : (mjTx ci k).2.2.2 = false ∨ (meth.name = "<init>" ∧ ci = own)) (hn : narrow (mjTy ci k) v = v) (hfit : fits (mjTy ci k) v = true) (hk' : M'.2.2.2 = M.2.2.2) (ho : ∀ j, j ≠ a → mjCell kA lo M' j = mjCell kA lo M j) (hv : ∀ j, j < mjNf ci → mjFv lo M' a ci j = if j = k then v else mjFv lo M a ci j) (hdg : decode cc pc = .ok (.putfield ix, 3))
    (kk : ∀ (H1 : Heap) (locs1 : List Loc), mjRep D kA lo sg base n M' H1 → va_S (fun q => base ≤ q) H0 H1 locs1 → W p l e R s m args below meth c H1 locs1 cells slots Q (F0 m (pc + 3) ls rest)) : W p l e R s m args below meth c H locs cells slots Q (F0 m pc ls (v :: .ref (lo a) :: rest)) := by
  obtain ⟨-, h2, hk⟩ := mjFld_spec hf
  obtain ⟨ref, h1, hsame⟩ := mjSame hts hf
  have hc := mjCl_at h2
  have hin := mjU_in h2
  have hap := va_apart (own := mjCn own) hts hin (mjTy ci) (mjC_ty h2) (mjC_nm h2) hK hc
  obtain ⟨r, g1, cell, q1, q2, q3, q4⟩ := hR.obj ha h2
  have hr : r = (mjCn ci, mjTx ci, mjNf ci) := Option.some.inj (g1.symm.trans hc)
  subst hr
  obtain ⟨hSl, hfc, kC, hkC, hkind⟩ := hK.1 ci _ hc
  obtain ⟨cf, kf, fi, f, hi, hsl⟩ := hSl k hk
  have hi' := hsame _ hi
  have hst := (u_facts hfc hkC (u_lays hts hin hk) hi).1
  have hlay := hts _ (hin _ (u_in_lay hk))
  have fin : ∀ (H1 : Heap) (i : Nat), H1[lo a]? = some (cell.setSlot (D.2 ci k) v) → H1.size = H.size → (∀ q, q ≠ lo a → H1[q]? = H[q]?) → W p l e R s m args below meth c H1 (locs ++ [⟨lo a, i⟩]) cells slots Q (F0 m (pc + 3) ls rest) := by
    intro H1 i e1 e2 e3
    refine kk H1 _ (hR.upd ha (by omega) e2 e3 hk' ho ?_) (hS.put e2 e3 (hR.low ha (by omega)))
    rw [mjCell, hk', mjKs_spec ha, if_pos (by omega)]
    refine ⟨_, hc, t_OB.to (V := updV (vp_V (mjFs lo M a ci)) k v) ⟨_, e1, q2, q3, t_set q4 hap hk v⟩ (fun j hj => ?_)⟩
    simp only [updV, vp_V, List.getD_eq_getElem?_getD, mjFs_at hj, Option.getD_some, hv j hj]
  rcases hfin with hfin | ⟨hin2, hdecl⟩
  · unfold u_lay at hlay
    rw [if_neg (by rw [hfin]; decide)] at hlay
    have h6 := u_store hfc hkC hkind hlay hi (mjC_ty h2 k hk) hn hfit
    refine W.putK hexec hb (f := f) ⟨hown, h1, ⟨_, _, _, hi'⟩, hst⟩ (by rw [q2]; exact h6) q1 q3 (by rw [hsl]; exact k2_hasslot (q4 k hk)) rfl rfl hdg fun H' e1 e2 e3 => ?_
    rw [hsl] at e1
    exact fin H' _ e1 e2 e3
  · by_cases hfn : (mjTx ci k).2.2.2 = true
    · unfold u_lay at hlay
      rw [if_pos hfn] at hlay
      have hcf : m.cls = cf := by
        obtain ⟨_, _, c', _, _, _, -, -, hf', -, -, -, hown2, -⟩ := Cond.laysFinal_spec hlay
        have e1 : c' = cf := by have := hi.symm.trans hf'; simp at this; exact this.1.symm
        rw [mjC_own h2 k hk hfn, hdecl] at hown2
        rw [← e1]; exact Option.some.inj (hown.symm.trans hown2)
      have h6 := u_fits hfc hkC hkind (Or.inr hlay) hi (mjC_ty h2 k hk) hn hfit
      refine W.putFinK hexec hb hown h1 hi' hst hcf hin2 (by rw [q2]; exact h6) q1 q3 (by rw [hsl]; exact k2_hasslot (q4 k hk)) rfl rfl hdg fun H' e1 e2 e3 => ?_
      rw [hsl] at e1
      exact fin H' _ e1 e2 e3
    · unfold u_lay at hlay
      rw [if_neg hfn] at hlay
      have h6 := u_store hfc hkC hkind hlay hi (mjC_ty h2 k hk) hn hfit
      refine W.putK hexec hb (f := f) ⟨hown, h1, ⟨_, _, _, hi'⟩, hst⟩ (by rw [q2]; exact h6) q1 q3 (by rw [hsl]; exact k2_hasslot (q4 k hk)) rfl rfl hdg fun H' e1 e2 e3 => ?_
      rw [hsl] at e1
      exact fin H' _ e1 e2 e3
theorem mjIn_spec {i : Int32} {len : Nat} (h : mjIn i len = true) : vp_in i len ∧ i.toNatClampNeg = mjIx i := by
  simp only [mjIn, decide_eq_true_eq] at h
  refine ⟨?_, rfl⟩
  intro q
  rcases q with q | q
  · rw [Int32.lt_iff_toInt_lt] at q
    simp at q
    omega
  · have : i.toNatClampNeg = i.toInt.toNat := rfl
    omega
theorem mj_ial (hexec : p.tables.exec = Jvm.exec) (hb : c.code = cc) (hK : va_K D mjCl (mjTys kA) s) (hR : mjRep D kA lo sg base n M H) {a : Nat} {i : Int32} (ha : mjKs M a 113 = true) (hi : mjIn i (mjAl M a) = true) (hdg : decode cc pc = .ok (.iaload, 1))
    (kk : W p l e R s m args below meth c H locs cells slots Q (F0 m (pc + 1) ls (.int (M.1 a (mjIx i)) :: rest))) : W p l e R s m args below meth c H locs cells slots Q (F0 m pc ls (.int i :: .ref (lo a) :: rest)) :=
  va_iald hexec hb hK (mjP1 (hR.arr ha (by decide))) 0 0 rfl rfl (mjIn_spec hi).1 hdg kk
theorem mj_lal (hexec : p.tables.exec = Jvm.exec) (hb : c.code = cc) (hK : va_K D mjCl (mjTys kA) s) (hR : mjRep D kA lo sg base n M H) {a : Nat} {i : Int32} (ha : mjKs M a 114 = true) (hi : mjIn i (mjAl M a) = true) (hdg : decode cc pc = .ok (.laload, 1))
    (kk : W p l e R s m args below meth c H locs cells slots Q (F0 m (pc + 1) ls (.long (M.2.1 a (mjIx i)) :: rest))) : W p l e R s m args below meth c H locs cells slots Q (F0 m pc ls (.int i :: .ref (lo a) :: rest)) :=
  va_lald hexec hb hK (mjP1 (hR.arr ha (by decide))) 0 1 rfl rfl (mjIn_spec hi).1 hdg kk
theorem mj_bal (hexec : p.tables.exec = Jvm.exec) (hb : c.code = cc) (hK : va_K D mjCl (mjTys kA) s) (hR : mjRep D kA lo sg base n M H) {a : Nat} {i : Int32} (ha : mjKs M a 115 = true ∨ mjKs M a 118 = true) (hi : mjIn i (mjAl M a) = true) (hdg : decode cc pc = .ok (.baload, 1))
    (kk : W p l e R s m args below meth c H locs cells slots Q (F0 m (pc + 1) ls (.int (M.1 a (mjIx i)) :: rest))) : W p l e R s m args below meth c H locs cells slots Q (F0 m pc ls (.int i :: .ref (lo a) :: rest)) := by
  rcases ha with ha | ha
  · exact va_zald hexec hb hK (mjP1 (hR.arr ha (by decide))) 0 2 rfl rfl (mjIn_spec hi).1 hdg kk
  · exact va_bald hexec hb hK (mjP1 (hR.arr ha (by decide))) 0 5 rfl rfl (mjIn_spec hi).1 hdg kk
theorem mj_aal (hexec : p.tables.exec = Jvm.exec) (hb : c.code = cc) (hK : va_K D mjCl (mjTys kA) s) (hR : mjRep D kA lo sg base n M H) {a : Nat} {i : Int32} (ha : mjKs M a 116 = true ∨ mjKs M a 117 = true ∨ mjKs M a 119 = true ∨ mjKs M a 120 = true) (hi : mjIn i (mjAl M a) = true) (hdg : decode cc pc = .ok (.aaload, 1))
    (kk : W p l e R s m args below meth c H locs cells slots Q (F0 m (pc + 1) ls (va_rf ((M.2.2.1 a (mjIx i)).map lo) :: rest))) : W p l e R s m args below meth c H locs cells slots Q (F0 m pc ls (.int i :: .ref (lo a) :: rest)) := by
  rcases ha with ha | ha | ha | ha
  · exact va_aldq hexec hb hK (mjP1 (hR.arr ha (by decide))) 0 3 rfl rfl (mjIn_spec hi).1 hdg kk
  · exact va_aldq hexec hb hK (mjP1 (hR.arr ha (by decide))) 0 4 rfl rfl (mjIn_spec hi).1 hdg kk
  · exact va_aldq hexec hb hK (mjP1 (hR.arr ha (by decide))) 0 6 rfl rfl (mjIn_spec hi).1 hdg kk
  · exact va_aldq hexec hb hK (mjP1 (hR.arr ha (by decide))) 0 7 rfl rfl (mjIn_spec hi).1 hdg kk
/-- a store into a row of ints, longs, bytes, booleans, references -/
theorem mj_arr0 {a t : Nat} {H1 : Heap} {f : Nat → Value} {i : Int32} {v : Value} (hR : mjRep D kA lo sg base n M H) (ha : mjKs M a t = true) (ht : 113 ≤ t) (hk' : M'.2.2.2 = M.2.2.2) (e : H1[lo a]? = some ((arrV (kA t) (mjAl M a) f).setSlot (mjIx i) v)) (hv : vp_cell (kA t) (mjAl M a, mjAr lo M' a t) = arrV (kA t) (mjAl M a) (updV f (mjIx i) v)) : va_at D mjCl (lo a, mjCell kA lo M' a) H1 := by
  rw [mjCell, hk', mjKs_spec ha, if_neg (by omega)]
  show H1[lo a]? = some (vp_cell (kA t) (mjAl M a, mjAr lo M' a t))
  rw [hv, e, arrV_store]
theorem mj_ias (hexec : p.tables.exec = Jvm.exec) (hb : c.code = cc) (hK : va_K D mjCl (mjTys kA) s) (hR : mjRep D kA lo sg base n M H) (hS : va_S (fun q => base ≤ q) H0 H locs) {a : Nat} {i x : Int32} (ha : mjKs M a 113 = true) (hi : mjIn i (mjAl M a) = true) (hk' : M'.2.2.2 = M.2.2.2) (ho : ∀ j, j ≠ a → mjCell kA lo M' j = mjCell kA lo M j) (hv : M'.1 a = upd (M.1 a) (mjIx i) x) (hdg : decode cc pc = .ok (.iastore, 1))
    (kk : ∀ (H1 : Heap) (locs1 : List Loc), mjRep D kA lo sg base n M' H1 → va_S (fun q => base ≤ q) H0 H1 locs1 → W p l e R s m args below meth c H1 locs1 cells slots Q (F0 m (pc + 1) ls rest)) : W p l e R s m args below meth c H locs cells slots Q (F0 m pc ls (.int x :: .int i :: .ref (lo a) :: rest)) := by
  have hat := hR.arr ha (by decide)
  have hat2 : H[lo a]? = some (arrV (kA 113) (mjAl M a) (fun j => .int (M.1 a j))) := hat
  obtain ⟨hin, hix⟩ := mjIn_spec hi
  refine W.iast hexec hb hat2 ((hK.2 0 (kA 113, .int) rfl).1 _ _) (fun q => by cases q) (by rw [arrV_size]; exact hin) rfl rfl hdg fun H1 e z oq => ?_
  rw [hix] at e
  refine kk H1 _ (hR.upd ha (by decide) z oq hk' ho (mj_arr0 hR ha (by decide) hk' e ?_)) (hS.put z oq (hR.low ha (by decide)))
  show arrV (kA 113) (mjAl M a) (fun j => .int (M'.1 a j)) = _
  rw [hv]
  congr 1
  funext q
  by_cases hq : q = mjIx i
  · subst hq
    simp [updV, upd]
  · simp [updV, upd, hq]
theorem mj_las (hexec : p.tables.exec = Jvm.exec) (hb : c.code = cc) (hK : va_K D mjCl (mjTys kA) s) (hR : mjRep D kA lo sg base n M H) (hS : va_S (fun q => base ≤ q) H0 H locs) {a : Nat} {i : Int32} {x : Int64} (ha : mjKs M a 114 = true) (hi : mjIn i (mjAl M a) = true) (hk' : M'.2.2.2 = M.2.2.2) (ho : ∀ j, j ≠ a → mjCell kA lo M' j = mjCell kA lo M j) (hv : M'.2.1 a = vp_updL (M.2.1 a) (mjIx i) x) (hdg : decode cc pc = .ok (.lastore, 1))
    (kk : ∀ (H1 : Heap) (locs1 : List Loc), mjRep D kA lo sg base n M' H1 → va_S (fun q => base ≤ q) H0 H1 locs1 → W p l e R s m args below meth c H1 locs1 cells slots Q (F0 m (pc + 1) ls rest)) : W p l e R s m args below meth c H locs cells slots Q (F0 m pc ls (.long x :: .int i :: .ref (lo a) :: rest)) := by
  have hat := hR.arr ha (by decide)
  have hat2 : H[lo a]? = some (arrV (kA 114) (mjAl M a) (fun j => .long (M.2.1 a j))) := hat
  obtain ⟨hin, hix⟩ := mjIn_spec hi
  refine W.last hexec hb hat2 ((hK.2 1 (kA 114, .long) rfl).1 _ _) (fun q => by cases q) (by rw [arrV_size]; exact hin) rfl rfl hdg fun H1 e z oq => ?_
  rw [hix] at e
  refine kk H1 _ (hR.upd ha (by decide) z oq hk' ho (mj_arr0 hR ha (by decide) hk' e ?_)) (hS.put z oq (hR.low ha (by decide)))
  show arrV (kA 114) (mjAl M a) (fun j => .long (M'.2.1 a j)) = _
  rw [hv]
  congr 1
  funext q
  by_cases hq : q = mjIx i
  · subst hq
    simp [updV, vp_updL]
  · simp [updV, vp_updL, hq]
theorem mj_zas (hexec : p.tables.exec = Jvm.exec) (hb : c.code = cc) (hK : va_K D mjCl (mjTys kA) s) (hR : mjRep D kA lo sg base n M H) (hS : va_S (fun q => base ≤ q) H0 H locs) {a : Nat} {i x : Int32} (ha : mjKs M a 115 = true) (hi : mjIn i (mjAl M a) = true) (hx : x = 0 ∨ x = 1) (hk' : M'.2.2.2 = M.2.2.2) (ho : ∀ j, j ≠ a → mjCell kA lo M' j = mjCell kA lo M j) (hv : M'.1 a = upd (M.1 a) (mjIx i) x) (hdg : decode cc pc = .ok (.bastore, 1))
    (kk : ∀ (H1 : Heap) (locs1 : List Loc), mjRep D kA lo sg base n M' H1 → va_S (fun q => base ≤ q) H0 H1 locs1 → W p l e R s m args below meth c H1 locs1 cells slots Q (F0 m (pc + 1) ls rest)) : W p l e R s m args below meth c H locs cells slots Q (F0 m pc ls (.int x :: .int i :: .ref (lo a) :: rest)) := by
  have hat := hR.arr ha (by decide)
  have hat2 : H[lo a]? = some (arrV (kA 115) (mjAl M a) (fun j => .int (M.1 a j))) := hat
  obtain ⟨hin, hix⟩ := mjIn_spec hi
  refine W.zast hexec hb hat2 ((hK.2 2 (kA 115, .boolean) rfl).1 _ _) (fun q => by cases q) (by rw [arrV_size]; exact hin) rfl rfl hdg fun H1 e z oq => ?_
  have hnx : narrow .boolean (.int x) = .int x := by rcases hx with rfl | rfl <;> rfl
  rw [hnx, hix] at e
  refine kk H1 _ (hR.upd ha (by decide) z oq hk' ho (mj_arr0 hR ha (by decide) hk' e ?_)) (hS.put z oq (hR.low ha (by decide)))
  show arrV (kA 115) (mjAl M a) (fun j => .int (M'.1 a j)) = _
  rw [hv]
  congr 1
  funext q
  by_cases hq : q = mjIx i
  · subst hq
    simp [updV, upd]
  · simp [updV, upd, hq]
theorem mj_bas (hexec : p.tables.exec = Jvm.exec) (hb : c.code = cc) (hK : va_K D mjCl (mjTys kA) s) (hR : mjRep D kA lo sg base n M H) (hS : va_S (fun q => base ≤ q) H0 H locs) {a : Nat} {i x : Int32} (ha : mjKs M a 118 = true) (hi : mjIn i (mjAl M a) = true) (hk' : M'.2.2.2 = M.2.2.2) (ho : ∀ j, j ≠ a → mjCell kA lo M' j = mjCell kA lo M j) (hv : M'.1 a = upd (M.1 a) (mjIx i) (vp_nar .byte x)) (hdg : decode cc pc = .ok (.bastore, 1))
    (kk : ∀ (H1 : Heap) (locs1 : List Loc), mjRep D kA lo sg base n M' H1 → va_S (fun q => base ≤ q) H0 H1 locs1 → W p l e R s m args below meth c H1 locs1 cells slots Q (F0 m (pc + 1) ls rest)) : W p l e R s m args below meth c H locs cells slots Q (F0 m pc ls (.int x :: .int i :: .ref (lo a) :: rest)) := by
  have hat := hR.arr ha (by decide)
  have hat2 : H[lo a]? = some (arrV (kA 118) (mjAl M a) (fun j => .int (M.1 a j))) := hat
  obtain ⟨hin, hix⟩ := mjIn_spec hi
  refine W.bast hexec hb hat2 ((hK.2 5 (kA 118, .byte) rfl).1 _ _) (fun q => by cases q) (by rw [arrV_size]; exact hin) rfl rfl hdg fun H1 e z oq => ?_
  have hnx : narrow .byte (.int x) = .int (vp_nar .byte x) := rfl
  rw [hnx, hix] at e
  refine kk H1 _ (hR.upd ha (by decide) z oq hk' ho (mj_arr0 hR ha (by decide) hk' e ?_)) (hS.put z oq (hR.low ha (by decide)))
  show arrV (kA 118) (mjAl M a) (fun j => .int (M'.1 a j)) = _
  rw [hv]
  congr 1
  funext q
  by_cases hq : q = mjIx i
  · subst hq
    simp [updV, upd]
  · simp [updV, upd, hq]
end MJ
