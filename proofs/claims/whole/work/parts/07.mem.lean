/-! THE MEMORY IN THE HEAP, and a row for each instruction that touches it -/
def mjRn (lo : Nat → Nat) : Value → Value
  | .ref a => .ref (lo a)
  | v => v
def mjFv (lo : Nat → Nat) (M : mjMem) (i c k : Nat) : Value := if mjFk c k = 1 then .long (M.2.1 i k) else if mjFk c k = 2 then va_rf ((M.2.2 i k).map lo) else .int (M.1 i k)
def mjFs (lo : Nat → Nat) (M : mjMem) (i c : Nat) : List Value := (List.range (mjNf c)).map (mjFv lo M i c)
def mjAr (lo : Nat → Nat) (M : mjMem) (i t : Nat) : (Nat → Int32) ⊕ (Nat → Int64) ⊕ (Nat → UInt32) ⊕ (Nat → UInt64) ⊕ (Nat → Option Nat) :=
  if t = 14 then .inr (.inl (M.2.1 i)) else if t = 16 ∨ t = 17 then .inr (.inr (.inr (.inr (fun k => (M.2.2 i k).map lo)))) else .inl (M.1 i)
def mjCell (kA : Nat → ClassId) (lo : Nat → Nat) (M : mjMem) (i : Nat) : va_E :=
  if (mjLay i).1 < 13 then .inr ((mjLay i).1, mjFs lo M i (mjLay i).1) else .inl (kA (mjLay i).1, (mjLay i).2, mjAr lo M i (mjLay i).1)
def mjTys (kA : Nat → ClassId) : List (ClassId × FieldType) := [(kA 13, .int), (kA 14, .long), (kA 15, .boolean), (kA 16, .object "BatonZones$Team"), (kA 17, .object "BatonZones$Act")]
def mjRep (D : va_G) (kA : Nat → ClassId) (lo : Nat → Nat) (base n : Nat) (M : mjMem) (H : Heap) : Prop :=
  H.size = base + n ∧ ∀ i, i < n → va_at D mjCl (base + i, mjCell kA lo M i) H
theorem mjIs_spec {a n c : Nat} (h : mjIs a n c = true) : a < n ∧ (mjLay a).1 = c := by
  simpa [mjIs] using h
section MJ
variable {p : Program} {l : Launch} {e : Env} {R : Room} {s : State} {m : MethodId} {args : Array Value} {below : List Frame} {meth : Method} {c : Code} {H : Heap} {locs : List Loc} {cells slots : Nat} {Q : State → Prop}
variable {cc : ByteArray} {pc : Nat} {ls : Array Slot} {rest : List Value} {D : va_G} {kA : Nat → ClassId} {lo : Nat → Nat} {base n : Nat} {M M' : mjMem} {H0 : Heap} {A : Nat → Prop}
theorem mjRep.upd {H1 : Heap} {a : Nat} (h : mjRep D kA lo base n M H) (hz : H1.size = H.size) (oq : ∀ q, q ≠ base + a → H1[q]? = H[q]?) (ho : ∀ j, j ≠ a → mjCell kA lo M' j = mjCell kA lo M j) (hat : va_at D mjCl (base + a, mjCell kA lo M' a) H1) : mjRep D kA lo base n M' H1 := by
  refine ⟨hz.trans h.1, fun j hj => ?_⟩
  by_cases hja : j = a
  · subst hja
    exact hat
  · rw [ho j hja]
    exact (h.2 j hj).kept (oq _ (by show base + j ≠ base + a; omega))
theorem mjRep.push {H1 : Heap} (h : mjRep D kA lo base n M H) (hz : H1.size = H.size + 1) (oq : ∀ q, q < H.size → H1[q]? = H[q]?) (ho : ∀ j, j ≠ n → mjCell kA lo M' j = mjCell kA lo M j) (hat : va_at D mjCl (base + n, mjCell kA lo M' n) H1) : mjRep D kA lo base (n + 1) M' H1 := by
  refine ⟨by rw [hz, h.1]; omega, fun j hj => ?_⟩
  by_cases hja : j = n
  · subst hja
    exact hat
  · rw [ho j hja]
    exact (h.2 j (by omega)).kept (oq _ (by show base + j < H.size; rw [h.1]; omega))
theorem mjRep.obj {a ci : Nat} (h : mjRep D kA lo base n M H) (hi : mjIs a n ci = true) (hc : ci < 13) : va_at D mjCl (base + a, .inr (ci, mjFs lo M a ci)) H := by
  obtain ⟨h1, h2⟩ := mjIs_spec hi
  have h3 := h.2 a h1
  rw [mjCell, h2, if_pos hc] at h3
  exact h3
theorem mjRep.arr {a t : Nat} (h : mjRep D kA lo base n M H) (hi : mjIs a n t = true) (hc : 13 ≤ t) : va_at D mjCl (base + a, .inl (kA t, (mjLay a).2, mjAr lo M a t)) H := by
  obtain ⟨h1, h2⟩ := mjIs_spec hi
  have h3 := h.2 a h1
  rw [mjCell, h2, if_neg (by omega)] at h3
  exact h3
theorem mjP1 {q : Nat × va_E} (h : va_at D mjCl q H) : va_P D mjCl [q] H := by
  intro k x hx
  have hz : k < 1 := (List.getElem?_eq_some_iff.mp hx).1
  rw [show k = 0 by omega] at hx
  cases hx
  exact h
theorem mjFs_at {a ci k : Nat} (hk : k < mjNf ci) : (mjFs lo M a ci)[k]? = some (mjFv lo M a ci k) := by
  simp [mjFs, List.getElem?_map, List.getElem?_range hk]
theorem mj_get (hexec : p.tables.exec = Jvm.exec) (hb : c.code = cc) (hts : ∀ w ∈ mjW, w.before args s = true) {own ix ci k a : Nat} (hown : s.vm.findClass (mjCn own) = some m.cls) (hK : va_K D mjCl (mjTys kA) s) (hR : mjRep D kA lo base n M H) (hf : mjFld own ix = some (ci, k)) (ha : mjIs a n ci = true) (hdg : decode cc pc = .ok (.getfield ix, 3))
    (kk : W p l e R s m args below meth c H locs cells slots Q (F0 m (pc + 3) ls (mjFv lo M a ci k :: rest))) : W p l e R s m args below meth c H locs cells slots Q (F0 m pc ls (.ref (base + a) :: rest)) := by
  obtain ⟨h1, h2, h3⟩ := mjFld_spec hf
  exact va_get (D := D) (ci := ci) (C := mjCn ci) (T := mjTx ci) (N := mjNf ci) hexec hb hts (mjU_in h2) hown hK (mjP1 (hR.obj ha h2)) 0 rfl (mjCl_at h2) k h3 (hts _ h1) (fun _ h => h) (mjFs_at h3) hdg kk
theorem mj_put (hexec : p.tables.exec = Jvm.exec) (hb : c.code = cc) (hts : ∀ w ∈ mjW, w.before args s = true) {own ix ci k a : Nat} {v : Value} (hown : s.vm.findClass (mjCn own) = some m.cls) (hK : va_K D mjCl (mjTys kA) s) (hR : mjRep D kA lo base n M H) (hS : va_S (fun q => base ≤ q) H0 H locs) (hf : mjFld own ix = some (ci, k)) (ha : mjIs a n ci = true)
    (hfin : (mjTx ci k).2.2.2 = false ∨ (meth.name = "<init>" ∧ ci = own)) (hn : narrow (mjTy ci k) v = v) (hfit : fits (mjTy ci k) v = true) (ho : ∀ j, j ≠ a → mjCell kA lo M' j = mjCell kA lo M j) (hv : ∀ j, j < mjNf ci → mjFv lo M' a ci j = if j = k then v else mjFv lo M a ci j) (hdg : decode cc pc = .ok (.putfield ix, 3))
    (kk : ∀ (H1 : Heap) (locs1 : List Loc), mjRep D kA lo base n M' H1 → va_S (fun q => base ≤ q) H0 H1 locs1 → W p l e R s m args below meth c H1 locs1 cells slots Q (F0 m (pc + 3) ls rest)) : W p l e R s m args below meth c H locs cells slots Q (F0 m pc ls (v :: .ref (base + a) :: rest)) := by
  obtain ⟨h1, h2, hk⟩ := mjFld_spec hf
  have hc := mjCl_at h2
  have hin := mjU_in h2
  have hap := va_apart (own := mjCn own) hts hin (mjTy ci) (mjC_ty h2) (mjC_nm h2) hK hc
  obtain ⟨r, g1, cell, q1, q2, q3, q4⟩ := hR.obj ha h2
  have hr : r = (mjCn ci, mjTx ci, mjNf ci) := Option.some.inj (g1.symm.trans hc)
  subst hr
  obtain ⟨hSl, hfc, kC, hkC, hkind⟩ := hK.1 ci _ hc
  obtain ⟨cf, kf, fi, f, hi, hsl⟩ := hSl k hk
  have hst := (u_facts hfc hkC (u_lays hts hin hk) hi).1
  have hlay := hts _ (hin _ (u_in_lay hk))
  have fin : ∀ (H1 : Heap) (i : Nat), H1[base + a]? = some (cell.setSlot (D.2 ci k) v) → H1.size = H.size → (∀ q, q ≠ base + a → H1[q]? = H[q]?) → W p l e R s m args below meth c H1 (locs ++ [⟨base + a, i⟩]) cells slots Q (F0 m (pc + 3) ls rest) := by
    intro H1 i e1 e2 e3
    refine kk H1 _ (hR.upd e2 e3 ho ?_) (hS.put e2 e3 (Nat.le_add_right _ _))
    obtain ⟨i1, i2⟩ := mjIs_spec ha
    rw [mjCell, i2, if_pos h2]
    refine ⟨_, hc, t_OB.to (V := updV (vp_V (mjFs lo M a ci)) k v) ⟨_, e1, q2, q3, t_set q4 hap hk v⟩ (fun j hj => ?_)⟩
    simp only [updV, vp_V, List.getD_eq_getElem?_getD, mjFs_at hj, Option.getD_some, hv j hj]
  rcases hfin with hfin | ⟨hin2, hdecl⟩
  · unfold u_lay at hlay
    rw [if_neg (by rw [hfin]; decide)] at hlay
    have h6 := u_store hfc hkC hkind hlay hi (mjC_ty h2 k hk) hn hfit
    refine W.putK hexec hb (f := f) ⟨hown, hts _ h1, ⟨_, _, _, hi⟩, hst⟩ (by rw [q2]; exact h6) q1 q3 (by rw [hsl]; exact k2_hasslot (q4 k hk)) rfl rfl hdg fun H' e1 e2 e3 => ?_
    rw [hsl] at e1
    exact fin H' _ e1 e2 e3
  · by_cases hfn : (mjTx ci k).2.2.2 = true
    · unfold u_lay at hlay
      rw [if_pos hfn] at hlay
      have hcf : m.cls = cf := by
        obtain ⟨_, _, c', _, _, _, -, -, hf', -, -, -, hown2, -⟩ := Cond.laysFinal_spec hlay
        have e1 : c' = cf := by have := hi.symm.trans hf'; simp at this; exact this.1.symm
        rw [mjC_own h2 k hk, hdecl] at hown2
        rw [← e1]; exact Option.some.inj (hown.symm.trans hown2)
      have h6 := u_fits hfc hkC hkind (Or.inr hlay) hi (mjC_ty h2 k hk) hn hfit
      refine W.putFinK hexec hb hown (hts _ h1) hi hst hcf hin2 (by rw [q2]; exact h6) q1 q3 (by rw [hsl]; exact k2_hasslot (q4 k hk)) rfl rfl hdg fun H' e1 e2 e3 => ?_
      rw [hsl] at e1
      exact fin H' _ e1 e2 e3
    · unfold u_lay at hlay
      rw [if_neg hfn] at hlay
      have h6 := u_store hfc hkC hkind hlay hi (mjC_ty h2 k hk) hn hfit
      refine W.putK hexec hb (f := f) ⟨hown, hts _ h1, ⟨_, _, _, hi⟩, hst⟩ (by rw [q2]; exact h6) q1 q3 (by rw [hsl]; exact k2_hasslot (q4 k hk)) rfl rfl hdg fun H' e1 e2 e3 => ?_
      rw [hsl] at e1
      exact fin H' _ e1 e2 e3
theorem mjIn_spec {i : Int32} {len : Nat} (h : mjIn i len = true) : vp_in i len ∧ i.toNatClampNeg = mjIx i := by
  simp only [mjIn, decide_eq_true_eq] at h
  refine ⟨?_, rfl⟩
  intro q
  rcases q with q | q
  · rw [Int32.lt_iff_toInt_lt] at q
    simp at q
    omega
  · have : i.toNatClampNeg = i.toInt.toNat := rfl
    omega
theorem mj_ial (hexec : p.tables.exec = Jvm.exec) (hb : c.code = cc) (hK : va_K D mjCl (mjTys kA) s) (hR : mjRep D kA lo base n M H) {a : Nat} {i : Int32} (ha : mjIs a n 13 = true) (hi : mjIn i (mjLay a).2 = true) (hdg : decode cc pc = .ok (.iaload, 1))
    (kk : W p l e R s m args below meth c H locs cells slots Q (F0 m (pc + 1) ls (.int (M.1 a (mjIx i)) :: rest))) : W p l e R s m args below meth c H locs cells slots Q (F0 m pc ls (.int i :: .ref (base + a) :: rest)) :=
  va_iald hexec hb hK (mjP1 (hR.arr ha (by decide))) 0 0 rfl rfl (mjIn_spec hi).1 hdg kk
theorem mj_lal (hexec : p.tables.exec = Jvm.exec) (hb : c.code = cc) (hK : va_K D mjCl (mjTys kA) s) (hR : mjRep D kA lo base n M H) {a : Nat} {i : Int32} (ha : mjIs a n 14 = true) (hi : mjIn i (mjLay a).2 = true) (hdg : decode cc pc = .ok (.laload, 1))
    (kk : W p l e R s m args below meth c H locs cells slots Q (F0 m (pc + 1) ls (.long (M.2.1 a (mjIx i)) :: rest))) : W p l e R s m args below meth c H locs cells slots Q (F0 m pc ls (.int i :: .ref (base + a) :: rest)) :=
  va_lald hexec hb hK (mjP1 (hR.arr ha (by decide))) 0 1 rfl rfl (mjIn_spec hi).1 hdg kk
theorem mj_bal (hexec : p.tables.exec = Jvm.exec) (hb : c.code = cc) (hK : va_K D mjCl (mjTys kA) s) (hR : mjRep D kA lo base n M H) {a : Nat} {i : Int32} (ha : mjIs a n 15 = true) (hi : mjIn i (mjLay a).2 = true) (hdg : decode cc pc = .ok (.baload, 1))
    (kk : W p l e R s m args below meth c H locs cells slots Q (F0 m (pc + 1) ls (.int (M.1 a (mjIx i)) :: rest))) : W p l e R s m args below meth c H locs cells slots Q (F0 m pc ls (.int i :: .ref (base + a) :: rest)) :=
  va_zald hexec hb hK (mjP1 (hR.arr ha (by decide))) 0 2 rfl rfl (mjIn_spec hi).1 hdg kk
theorem mj_aal (hexec : p.tables.exec = Jvm.exec) (hb : c.code = cc) (hK : va_K D mjCl (mjTys kA) s) (hR : mjRep D kA lo base n M H) {a : Nat} {i : Int32} (ha : mjIs a n 16 = true ∨ mjIs a n 17 = true) (hi : mjIn i (mjLay a).2 = true) (hdg : decode cc pc = .ok (.aaload, 1))
    (kk : W p l e R s m args below meth c H locs cells slots Q (F0 m (pc + 1) ls (va_rf ((M.2.2 a (mjIx i)).map lo) :: rest))) : W p l e R s m args below meth c H locs cells slots Q (F0 m pc ls (.int i :: .ref (base + a) :: rest)) := by
  rcases ha with ha | ha
  · exact va_aldq hexec hb hK (mjP1 (hR.arr ha (by decide))) 0 3 rfl rfl (mjIn_spec hi).1 hdg kk
  · exact va_aldq hexec hb hK (mjP1 (hR.arr ha (by decide))) 0 4 rfl rfl (mjIn_spec hi).1 hdg kk
theorem mj_in9 {i : Int32} {a n0 : Nat} {cA : ClassId} {f : Nat → Value} (h : vp_in i n0) : ¬ (i < 0 ∨ (arrV cA n0 f).slots.size ≤ i.toNatClampNeg) := by rw [arrV_size]; exact h
theorem mj_ias (hexec : p.tables.exec = Jvm.exec) (hb : c.code = cc) (hK : va_K D mjCl (mjTys kA) s) (hR : mjRep D kA lo base n M H) (hS : va_S (fun q => base ≤ q) H0 H locs) {a : Nat} {i x : Int32} (ha : mjIs a n 13 = true) (hi : mjIn i (mjLay a).2 = true) (ho : ∀ j, j ≠ a → mjCell kA lo M' j = mjCell kA lo M j) (hv : M'.1 a = upd (M.1 a) (mjIx i) x) (hdg : decode cc pc = .ok (.iastore, 1))
    (kk : ∀ (H1 : Heap) (locs1 : List Loc), mjRep D kA lo base n M' H1 → va_S (fun q => base ≤ q) H0 H1 locs1 → W p l e R s m args below meth c H1 locs1 cells slots Q (F0 m (pc + 1) ls rest)) : W p l e R s m args below meth c H locs cells slots Q (F0 m pc ls (.int x :: .int i :: .ref (base + a) :: rest)) := by
  have hat := hR.arr ha (by decide)
  have hat2 : H[base + a]? = some (arrV (kA 13) (mjLay a).2 (fun j => .int (M.1 a j))) := hat
  obtain ⟨hin, hix⟩ := mjIn_spec hi
  refine W.iast hexec hb hat2 ((hK.2 0 (kA 13, .int) rfl).1 _ _) (fun q => by cases q) (by rw [arrV_size]; exact hin) rfl rfl hdg fun H1 e z oq => ?_
  refine kk H1 _ (hR.upd z oq ho ?_) (hS.put z oq (Nat.le_add_right _ _))
  obtain ⟨i1, i2⟩ := mjIs_spec ha
  rw [mjCell, i2, if_neg (by decide)]
  show H1[base + a]? = some (arrV (kA 13) (mjLay a).2 (fun j => .int (M'.1 a j)))
  rw [e, arrV_store, hv, hix]
  congr 2
  funext q
  by_cases hq : q = mjIx i
  · subst hq
    simp [updV, upd]
  · simp [updV, upd, hq]
theorem mj_las (hexec : p.tables.exec = Jvm.exec) (hb : c.code = cc) (hK : va_K D mjCl (mjTys kA) s) (hR : mjRep D kA lo base n M H) (hS : va_S (fun q => base ≤ q) H0 H locs) {a : Nat} {i : Int32} {x : Int64} (ha : mjIs a n 14 = true) (hi : mjIn i (mjLay a).2 = true) (ho : ∀ j, j ≠ a → mjCell kA lo M' j = mjCell kA lo M j) (hv : M'.2.1 a = vp_updL (M.2.1 a) (mjIx i) x) (hdg : decode cc pc = .ok (.lastore, 1))
    (kk : ∀ (H1 : Heap) (locs1 : List Loc), mjRep D kA lo base n M' H1 → va_S (fun q => base ≤ q) H0 H1 locs1 → W p l e R s m args below meth c H1 locs1 cells slots Q (F0 m (pc + 1) ls rest)) : W p l e R s m args below meth c H locs cells slots Q (F0 m pc ls (.long x :: .int i :: .ref (base + a) :: rest)) := by
  have hat := hR.arr ha (by decide)
  have hat2 : H[base + a]? = some (arrV (kA 14) (mjLay a).2 (fun j => .long (M.2.1 a j))) := hat
  obtain ⟨hin, hix⟩ := mjIn_spec hi
  refine W.last hexec hb hat2 ((hK.2 1 (kA 14, .long) rfl).1 _ _) (fun q => by cases q) (by rw [arrV_size]; exact hin) rfl rfl hdg fun H1 e z oq => ?_
  refine kk H1 _ (hR.upd z oq ho ?_) (hS.put z oq (Nat.le_add_right _ _))
  obtain ⟨i1, i2⟩ := mjIs_spec ha
  rw [mjCell, i2, if_neg (by decide)]
  show H1[base + a]? = some (arrV (kA 14) (mjLay a).2 (fun j => .long (M'.2.1 a j)))
  rw [e, arrV_store, hv, hix]
  congr 2
  funext q
  by_cases hq : q = mjIx i
  · subst hq
    simp [updV, vp_updL]
  · simp [updV, vp_updL, hq]
theorem mj_bas (hexec : p.tables.exec = Jvm.exec) (hb : c.code = cc) (hK : va_K D mjCl (mjTys kA) s) (hR : mjRep D kA lo base n M H) (hS : va_S (fun q => base ≤ q) H0 H locs) {a : Nat} {i x : Int32} (ha : mjIs a n 15 = true) (hi : mjIn i (mjLay a).2 = true) (hx : x = 0 ∨ x = 1) (ho : ∀ j, j ≠ a → mjCell kA lo M' j = mjCell kA lo M j) (hv : M'.1 a = upd (M.1 a) (mjIx i) x) (hdg : decode cc pc = .ok (.bastore, 1))
    (kk : ∀ (H1 : Heap) (locs1 : List Loc), mjRep D kA lo base n M' H1 → va_S (fun q => base ≤ q) H0 H1 locs1 → W p l e R s m args below meth c H1 locs1 cells slots Q (F0 m (pc + 1) ls rest)) : W p l e R s m args below meth c H locs cells slots Q (F0 m pc ls (.int x :: .int i :: .ref (base + a) :: rest)) := by
  have hat := hR.arr ha (by decide)
  have hat2 : H[base + a]? = some (arrV (kA 15) (mjLay a).2 (fun j => .int (M.1 a j))) := hat
  obtain ⟨hin, hix⟩ := mjIn_spec hi
  refine W.zast hexec hb hat2 ((hK.2 2 (kA 15, .boolean) rfl).1 _ _) (fun q => by cases q) (by rw [arrV_size]; exact hin) rfl rfl hdg fun H1 e z oq => ?_
  have hnx : narrow .boolean (.int x) = .int x := by rcases hx with rfl | rfl <;> rfl
  rw [hnx] at e
  refine kk H1 _ (hR.upd z oq ho ?_) (hS.put z oq (Nat.le_add_right _ _))
  obtain ⟨i1, i2⟩ := mjIs_spec ha
  rw [mjCell, i2, if_neg (by decide)]
  show H1[base + a]? = some (arrV (kA 15) (mjLay a).2 (fun j => .int (M'.1 a j)))
  rw [e, arrV_store, hv, hix]
  congr 2
  funext q
  by_cases hq : q = mjIx i
  · subst hq
    simp [updV, upd]
  · simp [updV, upd, hq]
end MJ
