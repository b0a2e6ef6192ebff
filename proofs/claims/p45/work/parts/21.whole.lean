/-! THE CLAIM OUT OF ONE WALK OF THE LAW'S BODY. Your part is whole_start (and what it stands on); all else here is the same for every law, but numbers. -/
def R_law : String := "BatonZonesLaw"
def lw_P (b : Addr) (xs : List Int32) (args : Array Value) (s : State) : Prop := args = #[.ref b] ∧ s.IntsAt b xs ∧ xs.length ≤ 260 ∧ (Jvm.Cond.and given_1 narrow_1).before args s = true
def lw_Q (_ : Array Value) (s : State) (o : Outcome) (t : State) : Prop := o = .returned (some (.int 1)) ∧ Framed s o t [] room_1.cells room_1.slots
def lw_Z (below : List Frame) (a : Array Value) (s : State) : State → Prop := fun t => ∃ o, t.status = .running ∧ Ended t below o ∧ lw_Q a s o t
/-- the law's own end, with 1 on the stack, nothing written that was there before, its room as the claim has it -/
theorem lw_ret {p : Program} {l : Launch} {e : Env} {s : State} {m : MethodId} {below : List Frame} {meth : Method} {c : Code} {b : Nat} (hx : p.tables.exec = Jvm.exec) (hb : c.code = code) (hr : meth.sig.returnType = ret) (hlocks : meth.locks = false) {pc : Nat} {H : Heap} {ls : Array Slot} (hdg : decode code pc = .ok (.ireturn, 1)) : W p l e room_1 s m #[Value.ref b] below meth c H [] room_1.cells room_1.slots (lw_Z below #[Value.ref b] s) (F0 m pc ls [.int 1]) := by
  intro T hT X
  obtain ⟨fs, hret, hrun, hended, hW, hframe⟩ := X.leave (v := some (.int 1)) (hlocks := hlocks) (fun h => by rw [hr] at h; cases h)
  have hmeth' : T.vm.method? m = some meth := X.method'
  refine ⟨T.setFrames fs, ?_, .returned (some (.int 1)), hrun, hended, rfl, ⟨_, rfl⟩, hW, hframe⟩
  jvm_step X.here [X.here.top, hx, hb, hdg, hmeth', hr, ret, narrow_b1]
  (try refine ⟨rfl, ?_⟩); (try refine ⟨rfl, ?_⟩)
  first | (intro acts; rw [hret _ acts rfl rfl rfl]) | rw [hret _ _ rfl rfl rfl]
  exact Steps.refl _
/-- what holds at the law's entry: the machine, the code, the tables' words (any of lw_tbl by 'hts w (by decide +kernel)'), the script of L ints xs at the cell b, what the Statement gives of the start (any of its parts by flat_of_before) -/
def lw_At (p : Program) (s : State) (m : MethodId) (meth : Method) (c : Code) (b L : Nat) (xs : Nat → Int32) : Prop :=
  p.tables.exec = Jvm.exec ∧ c.code = code ∧ meth.sig.returnType = ret ∧ c.maxLocals = 7 ∧ s.vm.findClass R_law = some m.cls ∧ (∀ w ∈ lw_tbl, w.before #[Value.ref b] s = true) ∧ va_X b L xs s s.heap ∧ b < s.heap.size ∧ meth.locks = false ∧ (Jvm.Cond.and given_1 narrow_1).before #[Value.ref b] s = true
theorem mjWhole_open (hP : mjPure) {p : Program} {e : Env} {s : State} {m : MethodId} {below : List Frame} {meth : Method} {c : Code} (l : Launch) {b L : Nat} {xs : Nat → Int32} (hL : L ≤ 260) (C0 : lw_At p s m meth c b L xs) : W p l e room_1 s m #[Value.ref b] below meth c s.heap [] 0 0 (lw_Z below #[Value.ref b] s) (entryFrame m ([Value.ref b] : List Value).toArray 7) := by
  obtain ⟨hx, hb, hr, hml, hown, hts, hX, hbl, hlocks, hgv⟩ := C0
  obtain ⟨zf, hzf, hst⟩ := mjStart (ta := id) hL hts hX hbl hgv
  obtain ⟨sg, ta, fuel, n1, M1, hsg, hn0, hc0, hrun⟩ := hP L xs zf hL hzf
  have hn1 : n1.1 ≤ room_1.cells := Nat.le_trans hn0 (Nat.le_of_ble_eq_true rfl)
  have hc1 : n1.2 ≤ room_1.slots := Nat.le_trans hc0 (Nat.le_of_ble_eq_true rfl)
  obtain ⟨D, kA, lo, hlo, hlz, hlt, hE⟩ := hst ta
  have hl := lv_entry ([Value.ref b]) (n := 7) (Nat.le_of_ble_eq_true rfl)
  rw [lg_entry_eq]
  generalize (lg_sl [Value.ref b] ++ List.replicate (7 - (lg_sl [Value.ref b]).length) Slot.unset).toArray = ls at hl ⊢
  have hLR : mjLR lo ls (mjML 256) (mjEnt [.ref 2000000] 7) := ⟨rfl, ⟨hl.1, hl.2.1, fun _ h => by cases h⟩, fun j v hj => by
    have h9 := mjEnt_at (lo := lo) [.ref 2000000] 7 j v 0 hj (fun w hw => by simp at hw; subst hw; rfl)
    rw [List.map_cons, List.map_nil, show mjRn lo (.ref 2000000) = .ref b by rw [mjRn, hlo]] at h9
    have h8 := hl.2.2 _ h9
    simpa using h8⟩
  have hloc : mjLoc sg lo s.heap.size := fun j hj => ⟨(hsg j hj).1, by rw [hlt _ (hsg j hj).1, (hsg j hj).2]⟩
  have hR : mjRp D kA lo sg s.heap.size (L, xs) 0 (mjM0 L xs zf) s.heap := ⟨⟨⟨rfl, by decide, hloc⟩, fun i hi => absurd hi (Nat.not_lt_zero _), fun a ha => absurd rfl ha⟩, rfl, rfl, by rw [hlz]; rfl, by rw [hlz]; exact hzf⟩
  refine mj_sound mjDec_ok fuel p e room_1 s m _ below meth c _ 1000 256 0 _ [] (0, 0) _ _ n1 M1 (by decide) hrun hx hb hml (fun w hw => mjTbl_of hts w (List.mem_filter.mp hw).1) hown (fun h => absurd h (by decide)) hE (by decide) (by decide) s.heap [] ls 0 0 hLR hR va_S.rf (by rw [Nat.zero_add]; exact Nat.le_trans (Nat.sub_le _ _) hn1) (by rw [Nat.zero_add]; exact Nat.le_trans (Nat.sub_le _ _) hc1) ?_
  intro H' locs' pc' ls' i len st' hR' hS' hdg hln hret
  have hst : i = .ireturn ∧ st' = [.int 1] := by
    unfold mjRet at hret
    split at hret
    · split at hret <;> cases hret
    · split at hret
      · cases hret; exact ⟨rfl, rfl⟩
      · split at hret
        · cases hret; exact ⟨rfl, rfl⟩
        · cases hret
      · split at hret
        · cases hret; exact ⟨rfl, rfl⟩
        · cases hret
      · split at hret
        · cases hret; exact ⟨rfl, rfl⟩
        · cases hret
      · cases hret
    · split at hret <;> cases hret
    · split at hret <;> cases hret
    · cases hret
  obtain ⟨rfl, rfl⟩ := hst
  obtain rfl : len = 1 := by simpa [mjLn] using hln
  refine va_forget (fun q hq => hS'.2.2 q hq) ?_
  refine W.widen (k := room_1.cells) (n := room_1.slots) (by rw [Nat.zero_add]; exact Nat.le_trans (Nat.sub_le _ _) hn1) (by rw [Nat.zero_add]; exact Nat.le_trans (Nat.sub_le _ _) hc1) ?_
  exact lw_ret hx hb hr hlocks hdg
