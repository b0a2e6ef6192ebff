/-! A RUN of the small interpreter is a run of the machine -/
def mjEnv (D : va_G) (kA : Nat → ClassId) (lo : Nat → Nat) (base : Nat) (sc : Nat × (Nat → Int32)) (U : State) (H : Heap) : Prop :=
  va_K D mjCl (mjTys kA) U ∧ (∀ own ix j, mjCs own ix = some (.ref j) → ∃ tx, vk_R (mjCn own) ix tx (lo j) U) ∧ (va_AO "BatonZones$Team" U ∧ va_AO "BatonZones$Act" U ∧ va_AO "java/lang/Object" U ∧ va_AO "java/lang/String" U) ∧ (va_X (lo 2000000) sc.1 sc.2 U H ∧ lo 2000000 < H.size ∧ lo 2000000 < base ∧ sc.1 < 2147483648) ∧ mjPre lo base U H ∧
  (∀ q ∈ mjCaL, va_Nw (.castable q.1 q.2) U) ∧ va_Nc "java/lang/StringBuilder" "java/lang/String" U ∧
  (∀ (o : Nat) (q : Nat × Nat × Nat × Nat × Nat × Nat × Nat), q ∈ mjLkL.getD o [] → (q.2.2.1 = 6 ∨ q.2.2.1 = 7) → va_Nw (.methodLinkNest (mjCn o) q.1 (mjY q.2.1) (mjHost q.2.2.2.2.2.2)) U) ∧
  (∀ (o : Nat) (q : Nat × Nat × Nat × Nat × Nat × Nat × Nat), q ∈ mjLkL.getD o [] → q.2.2.1 = 4 → va_Fw (mjCn q.2.2.2.1) (mjXr q.2.2.2.2.2.2).1 (mjY q.2.1) U) ∧
  va_Nw (.declares ⟨"java/lang/Object", "equals", "(Ljava/lang/Object;)Z"⟩) U
theorem mjFwH {o : Nat} {q : Nat × Nat × Nat × Nat × Nat × Nat × Nat} (h : q ∈ mjLkL.getD o []) (h4 : q.2.2.1 = 4) : (mjXr q.2.2.2.2.2.2).1.cls ≠ "java/lang/invoke/MethodHandle" ∧ (mjXr q.2.2.2.2.2.2).1.cls ≠ "java/lang/invoke/VarHandle" := by
  obtain ⟨ix, k2, md, C, pl, ps, xi⟩ := q
  have h9 := mjLk_in h
  dsimp only at h4
  subst h4
  simp only [mjLkOk, Bool.and_eq_true, mjNmh, decide_eq_true_eq] at h9
  exact h9.1.2
section MJ6
variable {D : va_G} {kA : Nat → ClassId} {lo sg : Nat → Nat} {base : Nat} {sc : Nat × (Nat → Int32)}
theorem mjEnv.pass {s U : State} {H0 : Heap} {locs : List Loc} (h : mjEnv D kA lo base sc s H0) (hS : va_S (fun q => base ≤ q) H0 U.heap locs) (hW : s.WarmedH U.vm) : mjEnv D kA lo base sc U U.heap := by
  obtain ⟨h1, h3, h4, ⟨h5, h6, h7, h8⟩, h10, h11, h12, h13, h14, h15⟩ := h
  refine ⟨va_K.moved hW.alike h1, fun own ix j hj => ?_, ⟨va_AO.moved hW.alike h4.1, va_AO.moved hW.alike h4.2.1, va_AO.moved hW.alike h4.2.2.1, va_AO.moved hW.alike h4.2.2.2⟩, ⟨(va_X.moved hW.alike h5).kept (hS.2.1 _ h6 (by show ¬ base ≤ lo 2000000; omega)), Nat.lt_of_lt_of_le h6 hS.1, h7, h8⟩, (mjPre.moved hW.alike h10).kept (fun a g1 g2 => hS.2.1 a g1 g2), fun q hq => va_Nw.warmC hW (h11 q hq), va_Nc.moved hW.alike h12, fun o q hq hm => (h13 o q hq hm).warmM hW, fun o q hq hm => va_Fw.moved (mjFwH hq hm) hW.alike (h14 o q hq hm), va_Nw.warmD hW h15⟩
  obtain ⟨tx, g⟩ := h3 own ix j hj
  exact ⟨tx, g.warm hW⟩
theorem mjEnv.blind {U : State} {g : JFrame} {mk : MethodId} {a : Array Value} (h : mjEnv D kA lo base sc U U.heap) : mjEnv D kA lo base sc (U.calling g mk a) (U.calling g mk a).heap := by
  obtain ⟨h1, h3, h4, ⟨h5, h6, h7, h8⟩, h10, h11, h12, h13, h14, h15⟩ := h
  have hr : U.vm.Alike (U.calling g mk a).vm := Vm.Alike.refl U.vm
  refine ⟨va_K.moved (u := U) (U := U.calling g mk a) hr h1, fun own ix j hj => ?_, ⟨va_AO.moved (u := U) (U := U.calling g mk a) hr h4.1, va_AO.moved (u := U) (U := U.calling g mk a) hr h4.2.1, va_AO.moved (u := U) (U := U.calling g mk a) hr h4.2.2.1, va_AO.moved (u := U) (U := U.calling g mk a) hr h4.2.2.2⟩, ⟨va_X.moved (u := U) (U := U.calling g mk a) hr h5, h6, h7, h8⟩, mjPre.moved (u := U) (U := U.calling g mk a) hr h10, fun q hq => va_Nw.same rfl rfl (h11 q hq), va_Nc.moved (u := U) (U := U.calling g mk a) hr h12, fun o q hq hm => va_Nw.same rfl rfl (h13 o q hq hm), fun o q hq hm => va_Fw.moved (mjFwH hq hm) (u := U) (U := U.calling g mk a) hr (h14 o q hq hm), va_Nw.same rfl rfl h15⟩
  obtain ⟨tx, g9⟩ := h3 own ix j hj
  exact ⟨tx, vk_R.same rfl g9⟩
theorem mjGoodIn {l : List Cond} (h : ∀ w ∈ l, w ∈ mjW) : GoodIn mjW l := fun w hw => ⟨h w hw, mjW_good w (h w hw)⟩
def mjWs (k : Nat) : List Cond := Cond.code (mjY k) (mjB k) (mjML k) (mjRt k) :: mjW
def mjRm (d mc ms : Nat) : Room := { frames := d, cells := mc, slots := ms, locals := 40 * d }
def mjPcS (D : va_G) (kA : Nat → ClassId) (lo sg : Nat → Nat) (base : Nat) (sc : Nat × (Nat → Int32)) (n : Nat) (M : mjMem) (As : List Value) : Array Value → State → Prop :=
  va_Pc (As.map (mjRn lo)) (fun U => mjEnv D kA lo base sc U U.heap ∧ mjRp D kA lo sg base sc n M U.heap)
def mjQcS (D : va_G) (kA : Nat → ClassId) (lo sg : Nat → Nat) (base : Nat) (sc : Nat × (Nat → Int32)) (n1 : Nat) (M1 : mjMem) (r : Option Value) : Array Value → State → Outcome → State → Prop := fun _ st o t =>
  o = .returned (r.map (mjRn lo)) ∧ mjRp D kA lo sg base sc n1 M1 t.heap ∧ st.heap.size ≤ t.heap.size ∧ ∀ q : Nat, q < st.heap.size → ¬ base ≤ q → t.heap[q]? = st.heap[q]?
theorem mjPcS.blind {n : Nat} {M : mjMem} {As : List Value} : FrameBlind (mjPcS D kA lo sg base sc n M As) := fun a U g mk q => ⟨q.1, q.2.1.blind, q.2.2⟩
theorem mjRun_le : ∀ (fuel d k pc : Nat) (L : mjLs) (st : List Value) (n : Nat × Nat) (M : mjMem) (r : Option Value) (n1 : Nat × Nat) (M1 : mjMem), mjRun sg fuel d k pc L st n M = some (r, n1, M1) → n.1 ≤ n1.1 ∧ n.2 ≤ n1.2
  | 0, d, k, pc, L, st, n, M, r, n1, M1, h => by simp [mjRun] at h
  | fuel + 1, d, k, pc, L, st, n, M, r, n1, M1, h => by
    rw [mjRun] at h
    split at h
    · cases h
    · split at h
      · split at h
        · cases h; exact ⟨Nat.le_refl _, Nat.le_refl _⟩
        · split at h
          · exact mjRun_le fuel _ _ _ _ _ _ _ _ _ _ h
          · split at h
            · split at h
              · have := mjRun_le fuel _ _ _ _ _ _ _ _ _ _ h
                dsimp only at this
                omega
              · cases h
            · split at h
              · cases h
              · split at h
                · exact mjRun_le fuel _ _ _ _ _ _ _ _ _ _ h
                · split at h
                  · split at h
                    · exact mjRun_le fuel _ _ _ _ _ _ _ _ _ _ h
                    · cases h
                  · split at h
                    · split at h
                      · split at h
                        · have := mjRun_le fuel _ _ _ _ _ _ _ _ _ _ h
                          dsimp only at this
                          omega
                        · cases h
                      · cases h
                    · split at h
                      · split at h
                        · exact mjRun_le fuel _ _ _ _ _ _ _ _ _ _ h
                        · cases h
                      · split at h
                        · rename_i h2
                          have h3 := mjRun_le fuel _ _ _ _ _ _ _ _ _ _ h
                          have h4 := mjRun_le fuel _ _ _ _ _ _ _ _ _ _ h2
                          omega
                        · cases h
      · cases h
theorem mjEnt_len : ∀ (As : List Value) (n : Nat), mjW2 As ≤ n → (mjEnt As n).length = n
  | [], n, _ => by simp [mjEnt]
  | v :: r, n, h => by
    cases v <;> simp only [mjW2, mjEnt, List.length_cons] at h ⊢
    all_goals first | (rw [mjEnt_len r (n - 2) (by omega)]; omega) | (rw [mjEnt_len r (n - 1) (by omega)]; omega)
theorem mjSl_len : ∀ (As : List Value), (∀ w ∈ As, mjVok w = true) → (lg_sl (As.map (mjRn lo))).length = mjW2 As
  | [], _ => rfl
  | v :: r, h => by
    have ih := mjSl_len r (fun w hw => h w (List.mem_cons_of_mem _ hw))
    have hv := h v List.mem_cons_self
    rw [List.map_cons, lg_sl, List.flatMap_cons, List.length_append]
    have e1 : (List.flatMap (fun v => if v.category = 2 then [Slot.val v, Slot.second] else [Slot.val v]) (List.map (mjRn lo) r)).length = mjW2 r := ih
    rw [e1, mjRn_cat]
    cases v <;> simp [mjVok] at hv <;> simp [mjW2, Value.category]
end MJ6
section MJ7
variable {p : Program} {l : Launch} {e : Env} {R : Room} {s : State} {m : MethodId} {args : Array Value} {below : List Frame} {meth : Method} {c : Code} {H : Heap} {locs : List Loc} {cells slots : Nat} {Q : State → Prop}
variable {ls : Array Slot} {pc mc ms : Nat} {st0 rest : List Value}
theorem mj_goes {Qa : State → Outcome → State → Prop} {free : Addr → Prop} (hr : va_Run p l e R s m args below meth c H locs cells slots mc ms (F0 m pc ls st0) rest Qa free)
    (kk : ∀ (v : Option Value) (u t : State) (L : List Loc), u.heap = H → (∀ q ∈ L, free q.base) → Qa u (.returned v) t → W p l e R s m args below meth c t.heap (locs ++ L) (cells + mc) (slots + ms) Q (F0 m (pc + 3) ls (v.toList ++ rest))) : W p l e R s m args below meth c H locs cells slots Q (F0 m pc ls st0) := by
  intro T hT X
  obtain ⟨v, u, t, T', L, h0, X', hL, e1, e2, hq, st⟩ := hr T hT X
  obtain ⟨t2, a1, b1⟩ := kk v u t L h0 hL hq T' e1 X'
  exact ⟨t2, st t2 a1, b1⟩
theorem mj_goes5 {Qa : State → Outcome → State → Prop} {free : Addr → Prop} (hr : va_Run5 p l e R s m args below meth c H locs cells slots mc ms (F0 m pc ls st0) rest Qa free)
    (kk : ∀ (v : Option Value) (u t : State) (L : List Loc), u.heap = H → (∀ q ∈ L, free q.base) → Qa u (.returned v) t → W p l e R s m args below meth c t.heap (locs ++ L) (cells + mc) (slots + ms) Q (F0 m (pc + 5) ls (v.toList ++ rest))) : W p l e R s m args below meth c H locs cells slots Q (F0 m pc ls st0) := by
  intro T hT X
  obtain ⟨v, u, t, T', L, h0, X', hL, e1, e2, hq, st⟩ := hr T hT X
  obtain ⟨t2, a1, b1⟩ := kk v u t L h0 hL hq T' e1 X'
  exact ⟨t2, st t2 a1, b1⟩
end MJ7
