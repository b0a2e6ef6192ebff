/-! A RUN of the small interpreter is a run of the machine -/
def mjEnv (D : va_G) (kA : Nat → ClassId) (lo : Nat → Nat) (base : Nat) (sc : Nat × (Nat → Int32)) (adV : Nat → Nat) (U : State) (H : Heap) : Prop :=
  va_K D mjCl (mjTys kA) U ∧ (∀ i, i < 1000000 → lo i = base + i) ∧ (∀ own ix j, mjCs own ix = some (.ref j) → ∃ tx, vk_R (mjCn own) ix tx (lo j) U) ∧ (va_AO "BatonZones$Team" U ∧ va_AO "BatonZones$Act" U) ∧ (va_X (lo 2000000) sc.1 sc.2 U H ∧ lo 2000000 < H.size ∧ lo 2000000 < base ∧ sc.1 < 2147483648) ∧ (∀ o ix k2, mjMlF o ix = some (k2, 1) → va_Nw (.methodLinkNest (mjCn o) ix (mjY k2) "BatonZones") U) ∧ mjStr lo base U H
section MJ6
variable {D : va_G} {kA : Nat → ClassId} {lo : Nat → Nat} {base : Nat} {sc : Nat × (Nat → Int32)} {adV : Nat → Nat}
theorem mjEnv.pass {s U : State} {H0 : Heap} {locs : List Loc} (h : mjEnv D kA lo base sc adV s H0) (hS : va_S (fun q => base ≤ q) H0 U.heap locs) (hW : s.WarmedH U.vm) : mjEnv D kA lo base sc adV U U.heap := by
  obtain ⟨h1, h2, h3, h4, ⟨h5, h6, h7, h8⟩, h9, h10⟩ := h
  refine ⟨va_K.moved hW.alike h1, h2, fun own ix j hj => ?_, ⟨va_AO.moved hW.alike h4.1, va_AO.moved hW.alike h4.2⟩, ⟨(va_X.moved hW.alike h5).kept (hS.2.1 _ h6 (by show ¬ base ≤ lo 2000000; omega)), Nat.lt_of_lt_of_le h6 hS.1, h7, h8⟩, fun o ix k2 hm => (h9 o ix k2 hm).warmM hW, (mjStr.moved hW.alike h10).kept (fun a g1 g2 => hS.2.1 a g1 g2)⟩
  obtain ⟨tx, g⟩ := h3 own ix j hj
  exact ⟨tx, g.warm hW⟩
theorem mjEnv.blind {U : State} {g : JFrame} {mk : MethodId} {a : Array Value} (h : mjEnv D kA lo base sc adV U U.heap) : mjEnv D kA lo base sc adV (U.calling g mk a) (U.calling g mk a).heap := by
  obtain ⟨h1, h2, h3, h4, ⟨h5, h6, h7, h8⟩, h9, h10⟩ := h
  refine ⟨va_K.moved (u := U) (U := U.calling g mk a) (Vm.Alike.refl U.vm) h1, h2, fun own ix j hj => ?_, ⟨va_AO.moved (u := U) (U := U.calling g mk a) (Vm.Alike.refl U.vm) h4.1, va_AO.moved (u := U) (U := U.calling g mk a) (Vm.Alike.refl U.vm) h4.2⟩, ⟨va_X.moved (u := U) (U := U.calling g mk a) (Vm.Alike.refl U.vm) h5, h6, h7, h8⟩, fun o ix k2 hm => va_Nw.same rfl rfl (h9 o ix k2 hm), mjStr.moved (u := U) (U := U.calling g mk a) (Vm.Alike.refl U.vm) h10⟩
  obtain ⟨tx, g9⟩ := h3 own ix j hj
  exact ⟨tx, vk_R.same rfl g9⟩
theorem mjGoodIn {l : List Cond} (h : ∀ w ∈ l, w ∈ mjW) : GoodIn mjW l := fun w hw => ⟨h w hw, mjW_good w (h w hw)⟩
def mjWs (k : Nat) : List Cond := Cond.code (mjY k) (mjB k) (mjML k) (mjRt k) :: mjW
def mjRm (k mc ms : Nat) : Room := { frames := mjRk k, cells := mc, slots := ms, locals := 40 * mjRk k }
def mjPcS (D : va_G) (kA : Nat → ClassId) (lo : Nat → Nat) (base : Nat) (sc : Nat × (Nat → Int32)) (adV : Nat → Nat) (n : Nat) (M : mjMem) (As : List Value) : Array Value → State → Prop :=
  va_Pc (As.map (mjRn lo)) (fun U => mjEnv D kA lo base sc adV U U.heap ∧ mjRp D kA lo base sc n M U.heap)
def mjQcS (D : va_G) (kA : Nat → ClassId) (lo : Nat → Nat) (base : Nat) (sc : Nat × (Nat → Int32)) (n1 : Nat) (M1 : mjMem) (r : Option Value) : Array Value → State → Outcome → State → Prop := fun _ st o t =>
  o = .returned (r.map (mjRn lo)) ∧ mjRp D kA lo base sc n1 M1 t.heap ∧ st.heap.size ≤ t.heap.size ∧ ∀ q : Nat, q < st.heap.size → ¬ base ≤ q → t.heap[q]? = st.heap[q]?
theorem mjPcS.blind {n : Nat} {M : mjMem} {As : List Value} : FrameBlind (mjPcS D kA lo base sc adV n M As) := fun a U g mk q => ⟨q.1, q.2.1.blind, q.2.2⟩
theorem mjRun_le : ∀ (fuel k pc : Nat) (L : mjLs) (st : List Value) (n : Nat) (M : mjMem) (r : Option Value) (n1 : Nat) (M1 : mjMem), mjRun fuel k pc L st n M = some (r, n1, M1) → n ≤ n1
  | 0, k, pc, L, st, n, M, r, n1, M1, h => by simp [mjRun] at h
  | fuel + 1, k, pc, L, st, n, M, r, n1, M1, h => by
    rw [mjRun] at h
    split at h
    · cases h
    · split at h
      · split at h
        · cases h; exact Nat.le_refl _
        · split at h
          · exact mjRun_le fuel _ _ _ _ _ _ _ _ _ h
          · split at h
            · have := mjRun_le fuel _ _ _ _ _ _ _ _ _ h; omega
            · split at h
              · cases h
              · split at h
                · exact mjRun_le fuel _ _ _ _ _ _ _ _ _ h
                · split at h
                  · split at h
                    · exact mjRun_le fuel _ _ _ _ _ _ _ _ _ h
                    · cases h
                  · split at h
                    · rename_i h2
                      have h3 := mjRun_le fuel _ _ _ _ _ _ _ _ _ h
                      have h4 := mjRun_le fuel _ _ _ _ _ _ _ _ _ h2
                      omega
                    · cases h
      · cases h
theorem mjEnt_len : ∀ (As : List Value) (n : Nat), mjW2 As ≤ n → (mjEnt As n).length = n
  | [], n, _ => by simp [mjEnt]
  | v :: r, n, h => by
    cases v <;> simp only [mjW2, mjEnt, List.length_cons] at h ⊢
    all_goals first | (rw [mjEnt_len r (n - 2) (by omega)]; omega) | (rw [mjEnt_len r (n - 1) (by omega)]; omega)
theorem mjSl_len : ∀ (As : List Value), (∀ w ∈ As, mjVok w = true) → (lg_sl (As.map (mjRn lo))).length = mjW2 As
  | [], _ => rfl
  | v :: r, h => by
    have ih := mjSl_len r (fun w hw => h w (List.mem_cons_of_mem _ hw))
    have hv := h v List.mem_cons_self
    rw [List.map_cons, lg_sl, List.flatMap_cons, List.length_append]
    have e1 : (List.flatMap (fun v => if v.category = 2 then [Slot.val v, Slot.second] else [Slot.val v]) (List.map (mjRn lo) r)).length = mjW2 r := ih
    rw [e1, mjRn_cat]
    cases v <;> simp [mjVok] at hv <;> simp [mjW2, Value.category]
end MJ6
section MJ7
variable {p : Program} {l : Launch} {e : Env} {R : Room} {s : State} {m : MethodId} {args : Array Value} {below : List Frame} {meth : Method} {c : Code} {H : Heap} {locs : List Loc} {cells slots : Nat} {Q : State → Prop}
variable {ls : Array Slot} {pc mc ms : Nat} {st0 rest : List Value}
theorem mj_goes {Qa : State → Outcome → State → Prop} {free : Addr → Prop} (hr : va_Run p l e R s m args below meth c H locs cells slots mc ms (F0 m pc ls st0) rest Qa free)
    (kk : ∀ (v : Option Value) (u t : State) (L : List Loc), u.heap = H → (∀ q ∈ L, free q.base) → Qa u (.returned v) t → W p l e R s m args below meth c t.heap (locs ++ L) (cells + mc) (slots + ms) Q (F0 m (pc + 3) ls (v.toList ++ rest))) : W p l e R s m args below meth c H locs cells slots Q (F0 m pc ls st0) := by
  intro T hT X
  obtain ⟨v, u, t, T', L, h0, X', hL, e1, e2, hq, st⟩ := hr T hT X
  obtain ⟨t2, a1, b1⟩ := kk v u t L h0 hL hq T' e1 X'
  exact ⟨t2, st t2 a1, b1⟩
end MJ7
