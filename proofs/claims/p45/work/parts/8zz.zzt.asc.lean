/-! the text's characters-/
def asA (u : List Int32) : Prop := ∀ c, c ∈ u → nc c < 128 ∧ c = i3 (nc c : Nat)
section AS9
variable {u w : List Int32}
theorem asA_of {m : Nat} (h : m < 128) : nc (i3 (m : Nat)) < 128 ∧ i3 (m : Nat) = i3 (nc (i3 (m : Nat)) : Nat) := by
  have e : nc (i3 (m : Nat)) = m := by
    unfold nc
    rw [i3_int (by omega), Int.toNat_natCast]
  rw [e]
  exact ⟨h, rfl⟩
theorem asA_ap (h : asA u) (g : asA w) : asA (u ++ w) := fun c hc => (List.mem_append.1 hc).elim (h c) (g c)
theorem asA_ls : ∀ i, i < 59 → (mjTxL.getD i []).all (fun c => decide (nc c < 128 ∧ c = i3 (nc c : Nat))) = true := by decide +kernel
theorem asA_W {k : Nat} (h : k ≤ 26) : asA (chW k) := fun c hc => by
  rw [List.mem_singleton.1 hc]
  exact asA_of (by omega)
theorem asA_N (m : Nat) (h : m < 10000) : asA (decN m) := by
  have d : ∀ x, x < 10 → nc (dgt x) < 128 ∧ dgt x = i3 (nc (dgt x) : Nat) := fun x hx => asA_of (by omega)
  intro c hc
  unfold decN at hc
  split at hc
  · simp only [List.mem_cons, List.not_mem_nil, or_false] at hc
    rw [hc]; exact d _ (by omega)
  · split at hc
    · simp only [List.mem_cons, List.not_mem_nil, or_false] at hc
      rcases hc with q | q <;> rw [q] <;> exact d _ (by omega)
    · split at hc
      · simp only [List.mem_cons, List.not_mem_nil, or_false] at hc
        rcases hc with q | q | q <;> rw [q] <;> exact d _ (by omega)
      · simp only [List.mem_cons, List.not_mem_nil, or_false] at hc
        rcases hc with q | q | q | q <;> rw [q] <;> exact d _ (by omega)
theorem asA_Z (z : Int) (h : -10000 < z ∧ z < 10000) : asA (decZ z) := by
  intro c hc
  unfold decZ at hc
  split at hc
  · rcases List.mem_cons.1 hc with q | q
    · rw [q]; exact asA_of (by omega)
    · exact asA_N _ (by omega) c q
  · exact asA_N _ (by omega) c hc
theorem as_A (h : asA u) : ch9 u := fun i hi => by
  refine h (u.getD i 0) ?_
  rw [List.getD_eq_getElem?_getD, List.getElem?_eq_getElem hi]
  exact List.getElem_mem hi
end AS9
