/-! the text's characters, all lines-/
section AT9
variable {u w : List Int32} {a a2 : mjK} {Lg : Nat}
theorem asA_tx {s : Nat} (hs : 1000000 ≤ s ∧ s < 1000059) : asA (txS s) := by
  have h1 : txS s = mjTxL.getD (s - 1000000) [] := by
    unfold txS mjTx0
    rw [if_neg (by omega), if_neg (by omega)]
  rw [h1]
  intro c hc
  have := List.all_eq_true.1 (asA_ls (s - 1000000) (by omega)) c hc
  exact of_decide_eq_true this
theorem asA_lf (h : grLf u) : asA u := by
  rcases h with ⟨m, h1, h2⟩ | ⟨k, h1, h2⟩
  · rw [h2]; exact asA_N _ h1
  · rw [h2]; exact asA_tx (by omega)
theorem asA_M {U : List Int32 → Prop} (g : ∀ u, U u → asA u) (h : grM U u) : asA u := by
  rcases h with h | ⟨x, y, h1, h2, h3⟩
  · exact g u h
  · rw [h3]; exact asA_ap (g x h1) (asA_ap (asA_tx (by omega)) (g y h2))
theorem asA_E {U : List Int32 → Prop} (g : ∀ u, U u → asA u) (h : grE U u) : asA u := by
  rcases h with h | ⟨x, y, s, h1, h2, h3, h4⟩
  · exact asA_M g h
  · rw [h4]; exact asA_ap (asA_M g h1) (asA_ap (asA_tx (by omega)) (asA_M g h2))
theorem asA_U : ∀ (n : Nat) (u : List Int32), grU n u → asA u
  | 0, u, h => asA_lf h
  | n + 1, u, h => by
    rcases h with h | ⟨x, h1, h2⟩
    · exact asA_lf h
    · rw [h2]; exact asA_ap (asA_tx (by omega)) (asA_ap (asA_E (asA_U n) h1) (asA_tx (by omega)))
theorem asA_C (h : grC u) : asA u := by
  obtain ⟨x, y, s, h1, h2, h3, h4⟩ := h
  rw [h4]
  exact asA_ap (asA_E (asA_U 2) h1) (asA_ap (asA_tx (by omega)) (asA_ap (asA_tx (by omega)) (asA_ap (asA_tx (by omega)) (asA_E (asA_U 2) h2))))
theorem asA_Ag {B : List Int32 → Prop} (g : ∀ u, B u → asA u) (h : grA B u) : asA u := by
  rcases h with h | ⟨x, y, h1, h2, h3⟩
  · exact g u h
  · rw [h3]; exact asA_ap (g x h1) (asA_ap (asA_tx (by omega)) (g y h2))
theorem asA_T {B : List Int32 → Prop} (g : ∀ u, B u → asA u) (h : grT B u) : asA u := by
  rcases h with h | ⟨x, y, h1, h2, h3⟩
  · exact asA_Ag g h
  · rw [h3]; exact asA_ap (asA_Ag g h1) (asA_ap (asA_tx (by omega)) (asA_Ag g h2))
theorem asA_B : ∀ (n : Nat) (u : List Int32), grB n u → asA u
  | 0, u, h => asA_C h
  | n + 1, u, h => by
    rcases h with h | ⟨x, h1, h2⟩ | ⟨x, h1, h2⟩
    · exact asA_C h
    · rw [h2]; exact asA_ap (asA_tx (by omega)) (asA_B n x h1)
    · rw [h2]; exact asA_ap (asA_tx (by omega)) (asA_ap (asA_T (asA_B n) h1) (asA_tx (by omega)))
end AT9
