/-! the text's characters, the whole text-/
section AV9
variable {u : List Int32} {a a2 : mjK} {Lg : Nat}
theorem asA_hd (h : hdW Lg u) : asA u := by
  obtain ⟨l1, l2, le, be, af, cu, b1, b2, b3, b4, b5, e⟩ := h
  rw [e]
  refine asA_ap (asA_tx (by omega)) (asA_ap (asA_Z _ (by omega)) (asA_ap (asA_tx (by omega)) (asA_ap (asA_Z _ (by omega)) (asA_ap (asA_tx (by omega)) (asA_ap (asA_Z _ (by omega)) (asA_ap (asA_tx (by omega)) (asA_ap (asA_Z _ (by omega)) (asA_ap (asA_tx (by omega)) (asA_ap (asA_Z _ (by omega)) (asA_tx (by omega)))))))))))
theorem asA_nil : asA [] := fun c hc => absurd hc (List.not_mem_nil)
theorem asA_ln (ha : a.1.length ≤ 3) (h : lnW Lg a a2 u) : asA u ∧ a2.1.length ≤ 3 := by
  rcases h with h | h | h | h | h | h
  · obtain ⟨l, h1, h2, h3, h4, h5, h6⟩ := h
    refine ⟨?_, ?_⟩
    · rw [h5]; exact asA_ap (asA_tx (by omega)) (asA_ap (asA_W (by omega)) (asA_ap (asA_tx (by omega)) (asA_ap (asA_Z _ (by omega)) (asA_tx (by omega)))))
    · rw [h6]; show (a.1 ++ [l]).length ≤ 3
      rw [List.length_append]; show a.1.length + 1 ≤ 3
      omega
  · obtain ⟨k, te, m, h1, h2, h3, h4, h5, h6, h7, h8, h9⟩ := h
    refine ⟨?_, ?_⟩
    · rw [h8]; exact asA_ap (asA_tx (by omega)) (asA_ap (asA_W (by omega)) (asA_ap (asA_tx (by omega)) (asA_ap (asA_Z _ (by omega)) (asA_ap (asA_tx (by omega)) (asA_ap (asA_Z _ (by omega)) (asA_tx (by omega)))))))
    · rw [h9]; exact ha
  · obtain ⟨kd, tm, ot, te, sz, h1, h2, h3, h4, h5, h6, h7, h8⟩ := h
    refine ⟨?_, ?_⟩
    · have e : asA (if kd = 3 then txS 1000052 ++ chW ot else []) := by
        by_cases q : kd = 3
        · have := (h3 q).1
          rw [if_pos q]; exact asA_ap (asA_tx (by omega)) (asA_W (by omega))
        · rw [if_neg q]; exact asA_nil
      rw [h7]; exact asA_ap (asA_tx (by omega)) (asA_ap (asA_tx (by omega)) (asA_ap (asA_tx (by omega)) (asA_ap (asA_W (by omega)) (asA_ap e (asA_ap (asA_tx (by omega)) (asA_ap (asA_Z _ (by omega)) (asA_ap (asA_tx (by omega)) (asA_ap (asA_Z _ (by omega)) (asA_tx (by omega))))))))))
    · rw [h8]; exact ha
  · obtain ⟨kd, w, e, h1, h2, h3, h4, h5, h6⟩ := h
    refine ⟨?_, ?_⟩
    · have he : asA e := by
        rcases h3 with q | ⟨w2, q1, q2⟩
        · rw [q]; exact asA_nil
        · rw [q2]; exact asA_ap (asA_tx (by omega)) (asA_T (asA_B 2) q1)
      rw [h5]; exact asA_ap (asA_tx (by omega)) (asA_ap (asA_W (by omega)) (asA_ap (asA_tx (by omega)) (asA_ap (asA_tx (by omega)) (asA_ap (asA_tx (by omega)) (asA_ap (asA_T (asA_B 2) h2) (asA_ap he (asA_tx (by omega))))))))
    · rw [h6]; exact ha
  · obtain ⟨k, h1, h2, h3, h4, h5⟩ := h
    refine ⟨?_, ?_⟩
    · rw [h4]; exact asA_ap (asA_tx (by omega)) (asA_ap (asA_Z _ (by omega)) (asA_tx (by omega)))
    · rw [h5]; exact ha
  · obtain ⟨k, h1, h2, h3, h4⟩ := h
    refine ⟨?_, ?_⟩
    · rw [h3]; exact asA_ap (asA_tx (by omega)) (asA_ap (asA_Z _ (by omega)) (asA_tx (by omega)))
    · rw [h4]; exact ha
theorem lns_as : ∀ (c : Nat) (a : mjK) (t : List Int32), lnsW Lg c a t → asA t ∧ a.1.length ≤ 3
  | 0, a, t, h => by
    obtain ⟨h1, h2⟩ := h
    refine ⟨asA_hd h2, ?_⟩
    rw [h1]; exact Nat.zero_le _
  | c + 1, a, t, h => by
    obtain ⟨a1, t1, w, h1, h2, h3⟩ := h
    obtain ⟨g1, g2⟩ := lns_as c a1 t1 h1
    obtain ⟨g3, g4⟩ := asA_ln g2 h2
    rw [h3]
    exact ⟨asA_ap g1 g3, g4⟩
theorem lns_ch {c : Nat} {t : List Int32} (h : lnsW Lg c a t) : ch9 t := as_A (lns_as c a t h).1
end AV9
