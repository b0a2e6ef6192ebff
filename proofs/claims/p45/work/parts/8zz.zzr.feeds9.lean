/-! the law's feeds-/
def fF9 (Q : Nat → Prop) (W W2 : mjWt) (Z Z2 : mjZt) : Prop := Z2.2.2 = Z.2.2 ∧ (∀ a, a ≠ 0 → a ≠ 1 → ¬ (211 ≤ a ∧ a < 251) → ¬ Q a → Z2.1 a = Z.1 a) ∧ (∀ a, ¬ (211 ≤ a ∧ a < 251) → ¬ Q a → Z2.2.1 a = Z.2.1 a) ∧ ∀ a, ¬ Q a → W2.2 a = W.2 a ∧ W2.1 a = W.1 a
section FF9
variable {sg : Nat → Nat} {W : mjWt} {Zc Y : mjZt} {n : Nat × Nat} {v s r k : Nat} {t : List Int32} {Q : Nat → Prop}
theorem fF_tr {W2 W3 : mjWt} {Z Z2 Z3 : mjZt} (h : fF9 Q W W2 Z Z2) (g : fF9 Q W2 W3 Z2 Z3) : fF9 Q W W3 Z Z3 := ⟨g.1.trans h.1, fun a a1 a2 a3 a4 => (g.2.1 a a1 a2 a3 a4).trans (h.2.1 a a1 a2 a3 a4), fun a a3 a4 => (g.2.2.1 a a3 a4).trans (h.2.2.1 a a3 a4), fun a a4 => ⟨(g.2.2.2 a a4).1.trans (h.2.2.2 a a4).1, (g.2.2.2 a a4).2.trans (h.2.2.2 a a4).2⟩⟩
theorem sS_nw {q : Nat × Nat} {m : Nat} (h : sS (n, mjVw W Zc) s r t) (h1 : 251 ≤ s) (h2 : 251 ≤ r) (d1 : s ≠ v) (d2 : r ≠ v) : sS ((n.1 + 1, m), mjVw (nwW W v q) (nwZ Zc v)) s r t := by
  obtain ⟨a1, a2, a3, a4, a5, a6, a7, a8, a9⟩ := h
  have q1 := vw_k (W := W) (Zc := Zc) h1
  have q2 := vw_k (W := W) (Zc := Zc) h2
  have p1 := vw_k (W := nwW W v q) (Zc := nwZ Zc v) h1
  have p2 := vw_k (W := nwW W v q) (Zc := nwZ Zc v) h2
  have w1 : (nwW W v q).2 s = W.2 s := if_neg d1
  have w2 : (nwW W v q).2 r = W.2 r := if_neg d2
  have z1 : (nwZ Zc v).1 s = Zc.1 s := by
    funext j; exact if_neg d1
  have z2 : (nwZ Zc v).1 r = Zc.1 r := by
    funext j; exact if_neg d2
  have g1 : (mjVw (nwW W v q) (nwZ Zc v)).1 s = (mjVw W Zc).1 s := by rw [q1.2, p1.2, z1]
  have g2 : (mjVw (nwW W v q) (nwZ Zc v)).1 r = (mjVw W Zc).1 r := by rw [q2.2, p2.2, z2]
  have g3 : (mjVw (nwW W v q) (nwZ Zc v)).2.2.1 s 0 = (mjVw W Zc).2.2.1 s 0 := by
    show (if s < 211 then mjRv Zc.2.2.1 Zc.2.2.2 s 0 else (if s = v then none else W.1 s 0)) = (if s < 211 then mjRv Zc.2.2.1 Zc.2.2.2 s 0 else W.1 s 0)
    rw [if_neg (by omega), if_neg (by omega), if_neg (by omega)]
  refine ⟨((p1.1.trans w1).trans q1.1.symm).trans a1, g3.trans a2, ?_, ((p2.1.trans w2).trans q2.1.symm).trans a4, a5, ?_, ?_, ?_, ?_⟩
  · show (mjVw (nwW W v q) (nwZ Zc v)).1 s 1 = _
    rw [g1]; exact a3
  · intro i hi
    show (mjVw (nwW W v q) (nwZ Zc v)).1 r i = _
    rw [g2]; exact a6 i hi
  · show fitB ((mjVw (nwW W v q) (nwZ Zc v)).1 r)
    rw [g2]; exact a7
  · show s < 1000 + (n.1 + 1)
    have : s < 1000 + n.1 := a8
    omega
  · show r < 1000 + (n.1 + 1)
    have : r < 1000 + n.1 := a9
    omega
theorem fd_end {u : List Nat} (h1 : 251 ≤ s) (h2 : 251 ≤ r) (hW : mjWok W) (hn : n.1 < 89000) (hk : k ≤ 700) (hs : sS (n, mjVw W Zc) s r t) (hu : tpC Zc u) (hl : u.length = k) (hge : t.length ≤ k) {M : Nat} : g198_feeds_h4 sg (M + 1) 0 s (i3 (k : Nat)) (i3 (k : Nat)) (n, mjVw W Zc) = some (1, (n, mjVw W (zSi (hid9 Zc) 0 1 (i3 (t.length : Nat))))) := by
  have en := cl_vw (n := n) hW (f := fun Zc => f150_end (i3 (t.length : Nat)) Zc) (y_end (tp_hid hu) (n := t.length) (by omega))
  have hs2 := sS_vw (Y := zSi (hid9 Zc) 0 1 (i3 (t.length : Nat))) hs h1 h2 ((si_obj _ _ _ _ (by omega)).trans (fr_hid s h1)) ((si_obj _ _ _ _ (by omega)).trans (fr_hid r h2))
  rw [g198_feeds_h4, if_pos (ro_of hs.1), q_mlen hs (by show n.1 < 90000; omega), mjBp_some, if_pos (by rw [c_ge (by omega)]; omega), if_neg (by rw [c_lt (by omega)]; omega), if_pos rfl, if_pos ro_0, en, mjBq_some, if_pos (ro_of hs2.1), q_mlen hs2 (by show n.1 < 90000; omega), mjBp_some, if_neg (by simp [mjCmp])]

end FF9
