/-! the law behind its first row-/
section JN9
variable {sg : Nat → Nat} {W : mjWt} {Zc Zp Y : mjZt} {n : Nat × Nat} {v w b N Np U x T : Nat} {S0 : mjS} {E Ep : Nat → Nat → Int} {L : Nat} {xs : Nat → Int32}
theorem lw_behind (hW : mjWok W) (hT : 1 ≤ T ∧ T ≤ 3) (hi : cI9 Zc b S0 N 0 E) (hp : cI9 Zp b S0 Np U Ep) (hs : scZ Zc L xs) (ht : tmI W Zc x T) (hv : 251 ≤ v ∧ v < 1000000) (kv : W.2 v = (113, 54)) (hr : ∀ k, k < 54 → avF (hid9 Zp) k = some (Zc.1 v k)) (hw : 251 ≤ w ∧ w < 1000000) (hvw : v ≠ w) (hn : n.1 < 100000) (hg : sg n.1 = w) : ∃ M9 : mjMem, g256_law_h69 sg mjF 2000000 x 0 v 0 0 (n, mjVw W Zc) = some (1, ((n.1 + 1, n.2 + 54), M9)) := by
  obtain ⟨Y1, U2, N2, S2, E2, f1, u, c1, h1, e1⟩ := lw_loop (sg := sg) (n := n) (v := v) (S0 := S0) hW hT 6 0 mjF Zc 0 N S0 E (by omega) (by unfold mjF; omega) (Nat.le_refl _) hi rfl hs ht
  obtain ⟨Y2, N3, E3, f2, c2, e2⟩ := lw_undo (sg := sg) (n := n) (v := v) (S0 := S0) hW U2 mjF Y1 N2 S2 E2 (by unfold mjF; omega) (by omega) c1 h1
  obtain ⟨Y3, a1, a2, a3, a4⟩ := r_all (sg := sg) (n := n) (v := w) c2 hW hw.1 hw.2 hn hg
  have c3 : cI9 Y3 b S0 N3 0 E3 := cI_lo a3 (fun a ha => a2.2.1 a (by omega)) a2.1
  have kv2 : (nwW W w (113, 54)).2 v = (113, 54) := (if_neg hvw).trans kv
  have kw2 : (nwW W w (113, 54)).2 w = (113, 54) := if_pos rfl
  have f3 := fr9_tr f1 f2
  have he : ∀ k, k < 54 → Y3.1 w k = Y3.1 v k := fun k hk => by
    obtain ⟨y, y1, y2⟩ := av_same (cI_hid a3) (cI_hid hp) k
    have q1 := a2.2.2 k hk
    have q2 := hr k hk
    rw [y1] at q1
    rw [y2] at q2
    have g1 : Y3.1 v = (nwZ Y2 w).1 v := (a2.2.1 v hvw).1
    have g2 : (nwZ Y2 w).1 v = Y2.1 v := by
      funext j; exact if_neg hvw
    have g3 : Y2.1 v = Zc.1 v := f3 v hv.1
    rw [g1, g2, g3]
    have e1 := Option.some.inj q1
    have e2 := Option.some.inj q2
    rw [← e1, ← e2]
  refine ⟨mjVw (nwW W w (113, 54)) Y3, e1.trans (e2.trans ?_)⟩
  rw [a1, mjBq_some]
  exact lw_cmp a4 c3 hv hw kv2 kw2 he 54 0 mjF (by omega) (by unfold mjF; omega)
end JN9
