/-! THE LAW, ITS STEPS PUT TOGETHER -/
section LW8
variable {sg : Nat → Nat} {p0 s v c : Nat} {Z Z103 Z105 Z109 Z111 Z128 Z131 Z139 Z9 : mjQ}
theorem law_of (h1 : qNew sg Z (16, 0) = some (1000, Z103)) (h2 : qWo sg 1000 p0 Z103 = some Z105) (h3 : qNew sg Z105 (11, 0) = some (0, Z109)) (h4 : qIni sg 0 Z109 = some Z111) (h5 : mjRo Z111.2 0 11 = true) (h6 : qCl (fun Zc => f193_undo Zc) Z111 = some (-1, Z111)) (h7 : qClp (fun Zc => f157_lane 1 Zc) Z111 = some (-1)) (h8 : qR Z111.2 1000 16 13 = some s) (h9 : g198_feeds sg 0 s Z111 = some (1, Z128)) (h10 : mjRo Z128.2 0 11 = true) (h11 : qCl (fun Zc => f152_book Zc) Z128 = some (i3 (c : Nat), Z131)) (h12 : qI Z131.2 1000 16 7 = some (i3 (c : Nat))) (h13 : g199_all sg 0 Z131 = some (v, Z139)) (h14 : g256_law_h69 sg mjF p0 1000 0 v 0 0 Z139 = some (1, Z9)) : g256_law sg p0 Z = some (1, Z9) := by
  unfold g256_law
  rw [h1, mjBq_some, h2, mjBp_some, h3, mjBq_some, h4, mjBp_some, if_pos rfl, if_pos h5, h6, mjBq_some, if_neg (by decide), if_pos h5, h7, mjBp_some, if_neg (by decide), h8, mjBp_some, h9, mjBq_some, if_neg (by decide), if_pos h10, h11, mjBq_some, h12, mjBp_some, if_pos (eq_self _), h13, mjBq_some]
  exact h14
end LW8
section LW9
variable {B L c T l w : Nat} {xs : Nat → Int32} {W : mjWt} {Z : mjZt}
/-- the start of the class's part: what the World and the constructor leave-/
theorem tp_head (hL : L ≤ 260) : ∃ (B k s r l c T Lg : Nat) (t : List Int32) (a : mjK) (M : mjMem) (Zf : mjQ), (1 ≤ B ∧ B ≤ 75000) ∧ k ≤ 3100000 ∧ t.length ≤ 681 ∧ c ≤ 30 ∧ (1 ≤ T ∧ T ≤ 3) ∧ lnsW Lg c a t ∧ stT B L xs c T l (M.2.2.1, M.2.2.2) (Zi9 M) ∧ M.2.2.1 1000 13 = some s ∧ sS ((B + 211, k), mjVw (M.2.2.1, M.2.2.2) (Zi9 M)) s r t ∧ (1000 ≤ s ∧ s < 1000 + B) ∧ (1000 ≤ r ∧ r < 1000 + B) ∧ hid9 (Zi9 M) = Zi9 M ∧ g197_init sg0 1000 2000000 ((0 + 1, 0 + mjSzK (16, 0)), mjZr (mjM0 L xs w) 1000 (16, 0)) = some ((), Zf) ∧ Zf.1.1 = B ∧ M = mjZr Zf.2 0 (11, 0) ∧ k = Zf.1.2 + mjSzK (11, 0) - zS9 1 + zS9 211 ∧ cAp cW9 M = mjVw (M.2.2.1, M.2.2.2) (Zi9 M) ∧ zS9 1 ≤ mjSzK (11, 0) ∧ mjZr M 0 (mjKc (mjLay 0)) = M := by
  obtain ⟨Zf, t, c, T, Lg, h1, h2, h3, h4, h5, h6, h7, h8, h9, h10⟩ := tp_world (L := L) (xs := xs) (w := w) hL
  obtain ⟨M, hM⟩ : ∃ M : mjMem, M = mjZr Zf.2 0 (11, 0) := ⟨_, rfl⟩
  have z0 : mjKc (mjLay 0) = (11, 0) := rfl
  have zk : zS9 1 = mjSzK (11, 0) := by
    show 0 + mjSzK (mjKc (mjLay 0)) = mjSzK (11, 0)
    rw [z0, Nat.zero_add]
  have zz : mjZr M 0 (mjKc (mjLay 0)) = M := by
    rw [z0, hM]; exact zr_zr
  have zb : zS9 211 ≤ 50000 := by decide +kernel
  have lo : ∀ a, a < 1000 → Zf.2.1 a = (fun _ => 0) ∧ Zf.2.2.1 a = (fun _ => 0) ∧ Zf.2.2.2.2 a = (99, 0) := fun a ha => by
    obtain ⟨g1, g2, -, g4⟩ := h10 a ha
    obtain ⟨m1, m2, m3⟩ := m0_0 (L := L) (xs := xs) (w := w) (a := a) (by omega)
    exact ⟨g1.trans m1, g2.trans m2, g4.trans m3⟩
  have hi : ∀ a, ¬ a = 0 → M.1 a = Zf.2.1 a ∧ M.2.1 a = Zf.2.2.1 a ∧ M.2.2.1 a = Zf.2.2.2.1 a ∧ M.2.2.2 a = Zf.2.2.2.2 a := fun a ha => by
    rw [hM]; exact zr_o ha
  have hM2 : ∀ a, 211 ≤ a → a < 251 → M.1 a = (fun _ => 0) ∧ M.2.1 a = (fun _ => 0) := fun a g1 g2 => by
    have := hi a (by omega)
    have g := lo a (by omega)
    exact ⟨this.1.trans g.1, this.2.1.trans g.2.1⟩
  have big : ∀ a q, Zf.2.2.2.2 a = (q, 0) → q ≠ 99 → 1000 ≤ a := fun a q e hq => by
    by_cases g : a < 1000
    · have := (lo a g).2.2
      rw [e] at this
      exact absurd (congrArg Prod.fst this) hq
    · omega
  have big2 : ∀ a q n, Zf.2.2.2.2 a = (q, n) → q ≠ 99 → 1000 ≤ a := fun a q n e hq => by
    by_cases g : a < 1000
    · have := (lo a g).2.2
      rw [e] at this
      exact absurd (congrArg Prod.fst this) hq
    · omega
  obtain ⟨n, q, s, r, a, w1, w2, w3, w4, w5, w6, w7, w8, w9⟩ := h2
  obtain ⟨⟨a1, a2, a3, a4, a5, a6⟩, a7, a8, a9⟩ := w1
  obtain ⟨s1, s2, s3, s4, s5, s6, s7, s8, s9⟩ := w4
  obtain ⟨l1, l2, l3, l4, l5⟩ := a9.1 0 (by omega)
  have hs := big s 18 s1 (by omega)
  have hr := big2 r 118 _ s4 (by omega)
  have hl := big (q.2.2.2 0).1 20 l1 (by omega)
  have hW : mjWok (M.2.2.1, M.2.2.2) := fun a ha => by
    show (M.2.2.2 a).1 = 99
    rw [(hi a (by omega)).2.2.2]
    exact a7 a ha
  have zi : ∀ a, 1000 ≤ a → (Zi9 M).1 a = Zf.2.1 a := fun a ha => (zi_hi ha).trans (hi a (by omega)).1
  refine ⟨Zf.1.1, Zf.1.2 + mjSzK (11, 0) - zS9 1 + zS9 211, s, r, (q.2.2.2 0).1, c, T, Lg, t, a, M, Zf, ⟨h9, h6⟩, by omega, h5, h8, ⟨h3, h4⟩, w8, ⟨hW, ⟨hL, ?_, ?_⟩, ?_, ?_, ⟨hl, l4⟩, ?_, ?_, ?_⟩, ?_, ?_, ⟨hs, s8⟩, ⟨hr, s9⟩, zi_hid hM2, h1, rfl, hM, rfl, ini_vw hM2 (ini_k zz), by omega, zz⟩
  · rw [zi 2000001 (by omega)]; exact a8.2.1
  · rw [zi 2000000 (by omega)]; exact a8.2.2
  · show M.2.2.2 1000 = (16, 0)
    rw [(hi 1000 (by omega)).2.2.2]; exact a1
  · show M.2.2.1 1000 8 = _
    rw [(hi 1000 (by omega)).2.2.1, a2]; exact w6
  · show M.2.2.2 _ = (20, 0)
    rw [(hi _ (by omega)).2.2.2]; exact l1
  · rw [zi _ hl, l3, w7]
  · rw [zi 1000 (by omega), a5 7 (by omega)]; exact w5
  · rw [(hi 1000 (by omega)).2.2.1, a2]; exact w3
  · have ks := vw_k (W := (M.2.2.1, M.2.2.2)) (Zc := Zi9 M) (a := s) (by omega)
    have kr := vw_k (W := (M.2.2.1, M.2.2.2)) (Zc := Zi9 M) (a := r) (by omega)
    refine ⟨?_, ?_, ?_, ?_, s5, ?_, ?_, by show s < 1000 + (Zf.1.1 + 211); omega, by show r < 1000 + (Zf.1.1 + 211); omega⟩
    · show (mjVw (M.2.2.1, M.2.2.2) (Zi9 M)).2.2.2 s = _
      rw [ks.1]
      exact (hi s (by omega)).2.2.2.trans s1
    · show (if s < 211 then mjRv (Zi9 M).2.2.1 (Zi9 M).2.2.2 s 0 else M.2.2.1 s 0) = some r
      rw [if_neg (by omega), (hi s (by omega)).2.2.1]; exact s2
    · show (mjVw (M.2.2.1, M.2.2.2) (Zi9 M)).1 s 1 = _
      rw [ks.2, zi s hs]; exact s3
    · show (mjVw (M.2.2.1, M.2.2.2) (Zi9 M)).2.2.2 r = _
      rw [kr.1]
      exact (hi r (by omega)).2.2.2.trans s4
    · intro i hi9
      show (mjVw (M.2.2.1, M.2.2.2) (Zi9 M)).1 r i = _
      rw [kr.2, zi r hr]; exact s6 i hi9
    · show fitB ((mjVw (M.2.2.1, M.2.2.2) (Zi9 M)).1 r)
      rw [kr.2, zi r hr]; exact s7
end LW9
