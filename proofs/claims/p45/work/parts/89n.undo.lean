/-! CALLS: undo -/
section UN
variable {Z Zm : mjZt} {b : Nat} {S : mjS}
theorem mRep_new {Z2 : mjZt} {S2 : mjS} (h : mRep Z S) (e : ∀ f, f ≠ 3 → S2 f = S f) (g1 : ∀ a, a = 216 ∨ (229 ≤ a ∧ a < 239) → Z2.1 a = Z.1 a) (g2 : Z2.2 = Z.2) (g3 : ∀ f, 39 ≤ f → f ≤ 43 → Z2.1 211 f = Z.1 211 f) (g4 : ∀ k, Z2.1 239 k = i3 (S2 3 k)) : mRep Z2 S2 := by
  unfold mRep sT sA sR at h ⊢
  rw [e 0 (by omega), e 1 (by omega), e 2 (by omega), e 4 (by omega), e 5 (by omega), e 6 (by omega), e 7 (by omega), e 8 (by omega), e 9 (by omega), e 10 (by omega), e 11 (by omega), e 12 (by omega), g1 229 (by omega), g1 230 (by omega), g1 231 (by omega), g1 232 (by omega), g1 233 (by omega), g1 234 (by omega), g1 235 (by omega), g1 236 (by omega), g1 216 (by omega), g2, g3 39 (by omega) (by omega), g3 40 (by omega) (by omega), g3 41 (by omega) (by omega), g3 42 (by omega) (by omega), g3 43 (by omega) (by omega)]
  obtain ⟨a1, a2, a3, a4, a5, a6, a7, a8, a9, a10, a11⟩ := h
  exact ⟨a1, a2, a3, a4, a5, a6, a7, a8, g4, a10, a11⟩
theorem q_undo {N U : Nat} {E P : Nat → Nat → Int} (hi : iR Z Zm b S N U E P) : ∃ v Z1 Zm1 S2 N2 U2 E2 P2, f193_undo Z = some (v, Z1) ∧ f239_undo Zm = some (v, Zm1) ∧ iR Z1 Zm1 b S2 N2 U2 E2 P2 ∧ eqY b Z Z1 ∧ eqZ Zm Zm1 := by
  have hi0 := hi
  obtain ⟨hb, h, hd, htr, hv, ho, hoc, hn, hm, hl, hp, hh⟩ := hi0
  have hb2 := b_b h
  have hU := hl.2.1
  unfold f193_undo
  cases U with
  | zero =>
    refine ⟨i3 (-1), Z, Zm, S, N, 0, E, P, ?_, m239n hp, hi, ⟨rfl, fun _ _ _ _ _ _ _ => ⟨rfl, rfl⟩⟩, ⟨rfl, fun _ _ _ _ => rfl, fun _ _ => rfl⟩⟩
    rw [hl.2.2.2.1, if_neg (by decide)]; rfl
  | succ V =>
    obtain ⟨hvE, hP, hh2⟩ := hh
    have ef : ∀ f, f ≠ 3 → tkS (E 0) S f = S f := fun f hf => tk_f hf
    have ho2 := tk_ok ho hvE
    have hoc2 : okC (tkS (E 0) S) := okC_of hoc ef
    have big := fun x hx => tk_big (x := x) ho hvE hx
    obtain ⟨Za, N1, k1, k2, k3, k4⟩ := e10 h ho hl hvE
    generalize hS : tkS (E 0) S = S2 at *
    have hTa : cTr Za b S2 := cTr_e htr ef (fun c c1 c2 => (k2.2 c (by omega) (by omega) (by omega) (by omega)).1)
    have hba : Za.2.2.1 = b := by rw [k2.1]; exact hb
    obtain ⟨Z1, r1, r2, r3, r4, r5, r6, r7⟩ := e151 hba k4 hTa ho2 hoc2
    have hb1 : Z1.2.2.1 = b := by rw [r2]; exact hba
    have hlg : lgR Z1 N1 V (fun k => E (k + 1)) := by
      unfold lgR at k3 ⊢
      rw [(r3 209 (by omega) (by omega) (by omega) (by omega)).1, (r3 210 (by omega) (by omega) (by omega) (by omega)).1]
      exact k3
    obtain ⟨Zm1, n1, ⟨n2, n3, n4, n5⟩, n6, n7⟩ := m239 (U := V) (by omega) hp
    have mw : mRep Zm1 S2 := mRep_new hm ef (fun a ha => n3 a (by omega) (by omega)) n2 (fun f f1 f2 => n4 f (by omega)) (fun k => by
      by_cases q : k < 108
      · rw [n7 k q, hP k q]
      · rw [n5 k (by omega), m_nw hm, big k (by omega)])
    refine ⟨i3 V, Z1, Zm1, S2, N1, V, fun k => E (k + 1), P, ?_, n1, ⟨hb1, r4, r5, r6, r7, ho2, hoc2, okN_of hn ef, mw, hlg, n6, hh2⟩, ?_, ?_⟩
    · rw [hl.2.2.2.1, show (0 : Int32) = i3 0 from rfl, if_pos (by rw [c_ne (by omega)]; omega), hb, k1, mjBd_some, r1, mjBd_some, hlg.2.2.2.1]
    · refine ⟨by rw [r2, k2.1], fun c c1 c2 c3 c4 c5 c6 => ⟨?_, ?_⟩⟩
      · rw [(r3 c c1 c2 c3 c4).1]; exact (k2.2 c (by omega) (by omega) c5 c6).1
      · rw [(r3 c c1 c2 c3 c4).2]; exact (k2.2 c (by omega) (by omega) c5 c6).2
    · exact ⟨n2, fun c c1 c2 c3 => n3 c c1 c3, fun f hf => n4 f hf⟩
end UN
