/-! CALLS: measure, its heart -/
section ME
variable {Z Zm : mjZt} {b : Nat} {S : mjS}
theorem me_go {N U : Nat} {E P : Nat → Nat → Int} (hi : iR Z Zm b S N U E P) {t l : Nat} (ht : t < sT S) (hl2 : l < sTd S t) {x y : Int} (hx : 20 ≤ x ∧ x ≤ 999) (hy : -20 ≤ y ∧ y ≤ 20) (hz : l + 1 = sLg S → y = 0) : ∃ v Z1 Zm1 S2 N2 U2 E2 P2, (mjBp (f108_tenthsOf (tmB b t) (i3 ((l + 1 : Nat) : Int)) Z) fun v124 => mjBp (f32_metresOf (tmB b t) (i3 ((l + 1 : Nat) : Int)) Z) fun v127 => mjBd (f4_keep 3 (i3 t) (i3 ((l + 1 : Nat) : Int)) v124 v127 Z) fun _ Z131 => mjBd (f9_setLeg (tmB b t) (i3 ((l + 1 : Nat) : Int)) (i3 x) (i3 y) Z131) fun _ Z134 => mjBd (f151_settleAll Z134) fun _ Z137 => mjBp (f99_time (tmB b t) Z137) fun v139 => some (v139, Z137)) = some (v, Z1) ∧ f322_measure_j104 (i3 t) (i3 x) (i3 y) (i3 l) Zm = some (v, Zm1) ∧ iR Z1 Zm1 b S2 N2 U2 E2 P2 ∧ eqY b Z Z1 ∧ eqZ Zm Zm1 := by
  obtain ⟨hb, h, hd, htr, hv, ho, hoc, hn, hm, hl, hp, hh⟩ := hi
  have hb2 := b_b h
  have o1 := ok_sc ho
  have o2 := ok_tm ho ht
  have og := ok_leg ho ht hl2
  have hT : tmB b t = b + 18 + 5 * t := rfl
  have r0 := is_tmr hb2 t (by omega) 0 (by omega)
  have r1' := is_tmr hb2 t (by omega) 1 (by omega)
  have f108 : f108_tenthsOf (tmB b t) (i3 ((l + 1 : Nat) : Int)) Z = some (i3 (sTn S t l)) := by
    unfold f108_tenthsOf
    rw [if_pos (is_tm hb2 t (by omega)), e5 r0.1 r0.2 (by omega) (by omega), mjBp_some, Int.toNat_natCast, b_tn h ht hl2]
  have f32 : f32_metresOf (tmB b t) (i3 ((l + 1 : Nat) : Int)) Z = some (i3 (sMt S t l)) := by
    unfold f32_metresOf
    rw [if_pos (is_tm hb2 t (by omega)), e5 r1'.1 r1'.2 (by omega) (by omega), mjBp_some, Int.toNat_natCast, b_mt h ht hl2]
  generalize hS : updS (updS S (12 * t + 2 * l) x) (12 * t + 2 * l + 1) y = S2
  have ef : ∀ f, f ≠ 3 → S2 f = S f := fun f hf => by rw [← hS, updS_f hf, updS_f hf]
  have ho2 : okS S2 := by rw [← hS]; exact okS_upL ho ht hl2 hx hy hz
  have hoc2 : okC S2 := okC_of hoc ef
  have eT : sT S2 = sT S := by unfold sT; rw [ef 10 (by omega)]
  have eD : ∀ u, sTd S2 u = sTd S u := fun u => by unfold sTd; rw [ef 2 (by omega)]
  have eL : sLg S2 = sLg S := by unfold sLg; rw [ef 0 (by omega)]
  generalize he : (fun j => if j = 0 then (3 : Int) else if j = 1 then (t : Int) else if j = 2 then ((l + 1 : Nat) : Int) else if j = 3 then sTn S t l else sMt S t l) = e
  have e0 : e 0 = 3 := by rw [← he]; rfl
  have e1 : e 1 = t := by rw [← he]; rfl
  have e2 : e 2 = ((l + 1 : Nat) : Int) := by rw [← he]; rfl
  have e3 : e 3 = sTn S t l := by rw [← he]; rfl
  have e4' : e 4 = sMt S t l := by rw [← he]; rfl
  obtain ⟨Za, k1, k2, k3⟩ := e4 hl e
  rw [e0, e1, e2, e3, e4'] at k1
  generalize hZb : zSi (zSi Za (tmB b t + 1) (l + 1) (i3 x)) (tmB b t + 2) (l + 1) (i3 y) = Zb
  have hBb : cBk Zb b S2 := by rw [← hZb, ← hS]; exact cBk_upL ho (cBk_l ho h k2) ht hl2
  have hTb : cTr Zb b S2 := cTr_e htr ef (fun c c1 c2 => by rw [← hZb, si_obj _ _ _ _ (by omega), si_obj _ _ _ _ (by omega)]; exact k2.2 c (by omega) (by omega))
  have hbb : Zb.2.2.1 = b := by rw [← hZb, si_lng, si_lng, k2.1]; exact hb
  obtain ⟨Z1, r1, r2, r3, r4, r5, r6, r7⟩ := e151 hbb hBb hTb ho2 hoc2
  have hb1 : Z1.2.2.1 = b := by rw [r2]; exact hbb
  have hlg : lgR Z1 (lgN N) (lgU U) (lgE E e) := by
    unfold lgR at k3 ⊢
    rw [(r3 209 (by omega) (by omega) (by omega) (by omega)).1, (r3 210 (by omega) (by omega) (by omega) (by omega)).1, ← hZb, si_obj _ _ _ _ (by omega), si_obj _ _ _ _ (by omega), si_obj _ _ _ _ (by omega), si_obj _ _ _ _ (by omega)]
    exact k3
  obtain ⟨Zn, n1, n2, n3⟩ := m238 (h := S 3) hl.2.1 hp (fun x _ => m_nw hm x)
  rw [lgU_eq hl.2.1] at n3
  have mn := mRep_u hm n2
  have mw : mRep (zSi (zSi Zn 239 (12 * t + 2 * l) (i3 x)) 239 (12 * t + 2 * l + 1) (i3 y)) S2 := by
    rw [← hS]
    refine mRep_upd (y := S 3 (12 * t + 2 * l + 1)) ?_
    have : updS (updS S (12 * t + 2 * l) x) (12 * t + 2 * l + 1) (S 3 (12 * t + 2 * l + 1)) = updS S (12 * t + 2 * l) x := by
      have q := updS_self (S := updS S (12 * t + 2 * l) x) (K := 12 * t + 2 * l + 1)
      rw [updS_n (by omega)] at q
      exact q
    rw [this]
    exact mRep_upd (y := S 3 (12 * t + 2 * l)) (by rw [updS_self]; exact mn)
  refine ⟨i3 (sTm S2 t), Z1, zSi (zSi Zn 239 (12 * t + 2 * l) (i3 x)) 239 (12 * t + 2 * l + 1) (i3 y), S2, lgN N, lgU U, lgE E e, psh U P (S 3), ?_, ?_, ⟨hb1, r4, r5, r6, r7, ho2, hoc2, okN_of hn ef, mw, hlg, ?_, ?_⟩, ?_, ?_⟩
  · rw [f108, mjBp_some, f32, mjBp_some, show (3 : Int32) = i3 3 from rfl, k1, mjBd_some, e9 hb2 (by omega) (by omega), mjBd_some, hZb, r1, mjBd_some, e99 r4 r5 ho2 (by omega), mjBp_some]
  · unfold f322_measure_j104
    rw [n1, mjBd_some, show (12 : Int32) = i3 12 from rfl, show (2 : Int32) = i3 2 from rfl, i3_mul, i3_mul, i3_add, if_pos (in_p (by omega)), ix_i3 (by omega), show ((12 : Int) * t + 2 * l).toNat = 12 * t + 2 * l by omega, let_eq, i3_s0, if_pos (in_p (by omega)), ix_i3 (by omega), show ((12 : Int) * t + 2 * l + 1).toNat = 12 * t + 2 * l + 1 by omega, let_eq, m246 mw ho2 (by omega), mjBp_some]
  · unfold ptR at n3 ⊢
    rw [si_obj _ _ _ _ (by omega), si_obj _ _ _ _ (by omega), si_obj _ _ _ _ (by omega), si_obj _ _ _ _ (by omega)]
    exact n3
  · refine hs_push hl.2.1 (Or.inr (Or.inr (Or.inr ⟨e0, by omega, by omega, by omega, ?_, by omega, by omega, by omega, by omega, ?_⟩))) (by rw [← hS]; exact tk_measure e e0 e1 e2 e3 e4') hh
    · rw [e1, Int.toNat_natCast, eD]; omega
    · rw [e2, eL, e4']; intro g; exact og.2.2.2.2 (by omega)
  · refine ⟨by rw [r2, ← hZb, si_lng, si_lng, k2.1], fun c c1 c2 c3 c4 c5 c6 => ⟨?_, ?_⟩⟩
    · rw [(r3 c c1 c2 c3 c4).1, ← hZb, si_obj _ _ _ _ (by omega), si_obj _ _ _ _ (by omega)]; exact k2.2 c c5 c6
    · rw [(r3 c c1 c2 c3 c4).2, ← hZb, si_lng, si_lng, k2.1]
  · exact ⟨n2.1, fun c c1 c2 c3 => by rw [si_obj _ _ _ _ c1, si_obj _ _ _ _ c1]; exact n2.2.1 c c2 c3, fun f hf => by rw [si_obj _ _ _ _ (by omega), si_obj _ _ _ _ (by omega)]; exact n2.2.2 f hf⟩
end ME
