/-! CONDITIONS READ: an operator that joins -/
theorem pN_pT {x : Int} : ∀ L, pN x L → pT L → False
  | [], h, _ => h
  | (c, a) :: L, h, ⟨g1, _, _⟩ => by
    have hc : c = 40 ∨ c = 41 ∨ c = 42 ∨ c = 50 := of_decide_eq_true g1
    rcases h with ⟨h1, _⟩ | ⟨h1, _⟩
    · have : c = 21 ∨ c = 22 ∨ c = 23 ∨ c = 51 := of_decide_eq_true h1
      omega
    · have : c = 52 ∨ c = 30 ∨ c = 31 ∨ c = 32 := of_decide_eq_true h1
      omega
theorem rd_N {q : Int → Bool} {x : Int} (hx : q x = false) : ∀ (L : pL) (S : mjS) (m : Nat), pN x L → pN x (rd q L S m).2.2
  | [], _, _, h => h
  | (c, a) :: L, S, m, h => by
    rw [rd]
    by_cases g : q c = true
    · rw [if_pos g]
      rcases h with ⟨h1, h2, h3⟩ | ⟨h1, h2, h3⟩
      · exact rd_N hx L _ _ h3
      · rw [h2, hx] at g; cases g
    · rw [if_neg g]; exact h
theorem rd_T {q : Int → Bool} : ∀ (L : pL) (S : mjS) (m : Nat), pT L → pT (rd q L S m).2.2
  | [], _, _, h => h
  | (c, a) :: L, S, m, h => by
    rw [rd]
    by_cases g : q c = true
    · rw [if_pos g]; exact rd_T L _ _ h.2.2
    · rw [if_neg g]; exact h
theorem rd_crl {q : Int → Bool} (h : q 51 = false) : ∀ (L : pL) (S : mjS) (m : Nat), crl (rd q L S m).2.2 = crl L
  | [], _, _ => rfl
  | (c, a) :: L, S, m => by
    rw [rd]
    by_cases g : q c = true
    · rw [if_pos g, rd_crl h L, crl, if_neg (by intro e; rw [e, h] at g; cases g)]; rfl
    · rw [if_neg g]
/-- piles hold codes -/
theorem pT_mem : ∀ L, pT L → ∀ c a, (c, a) ∈ L → 0 ≤ c ∧ c ≤ 60
  | [], _, c, a, h => by cases h
  | (d, k) :: L, ⟨g1, _, g3⟩, c, a, h => by
    rcases List.mem_cons.mp h with h | h
    · have hc : d = 40 ∨ d = 41 ∨ d = 42 ∨ d = 50 := of_decide_eq_true g1
      have := (Prod.mk.inj h).1
      omega
    · exact pT_mem L g3 c a h
theorem pN_mem {x : Int} : ∀ L, pN x L → ∀ c a, (c, a) ∈ L → 0 ≤ c ∧ c ≤ 60
  | [], h, _, _, _ => h.elim
  | (d, k) :: L, h, c, a, hm => by
    rcases h with ⟨g1, _, g3⟩ | ⟨g1, _, g3⟩
    · rcases List.mem_cons.mp hm with hm | hm
      · have hc : d = 21 ∨ d = 22 ∨ d = 23 ∨ d = 51 := of_decide_eq_true g1
        have := (Prod.mk.inj hm).1
        omega
      · exact pN_mem L g3 c a hm
    · rcases List.mem_cons.mp hm with hm | hm
      · have hc : d = 52 ∨ d = 30 ∨ d = 31 ∨ d = 32 := of_decide_eq_true g1
        have := (Prod.mk.inj hm).1
        omega
      · exact pT_mem L g3 c a hm
theorem stg_mem {x : Int} {ty : Bool} {L : pL} (h : stg x ty L) : ∀ c a, (c, a) ∈ L → 0 ≤ c ∧ c ≤ 60 := by
  rcases h with ⟨_, h⟩ | ⟨_, h⟩
  · exact pN_mem L h
  · exact pT_mem L h
section JN
variable {X : Nat → Nat} {n b fr wr : Nat} {x : Int}
theorem t_jn (hb : b = 2 ∨ b = 92) (hn : n ≤ 700) (hX : ∀ k, X k ≤ 255) {tg lo up : Int} (htg : 4 ≤ tg ∧ tg ≤ 12) (h52 : x = 52 → 7 ≤ tg)
    {q1 : Int → Bool} (hq1 : ∀ c, q1 c = true ↔ lo ≤ c ∧ c ≤ up) (hr : (lo = 21 ∧ up = 23) ∨ (lo = 23 ∧ up = 23) ∨ (lo = 41 ∧ up = 42) ∨ (lo = 41 ∧ up = 41))
    {Zc Zm : mjZt} {S : mjS} {m p s N e : Nat} {L : pL} {st : Int32} {ty : Bool} (h : cdS X n b Zc Zm S fr m wr L st p s (N + 1)) (hs : jS X n p ≠ 0) (hi : cI S fr m L e) (hh : hasI S m e ty) (hst : stg x ty L) (eqr : rd (qT tg) L S m = rd q1 L S m)
    {c : Int} (hc : isOp c = false ∧ c ≠ 52) (hcm : isCm c = false) (hcp : prp c) (hty : ∀ e2 ty2, hasI (rd (qT tg) L S m).1 (rd (qT tg) L S m).2.1 e2 ty2 → stg x ty2 (rd (qT tg) L S m).2.2 → ty2 = decide (40 < c)) (hj : f59_join (b + 1) (i3 (opW c)) (i3 tg) Zc = f59_join_j28 (b + 1) (i3 (opW c)) (i3 tg) Zc) :
    ∃ Zc1 Zc2 Za Zb Zm2, f59_join (b + 1) (i3 (opW c)) (i3 tg) Zc = some (0, Zc1) ∧ f68_advance Zc1 = some ((), Zc2) ∧ f218_works (i3 lo) (i3 up) Zm = some ((), Za) ∧ f215_waitsFor (i3 c) Za = some ((), Zb) ∧ Za.1 211 8 = Zm.1 211 8 ∧ f205_goOn Zb = some ((), Zm2) ∧
      cdS X n b Zc2 Zm2 (rd (qT tg) L S m).1 fr (rd (qT tg) L S m).2.1 wr ((c, (rd (qT tg) L S m).2.1) :: (rd (qT tg) L S m).2.2) (if c = 41 ∨ c = 42 then 0 else 1) (jE X n p) (s + 1) N ∧ cI (rd (qT tg) L S m).1 fr (rd (qT tg) L S m).2.1 ((c, (rd (qT tg) L S m).2.1) :: (rd (qT tg) L S m).2.2) (rd (qT tg) L S m).2.1 ∧ (∀ f, f = 2 ∨ f = 3 → Zc2.1 185 f = Zc.1 185 f) ∧ p < jE X n p ∧ grw b wr m (rd (qT tg) L S m).2.1 S (rd (qT tg) L S m).1 Zc Zm Zc2 Zm2 := by
  obtain ⟨hg, h0, hpk, ht, hd, hbs, hkf, ho, hw, hsp, hN⟩ := h
  have hp := jE_bd (X := X) hg.2.2.2.2
  have hpp := hp.2.2.2 hs
  have hp5 := hg.2.2.2.2
  have len := stg_len hst ho
  obtain ⟨e2, ty2, j1, j2, j3, j4, j5, j6, j7, j8, j9, j10⟩ := rd_ok (x := x) (fun c g => qT_p g) L S m e ty hi hh hst
  obtain ⟨Za', a1, a2, a3, a4⟩ := e49 (wr := wr) hb htg L S m e ty mjF Zc (fun g => Or.inl (h52 g)) hi hh hst hpk ht (by omega) ho (by unfold mjF; omega)
  obtain ⟨Zb', b1, b2, b3, b4⟩ := m218 hq1 hr L S m mjF Zm hd hbs (stg_mem hst) (by omega) (by omega) (by unfold mjF; omega)
  rw [← eqr] at b2 b3
  have tyc := hty e2 ty2 j2 j3
  rw [tyc] at j2
  generalize rd (qT tg) L S m = R at *
  obtain ⟨S1, m1, L1⟩ := R
  simp only at *
  have len1 := stg_len j3 (by omega)
  have cl1 := cL_len L1
  have co1 := cL_opn L1
  have noc : isOp c = false := hc.1
  have wc : opn ((c, m1) :: cL L1) = opn (cL L1) := by rw [opn, noc]; rfl
  obtain ⟨Zc', c1, c2, c3, c4⟩ := e55 hb a2.2.1 a2.2.2 a3 (by omega) (c := c) (by rw [wc]; exact a2.1)
  have qc : qM c = c := by unfold qM; rw [hcm]; rfl
  obtain ⟨Zb2, d1, d2, d3⟩ := m215 (L := L1) (a := m1) (c := c) ⟨b2.1, b2.2.1, b2.2.2.1, b2.2.2.2.2⟩ (by rw [opn, noc]; exact b2.2.2.2.1) (by omega)
  rw [qc] at d1
  have ob := opW_bd c
  obtain ⟨stv, hstv⟩ : ∃ stv : Int32, stv = if c = 41 ∨ c = 42 then 0 else 1 := ⟨_, rfl⟩
  have join : f59_join (b + 1) (i3 (opW c)) (i3 tg) Zc = some (0, zSi Zc' 185 0 stv) := by
    have a1' : f49_reduce (b + 1) (i3 tg) Zc = some ((), Za') := a1
    rw [hj]
    unfold f59_join_j28
    rw [a1', mjBd_some, c1, mjBd_some, hstv]
    have hcp2 := hcp
    unfold prp at hcp2
    rw [opW_p hcp]
    rcases hcp2 with rfl | rfl | rfl | rfl | rfl | rfl | rfl | rfl | rfl <;> rfl
  have re : eqRe b wr m Zc Zc' := eqRe_tr a4 c4 j4
  have cc : eqCc b wr m Zc (zSi Zc' 185 0 stv) := eqCc_tr (m2 := m) re.1 (eqCc_si hb (by omega)) (Nat.le_refl _)
  have wk : eqWk Zm Zb2 := eqWk_tr b4 d3
  have g2 : gd X n (zSi Zc' 185 0 stv) Zb2 p := gd_cc hb hg cc (by rw [si_lng, re.2.1]) (by rw [si_obj _ _ _ _ (by omega), re.2.2.1]) wk
  obtain ⟨Zc2, Zm2, u1, u2, u3, u4, u5⟩ := nxt g2 hn hX
  have q85 : Zc2.1 185 = (zSi Zc' 185 0 stv).1 185 := (u4.2 185 (by omega)).1
  have hk52 : cL ((c, m1) :: L1) = (c, m1) :: cL L1 := by rw [cL, if_neg hc.2]
  refine ⟨zSi Zc' 185 0 stv, Zc2, Zb', Zb2, Zm2, join, u1, b1, d1, b4.2.2 8 (by omega) (by omega) (by omega), u2, ⟨u3, ?_, ?_, trC_of c3 (fun a g1 g2 => by rw [(u4.2 a (by omega)).1, si_obj _ _ _ _ (by omega)]), mdM_go d2 u5, ?_, ⟨fun j hj => ?_, fun j hj => ?_⟩, ?_, ?_, by omega, by omega⟩, push_b j1 j2 hc, fun f hf => ?_, hpp, j4, j7, j8, eqCc_tr (m2 := m) cc (eqTk_c hb u4) (Nat.le_refl _), eqCd_tr (eqWk_d wk) (eqGo_d u5)⟩
  · rw [q85, si_same, hstv]
  · rw [hk52]
    exact ⟨by rw [q85, si_fld _ _ _ _ (by omega)]; exact c2.1, by rw [q85, si_fld _ _ _ _ (by omega)]; exact c2.2.1, plC_of (by rw [(u4.2 186 (by omega)).1, si_obj _ _ _ _ (by omega)]) (by rw [(u4.2 187 (by omega)).1, si_obj _ _ _ _ (by omega)]) _ c2.2.2⟩
  · rw [u5.2.2 19 (by omega), wk.2.2 19 (by omega) (by omega) (by omega), hbs, ← b3]
    have nx : isX c = false := by
      unfold prp at hcp
      cases g : isX c with
      | false => rfl
      | true =>
        have : c = 52 ∨ c = 30 ∨ c = 31 ∨ c = 32 := of_decide_eq_true g
        have : ¬ (30 ≤ c ∧ c ≤ 32) := of_decide_eq_false hcm
        omega
    rw [bsL, nx]; rfl
  · rw [(u5.2.1 213 (by omega)).2, wk.1]; exact hkf.1 j hj
  · rw [(u5.2.1 214 (by omega)).2, wk.1]; exact hkf.2 j hj
  · rw [opn, noc]
    show opn L1 + 0 ≤ 6
    omega
  · rw [wtL]
    split <;> omega
  · rw [q85, si_fld _ _ _ _ (by omega), re.2.2.2 f (by omega) (by omega)]
end JN
