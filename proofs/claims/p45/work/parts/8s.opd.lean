/-! CONDITIONS READ: an operand -/
theorem onN_51 (L : pL) : onN 51 L := by
  cases L with
  | nil => trivial
  | cons d L => obtain ⟨y, k⟩ := d; exact ⟨fun g => by omega, fun g => by omega⟩
theorem onT_op {c : Int} (h : c = 40 ∨ c = 50) (L : pL) : onT c L := by
  cases L with
  | nil => trivial
  | cons d L => obtain ⟨y, k⟩ := d; exact ⟨fun g => by omega, fun g => by omega⟩
theorem gd_cc {X : Nat → Nat} {n b wr m p : Nat} {Zc Zm Zc2 Zm2 : mjZt} (hb : b = 2 ∨ b = 92) (h : gd X n Zc Zm p) (e1 : eqCc b wr m Zc Zc2) (e2 : Zc2.2 = Zc.2) (e3 : Zc2.1 183 = Zc.1 183) (em : eqWk Zm Zm2) : gd X n Zc2 Zm2 p :=
  gd_of h (by rw [e2]) (e1.2.2.1 1 (by omega) (by omega) (by omega) (by omega) (by omega)) e3 (by rw [e2]) (by rw [e1.2.2.1 182 (by omega) (by omega) (by omega) (by omega) (by omega)]) (em.2.1 212 (by omega) (by omega) (by omega)) (fun f g1 g2 => em.2.2 f (by omega) (by omega) (by omega)) (by rw [em.1])
section OD
variable {X : Nat → Nat} {n b fr wr : Nat} {x : Int}
theorem t_leaf (hb : b = 2 ∨ b = 92) (hn : n ≤ 700) (hX : ∀ k, X k ≤ 255) {Zc Zm : mjZt} {S : mjS} {m p s N : Nat} {L : pL} {st : Int32} {c v : Int} (h : cdS X n b Zc Zm S fr m wr L st p s (N + 1)) (hs : jS X n p ≠ 0) (hc : (100 ≤ c ∧ c ≤ 10099) ∨ (1 ≤ c ∧ c ≤ 11)) (hv : v = if 100 ≤ c then c - 100 else c - 1) (hi : cI S fr m L m) (hcm : cmS Zc x L) :
    ∃ Za Zb Zc1 Zm1, f48_put (b + 1) (i3 (opC c)) (i3 v) (i3 0) Zc = some ((), Za) ∧ f68_advance (zSi Za 185 0 2) = some ((), Zc1) ∧ f214_emits (i3 c) Zm = some ((), Zb) ∧ f205_goOn Zb = some ((), Zm1) ∧ cdS X n b Zc1 Zm1 (zuS S 9 m c) fr (m + 1) wr L 2 (jE X n p) (s + 1) N ∧ cI (zuS S 9 m c) fr (m + 1) L m ∧ hasI (zuS S 9 m c) (m + 1) m false ∧ cmS Zc1 x L ∧ p < jE X n p ∧ grw b wr m (m + 1) S (zuS S 9 m c) Zc Zm Zc1 Zm1 := by
  obtain ⟨hg, h0, hk, ht, hd, hbs, hkf, ho, hw, hsp, hN⟩ := h
  have hp := jE_bd (X := X) hg.2.2.2.2
  have hpp := hp.2.2.2 hs
  have lf : isLf c = true := decide_eq_true (by omega)
  have nc : isCm c = false := decide_eq_false (by omega)
  obtain ⟨Za, a1, a2, a3⟩ := e48 hb ht (by omega) (c := c) (v := v) (l := 0) (fun _ => by
    rw [hv]; unfold nuC; rw [zuS_e]
    split
    · rfl
    · rw [if_pos (by omega)]) (fun g => by rw [lf] at g; cases g)
  obtain ⟨Zb, b1, b2, b3⟩ := m214 (c := c) hd (by omega)
  have e1 := eqPt_re hb a3
  have o85 : ∀ a, a = 185 ∨ a = 186 ∨ a = 187 ∨ a = 183 → Za.1 a = Zc.1 a := fun a g => a3.2.1 a (by omega) (by omega) (by omega) (by omega) (by omega)
  have c2 : eqCc b wr m Zc (zSi Za 185 0 2) := eqCc_tr (m2 := m) e1.1 (eqCc_si hb (by omega)) (Nat.le_refl _)
  have g2 : gd X n (zSi Za 185 0 2) Zb p := gd_cc hb hg c2 (by rw [si_lng, e1.2.1]) (by rw [si_obj _ _ _ _ (by omega), o85 183 (by omega)]) b3
  obtain ⟨Zc1, Zm1, d1, d2, d3, d4, d5⟩ := nxt g2 hn hX
  have q85 : Zc1.1 185 = (zSi Za 185 0 2).1 185 := (d4.2 185 (by omega)).1
  refine ⟨Za, Zb, Zc1, Zm1, a1, d1, b1, d2, ⟨d3, by rw [q85, si_same], ⟨?_, ?_, ?_⟩, ?_, mdM_go b2 d5, ?_, ⟨?_, ?_⟩, ho, by omega, by omega, by omega⟩, (leaf hi hc).1, (leaf hi hc).2, ⟨?_, ?_⟩, hpp, by omega, fun k hk2 => zuS_n (by omega), fun f hf => zuS_f hf, eqCc_tr (m2 := m) c2 (eqTk_c hb d4) (Nat.le_refl _), eqCd_tr (eqWk_d b3) (eqGo_d d5)⟩
  · rw [q85, si_fld _ _ _ _ (by omega), o85 185 (by omega)]; exact hk.1
  · rw [q85, si_fld _ _ _ _ (by omega), o85 185 (by omega)]; exact hk.2.1
  · exact plC_of (by rw [(d4.2 186 (by omega)).1, si_obj _ _ _ _ (by omega), o85 186 (by omega)]) (by rw [(d4.2 187 (by omega)).1, si_obj _ _ _ _ (by omega), o85 187 (by omega)]) _ hk.2.2
  · exact trC_of a2 (fun a g1 g2 => by rw [(d4.2 a (by omega)).1, si_obj _ _ _ _ (by omega)])
  · rw [d5.2.2 19 (by omega), b3.2.2 19 (by omega) (by omega) (by omega)]; exact hbs
  · intro j hj; rw [(d5.2.1 213 (by omega)).2, b3.1]; exact hkf.1 j hj
  · intro j hj; rw [(d5.2.1 214 (by omega)).2, b3.1]; exact hkf.2 j hj
  · rw [q85, si_fld _ _ _ _ (by omega), o85 185 (by omega)]; exact hcm.1
  · rw [q85, si_fld _ _ _ _ (by omega), o85 185 (by omega)]; exact hcm.2
theorem t_opd (hb : b = 2 ∨ b = 92) (hn : n ≤ 700) (hX : ∀ k, X k ≤ 255) : ∀ (k : Nat) {L : pL} {Zc Zm : mjZt} {S : mjS} {m p s N M : Nat}, n - p < k → n - p < M → cdS X n b Zc Zm S fr m wr L 1 p s N → pN x L → cI S fr m L m → cmS Zc x L →
    (∃ Zc1 Zm1 S1 m1 L1 p1 s1 N1 e, cLp b N s Zc = cLp b N1 s1 Zc1 ∧ f219_operand_h0 M Zm = some ((), Zm1) ∧ cdS X n b Zc1 Zm1 S1 fr m1 wr L1 2 p1 s1 N1 ∧ pN x L1 ∧ cI S1 fr m1 L1 e ∧ hasI S1 m1 e false ∧ cmS Zc1 x L1 ∧ p < p1 ∧ grw b wr m m1 S S1 Zc Zm Zc1 Zm1) ∨
    oBad X n b wr m (cLp b N s Zc) (f219_operand_h0 M Zm) Zc Zm
  | 0, L, Zc, Zm, S, m, p, s, N, M, hk, _, _, _, _, _ => by omega
  | k + 1, L, Zc, Zm, S, m, p, s, N, 0, _, hM, _, _, _, _ => by omega
  | k + 1, L, Zc, Zm, S, m, p, s, N, M + 1, hk, hM, h, hpn, hi, hcm => by
    have h' := h
    obtain ⟨hg, h0, hpk, ht, hd, hbs, hkf, ho, hw, hsp, hN⟩ := h'
    have hp := jE_bd (X := X) hg.2.2.2.2
    have hp5 := hg.2.2.2.2
    obtain ⟨N, rfl⟩ : ∃ N0, N = N0 + 1 := ⟨N - 1, by omega⟩
    have h183 : Zc.1 183 3 = i3 (kd X n p) := hg.1.2.2.1
    have k5 := kd_255 (n := n) (p := p) hX
    have ks := kd_spec (X := X) (n := n) (p := p)
    have vb := jV_bd (X := X) (n := n) (p := p) hX
    have kS := kdS (X := X) (n := n) (p := p) (c := 123) (by omega)
    have m9 : f209_isSignHere 123 Zm = some (bI (sgn X n p 123)) := m209 hg.2.1 hX hg.2.2.2.1 (c := 123) (by omega)
    have ll := pN_len L hpn
    have rl := rk_le L
    have cl := cL_len L
    have co := cL_opn L
    have row := cl1 (b := b) (N := N) (s := s) h0 (by omega)
    cases q : sgn X n p 123 with
    | true =>
      have kn : kd X n p = 123 := kS.mpr q
      have s3 : jS X n p = 3 := (of_decide_eq_true q : jS X n p = 3 ∧ _).1
      have hpp := hp.2.2.2 (by omega)
      have st : f57_startNumber (b + 1) Zc = mjBd (f56_openOne (b + 1) 3 (zSi Zc 185 2 (i3 ((crl L + 1 : Nat) : Int)))) fun v120 Z121 => some (v120, Z121) := by
        unfold f57_startNumber
        rw [h183, kn, if_neg (by decide), hcm.1, i3_s, let_eq]
      have pk2 : plK (zSi Zc 185 2 (i3 ((crl L + 1 : Nat) : Int))) (cL L) := ⟨by rw [si_fld _ _ _ _ (by omega)]; exact hpk.1, by rw [si_fld _ _ _ _ (by omega)]; exact hpk.2.1, plC_of (si_obj _ _ _ _ (by omega)) (si_obj _ _ _ _ (by omega)) _ hpk.2.2⟩
      have tr2 : trC b (zSi Zc 185 2 (i3 ((crl L + 1 : Nat) : Int))) S fr m wr := trC_of ht (fun a _ _ => si_obj _ _ _ _ (by omega))
      have fr2 : eqRe b wr m Zc (zSi Zc 185 2 (i3 ((crl L + 1 : Nat) : Int))) ∨ True := Or.inr trivial
      have cc2 : eqCc b wr m Zc (zSi Zc 185 2 (i3 ((crl L + 1 : Nat) : Int))) := eqCc_si hb (by omega)
      by_cases full : opn L = 6
      · right
        have e := e56b (b := b) pk2 (by rw [co]; exact full) 3
        obtain ⟨Zm1, b1, b2, b3⟩ := m217b hg.2.1 hg.2.2.2.1 hd full (by omega) 51
        have kb := fK_bd (X := X) (n := n) (p := p) (k := 7) (by omega)
        refine ⟨7, p, zSi Zc 185 2 (i3 ((crl L + 1 : Nat) : Int)), Zm1, by omega, by omega, ?_, ?_, ?_, hp5, ?_, b2, cc2, b3⟩
        · rw [row, st, e, mjBd_some, mjBd_some, if_neg (by decide)]
        · rw [f219_operand_h0, m9, q, mjBp_some, if_neg (by decide), show (51 : Int32) = i3 51 from rfl, b1, mjBd_some]
          cases M with
          | zero => omega
          | succ M => rw [f219_operand_h0, m209f b2 kb, mjBp_some, if_pos (by decide), if_neg (bdL b2 kb)]
        · exact (gd_cc hb hg cc2 rfl (si_obj _ _ _ _ (by omega)) (eqWk_rf (Z := Zm))).1
        · rw [si_obj _ _ _ _ (by omega)]; exact hg.2.2.1
      · obtain ⟨Zc2, r1, r2, r3, r4⟩ := e56g hb pk2 tr2 (by rw [co]; omega) (by omega) (c := 51) rfl
        obtain ⟨Zm2, u1, u2, u3⟩ := m217g hg.2.2.2.1 hd (by omega) (by omega) (c := 51) rfl
        have cc3 : eqCc b wr m Zc Zc2 := eqCc_tr (m2 := m) cc2 r4.1 (Nat.le_refl _)
        have g2 : gd X n Zc2 Zm2 p := gd_cc hb hg cc3 (by rw [r4.2.1, si_lng]) (by rw [r4.2.2.1, si_obj _ _ _ _ (by omega)]) u3
        obtain ⟨Zc3, Zm3, d1, d2, d3, d4, d5⟩ := nxt g2 hn hX
        have q85 : Zc3.1 185 = Zc2.1 185 := (d4.2 185 (by omega)).1
        have cd : cdS X n b Zc3 Zm3 S fr m wr ((51, m) :: L) 1 (jE X n p) (s + 1) N := by
          refine ⟨d3, ?_, plK_of r2 q85 (d4.2 186 (by omega)).1 (d4.2 187 (by omega)).1, trC_of r3 (fun a g1 g2 => (d4.2 a (by omega)).1), mdM_go u2 d5, ?_, ⟨fun j hj => ?_, fun j hj => ?_⟩, ?_, ?_, by omega, by omega⟩
          · rw [q85, r4.2.2.2 0 (by omega) (by omega), si_fld _ _ _ _ (by omega)]; exact h0
          · rw [d5.2.2 19 (by omega), u3.2.2 19 (by omega) (by omega) (by omega)]; exact hbs
          · rw [(d5.2.1 213 (by omega)).2, u3.1]; exact hkf.1 j hj
          · rw [(d5.2.1 214 (by omega)).2, u3.1]; exact hkf.2 j hj
          · rw [opn]; simp only [show isOp 51 = true from rfl, if_true]; omega
          · rw [wtL]; simp only [or_true, true_or, if_true]; omega
        have cm3 : cmS Zc3 x ((51, m) :: L) := by
          refine ⟨?_, ?_⟩
          · rw [q85, r4.2.2.2 2 (by omega) (by omega), si_same]; rfl
          · rw [q85, r4.2.2.2 3 (by omega) (by omega), si_fld _ _ _ _ (by omega)]; exact hcm.2
        have gr : grw b wr m m S S Zc Zm Zc3 Zm3 := ⟨Nat.le_refl _, fun _ _ => rfl, fun _ _ => rfl, eqCc_tr (m2 := m) cc3 (eqTk_c hb d4) (Nat.le_refl _), eqCd_tr (eqWk_d u3) (eqGo_d d5)⟩
        have e1 : cLp b (N + 1) s Zc = cLp b N (s + 1) Zc3 := by
          have r1' : f56_openOne (b + 1) 3 (zSi Zc 185 2 (i3 ((crl L + 1 : Nat) : Int))) = some (0, Zc2) := r1
          rw [row, st, r1', mjBd_some, mjBd_some, if_pos (by decide), d1, mjBd_some]
        have e2 : f219_operand_h0 (M + 1) Zm = f219_operand_h0 M Zm3 := by
          have u1' : f217_opens 51 Zm = (mjBd (f205_goOn Zm2) fun _ Z2 => some ((), Z2)) := u1
          rw [f219_operand_h0, m9, q, mjBp_some, if_neg (by decide), u1', d2, mjBd_some, mjBd_some]
        rw [e1, e2]
        rcases t_opd hb hn hX k (p := jE X n p) (M := M) (by omega) (by omega) cd (Or.inl ⟨rfl, onN_51 L, hpn⟩) (push_o hi (Or.inl rfl)) cm3 with ⟨Zc4, Zm4, S1, m1, L1, p1, s1, N1, e, z1, z2, z3, z4, z5, z6, z7, z8, z9⟩ | z
        · exact Or.inl ⟨Zc4, Zm4, S1, m1, L1, p1, s1, N1, e, z1, z2, z3, z4, z5, z6, z7, by omega, grw_tr gr z9⟩
        · exact Or.inr (oBad_go z gr)
    | false =>
      have kn : ¬ kd X n p = 123 := fun g => by rw [kS.mp g] at q; cases q
      have iF := ixF hg.1 hX (id := 1000001) (Or.inl rfl)
      have bF := ixT_bd (X := X) (n := n) (p := p) (L := LF) (N := 11)
      have h7 := hg.2.1.2.2.2.1
      have h8 := hg.2.1.2.2.2.2.1
      have h13 := hg.2.1.2.2.2.2.2
      have l63 := nm_63 (jN_nm (n := n) hX (p := p)).1
      have st : f57_startNumber (b + 1) Zc = if mjCmp .eq (i3 (kd X n p)) 2 = true then f57_startNumber_j48 (b + 1) (i3 (ixT X n p LF 11)) Zc else if mjCmp .ne (i3 (ixT X n p LF 11)) (-1) = true then f57_startNumber_j48 (b + 1) (i3 (ixT X n p LF 11)) Zc else some (2, Zc) := by
        unfold f57_startNumber
        rw [h183, show (123 : Int32) = i3 123 from rfl, if_pos (by rw [c_ne (by omega)]; omega), iF, mjBp_some]
      have md : f219_operand_h0 (M + 1) Zm = f219_operand_j51 (i3 (ixT X n p LF 11)) Zm := by
        rw [f219_operand_h0, m9, q, mjBp_some, if_pos (by decide), if_pos (gdL hg.2.2.2.1), h7, show (1 : Int32) = i3 1 from rfl]
        unfold ixT
        by_cases g : jS X n p = 1
        · rw [if_neg (by rw [c_ne (by omega)]; omega), h13, m210F hkf l63, mjBp_some, if_pos g]
        · rw [if_pos (by rw [c_ne (by omega)]; omega), if_neg g]; rfl
      rw [md]
      unfold f219_operand_j51
      rw [h7, show (2 : Int32) = i3 2 from rfl, show (-1 : Int32) = i3 (-1) from rfl]
      rw [show (2 : Int32) = i3 2 from rfl, show (-1 : Int32) = i3 (-1) from rfl] at st
      by_cases s2 : jS X n p = 2
      · left
        have hnot1 : ixT X n p LF 11 = -1 := by unfold ixT; rw [if_neg (by omega)]
        have h5 := hg.1.2.2.2.2.1 s2
        obtain ⟨Za, Zb, Zc1, Zm1, a1, a2, a3, a4, a5, a6, a7, a8, a9, a10⟩ := t_leaf (x := x) hb hn hX (c := 100 + jV X n p) (v := jV X n p) h (by omega) (by omega) (by rw [if_pos (by omega)]; omega) hi hcm
        have oc : opC (100 + (jV X n p : Int)) = 0 := by unfold opC; rw [if_pos (by omega)]
        rw [oc] at a1
        refine ⟨Zc1, Zm1, _, m + 1, L, _, s + 1, N, m, ?_, ?_, a5, hpn, a6, a7, a8, a9, a10⟩
        · rw [row, st, if_pos (by rw [c_eq (by omega)]; omega)]
          unfold f57_startNumber_j48
          rw [show (-1 : Int32) = i3 (-1) from rfl, hnot1, if_neg (by decide), if_pos (is_b1 hb), h5, show (0 : Int32) = i3 0 from rfl, a1, mjBd_some, let_eq, mjBd_some, if_pos (by decide), a2, mjBd_some]
        · rw [if_pos (by rw [c_eq (by omega)]; omega)]
          unfold f219_operand_j70
          rw [if_pos (gdL hg.2.2.2.1), h7, show (2 : Int32) = i3 2 from rfl, if_neg (by rw [c_ne (by omega)]; omega), h8, show (100 : Int32) = i3 100 from rfl, i3_add, a3, mjBd_some, a4, mjBd_some]
      · rw [if_neg (by rw [c_eq (by omega)]; omega)] at st ⊢
        by_cases sF : ixT X n p LF 11 = -1
        · right
          rw [sF, if_neg (by decide)] at st
          rw [sF, if_neg (by decide)]
          refine oBad_here hg (k := 2) (by omega) (by rw [row, st, mjBd_some, if_neg (by decide)]) (fun Zm1 w1 w2 w3 => ⟨Zm1, ?_, w2, eqCd_rf⟩)
          have kb := fK_bd (X := X) (n := n) (p := p) (k := 2) (by omega)
          rw [w1, mjBd_some]
          unfold f219_operand_j70
          rw [if_neg (bdL w2 kb)]
        · left
          have s1 : jS X n p = 1 := by
            by_cases g : jS X n p = 1
            · exact g
            · unfold ixT at sF; rw [if_neg g] at sF; exact absurd rfl sF
          obtain ⟨Za, Zb, Zc1, Zm1, a1, a2, a3, a4, a5, a6, a7, a8, a9, a10⟩ := t_leaf (x := x) hb hn hX (c := ixT X n p LF 11 + 1) (v := ixT X n p LF 11) h (by omega) (by omega) (by rw [if_neg (by omega)]; omega) hi hcm
          have oc : opC (ixT X n p LF 11 + 1) = 1 := by unfold opC; rw [if_neg (by omega), if_pos (by omega)]
          rw [oc] at a1
          refine ⟨Zc1, Zm1, _, m + 1, L, _, s + 1, N, m, ?_, ?_, a5, hpn, a6, a7, a8, a9, a10⟩
          · rw [row, st, if_pos (by rw [c_ne (by omega)]; omega)]
            unfold f57_startNumber_j48
            rw [show (-1 : Int32) = i3 (-1) from rfl, if_pos (by rw [c_ne (by omega)]; omega), if_pos (is_b1 hb), show (0 : Int32) = i3 0 from rfl, show (1 : Int32) = i3 1 from rfl, a1, mjBd_some, let_eq, mjBd_some, if_pos (by decide), a2, mjBd_some]
          · rw [if_pos (by rw [c_ne (by omega)]; omega)]
            unfold f219_operand_j70
            rw [if_pos (gdL hg.2.2.2.1), h7, show (2 : Int32) = i3 2 from rfl, if_pos (by rw [c_ne (by omega)]; omega), i3_s0, a3, mjBd_some, a4, mjBd_some]
end OD
