/-! CONDITIONS READ: a number's formula, whole -/
section NV
variable {X : Nat → Nat} {n b fr wr : Nat} {x : Int}
theorem e58_no {Z : mjZt} {k : Int32} (h : mjCmp .lt k 7 = true ∨ mjCmp .gt k 9 = true) (t : Int32) (c : Int32) (e : c = k) : f59_join (b + 1) c t Z = f59_join_j28 (b + 1) c t Z := by
  subst e
  have e : f58_isComparison c Z = some 0 := by
    unfold f58_isComparison
    rcases h with h | h
    · rw [if_pos h]
    · split
      · rfl
      · first | rfl | rw [if_pos h]
  unfold f59_join
  rw [e, mjBp_some, if_pos (by decide)]
theorem t_num (hb : b = 2 ∨ b = 92) (hn : n ≤ 700) (hX : ∀ k, X k ≤ 255) : ∀ (k : Nat) {Zc Zm : mjZt} {S : mjS} {m p s N e M : Nat} {L : pL}, n - p < k → n - p + 2 ≤ M → cdS X n b Zc Zm S fr m wr L 2 p s N → pN x L → cI S fr m L e → hasI S m e false → cmS Zc x L →
    nGood X n b fr wr x (cLp b N s Zc) (f221_numberFormula_h6 M 1 Zm) Zc Zm S m p ∨ oBad X n b wr m (cLp b N s Zc) (f221_numberFormula_h6 M 1 Zm) Zc Zm
  | 0, Zc, Zm, S, m, p, s, N, e, M, L, hk, _, _, _, _, _, _ => by omega
  | k + 1, Zc, Zm, S, m, p, s, N, e, M, L, hk, hM, h, hpn, hi, hh, hcm => by
    have h' := h
    obtain ⟨hg, h0, hpk, ht, hd, hbs, hkf, ho, hw, hsp, hN⟩ := h'
    have hp := jE_bd (X := X) hg.2.2.2.2
    have hp5 := hg.2.2.2.2
    obtain ⟨N, rfl⟩ : ∃ N0, N = N0 + 1 := ⟨N - 1, by omega⟩
    obtain ⟨M, rfl⟩ : ∃ M0, M = M0 + 1 := ⟨M - 1, by omega⟩
    have hx : x = 52 ∨ x = 30 ∨ x = 31 ∨ x = 32 := of_decide_eq_true (pN_x L hpn)
    have pc := pN_len L hpn
    have rk := rk_le L
    have cbL : crl L ≤ L.length := by
      have cb : ∀ K : pL, crl K ≤ K.length := fun K => by
        induction K with
        | nil => exact Nat.le_refl _
        | cons d K ih => obtain ⟨d, k⟩ := d; rw [crl, List.length_cons]; split <;> omega
      exact cb L
    have ih : ∀ {Zc3 Zm3 : mjZt} {S3 : mjS} {m3 p3 s3 N3 e3 : Nat} {L3 : pL}, p < p3 → cdS X n b Zc3 Zm3 S3 fr m3 wr L3 2 p3 s3 N3 → pN x L3 → cI S3 fr m3 L3 e3 → hasI S3 m3 e3 false → cmS Zc3 x L3 → nGood X n b fr wr x (cLp b N3 s3 Zc3) (f221_numberFormula_h6 M 1 Zm3) Zc3 Zm3 S3 m3 p3 ∨ oBad X n b wr m3 (cLp b N3 s3 Zc3) (f221_numberFormula_h6 M 1 Zm3) Zc3 Zm3 := by
      intro Zc3 Zm3 S3 m3 p3 s3 N3 e3 L3 g1 g2 g3 g4 g5 g6
      have hpn3 := g2.1.2.2.2.2
      by_cases q : p < n
      · exact t_num hb hn hX k (M := M) (p := p3) (by omega) (by omega) g2 g3 g4 g5 g6
      · omega
    have m42 : f209_isSignHere 42 Zm = some (bI (sgn X n p 42)) := m209 hg.2.1 hX hg.2.2.2.1 (c := 42) (by omega)
    have m43 : f209_isSignHere 43 Zm = some (bI (sgn X n p 43)) := m209 hg.2.1 hX hg.2.2.2.1 (c := 43) (by omega)
    have m45 : f209_isSignHere 45 Zm = some (bI (sgn X n p 45)) := m209 hg.2.1 hX hg.2.2.2.1 (c := 45) (by omega)
    have k42 := kdS (X := X) (n := n) (p := p) (c := 42) (by omega)
    have k43 := kdS (X := X) (n := n) (p := p) (c := 43) (by omega)
    have k45 := kdS (X := X) (n := n) (p := p) (c := 45) (by omega)
    have h8 := hg.2.1.2.2.2.2.1
    have vb := jV_bd (X := X) (n := n) (p := p) hX
    have sgd : ∀ {c : Nat}, sgn X n p c = true → jS X n p = 3 ∧ jV X n p = c := fun g => of_decide_eq_true g
    have er12 := rd_12 S m hpn
    have er10 := rd_10 S m hpn
    have m1 : M ≠ 0 := by omega
    cases q42 : sgn X n p 42 with
    | true =>
      have sg := sgd q42
      have ends := e47f hg.1 hX hcm (by omega) (Or.inr (Or.inr (Or.inl q42)))
      have kk := k42.mpr q42
      exact t_op3 (tg := 12) (lo := 23) (c := 23) (q1 := q3M) hb hn hX (Or.inr (Or.inr rfl)) (fun d => by unfold q3M; rw [decide_eq_true_eq]) (Or.inl ⟨rfl, rfl, rfl⟩) h (by omega) hpn hi hh hcm er12 (by rcases hx with rfl | rfl | rfl | rfl <;> decide) (e58_no (k := 12) (Or.inr (by decide)) _ _ rfl)
        (fun Zc1 Zc2 g1 g2 => by
          have g1' : f59_join (b + 1) 12 12 Zc = some (0, Zc1) := g1
          rw [cl2 h0 (by omega) ends, e61 hg.1 hX, if_pos kk, g1', mjBd_some, mjBd_some, if_pos (by decide), g2, mjBd_some])
        (fun Za Zb Zm2 g1 g2 _ g3 => by
          have g1' : f218_works 23 23 Zm = some ((), Za) := g1
          have g2' : f215_waitsFor 23 Za = some ((), Zb) := g2
          rw [f221_numberFormula_h6, gdM hg.2.2.2.1, mjBp_some, if_neg (by decide), if_neg (by decide), m42, q42, mjBp_some, if_neg (by decide), g1', mjBd_some, g2', mjBd_some, g3, mjBd_some])
        (by omega) ih
    | false =>
      have n42 : kd X n p ≠ 42 := fun g => by rw [k42.mp g] at q42; cases q42
      cases q43 : sgn X n p 43 with
      | true =>
        have sg := sgd q43
        have ends := e47f hg.1 hX hcm (by omega) (Or.inr (Or.inr (Or.inr (Or.inl q43))))
        have kk := k43.mpr q43
        exact t_op3 (tg := 10) (lo := 21) (c := 21) (q1 := q2M) hb hn hX (Or.inl rfl) (fun d => by unfold q2M; rw [decide_eq_true_eq]) (Or.inr ⟨by omega, rfl, rfl⟩) h (by omega) hpn hi hh hcm er10 (by rcases hx with rfl | rfl | rfl | rfl <;> decide) (e58_no (k := 10) (Or.inr (by decide)) _ _ rfl)
          (fun Zc1 Zc2 g1 g2 => by
            have g1' : f59_join (b + 1) 10 10 Zc = some (0, Zc1) := g1
            rw [cl2 h0 (by omega) ends, e61 hg.1 hX, if_neg n42, if_pos kk, g1', mjBd_some, mjBd_some, if_pos (by decide), g2, mjBd_some])
          (fun Za Zb Zm2 g1 g2 gv g3 => by
            have g1' : f218_works 21 23 Zm = some ((), Za) := g1
            have g2' : f215_waitsFor 21 Za = some ((), Zb) := g2
            rw [f221_numberFormula_h6, gdM hg.2.2.2.1, mjBp_some, if_neg (by decide), if_neg (by decide), m42, q42, mjBp_some, if_pos (by decide), m43, q43, mjBp_some, if_pos (by decide)]
            unfold f221_numberFormula_j69
            rw [g1', mjBd_some, gv, h8, sg.2, if_neg (by decide), g2', mjBd_some, g3, mjBd_some])
          (by omega) ih
      | false =>
        have n43 : kd X n p ≠ 43 := fun g => by rw [k43.mp g] at q43; cases q43
        cases q45 : sgn X n p 45 with
        | true =>
          have sg := sgd q45
          have ends := e47f hg.1 hX hcm (by omega) (Or.inr (Or.inr (Or.inr (Or.inr q45))))
          have kk := k45.mpr q45
          exact t_op3 (tg := 10) (lo := 21) (c := 22) (q1 := q2M) hb hn hX (Or.inr (Or.inl rfl)) (fun d => by unfold q2M; rw [decide_eq_true_eq]) (Or.inr ⟨by omega, rfl, rfl⟩) h (by omega) hpn hi hh hcm er10 (by rcases hx with rfl | rfl | rfl | rfl <;> decide) (e58_no (k := 11) (Or.inr (by decide)) _ _ rfl)
            (fun Zc1 Zc2 g1 g2 => by
              have g1' : f59_join (b + 1) 11 10 Zc = some (0, Zc1) := g1
              rw [cl2 h0 (by omega) ends, e61 hg.1 hX, if_neg n42, if_neg n43, if_pos kk, g1', mjBd_some, mjBd_some, if_pos (by decide), g2, mjBd_some])
            (fun Za Zb Zm2 g1 g2 gv g3 => by
              have g1' : f218_works 21 23 Zm = some ((), Za) := g1
              have g2' : f215_waitsFor 22 Za = some ((), Zb) := g2
              rw [f221_numberFormula_h6, gdM hg.2.2.2.1, mjBp_some, if_neg (by decide), if_neg (by decide), m42, q42, mjBp_some, if_pos (by decide), m43, q43, mjBp_some, if_neg (by decide), m45, q45, mjBp_some, if_neg (by decide)]
              unfold f221_numberFormula_j69
              rw [g1', mjBd_some, gv, h8, sg.2, if_pos (by decide), g2', mjBd_some, g3, mjBd_some])
            (by omega) ih
        | false =>
          have n45 : kd X n p ≠ 45 := fun g => by rw [k45.mp g] at q45; cases q45
          have md : f221_numberFormula_h6 (M + 1) 1 Zm = mjBd (f218_works 21 23 Zm) fun _ Z145 => mjBp (f216_top Z145) fun v147 => if mjCmp .ne v147 51 = true then f221_numberFormula_h6 M 0 Z145 else mjBd (f220_closes 125 Z145) fun _ Z157 => f221_numberFormula_h6 M 1 Z157 := by
            rw [f221_numberFormula_h6, gdM hg.2.2.2.1, mjBp_some, if_neg (by decide), if_neg (by decide), m42, q42, mjBp_some, if_pos (by decide), m43, q43, mjBp_some, if_neg (by decide), m45, q45, mjBp_some, if_pos (by decide)]
            rfl
          have hst : stg x false L := Or.inl ⟨rfl, hpn⟩
          have len := stg_len hst ho
          obtain ⟨Zb', b1, b2, b3, b4⟩ := m218 (lo := 21) (hi := 23) (q := q2M) (fun c => by unfold q2M; rw [decide_eq_true_eq]) (by omega) L S m mjF Zm hd hbs (stg_mem hst) (by omega) (by omega) (by unfold mjF; omega)
          have b1' : f218_works 21 23 Zm = some ((), Zb') := b1
          have hb9 : Zb'.1 211 9 = 0 := by rw [b4.2.2 9 (by omega) (by omega) (by omega)]; exact hg.2.2.2.1
          have gb : gd X n Zc Zb' p := gd_cc hb hg (eqCc_rf (wr := wr) (m := m)) rfl rfl b4
          by_cases hc : crl L = 0
          · -- the formula ends
            left
            rcases q2_top L S m hpn with ⟨a, K, _, _, t3⟩ | ⟨a, K, t1, _, _⟩
            · omega
            have top : f216_top Zb' = some (i3 (-1)) := by
              have b2' := b2
              rw [t1] at b2'
              have lt : ((x, a) :: K).length ≤ 700 := by
                obtain ⟨_, _, _, j2', j3', _, j5', j6', _⟩ := rd_ok (x := x) (q := q2M) (fun c g => by have : 21 ≤ c ∧ c ≤ 23 := of_decide_eq_true g; unfold prp; omega) L S m e false hi hh hst
                have := stg_len j3' (by omega)
                rw [t1] at this
                omega
              rw [m216 b2' (by rw [b4.2.2 19 (by omega) (by omega) (by omega), hbs, ← b3, t1]) (by omega), tpL, if_pos (pN_x L hpn)]
            refine ⟨Zc, Zb', S, m, L, p, s, N + 1, e, rfl, ?_, ⟨gb, h0, hpk, ht, b2, by rw [b4.2.2 19 (by omega) (by omega) (by omega)]; exact hbs, ⟨fun j hj => by rw [b4.1]; exact hkf.1 j hj, fun j hj => by rw [b4.1]; exact hkf.2 j hj⟩, ho, hw, hsp, hN⟩, hpn, hi, hh, hcm, hc, ⟨q42, q43, q45⟩, Nat.le_refl _, Nat.le_refl _, fun _ _ => rfl, fun _ _ => rfl, eqCc_rf, eqWk_d b4⟩
            rw [md, b1', mjBd_some, top, mjBp_some, if_pos (by decide)]
            cases M with
            | zero => omega
            | succ M => rw [f221_numberFormula_h6, gdM hb9, mjBp_some, if_neg (by decide), if_pos (by decide)]
          · cases q125 : sgn X n p 125 with
            | true =>
              have sg := sgd q125
              obtain ⟨Zc1, Za, Zm1, S1, m1', L1, e1, z1, z2, z3, z4, z5, z6, z7, z8, z9, z10, z11⟩ := t_cls (x := x) hb hn hX h (by omega) hpn hi hh hcm hc q125
              have : Za = Zb' := by rw [z2] at b1'; exact (Prod.mk.inj (Option.some.inj b1')).2
              subst this
              rw [z1, md, z2, mjBd_some, z3, mjBp_some, if_neg (by decide), z4, mjBd_some]
              rcases ih z10 z5 z6 z7 z8 z9 with w | w
              · exact Or.inl (nGood_go w (by omega) z11)
              · exact Or.inr (oBad_go w z11)
            | false =>
              right
              have n125 : kd X n p ≠ 125 := fun g => by
                rw [(kdS (X := X) (n := n) (p := p) (c := 125) (by omega)).mp g] at q125; cases q125
              rcases q2_top L S m hpn with ⟨a, K, t1, _, _⟩ | ⟨a, K, _, _, t3⟩
              rotate_left
              · exact absurd t3 hc
              have top : f216_top Zb' = some (i3 51) := by
                have b2' := b2
                rw [t1] at b2'
                have lt : (((51 : Int), a) :: K).length ≤ 700 := by
                  obtain ⟨_, _, _, j2', j3', _, j5', j6', _⟩ := rd_ok (x := x) (q := q2M) (fun c g => by have : 21 ≤ c ∧ c ≤ 23 := of_decide_eq_true g; unfold prp; omega) L S m e false hi hh hst
                  have := stg_len j3' (by omega)
                  rw [t1] at this
                  omega
                rw [m216 b2' (by rw [b4.2.2 19 (by omega) (by omega) (by omega), hbs, ← b3, t1]) (by omega)]; rfl
              obtain ⟨Zm1, w1, w2, w3⟩ := flM gb.2.1 hb9 2
              have kb := fK_bd (X := X) (n := n) (p := p) (k := 2) (by omega)
              have m9 : f209_isSignHere 125 Zb' = some (bI (sgn X n p 125)) := m209 gb.2.1 hX gb.2.2.2.1 (c := 125) (by omega)
              have cmpf : ∀ k t : Int32, f58_isComparison k Zc = some 1 → f59_join (b + 1) k t Zc = some (2, Zc) := fun kk t g => by
                unfold f59_join
                rw [g, mjBp_some, if_neg (by decide), hcm.2]
                by_cases g52 : x = 52
                · rw [decide_eq_false (by omega), if_neg (by decide), hcm.1, show (0 : Int32) = i3 0 from rfl, if_neg (by rw [c_le (by omega)]; omega)]
                · rw [decide_eq_true g52, if_pos (by decide)]
              have ans : f61_goOnWithNumber (b + 1) Zc = some (2, Zc) := by
                rw [e61 hg.1 hX, if_neg n42, if_neg n43, if_neg n45]
                split
                · rw [cmpf 7 7 rfl, mjBd_some]
                · split
                  · rw [cmpf 9 7 rfl, mjBd_some]
                  · split
                    · rw [cmpf 8 7 rfl, mjBd_some]
                    · first | rfl | rw [if_neg n125]
              refine ⟨2, p, Zc, Zm1, by omega, by omega, ?_, ?_, hg.1, hp5, hg.2.2.1, w2, eqCc_rf, eqCd_tr (eqWk_d b4) (eqGw_d w3)⟩
              · rw [cl2 h0 (by omega) (e47f hg.1 hX hcm (by omega) (Or.inr (Or.inl hc))), ans, mjBd_some, if_neg (by decide)]; rfl
              · rw [md, b1', mjBd_some, top, mjBp_some, if_neg (by decide)]
                have w1' : f206_wrong 2 Zb' = some ((), Zm1) := w1
                unfold f220_closes f220_closes_j13
                rw [m9, q125, mjBp_some, if_neg (by decide), w1', mjBd_some, if_neg (bdL w2 kb), mjBd_some]
                cases M with
                | zero => omega
                | succ M => exact m221f w2 kb 1
end NV
