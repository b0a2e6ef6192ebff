/-! LINES: team, whole -/
section TF2
variable {X : Nat → Nat} {n b : Nat} {Z Zc Zm : mjZt} {S : mjS} {m p : Nat} {t w : Bool}
theorem rM_gw {Z2 : mjZt} (h : rM Z S m) (e : eqGw Z Z2) : rM Z2 S m := rM_of h (fun a g1 g2 _ => e.2.1 a (by omega)) (fun f g => e.2.2 f (by omega))
theorem m65f {k : Int} {q : Nat} (h : fltM Z k q) (hk : 1 ≤ k ∧ k ≤ 7) (h21 : Z.1 211 21 = i3 (sT S)) (h19 : ∀ k, Z.1 219 k = i3 (S 1 k)) (ho : okS S) : f227_teamLine_j65 Z = some ((), Z) := by
  have o1 := ok_sc ho
  unfold f227_teamLine_j65
  exact m227f h hk h21 h19 ho (sT S) 0 mjF 0 (Or.inl rfl) (by omega) (by unfold mjF; omega)
/-- the class puts a team -/
theorem e27 (hb : b = 2 ∨ b = 92) {T : Nat} (hT : T < 6) (h5 : Z.1 b 5 = i3 T) (W : Int64) (V : Int32) : f27_addTeam b W V Z = some ((), zSi (zSi (zSl (zSi Z b 5 (i3 ((T + 1 : Nat) : Int))) (tmB b T) 4 W) (tmB b T) 5 V) (tmB b T) 6 0) := by
  have g5 : (zSi Z b 5 (i3 ((T + 1 : Nat) : Int))).1 b 5 = i3 ((T + 1 : Nat) : Int) := si_same _ _ _ _
  unfold f27_addTeam
  rw [if_pos (is_b hb), h5, show (6 : Int32) = i3 6 from rfl, if_neg (by rw [c_ge (by omega)]; omega), i3_s, let_eq, g5, i3_p, show ((T + 1 : Nat) : Int) - 1 = (T : Int) by omega, e8T hb g5 (by omega) (by omega), mjBp_some, if_pos (is_tm hb T hT), let_eq, let_eq, let_eq]
/-- the state behind a team's line -/
theorem tm_end {Zc3 Zm3 Zm2 Zm4 : mjZt} {p1 p2 p3 V W : Nat} (h2 : rC b Zc S m) (h3 : rM Zm S m) (h4 : okR S m p) (hf : fgR Zc Zm t w) (hT : sT S < 6) (hW : nmF 8 W) (hV : 1 ≤ V ∧ V ≤ 9) (hnl : fI (fun u => decide (S 1 u = V)) (sT S) 0 = -1)
    (ec : eqT2 Zc Zc3) (hc : tkC X n Zc3 p3) (h5 : Zc3.1 182 5 = 0) (hp : p ≤ p3) (hpn : p3 ≤ n)
    (em2 : eqGo (zSl Zm 227 (sT S) (i6 W)) Zm2) (hZ3 : Zm3 = zSi (zSi (zSi Zm2 219 (sT S) (i3 V)) 220 (sT S) 0) 211 21 (i3 ((sT S + 1 : Nat) : Int))) (em4 : eqGo Zm3 Zm4) (hm4 : tkM X n Zm4 p3) (h9 : Zm4.1 211 9 = 0) :
    ∃ S2, jR X n b (zSi (zSi (zSl (zSi Zc3 b 5 (i3 ((sT S + 1 : Nat) : Int))) (tmB b (sT S)) 4 (i6 (cvN 8 W))) (tmB b (sT S)) 5 (i3 V)) (tmB b (sT S)) 6 0) Zm4 S2 m p3 t w := by
  have hb := rC_b h2
  obtain ⟨ho, hoc, hon, hmp, hto, hwv, hlg⟩ := h4
  have c3 := rC_of ho h2 (eqT3_B hb (eqT2_3 ec))
  obtain ⟨c31, c32, c33, c34⟩ := c3
  obtain ⟨r1, ⟨s1, s2, s3, s4, s5, s6⟩, r3⟩ := rM_r h3
  have tB : tmB b (sT S) = b + 18 + 5 * sT S := rfl
  obtain ⟨S2, hS2⟩ : ∃ S2, S2 = zuS (zuS (zuS (zuS S 11 (sT S) W) 1 (sT S) V) 2 (sT S) 0) 10 0 ((sT S + 1 : Nat) : Int) := ⟨_, rfl⟩
  have e : ∀ f, f ≠ 1 → f ≠ 2 → f ≠ 10 → f ≠ 11 → S2 f = S f := fun f g1 g2 g3 g4 => by rw [hS2, zuS_f g3, zuS_f g2, zuS_f g1, zuS_f g4]
  have e1 : ∀ k, k ≠ sT S → S2 1 k = S 1 k := fun k hk => by rw [hS2, zuS_f (by omega), zuS_f (by omega), zuS_n hk, zuS_f (by omega)]
  have e2 : ∀ k, k ≠ sT S → S2 2 k = S 2 k := fun k hk => by rw [hS2, zuS_f (by omega), zuS_n hk, zuS_f (by omega), zuS_f (by omega)]
  have e11 : ∀ k, k ≠ sT S → S2 11 k = S 11 k := fun k hk => by rw [hS2, zuS_f (by omega), zuS_f (by omega), zuS_f (by omega), zuS_n hk]
  have f1 : S2 1 (sT S) = V := by rw [hS2, zuS_f (by omega), zuS_f (by omega), zuS_e]
  have f2 : S2 2 (sT S) = 0 := by rw [hS2, zuS_f (by omega), zuS_e]
  have f11 : S2 11 (sT S) = W := by rw [hS2, zuS_f (by omega), zuS_f (by omega), zuS_f (by omega), zuS_e]
  have f10 : S2 10 0 = ((sT S + 1 : Nat) : Int) := by rw [hS2, zuS_e]
  have e10 : ∀ k, k ≠ 0 → S2 10 k = S 10 k := fun k hk => by rw [hS2, zuS_n hk, zuS_f (by omega), zuS_f (by omega), zuS_f (by omega)]
  have eT : sT S2 = sT S + 1 := by unfold sT at *; rw [f10, Int.toNat_natCast]
  have eA : sA S2 = sA S := by unfold sA; rw [e10 1 (by omega)]
  have eR : sR S2 = sR S := by unfold sR; rw [e10 2 (by omega)]
  have e8 := e 8 (by omega) (by omega) (by omega) (by omega)
  have e9 := e 9 (by omega) (by omega) (by omega) (by omega)
  have rows : rwR Zm4 S2 := by
    have q1 : rwR (zSl Zm 227 (sT S) (i6 W)) (zuS S 11 (sT S) W) := rwR_11 r1
    have q2 : rwR Zm2 (zuS S 11 (sT S) W) := rwR_of q1 (fun a g => em2.2.1 a (by omega))
    have q3 : rwR (zSi (zSi Zm2 219 (sT S) (i3 V)) 220 (sT S) (i3 0)) (zuS (zuS (zuS S 11 (sT S) W) 1 (sT S) V) 2 (sT S) 0) := rwR_si (f := 2) (by omega) rfl (rwR_si (f := 1) (by omega) rfl q2)
    have q4 : rwR Zm3 S2 := by
      rw [hS2, hZ3]
      exact rwR_10 (rwR_of q3 (fun a g => ⟨si_obj _ _ _ _ (by omega), rfl⟩))
    exact rwR_of q4 (fun a g => em4.2.1 a (by omega))
  have sc : ∀ f, 17 ≤ f → f ≤ 26 → f ≠ 21 → Zm4.1 211 f = Zm.1 211 f := fun f g1 g2 g3 => by
    rw [em4.2.2 f (by omega), hZ3, si_fld _ _ _ _ (by omega), si_obj _ _ _ _ (by omega), si_obj _ _ _ _ (by omega), em2.2.2 f (by omega)]; rfl
  have l213 : ∀ a, a = 213 ∨ a = 214 → Zm4.2.1 a = Zm.2.1 a := fun a g => by
    rw [(em4.2.1 a (by omega)).2, hZ3, si_lng, si_lng, si_lng, (em2.2.1 a (by omega)).2, sl_obj _ _ _ _ (by omega)]
  refine ⟨S2, ⟨?_, hm4, ?_, h9, hpn⟩, ⟨?_, ?_, ?_, ?_⟩, r_rM rows ⟨?_, ?_, ?_, ?_, ?_, ?_⟩ ⟨?_, ?_⟩, ⟨okS_team (W := W) ho hT hV hnl hlg e e1 e2 f1 f2 f10 e10, okC_89 hoc e8 e9 eR, ?_, by omega, fun r q g1 g2 => ?_, wv_keep eA (e 3 (by omega) (by omega) (by omega) (by omega)) hwv, ?_⟩, ?_, ?_, ?_⟩
  · obtain ⟨⟨a1, a2, a3⟩, a4, a5, a6, a7, a8⟩ := hc
    have x1 : (zSi (zSi (zSl (zSi Zc3 b 5 (i3 ((sT S + 1 : Nat) : Int))) (tmB b (sT S)) 4 (i6 (cvN 8 W))) (tmB b (sT S)) 5 (i3 V)) (tmB b (sT S)) 6 0).1 183 = Zc3.1 183 := by rw [si_obj _ _ _ _ (by omega), si_obj _ _ _ _ (by omega), sl_int, si_obj _ _ _ _ (by omega)]
    have x2 : (zSi (zSi (zSl (zSi Zc3 b 5 (i3 ((sT S + 1 : Nat) : Int))) (tmB b (sT S)) 4 (i6 (cvN 8 W))) (tmB b (sT S)) 5 (i3 V)) (tmB b (sT S)) 6 0).1 1 = Zc3.1 1 := by rw [si_obj _ _ _ _ (by omega), si_obj _ _ _ _ (by omega), sl_int, si_obj _ _ _ _ (by omega)]
    have x3 : (zSi (zSi (zSl (zSi Zc3 b 5 (i3 ((sT S + 1 : Nat) : Int))) (tmB b (sT S)) 4 (i6 (cvN 8 W))) (tmB b (sT S)) 5 (i3 V)) (tmB b (sT S)) 6 0).2.1 183 = Zc3.2.1 183 := by rw [si_lng, si_lng, sl_obj _ _ _ _ (by omega), si_lng]
    exact ⟨⟨a1, by rw [x2]; exact a2, by rw [x1]; exact a3⟩, by rw [x1]; exact a4, by rw [x1]; exact a5, by rw [x1]; exact a6, by rw [x1]; exact a7, by rw [x3]; exact a8⟩
  · rw [si_obj _ _ _ _ (by omega), si_obj _ _ _ _ (by omega), sl_int, si_obj _ _ _ _ (by omega)]; exact h5
  · refine cBk_team (V := V) (W := W) hT c31 ho e e1 e2 e11 f1 f2 f11 hW f10 e10 (fun a g1 g2 g3 g4 => ?_) (fun a g1 g2 g3 => ?_) (fun f g => ?_) ?_ ?_ ?_ ?_
    · rw [si_obj _ _ _ _ g4, si_obj _ _ _ _ g4, sl_int, si_obj _ _ _ _ g3]
    · rw [si_lng, si_lng, sl_obj _ _ _ _ g3, si_lng]
    · rw [si_obj _ _ _ _ (by omega), si_obj _ _ _ _ (by omega), sl_int, si_fld _ _ _ _ (by omega)]
    · rw [si_obj _ _ _ _ (by omega), si_obj _ _ _ _ (by omega), sl_int, si_same]
    · rw [si_fld _ _ _ _ (by omega), si_same]
    · rw [si_same]; rfl
    · rw [si_lng, si_lng, sl_same]
  · refine cTr_89 c32 e8 e9 eR (fun a g1 g2 => ?_)
    rw [si_obj _ _ _ _ (by omega), si_obj _ _ _ _ (by omega), sl_int, si_obj _ _ _ _ (by omega)]
  · rw [si_obj _ _ _ _ (by omega), si_obj _ _ _ _ (by omega), sl_int, si_obj _ _ _ _ (by omega)]; exact c33
  · intro k g1 g2
    rw [si_obj _ _ _ _ (by omega), si_obj _ _ _ _ (by omega), sl_int, si_obj _ _ _ _ (by omega), si_obj _ _ _ _ (by omega), si_obj _ _ _ _ (by omega), sl_int, si_obj _ _ _ _ (by omega)]
    exact c34 k (by omega) g2
  · rw [em4.2.2 21 (by omega), hZ3, si_same, eT]
  · rw [sc 22 (by omega) (by omega) (by omega), eA]; exact s2
  · rw [sc 23 (by omega) (by omega) (by omega), eR]; exact s3
  · rw [sc 25 (by omega) (by omega) (by omega), e10 3 (by omega)]; exact s4
  · rw [sc 26 (by omega) (by omega) (by omega), e10 4 (by omega)]; exact s5
  · rw [sc 17 (by omega) (by omega) (by omega)]; exact s6
  · rw [l213 213 (by omega)]; exact r3.1
  · rw [l213 214 (by omega)]; exact r3.2
  · refine ⟨fun u hu => ?_, fun r hr => ?_⟩
    · by_cases q : u = sT S
      · subst q; exact ⟨W, f11, hW⟩
      · rw [e11 u q]; exact hon.1 u (by omega)
    · rw [e 12 (by omega) (by omega) (by omega) (by omega)]; exact hon.2 r (by omega)
  · rw [(to_89 e8 r q).1]; exact hto r q (by omega) g2
  · unfold sLg at hlg ⊢; rw [e 0 (by omega) (by omega) (by omega) (by omega)]; exact hlg
  · rw [si_obj _ _ _ _ (by omega), si_obj _ _ _ _ (by omega), sl_int, si_obj _ _ _ _ (by omega), ec.2.2 2 (by omega), ec.2.2 6 (by omega)]; exact hf.1
  · rw [si_obj _ _ _ _ (by omega), si_obj _ _ _ _ (by omega), sl_int, si_obj _ _ _ _ (by omega), ec.2.2 3 (by omega)]; exact hf.2.1
  · rw [sc 24 (by omega) (by omega) (by omega)]; exact hf.2.2
theorem team_end {Zc2 Zm1 Zm2 : mjZt} {p1 p2 W : Nat} {rc : Option (Int32 × mjZt)} {rm : Option (Unit × mjZt)} (h2 : rC b Zc S m) (h3 : rM Zm S m) (h4 : okR S m p) (hf : fgR Zc Zm t w) (hn : n ≤ 700) (hX : ∀ k, X k ≤ 255) (q : ¬ sT S = 6) (hpp : p < p1) (hpp2 : p1 < p2) (hW : nmF 8 W)
    (ec : eqT2 Zc Zc2) (em : eqGo Zm Zm1) (b3 : gd X n Zc2 Zm2 p2) (b6 : eqGo (zSl Zm1 227 (sT S) (i6 W)) Zm2) (c2 : rC b Zc2 S m) (z19 : ∀ k, Zm2.1 219 k = i3 (S 1 k)) (z21 : Zm2.1 211 21 = i3 (sT S))
    (cl : rc = if mjCmp .ne (Zc2.1 183 3) 2 = true then f120_readTeam_j105 b (i6 (cvN 8 W)) Zc2 else mjBp (f24_teamInLane b (Zc2.1 183 5) Zc2) fun v127 => if mjCmp .eq v127 (-1) = true then f120_readTeam_j105 b (i6 (cvN 8 W)) Zc2 else mjBd (f114_fail 4 Zc2) fun v131 Z132 => if v131 = 0 ∨ v131 = 1 then some (v131, Z132) else none)
    (md : rm = if mjCmp .eq (Zm2.1 211 7) 2 = true then f227_teamLine_j65 Zm2 else mjBd (f206_wrong 2 Zm2) fun _ Z142 => f227_teamLine_j65 Z142) : lnR X n b rc rm Zc Zm p := by
  have hb := rC_b h2
  have ho := h4.1
  have o1 := ok_sc ho
  have m1 := rM_go h3 em
  have hpp2' := jE_bd (X := X) b3.2.2.2.2
  have ks := kd_spec (X := X) (n := n) (p := p2)
  have k5 := kd_255 (n := n) (p := p2) hX
  have h183 : Zc2.1 183 3 = i3 (kd X n p2) := b3.1.2.2.1
  have h7 := b3.2.1.2.2.2.1
  have h8 := b3.2.1.2.2.2.2.1
  have vb := jV_bd (X := X) (n := n) (p := p2) hX
  have FRc : eqRc b Zc Zc2 := eqT2_R ec
  have FRd : eqRd Zm Zm2 := eqRd_tr (eqGo_R em) (eqRd_tr (eqRd_sl (by omega)) (eqGo_R b6))
  rw [h183, show (2 : Int32) = i3 2 from rfl] at cl
  rw [h7, show (2 : Int32) = i3 2 from rfl] at md
  by_cases s2 : jS X n p2 = 2
  rotate_left
  · right
    obtain ⟨Zc3, Zm3, d1, d2, d3, d4, d5, k, q2, k1, k2, k3⟩ := flt b3 (k := 2) (by omega)
    refine ⟨Zc3, Zm3, ?_, ?_, d3, eqRc_tr FRc (eqT3_R d4), eqRd_tr FRd (eqGw_R d5)⟩
    · rw [cl, if_pos (by rw [c_ne (by omega)]; omega)]
      unfold f120_readTeam_j105 f116_takeNumber
      rw [h183, show (2 : Int32) = i3 2 from rfl, if_neg (by rw [c_eq (by omega)]; omega), d1, mjBd_some, if_pos (Or.inl rfl), mjBd_some, if_neg (by decide)]
    · rw [md, if_neg (by rw [c_eq (by omega)]; omega), d2, mjBd_some]
      exact m65f k3 ⟨k1, k2⟩ (by rw [d5.2.2 21 (by omega)]; exact z21) (fun k => by rw [(d5.2.1 219 (by omega)).1]; exact z19 k) ho
  have h5 := b3.1.2.2.2.2.1 s2
  have e24 : f24_teamInLane b (i3 (jV X n p2)) Zc2 = some (i3 (fI (fun u => decide (S 1 u = (jV X n p2 : Int))) (sT S) 0)) := e24h c2.1 ho (x := jV X n p2) (by omega) (sT S) 0 mjF (by omega) (by unfold mjF; omega)
  have bl := fI_bd (fun u => decide (S 1 u = (jV X n p2 : Int))) (sT S) 0
  have j65 : f227_teamLine_j65 Zm2 = f227_teamLine_h69 1 (bI (decide (fI (fun u => decide (S 1 u = (jV X n p2 : Int))) (sT S) 0 ≠ -1))) (i3 (sT S)) Zm2 := by
    have g := m227g z21 z19 ho vb h8 (sT S) 0 mjF false (by omega) (by unfold mjF; omega)
    rw [Bool.false_or] at g
    exact g
  rw [if_neg (by rw [c_ne (by omega)]; omega), h5, e24, mjBp_some, show (-1 : Int32) = i3 (-1) from rfl] at cl
  have hge : mjCmp .ge (i3 (sT S)) (i3 (sT S)) = true := by rw [c_ge (by omega)]; omega
  rw [if_pos (by rw [c_eq (by omega)]; omega), j65, f227_teamLine_h69, z21, if_pos hge, gdM b3.2.2.2.1, mjBp_some, if_neg (by decide), h8, i36 (by omega), show (1 : Int64) = i6 1 from rfl, show (9 : Int64) = i6 9 from rfl] at md
  by_cases good : fI (fun u => decide (S 1 u = (jV X n p2 : Int))) (sT S) 0 = -1 ∧ 1 ≤ jV X n p2 ∧ jV X n p2 ≤ 9
  · left
    obtain ⟨Zc3, d1, d2, d3, d4⟩ := c_num b3.1 hn hX b3.2.2.2.2 s2 (lo := 1) (hi := 9) (by omega) (by omega)
    generalize hZ3 : zSi (zSi (zSi Zm2 219 (sT S) (i3 (jV X n p2))) 220 (sT S) 0) 211 21 (i3 ((sT S + 1 : Nat) : Int)) = Zm3
    have f3 : ∀ f, f ≠ 21 → Zm3.1 211 f = Zm2.1 211 f := fun f hf2 => by rw [← hZ3, si_fld _ _ _ _ (by omega), si_obj _ _ _ _ (by omega), si_obj _ _ _ _ (by omega)]
    have g3 : gd X n Zc2 Zm3 p2 := gd_of b3 rfl rfl rfl rfl rfl (by rw [← hZ3, si_obj _ _ _ _ (by omega), si_obj _ _ _ _ (by omega), si_obj _ _ _ _ (by omega)]) (fun f g1 g2 => f3 f (by omega)) (by rw [← hZ3]; rfl)
    obtain ⟨Zm4, r1, r2, r3⟩ := goOn g3.2.1 hn hX g3.2.2.2.2
    obtain ⟨S2, hS2⟩ := tm_end (Zm3 := Zm3) (Zm4 := Zm4) (p3 := jE X n p2) (p1 := 0) (p2 := 0) (W := W) (V := jV X n p2) h2 m1 h4 ⟨hf.1, hf.2.1, by rw [em.2.2 24 (by omega)]; exact hf.2.2⟩ (by omega) hW good.2 good.1 (eqT2_tr ec d4) d3 (by rw [d4.2.2 5 (by omega)]; exact b3.2.2.1) (by omega) hpp2'.2.2.1 b6 hZ3.symm r3 r2 (by rw [r3.2.2 9 (by omega)]; exact g3.2.2.2.1)
    have c35 : Zc3.1 b 5 = i3 (sT S) := by rw [(d4.2.1 b (by omega) (by omega)).1]; exact b_T c2.1
    have tB : tmB b (sT S) = b + 18 + 5 * sT S := rfl
    refine ⟨_, Zm4, S2, m, _, t, w, ?_, ?_, hS2, by omega, eqRc_tr FRc (eqRc_tr (eqT2_R d4) (eqRc_tr (eqRc_si (by unfold rdw; omega)) (eqRc_tr (eqRc_sl (by unfold rdw; omega)) (eqRc_tr (eqRc_si (by unfold rdw; omega)) (eqRc_si (by unfold rdw; omega)))))), ?_⟩
    · rw [cl, good.1, if_pos (by decide)]
      unfold f120_readTeam_j105
      rw [show (1 : Int32) = i3 1 from rfl, show (9 : Int32) = i3 9 from rfl, d1, mjBd_some, if_pos (by decide), if_pos (is_b hb), d2, e27 hb (by omega) c35, mjBd_some]
    · rw [md, m195t (by omega), mjBp_some, if_neg (by decide), good.1, show decide ((-1 : Int) ≠ -1) = false by decide, if_pos (by decide)]
      unfold f227_teamLine_j137
      have x1 : (zSi Zm2 219 (sT S) (i3 (jV X n p2))).1 211 21 = i3 (sT S) := by rw [si_obj _ _ _ _ (by omega), z21]
      have x2 : (zSi (zSi Zm2 219 (sT S) (i3 (jV X n p2))) 220 (sT S) 0).1 211 21 = i3 (sT S) := by rw [si_obj _ _ _ _ (by omega), x1]
      rw [if_pos (gdL b3.2.2.2.1), z21, if_pos (in_p (by omega)), ix_nat (by omega), h8, let_eq, x1, if_pos (in_p (by omega)), ix_nat (by omega), let_eq, x2, i3_s, hZ3, let_eq, r1, mjBd_some]
    · exact eqRd_tr FRd (eqRd_tr (by rw [← hZ3]; exact eqRd_tr (eqRd_si (by omega)) (eqRd_tr (eqRd_si (by omega)) (eqRd_si (by omega)))) (eqGo_R r3))
  · right
    obtain ⟨Zc3, Zm3, d1, d2, d3, d4, d5, k, q2, k1, k2, k3⟩ := flt b3 (k := 4) (by omega)
    refine ⟨Zc3, Zm3, ?_, ?_, d3, eqRc_tr FRc (eqT3_R d4), eqRd_tr FRd (eqGw_R d5)⟩
    · rw [cl]
      by_cases g : fI (fun u => decide (S 1 u = (jV X n p2 : Int))) (sT S) 0 = -1
      · rw [g, if_pos (by decide)]
        unfold f120_readTeam_j105 f116_takeNumber
        rw [h183, show (2 : Int32) = i3 2 from rfl, if_pos (by rw [c_eq (by omega)]; omega), h5, show (1 : Int32) = i3 1 from rfl, show (9 : Int32) = i3 9 from rfl, show (4 : Int32) = i3 4 from rfl]
        by_cases g2 : jV X n p2 < 1
        · rw [if_pos (by rw [c_lt (by omega)]; omega), d1, mjBd_some, if_pos (Or.inl rfl), mjBd_some, if_neg (by decide)]
        · rw [if_neg (by rw [c_lt (by omega)]; omega), if_neg (by rw [c_le (by omega)]; omega), d1, mjBd_some, if_pos (Or.inl rfl), mjBd_some, if_neg (by decide)]
      · rw [if_neg (by rw [c_eq (by omega)]; omega), show (4 : Int32) = i3 4 from rfl, d1, mjBd_some, if_pos (Or.inl rfl)]
    · have j132 : f227_teamLine_j132 Zm2 = some ((), Zm3) := by
        unfold f227_teamLine_j132 f227_teamLine_j137
        rw [show (4 : Int32) = i3 4 from rfl, d2, mjBd_some, if_neg (bdL k3 ⟨k1, k2⟩)]
      rw [md]
      by_cases g : 1 ≤ jV X n p2 ∧ jV X n p2 ≤ 9
      · rw [m195t (by omega), mjBp_some, if_neg (by decide), decide_eq_true (by omega), if_neg (by decide)]; exact j132
      · rw [m195f (by omega), mjBp_some, if_pos (by decide)]; exact j132
theorem p_team (h : jR X n b Zc Zm S m p t w) (hn : n ≤ 700) (hX : ∀ k, X k ≤ 255) (hs : jS X n p ≠ 0) : lnR X n b (f120_readTeam b Zc) (f227_teamLine Zm) Zc Zm p := by
  have h0 := h
  obtain ⟨hg, h2, h3, h4, hf⟩ := h0
  have hb := rC_b h2
  have ho := h4.1
  have hon := h4.2.2.1
  have o1 := ok_sc ho
  have hpp := (jE_bd (X := X) hg.2.2.2.2).2.2.2 hs
  have sT21 : Zm.1 211 21 = i3 (sT S) := h3.2.2.2.2.2.2.2.2.2.2.1.1
  by_cases q : sT S = 6
  · right
    obtain ⟨Zc1, Zm1, a1, a2, a3, a4, a5, k, q2, k1, k2, k3⟩ := flt hg (k := 5) (by omega)
    refine ⟨Zc1, Zm1, ?_, ?_, a3, eqT3_R a4, eqGw_R a5⟩
    · unfold f120_readTeam
      rw [if_pos (is_b hb), b_T h2.1, show (6 : Int32) = i3 6 from rfl, if_neg (by rw [c_lt (by omega)]; omega), show (5 : Int32) = i3 5 from rfl, a1, mjBd_some, if_pos (Or.inl rfl)]
    · unfold f227_teamLine
      rw [sT21, show (6 : Int32) = i3 6 from rfl, if_neg (by rw [c_ne (by omega)]; omega), show (5 : Int32) = i3 5 from rfl, a2, mjBd_some]
      unfold f227_teamLine_j14 f227_teamLine_j25
      rw [bdM k3 ⟨k1, k2⟩, mjBp_some, if_pos (by decide), if_neg (bdL k3 ⟨k1, k2⟩)]
  · obtain ⟨Zc1, Zm1, a1, a2, a3, a4, a5⟩ := nxt hg hn hX
    have m1 := rM_go h3 a5
    have c1 := rC_of ho h2 (eqT3_B hb (eqT2_3 (eqTk_2 a4)))
    have hp1 := jE_bd (X := X) a3.2.2.2.2
    have sT1 : Zm1.1 211 21 = i3 (sT S) := m1.2.2.2.2.2.2.2.2.2.2.1.1
    have cl : f120_readTeam b Zc = (mjBp (f119_isName Zc1) fun v107 => if mjCmp .ne v107 0 = true then mjBp (f26_isNameTaken b (Zc1.2.1 183 6) Zc1) fun v111 => if mjCmp .eq v111 0 = true then mjBd (f68_advance Zc1) fun _ Z116 => if mjCmp .ne (Z116.1 183 3) 2 = true then f120_readTeam_j105 b (Zc1.2.1 183 6) Z116 else mjBp (f24_teamInLane b (Z116.1 183 5) Z116) fun v127 => if mjCmp .eq v127 (-1) = true then f120_readTeam_j105 b (Zc1.2.1 183 6) Z116 else mjBd (f114_fail 4 Z116) fun v131 Z132 => if v131 = 0 ∨ v131 = 1 then some (v131, Z132) else none else mjBd (f114_fail 3 Zc1) fun v135 Z136 => if v135 = 0 ∨ v135 = 1 then some (v135, Z136) else none else mjBd (f114_fail 2 Zc1) fun v139 Z140 => if v139 = 0 ∨ v139 = 1 then some (v139, Z140) else none) := by
      unfold f120_readTeam
      rw [if_pos (is_b hb), b_T h2.1, if_pos (by rw [show (6 : Int32) = i3 6 from rfl, c_lt (by omega)]; omega), a1, mjBd_some]
    have md : f227_teamLine Zm = (mjBd (f225_freshName 227 (i3 (sT S)) Zm1) fun _ Z109 => mjBp (f207_isGood Z109) fun v111 => if mjCmp .eq v111 0 = true then f227_teamLine_j65 Z109 else if mjCmp .eq (Z109.1 211 7) 2 = true then f227_teamLine_j65 Z109 else mjBd (f206_wrong 2 Z109) fun _ Z142 => f227_teamLine_j65 Z142) := by
      unfold f227_teamLine
      rw [sT21, if_pos (by rw [show (6 : Int32) = i3 6 from rfl, c_ne (by omega)]; omega)]
      unfold f227_teamLine_j14 f227_teamLine_j25
      rw [gdM hg.2.2.2.1, mjBp_some, if_neg (by decide), a2, mjBd_some, if_pos (gdL a3.2.2.2.1), sT1]
    rw [e119 a3.1 hX, mjBp_some] at cl
    rcases p_name a3 hn hX m1 ho hon (o := 227) (k := sT S) (by omega) with ⟨i1, i2, i3', Zc2, Zm2, b1, b2, b3, b4, b5, b6⟩ | ⟨j, Zc2, Zm2, hj, b1, b2, b3, b4, b5⟩
    rotate_left
    · right
      obtain ⟨k, q2, k1, k2, k3, k4⟩ := b3
      refine ⟨Zc2, Zm2, ?_, ?_, ⟨k, q2, k1, k2, k3, k4⟩, eqRc_tr (eqTk_R a4) (eqT3_R b4), eqRd_tr (eqGo_R a5) (eqGw_R b5)⟩
      · rw [cl]
        rcases hj with ⟨rfl, g⟩ | ⟨rfl, g, g2⟩
        · rw [g, if_neg (by decide), show (2 : Int32) = i3 2 from rfl, b1, mjBd_some, if_pos (Or.inl rfl)]
        · obtain ⟨g3, g4⟩ := c_name a3.1 g
          rw [g, if_pos (by decide), g4, e26 c1.1 ho hon (jN_nm (n := n) hX).1, mjBp_some, decide_eq_true g2, if_neg (by decide), show (3 : Int32) = i3 3 from rfl, b1, mjBd_some, if_pos (Or.inl rfl)]
      · rw [md, b2, mjBd_some, bdM k4 ⟨k1, k2⟩, mjBp_some, if_pos (by decide)]
        have m2 := rM_gw m1 b5
        exact m65f k4 ⟨k1, k2⟩ m2.2.2.2.2.2.2.2.2.2.2.1.1 m2.2.1 ho
    obtain ⟨g3, g4⟩ := c_name a3.1 i1
    have hW := (jN_nm (n := n) hX (p := jE X n p)).1
    rw [i1, if_pos (by decide), g4, e26 c1.1 ho hon hW, mjBp_some, decide_eq_false (by omega), if_pos (by decide), b1, mjBd_some] at cl
    rw [b2, mjBd_some, gdM b3.2.2.2.1, mjBp_some, if_neg (by decide)] at md
    have hpp2 := jE_bd (X := X) b3.2.2.2.2
    have c2 := rC_of ho c1 (eqT3_B hb (eqT2_3 (eqTk_2 b5)))
    have z19 : ∀ k, Zm2.1 219 k = i3 (S 1 k) := fun k => by rw [(b6.2.1 219 (by omega)).1, sl_int]; exact m1.2.1 k
    have z21 : Zm2.1 211 21 = i3 (sT S) := by rw [b6.2.2 21 (by omega), sl_int]; exact sT1
    exact team_end h2 h3 h4 hf hn hX q hpp b4 hW (eqT2_tr (eqTk_2 a4) (eqTk_2 b5)) a5 b3 b6 c2 z19 z21 cl md
end TF2
