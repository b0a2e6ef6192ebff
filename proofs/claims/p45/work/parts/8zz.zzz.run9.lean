/-! THE LAW ENDS WITH TRUE, WHATEVER THE SCRIPT -/
section RU9
variable {t : List Int32} {N k i : Nat} {f : Nat → Nat}
theorem gd_map (h : k < N) : ((List.range N).map f).getD k 0 = f k := by
  simp [List.getD_eq_getElem?_getD, List.getElem?_map, List.getElem?_range h]
theorem gd_255 (h : ∀ m, f m ≤ 255) : ((List.range N).map f).getD k 0 ≤ 255 := by
  by_cases g : k < N
  · rw [gd_map g]; exact h k
  · rw [List.getD_eq_getElem?_getD, List.getElem?_eq_none (by rw [List.length_map, List.length_range]; omega)]
    show (0 : Nat) ≤ 255
    omega
theorem nt_gd (h : i < t.length) : (nt t).getD i 0 = nc (t.getD i 0) := by
  unfold nt
  rw [List.getD_eq_getElem?_getD, List.getD_eq_getElem?_getD, List.getElem?_map, List.getElem?_eq_getElem h]
  rfl
theorem fB_nt (h : i < t.length) : fB9 t 0 i = (nt t).getD i 0 := by
  unfold fB9
  rw [Nat.zero_add, if_pos h, nt_gd h]
end RU9
section RU8
variable {L w : Nat} {xs : Nat → Int32}
theorem law_run (hL : L ≤ 260) : ∃ (B : Nat) (n1 : Nat × Nat) (M1 : mjMem), n1.1 ≤ 500000 ∧ n1.2 ≤ 7000000 ∧ g256_law (sgT B) 2000000 ((0, 0), mjM0 L xs w) = some (1, (n1, M1)) := by
  obtain ⟨B, k, s, r, l, c, T, Lg, t, a, M, Zf, hB, hk, ht, hc, hT, hg, st, hs13, hS, hs, hr, hh, j1, j2, j3, j4, j5, j6, j7⟩ := tp_head (w := w) (xs := xs) hL
  obtain ⟨W, hWd⟩ : ∃ W : mjWt, W = (M.2.2.1, M.2.2.2) := ⟨_, rfl⟩
  rw [← hWd] at st hS j5
  have sW : mjWok W := st.1
  have e0 : sgT B 0 = 1000 := sgT_lo (by omega)
  have eB : sgT B B = 0 := sgT_mid (j := 0) (by omega)
  have q1 : qNew (sgT B) ((0, 0), mjM0 L xs w) (16, 0) = some (1000, ((0 + 1, 0 + mjSzK (16, 0)), mjZr (mjM0 L xs w) 1000 (16, 0))) := by
    show (if (0 : Nat) < 100000 then some (sgT B 0, ((0 + 1, 0 + mjSzK (16, 0)), mjZr (mjM0 L xs w) (sgT B 0) (16, 0))) else none) = _
    rw [if_pos (by omega), e0]
  have q2 := qWo_eq (sg := sgT B) j1 (fun j hj => sgT_lo (by rw [← j2]; exact hj))
  have q3 : qNew (sgT B) Zf (11, 0) = some (0, ((B + 1, Zf.1.2 + mjSzK (11, 0)), M)) := by
    show (if Zf.1.1 < 100000 then some (sgT B Zf.1.1, ((Zf.1.1 + 1, Zf.1.2 + mjSzK (11, 0)), mjZr Zf.2 (sgT B Zf.1.1) (11, 0))) else none) = _
    rw [j2, if_pos (by omega), eB, ← j3]
  have q4 : qIni (sgT B) 0 ((B + 1, Zf.1.2 + mjSzK (11, 0)), M) = some ((B + 211, k), mjVw W (Zi9 M)) := by
    rw [qIni_eq (sg := sgT B) (Z := ((B + 1, Zf.1.2 + mjSzK (11, 0)), M)) (by show 1 ≤ B + 1; omega) (by show B + 1 + 210 ≤ 100000; omega) (by show zS9 1 ≤ Zf.1.2 + mjSzK (11, 0); omega) (fun j hj => by show sgT B (B + 1 - 1 + j) = j; rw [Nat.add_sub_cancel]; exact sgT_mid hj) j7, j5]
    exact congrArg (fun q => some (q, mjVw W (Zi9 M))) (Prod.ext (by show B + 1 + 210 = B + 211; omega) j4.symm)
  have q6 : qCl (fun Zc => f193_undo Zc) ((B + 211, k), mjVw W (Zi9 M)) = some (-1, ((B + 211, k), mjVw W (Zi9 M))) := cl_vw sW (by show f193_undo (hid9 (Zi9 M)) = _; rw [hh]; exact zi_undo)
  have q7 : qClp (fun Zc => f157_lane 1 Zc) ((B + 211, k), mjVw W (Zi9 M)) = some (-1) := clp_vw sW (by show f157_lane 1 (hid9 (Zi9 M)) = _; rw [hh]; exact zi_lane)
  have q8 : qR (mjVw W (Zi9 M)) 1000 16 13 = some s := by
    refine qR_of (n := 0) (((vw_k (W := W) (Zc := Zi9 M) (a := 1000) (by omega)).1).trans st.2.2.1) rfl ?_
    show (if 1000 < 211 then mjRv (Zi9 M).2.2.1 (Zi9 M).2.2.2 1000 13 else W.1 1000 13) = some s
    rw [if_neg (by omega), hWd]
    exact hs13
  obtain ⟨n2, W2, K, Y, u1, u2, u3, u4, u5, u6, u7, u8, u9, u10⟩ := fd_h4 (sg := sgT B) (s := s) (r := r) (t := t) (Q := fQ9 B) (lns_ch hg) ht (by omega) (by omega) (fun q => by have := q.1; omega) (fun q => by have := q.1; omega) 35 0 mjF (B + 211, k) W (Zi9 M) (by omega) (by unfold mjF; omega) (by show B + 211 + 35 < 88000; omega) (fun j g1 g2 => by
    have g1' : B + 211 ≤ j := g1
    have g2' : j < B + 211 + 35 := g2
    rw [sgT_hi g1']
    exact ⟨⟨by omega, by omega⟩, by omega, by omega⟩) sW hS (show tpC (Zi9 M) ((List.range 0).map (fB9 t 0)) from zi_tp)
  have u1' : B + 211 ≤ n2.1 := u1
  have u2' : n2.1 ≤ B + 211 + 35 := u2
  have u3' : n2.2 ≤ k + 5 * 35 := u3
  have q9 : g198_feeds (sgT B) 0 s ((B + 211, k), mjVw W (Zi9 M)) = some (1, (n2, mjVw W2 Y)) := by
    have z0 : i3 ((20 * 0 : Nat) : Int) = 0 := rfl
    rw [z0] at u10
    unfold g198_feeds
    exact u10
  have st2 := stT_of hB.2 hB.1 st u4 (Z2 := Y) (fun a g1 g2 => ⟨u5.2.1 a (by omega) (by omega) (by omega) g2, u5.2.2.2 a g2⟩)
  have yo : ∀ a, 2 ≤ a → a < 211 → Y.1 a = (Zi9 M).1 a ∧ Y.2.1 a = (Zi9 M).2.1 a := fun a g1 g2 => ⟨u5.2.1 a (by omega) (by omega) (by omega) (fun q => by have := q.1; omega), u5.2.2.1 a (by omega) (fun q => by have := q.1; omega)⟩
  have hY : ∀ a, ¬ (211 ≤ a ∧ a < 251) → (hid9 Y).1 a = Y.1 a := fun a g => if_neg g
  obtain ⟨Z1, S, b1, b2, b3⟩ := y_book (Z := hid9 Y) (b := 2) (n := t.length) (N := 0) (c := c) (Lg := Lg) (a := a) (t := t) (E := fun _ _ => 0) (X := fun k => ((List.range (20 * K)).map (fB9 t 0)).getD k 0) (by show Y.2.2.1 = 2; rw [u5.1]; rfl) (Or.inl rfl) (by omega) (fun k => gd_255 (fun m => fB_255 (lns_ch hg) 0 m)) (fun k => by rw [hY 1 (by omega)]; exact u9 k) (by rw [hY 0 (by omega)]; exact u8) (sp_hid (Or.inr rfl) (spZ_of (Or.inr rfl) zi_sp (fun a g1 g2 => yo a (by omega) (by omega)))) (by omega) (by rw [hY 209 (by omega), (yo 209 (by omega) (by omega)).1, zi_0 (by omega) (by omega)]; rfl) hg (by omega) rfl (fun i hi => by
    show ((List.range (20 * K)).map (fB9 t 0)).getD i 0 = _
    rw [gd_map (by omega), fB_nt hi])
  have q11 := cl_vw (n := n2) u4 (f := fun Zc => f152_book Zc) b1
  have st3 := stT_of hB.2 hB.1 st2 u4 (Z2 := Z1) (fun a g1 g2 => ⟨(b3 a g1).trans (hY a (by omega)), rfl, rfl⟩)
  have b2' : cI9 Z1 92 S 0 0 (fun _ _ => 0) := b2
  have q12 : qI (mjVw W2 Z1) 1000 16 7 = some (i3 (c : Nat)) := by
    have v1 := vw_k (W := W2) (Zc := Z1) (a := 1000) (by omega)
    have k1 : mjKs (mjVw W2 Z1) 1000 16 = true := by
      unfold mjKs
      rw [v1.1, st3.2.2.1]; rfl
    unfold qI
    rw [if_pos k1, if_neg (by decide), v1.2, st3.2.2.2.2.2.2.2]
  obtain ⟨Y3, a1, a2, a3, a4⟩ := r_all (sg := sgT B) (n := n2) (v := 1000 + n2.1) b2' u4 (by omega) (by omega) (by omega) (sgT_hi u1')
  have st4 := stT_of hB.2 hB.1 st3 a4 (Z2 := Y3) (fun a g1 g2 => by
    have dn : a ≠ 1000 + n2.1 := fun e => g2 ⟨by omega, by omega⟩
    refine ⟨(a2.2.1 a dn).1.trans ?_, if_neg dn, ?_⟩
    · funext j; exact if_neg dn
    · funext j; exact if_neg dn)
  have c4 : cI9 Y3 92 S 0 0 (fun _ _ => 0) := cI_lo a3 (fun a ha => a2.2.1 a (by omega)) a2.1
  obtain ⟨M9, e14⟩ := lw_behind (sg := sgT B) (n := (n2.1 + 1, n2.2 + 54)) (v := 1000 + n2.1) (w := 1000 + (n2.1 + 1)) a4 hT c4 a3 st4.2.1 (stT_tm st4) ⟨by omega, by omega⟩ (if_pos rfl) a2.2.2 ⟨by omega, by omega⟩ (by omega) (by show n2.1 + 1 < 100000; omega) (sgT_hi (by show B + 211 ≤ n2.1 + 1; omega))
  exact ⟨B, (n2.1 + 1 + 1, n2.2 + 54 + 54), M9, by show n2.1 + 1 + 1 ≤ 500000; omega, by show n2.2 + 54 + 54 ≤ 7000000; omega, law_of q1 q2 q3 q4 ro_0 q6 q7 q8 q9 ro_0 q11 q12 a1 e14⟩
theorem mjPure_is : mjPure := by
  intro L xs w hL hw
  obtain ⟨B, n1, M1, h1, h2, h3⟩ := law_run (xs := xs) (w := w) hL
  obtain ⟨f, r, Z1, g1, g2, g3⟩ := pE.up (g256_law_ok h3) (show 200 ≤ 1000 by omega)
  refine ⟨sgT B, taT B, f, n1, M1, fun j hj => sgT_ok hj, h1, h2, ?_⟩
  rw [g3, g2, show mjML 256 = 7 from rfl] at g1
  exact g1
end RU8
