/-! the class reads what is grown, to the end-/
section RW9
variable {X : Nat → Nat} {n b p q Lg c : Nat} {Z Z1 Z2 : mjZt} {a a2 : mjK} {ts : List (Nat × Nat)} {t : List Int32}
/-- the track's line-/
theorem R_hd (h : hdW Lg t) : ∃ le be af cu : Nat, 2 ≤ Lg ∧ Lg ≤ 4 ∧ 50 ≤ le ∧ le ≤ 400 ∧ be ≤ 20 ∧ af ≤ 20 ∧ cu ≤ le ∧ Rd false (nt t) [(1, 500135191403), (2, Lg), (2, le), (2, be), (2, af), (2, cu), (3, 59)] := by
  obtain ⟨h1, h2, le, be, af, cu, h3, h4, h5, h6, h7, hu⟩ := h
  have e1 : nt (txS 1000041) = [116, 114, 97, 99, 107] ++ [32] := by decide
  have e2 : nt (txS 1000042) = [32] := by decide
  have e3 : nt (txS 1000043) = [59] := by decide
  refine ⟨le, be, af, cu, h1, h2, h3, h4, h5, h6, h7, ?_⟩
  have w1 : Rd true [116, 114, 97, 99, 107] [(1, 500135191403)] := Rd_w (by decide)
  have eu : nt t = [116, 114, 97, 99, 107] ++ ([32] ++ (nt (decZ ((Lg : Nat) : Int)) ++ ([32] ++ (nt (decZ ((le : Nat) : Int)) ++ ([32] ++ (nt (decZ ((be : Nat) : Int)) ++ ([32] ++ (nt (decZ ((af : Nat) : Int)) ++ ([32] ++ (nt (decZ ((cu : Nat) : Int)) ++ [59])))))))))) := by
    rw [hu, nt_ap, nt_ap, nt_ap, nt_ap, nt_ap, nt_ap, nt_ap, nt_ap, nt_ap, nt_ap, e1, e2, e3, List.append_assoc]
  rw [eu]
  exact Rd_wb w1 (Rd_wb (Rd_Z (by omega)) (Rd_wb (Rd_Z (by omega)) (Rd_wb (Rd_Z (by omega)) (Rd_wb (Rd_Z (by omega)) (Rd_end (Rd_Z (by omega)))))))
theorem a_nb (hb : b = 2 ∨ b = 92) (hn : n ≤ 700) (hX : ∀ k, X k ≤ 255) {v f : Nat} {lo hi : Int} (hk : tkC X n Z p) (hp : p ≤ n) (hr : rdT X n p ((2, v) :: ts) q) (hl : 0 ≤ lo ∧ hi ≤ 9999 ∧ 0 ≤ hi ∧ lo ≤ 9999) (hv : lo ≤ v ∧ (v : Int) ≤ hi) : ∃ Z1, f116_takeNumber (i3 lo) (i3 hi) Z = some (1, Z1) ∧ tkC X n (zSi Z1 b f (Z1.1 182 4)) (jE X n p) ∧ rdT X n (jE X n p) ts q ∧ jE X n p ≤ n ∧ (zSi Z1 b f (Z1.1 182 4)).1 b f = i3 (v : Nat) ∧ (∀ k, k ≠ f → (zSi Z1 b f (Z1.1 182 4)).1 b k = Z.1 b k) ∧ (zSi Z1 b f (Z1.1 182 4)).1 (b + 1) = Z.1 (b + 1) ∧ ∀ k, k ≠ 4 → (zSi Z1 b f (Z1.1 182 4)).1 182 k = Z.1 182 k := by
  obtain ⟨Z1, d1, d2, d3, d4, d5, d6⟩ := a_num hn hX hk hp hr hl hv
  have e0 := d6.2.1 b (by omega) (by omega)
  have e1 := d6.2.1 (b + 1) (by omega) (by omega)
  refine ⟨Z1, d1, tk_bk d3 rfl ⟨si_obj _ _ _ _ (by omega), si_obj _ _ _ _ (by omega), rfl⟩, d4, d5, by rw [si_same, d2], fun k hk => by rw [si_fld _ _ _ _ (by omega), e0.1], by rw [si_obj _ _ _ _ (by omega), e1.1], fun k hk => by rw [si_obj _ _ _ _ (by omega)]; exact d6.2.2 k hk⟩
theorem rd_hd (hb : b = 2 ∨ b = 92) (hn : n ≤ 700) (hX : ∀ k, X k ≤ 255) {le be af cu : Nat} (hk : tkC X n Z 0) (hr : rdT X n 0 [(1, 500135191403), (2, Lg), (2, le), (2, be), (2, af), (2, cu), (3, 59)] q) (hv : 2 ≤ Lg ∧ Lg ≤ 4 ∧ 50 ≤ le ∧ le ≤ 400 ∧ be ≤ 20 ∧ af ≤ 20 ∧ cu ≤ le) (h5 : Z.1 b 5 = 0 ∧ Z.1 b 6 = 0 ∧ Z.1 b 8 = 0) (h7 : Z.1 (b + 1) 7 = 0) (h182 : Z.1 182 2 = 0 ∧ Z.1 182 3 = 0 ∧ Z.1 182 5 = 0) : ∃ Z1 p1, f118_readTrack b Z = some (1, Z1) ∧ tkC X n Z1 p1 ∧ p1 ≤ n ∧ jQ X n p1 = jQ X n q ∧ MI9 ([], (fun _ => 0), 0, 0, false, false) Z1 b Lg := by
  obtain ⟨A, a1, a2, a3, a4, a5⟩ := a_adv hn hX hk (by omega) hr
  have g115 : f115_takeWord 1000002 0 Z = some (1, A) := by
    unfold f115_takeWord
    rw [ixL hk hX (Or.inl rfl), a_ix hr (gx_L9 0 (by omega)), mjBp_some, if_pos (by decide), a1, mjBd_some]
  obtain ⟨B, b1, b2, b3, b4, b5, b6, b7, b8⟩ := a_nb (lo := 2) (hi := 6) (f := 0) hb hn hX a2 a4 a3 (by omega) (by omega)
  have b1' : f116_takeNumber 2 6 A = some (1, B) := b1
  generalize hB : zSi B b 0 (B.1 182 4) = B' at b2 b5 b6 b7 b8
  obtain ⟨C, c1, c2, c3, c4, c5, c6, c7, c8⟩ := a_nb (lo := 50) (hi := 400) (f := 1) hb hn hX b2 b4 b3 (by omega) (by omega)
  have c1' : f116_takeNumber 50 400 B' = some (1, C) := c1
  generalize hC : zSi C b 1 (C.1 182 4) = C' at c2 c5 c6 c7 c8
  obtain ⟨D, d1, d2, d3, d4, d5, d6, d7, d8⟩ := a_nb (lo := 0) (hi := 20) (f := 2) hb hn hX c2 c4 c3 (by omega) (by omega)
  have d1' : f116_takeNumber 0 20 C' = some (1, D) := d1
  generalize hD : zSi D b 2 (D.1 182 4) = D' at d2 d5 d6 d7 d8
  obtain ⟨E, e1, e2, e3, e4, e5, e6, e7, e8⟩ := a_nb (lo := 0) (hi := 20) (f := 3) hb hn hX d2 d4 d3 (by omega) (by omega)
  have e1' : f116_takeNumber 0 20 D' = some (1, E) := e1
  generalize hE : zSi E b 3 (E.1 182 4) = E' at e2 e5 e6 e7 e8
  have le1 : E'.1 b 1 = i3 (le : Nat) := by rw [e6 1 (by omega), d6 1 (by omega), c5]
  obtain ⟨F, f1, f2, f3, f4, f5, f6, f7, f8⟩ := a_nb (lo := 0) (hi := ((le : Nat) : Int)) (f := 4) hb hn hX e2 e4 e3 (by omega) (by omega)
  have f1' : f116_takeNumber 0 (E'.1 b 1) E' = some (1, F) := by rw [le1]; exact f1
  generalize hF : zSi F b 4 (F.1 182 4) = F' at f2 f5 f6 f7 f8
  obtain ⟨G, g1, g2, g3, g4, g5⟩ := a_sgn hn hX f2 f4 f3
  have g1' : f117_takeSign 59 F' = some (1, G) := g1
  have eb : ∀ k, 5 ≤ k → F'.1 b k = Z.1 b k := fun k hk => by rw [f6 k (by omega), e6 k (by omega), d6 k (by omega), c6 k (by omega), b6 k (by omega), (a5.2 b (by omega)).1]
  have e1 : F'.1 (b + 1) = Z.1 (b + 1) := by rw [f7, e7, d7, c7, b7, (a5.2 (b + 1) (by omega)).1]
  have e82 : ∀ k, k ≠ 4 → F'.1 182 k = Z.1 182 k := fun k hk => by rw [f8 k hk, e8 k hk, d8 k hk, c8 k hk, b8 k hk, (a5.2 182 (by omega)).1]
  have eG : ∀ x, x ≠ 183 → G.1 x = F'.1 x := fun x hx => (g5.2 x hx).1
  have g3' : jQ X n (jE X n (jE X n (jE X n (jE X n (jE X n (jE X n (jE X n 0))))))) = jQ X n q := g3
  refine ⟨G, _, ?_, g2, g4, g3', by show 0 ≤ 3; omega, by show 0 ≤ 2; omega, by show 0 ≤ 12; omega, ?_, ?_, ?_, ?_, fun j hj => absurd hj (by show ¬ j < 0; omega), fun r hr => absurd hr (by show ¬ r < 0; omega), ?_, ?_, ?_, 0, by omega, ?_⟩
  · unfold f118_readTrack
    rw [g115, mjBd_some, if_neg (by decide), b1', mjBd_some, if_pos (by decide), if_pos (is_b hb), let_eq, hB, c1', mjBd_some, if_pos (by decide), let_eq, hC, d1', mjBd_some, if_pos (by decide), let_eq, hD, e1', mjBd_some, if_pos (by decide), let_eq, hE, f1', mjBd_some, if_pos (by decide), let_eq, hF, g1', mjBd_some, if_pos (Or.inr rfl)]
  · rw [eG b (by omega), f6 0 (by omega), e6 0 (by omega), d6 0 (by omega), c6 0 (by omega), b5]
  · rw [eG b (by omega), eb 5 (by omega), h5.1]; rfl
  · rw [eG b (by omega), eb 6 (by omega), h5.2.1]; rfl
  · rw [eG b (by omega), eb 8 (by omega), h5.2.2]; rfl
  · rw [eG 182 (by omega), e82 2 (by omega), h182.1]; rfl
  · rw [eG 182 (by omega), e82 3 (by omega), h182.2.1]; rfl
  · rw [eG 182 (by omega), e82 5 (by omega), h182.2.2]
  · rw [eG (b + 1) (by omega), e1, h7]; rfl
/-- a line-/
theorem rd_ln (hb : b = 2 ∨ b = 92) (hn : n ≤ 700) (hX : ∀ k, X k ≤ 255) {u : List Int32} {M : Nat} (hc : c < 600) (hl : lineT X n b Lg a a2 u) (hk : tkC X n Z p) (hp : p ≤ n) {p0 : Nat} (hj : jQ X n p = jQ X n p0) (hu : ∀ i, i < u.length → X (p0 + i) = (nt u).getD i 0) (hn2 : p0 + u.length ≤ n) (hM : MI9 a Z b Lg) : ∃ Z1 p1, f128_read_h46 (M + 1) b (i3 (c : Nat)) Z = f128_read_h46 M b (i3 ((c + 1 : Nat) : Int)) Z1 ∧ tkC X n Z1 p1 ∧ p1 ≤ n ∧ jQ X n p1 = jQ X n (p0 + u.length) ∧ MI9 a2 Z1 b Lg := by
  obtain ⟨k, ts, k1, k2, hR, hF⟩ := hl
  have lu : (nt u).length = u.length := List.length_map _
  have r0 := hR X n p0 (fun i hi => hu i (by omega)) (by omega) (fun x => absurd x (by decide))
  rw [lu] at r0
  have r1 : rdT X n p (((1, LL.getD k 0) :: ts) ++ [(3, 59)]) (p0 + u.length) := rd_cg r0 hj.symm rfl
  obtain ⟨Z1, p1, f1, f2, f3, f4, f5⟩ := hF Z p _ hk hp r1 hM
  obtain ⟨Z2, g1, g2, g3, g4, g5⟩ := a_sgn hn hX f2 f3 f4
  have g1' : f117_takeSign 59 Z1 = some (1, Z2) := g1
  have kk := a_kd hk r1 (Or.inl rfl)
  have kk' : Z.1 183 3 = i3 ((1 : Nat) : Int) := kk
  have ix : f51_indexIn 1000002 Z = some (i3 (k : Nat)) := by
    rw [ixL hk hX (Or.inl rfl), a_ix r1 (gx_L9 k (by omega))]
  have j179 : f128_read_j179 (f128_read_h46 M) b (i3 (c : Nat)) 1 Z1 = f128_read_h46 M b (i3 ((c + 1 : Nat) : Int)) Z2 := by
    unfold f128_read_j179
    rw [if_neg (by decide), g1', mjBd_some, if_pos (by decide), i3_s]
  refine ⟨Z2, _, ?_, g2, g4, g3, MI_Tk f5 hb g5⟩
  rw [f128_read_h46, if_neg (by rw [show (700 : Int32) = i3 700 from rfl, c_ge (by omega)]; omega), kk', if_neg (by decide), ix, mjBp_some]
  rcases (by omega : k = 1 ∨ k = 2 ∨ k = 3 ∨ k = 4 ∨ k = 5 ∨ k = 6) with e | e | e | e | e | e
  · rw [e] at f1 ⊢
    have f1' : f120_readTeam b Z = some (1, Z1) := f1
    rw [if_neg (by decide), if_pos (by decide), f1', mjBd_some, j179]
  · rw [e] at f1 ⊢
    have f1' : f123_readRuns b Z = some (1, Z1) := f1
    rw [if_neg (by decide), if_neg (by decide), if_pos (by decide), f1', mjBd_some, j179]
  · rw [e] at f1 ⊢
    have f1' : f124_readAct b Z = some (1, Z1) := f1
    rw [if_neg (by decide), if_neg (by decide), if_neg (by decide), if_pos (by decide), f1', mjBd_some, j179]
  · rw [e] at f1 ⊢
    have f1' : f125_readRule b Z = some (1, Z1) := f1
    rw [if_neg (by decide), if_neg (by decide), if_neg (by decide), if_neg (by decide), if_pos (by decide), f1', mjBd_some, j179]
  · rw [e] at f1 ⊢
    have f1' : f126_readThrough b Z = some (1, Z1) := f1
    rw [if_neg (by decide), if_neg (by decide), if_neg (by decide), if_neg (by decide), if_neg (by decide), if_pos (by decide), f1', mjBd_some, j179]
  · rw [e] at f1 ⊢
    have f1' : f127_readWithin b Z = some (1, Z1) := f1
    rw [if_neg (by decide), if_neg (by decide), if_neg (by decide), if_neg (by decide), if_neg (by decide), if_neg (by decide), if_pos (by decide), f1', mjBd_some, j179]
theorem lns_Lg : ∀ c a t, lnsW Lg c a t → Lg ≤ 4
  | 0, _, _, h => h.2.2.1
  | c + 1, _, _, ⟨a1, t1, _, h, _, _⟩ => lns_Lg c a1 t1 h
/-- the first c lines-/
theorem rd_lns (hb : b = 2 ∨ b = 92) (hn : n ≤ 700) (hX : ∀ k, X k ≤ 255) (ht : ∀ k, Z.1 1 k = i3 (X k)) : ∀ (c : Nat) (a : mjK) (t : List Int32), lnsW Lg c a t → c ≤ 500 → t.length ≤ n → (∀ i, i < t.length → X i = (nt t).getD i 0) → ∃ Z1 p1, f128_read 1 (i3 n) b Z = f128_read_h46 (mjF - c) b (i3 (c : Nat)) Z1 ∧ tkC X n Z1 p1 ∧ p1 ≤ n ∧ jQ X n p1 = jQ X n t.length ∧ MI9 a Z1 b Lg
  | 0, a, t, h, hc, hl, hx => by
    obtain ⟨ha, hh⟩ := h
    obtain ⟨le, be, af, cu, h1, h2, h3, h4, h5, h6, h7, hR⟩ := R_hd hh
    have lu : (nt t).length = t.length := List.length_map _
    have r0 := hR X n 0 (fun i hi => by rw [Nat.zero_add]; exact hx i (by omega)) (by omega) (fun x => absurd x (by decide))
    rw [lu, Nat.zero_add] at r0
    obtain ⟨U, u1, u2, u3, u4, u5, u6, u7, u8⟩ := p_openC hb hn hX Z ht
    obtain ⟨Z1, p1, g1, g2, g3, g4, g5⟩ := rd_hd hb hn hX u2 r0 ⟨h1, h2, h3, h4, h5, h6, h7⟩ ⟨u3.1, u3.2.1, u3.2.2.1⟩ u4 ⟨u6.1, u6.2.1, u6.2.2.1⟩
    refine ⟨Z1, p1, ?_, g2, g3, g4, by rw [ha]; exact g5⟩
    rw [u1, g1, mjBd_some, if_pos (by decide)]
    rfl
  | c + 1, a, t, h, hc, hl, hx => by
    obtain ⟨a1, t1, u, h1, h2, e⟩ := h
    have le : t.length = t1.length + u.length := by rw [e, List.length_append]
    have en : nt t = nt t1 ++ nt u := by rw [e, nt_ap]
    have l1 : (nt t1).length = t1.length := List.length_map _
    obtain ⟨Z1, p1, g1, g2, g3, g4, g5⟩ := rd_lns hb hn hX ht c a1 t1 h1 (by omega) (by omega) (fun i hi => by
      rw [hx i (by omega), en, List.getD_eq_getElem?_getD, List.getD_eq_getElem?_getD, List.getElem?_append_left (by omega)])
    have hl2 : lineT X n b Lg a1 a u := l_any hb hn hX (lns_Lg c a1 t1 h1) g5.1 h2
    obtain ⟨Z2, p2, k1, k2, k3, k4, k5⟩ := rd_ln (M := mjF - (c + 1)) hb hn hX (c := c) (by omega) hl2 g2 g3 g4 (fun i hi => by
      rw [hx (t1.length + i) (by omega), en, List.getD_eq_getElem?_getD, List.getD_eq_getElem?_getD, List.getElem?_append_right (by omega), l1, Nat.add_sub_cancel_left]) (by omega) g5
    refine ⟨Z2, p2, ?_, k2, k3, by rw [le]; exact k4, k5⟩
    rw [g1, ← k1]
    congr 1
    unfold mjF
    omega
theorem rd_all (hb : b = 2 ∨ b = 92) (hn : n ≤ 700) (hX : ∀ k, X k ≤ 255) (ht : ∀ k, Z.1 1 k = i3 (X k)) (h : lnsW Lg c a t) (hc : c ≤ 500) (hl : t.length = n) (hx : ∀ i, i < t.length → X i = (nt t).getD i 0) : ∃ Z1, f128_read 1 (i3 n) b Z = some (i3 (c : Nat), Z1) := by
  obtain ⟨Z1, p1, g1, g2, g3, g4, g5⟩ := rd_lns hb hn hX ht c a t h hc (by omega) hx
  rw [hl] at g4
  have qn : jQ X n n = n := by
    unfold jQ
    rw [Nat.sub_self]; rfl
  have js : jS X n p1 = 0 := by
    unfold jS uS
    rw [g4, qn, if_pos (Nat.le_refl n)]
  have k0 : Z1.1 183 3 = i3 (kd X n p1) := g2.2.2.1
  have kz : kd X n p1 = 0 := by
    rcases kd_spec (X := X) (n := n) (p := p1) with ⟨e, -⟩ | ⟨e, -⟩ | ⟨-, e⟩
    · omega
    · omega
    · omega
  refine ⟨Z1, ?_⟩
  obtain ⟨M, hM⟩ : ∃ M, mjF - c = M + 1 := ⟨mjF - c - 1, by unfold mjF; omega⟩
  rw [g1, hM, f128_read_h46, if_neg (by rw [show (700 : Int32) = i3 700 from rfl, c_ge (by omega)]; omega), k0, kz, if_pos (by decide)]
end RW9
