/-! the class reads lines: team, runs-/
def lnOk (X : Nat → Nat) (n b Lg : Nat) (a a2 : mjK) (ts : List (Nat × Nat)) (F : mjZt → Option (Int32 × mjZt)) : Prop := ∀ (Z : mjZt) (p q : Nat), tkC X n Z p → p ≤ n → rdT X n p (ts ++ [(3, 59)]) q → MI9 a Z b Lg → ∃ Z1 p1, F Z = some (1, Z1) ∧ tkC X n Z1 p1 ∧ p1 ≤ n ∧ rdT X n p1 [(3, 59)] q ∧ MI9 a2 Z1 b Lg
section LO
variable {X : Nat → Nat} {n b p q N s Lg : Nat} {Z Z1 Z2 : mjZt} {a a2 : mjK} {ts us : List (Nat × Nat)}
theorem tk_si2 (hk : tkC X n Z p) (e : eqT2 Z Z2) (h183 : Z2.1 183 = Z.1 183) (hl : Z2.2.1 183 = Z.2.1 183) : tkC X n Z2 p := by
  obtain ⟨⟨h1, h2, h3⟩, h4, h5, h6, h7, h8⟩ := hk
  refine ⟨⟨by rw [e.1]; exact h1, fun k => by rw [(e.2.1 1 (by omega) (by omega)).1]; exact h2 k, by rw [h183]; exact h3⟩, by rw [h183]; exact h4, by rw [h183]; exact h5, by rw [h183]; exact h6, by rw [h183]; exact h7, by rw [hl]; exact h8⟩
/-- only the book's cells change-/
theorem tk_bk (hk : tkC X n Z p) (e1 : Z2.2.2 = Z.2.2) (e : Z2.1 1 = Z.1 1 ∧ Z2.1 183 = Z.1 183 ∧ Z2.2.1 183 = Z.2.1 183) : tkC X n Z2 p := by
  obtain ⟨⟨h1, h2, h3⟩, h4, h5, h6, h7, h8⟩ := hk
  refine ⟨⟨by rw [e1]; exact h1, fun k => by rw [e.1]; exact h2 k, by rw [e.2.1]; exact h3⟩, by rw [e.2.1]; exact h4, by rw [e.2.1]; exact h5, by rw [e.2.1]; exact h6, by rw [e.2.1]; exact h7, by rw [e.2.2]; exact h8⟩
theorem ln_team (hb : b = 2 ∨ b = 92) (hn : n ≤ 700) (hX : ∀ k, X k ≤ 255) {l W0 : Nat} (hl : 1 ≤ l ∧ l ≤ 9) (hno : ∀ j, j < a.1.length → a.1.getD j 0 ≠ l) (hT : a.1.length < 3) : lnOk X n b Lg a (a.1 ++ [l], (fun j => if j = a.1.length then 0 else a.2.1 j), a.2.2) [(1, W0), (1, 29793 + a.1.length), (2, l)] (f120_readTeam b) := by
  intro Z p q hk hp hr hM
  obtain ⟨Z1, a1, a2, a3, a4, a5⟩ := a_adv hn hX hk hp hr
  have M1 := MI_Tk hM hb a5
  obtain ⟨n1, n2, n3, n4⟩ := nm9_ok a.1.length (by omega)
  obtain ⟨b1, b2⟩ := a_nm hX a2 a3 n3
  obtain ⟨Z2, c1, c2, c3, c4, c5⟩ := a_adv hn hX a2 a4 a3
  have M2 := MI_Tk M1 hb c5
  obtain ⟨Z3, d1, d2, d3, d4, d5, d6⟩ := a_num (lo := 1) (hi := 9) hn hX c2 c4 c3 (by omega) (by omega)
  have M3 := MI_T2 M2 hb d6
  have k2 := a_kd c2 c3 (Or.inr (Or.inl rfl))
  have k2' : Z2.1 183 3 = i3 ((2 : Nat) : Int) := k2
  have v2 : Z2.1 183 5 = i3 (l : Nat) := by
    have s2 : jS X n (jE X n (jE X n p)) = 2 := c3.1
    have e2 : jV X n (jE X n (jE X n p)) = l := c3.2.1
    have := c2.2.2.2.2.1 s2
    rw [e2] at this
    exact this
  have h3 := M3.1
  have e27' := e27 hb (T := a.1.length) (by omega) M3.2.2.2.2.1 (i6 (cT9 a.1.length : Nat)) (i3 (l : Nat))
  obtain ⟨Z4, hZ4⟩ : ∃ Z4, Z4 = zSi (zSi (zSl (zSi Z3 b 5 (i3 ((a.1.length + 1 : Nat) : Int))) (tmB b a.1.length) 4 (i6 (cT9 a.1.length : Nat))) (tmB b a.1.length) 5 (i3 (l : Nat))) (tmB b a.1.length) 6 0 := ⟨_, rfl⟩
  rw [← hZ4] at e27'
  have tB : ∀ t, tmB b t = b + 18 + 5 * t := fun t => rfl
  have tBT := tB a.1.length
  have la : (a.1 ++ [l]).length = a.1.length + 1 := by rw [List.length_append]; rfl
  refine ⟨Z4, _, ?_, tk_bk d3 (by rw [hZ4]; rfl) ⟨?_, ?_, ?_⟩, d5, d4, ?_⟩
  · unfold f120_readTeam
    rw [if_pos (is_b hb), hM.2.2.2.2.1, if_pos (by rw [show (6 : Int32) = i3 6 from rfl, c_lt (by omega)]; omega), a1, mjBd_some, b1, mjBp_some, if_pos (by decide), b2]
    show (mjBp (f26_isNameTaken b (i6 (cT9 a.1.length : Nat)) Z1) fun v111 => _) = _
    rw [r26 M1 hb n1 (nm9_T _ (by omega)).2.1 ((nm9_R _ M1.2.1).1 _ (by omega)), mjBp_some, if_pos (by decide), c1, mjBd_some, k2', if_neg (by decide), v2, r24 M2 hb hl.2 hno, mjBp_some, if_pos (by decide)]
    unfold f120_readTeam_j105
    have d1' : f116_takeNumber 1 9 Z2 = some (1, Z3) := d1
    rw [d1', mjBd_some, if_pos (by decide), if_pos (is_b hb), d2]
    show (mjBd (f27_addTeam b (i6 (cT9 a.1.length : Nat)) (i3 (l : Nat)) Z3) fun _ Z125 => _) = _
    rw [e27', mjBd_some]
  · rw [hZ4, si_obj _ _ _ _ (by omega), si_obj _ _ _ _ (by omega), sl_int, si_obj _ _ _ _ (by omega)]
  · rw [hZ4, si_obj _ _ _ _ (by omega), si_obj _ _ _ _ (by omega), sl_int, si_obj _ _ _ _ (by omega)]
  · rw [hZ4]
    show (zSl _ (tmB b a.1.length) 4 _).2.1 183 = _
    rw [sl_obj _ _ _ _ (by omega)]
    rfl
  · obtain ⟨m1, m2, m3, m4, m5, m6, m7, m8, m9, m10, m11, m12, m13⟩ := M3
    have oo : ∀ c, c ≠ b → c ≠ tmB b a.1.length → Z4.1 c = Z3.1 c := fun c g1 g2 => by rw [hZ4, si_obj _ _ _ _ g2, si_obj _ _ _ _ g2, sl_int, si_obj _ _ _ _ g1]
    have of : ∀ f, f ≠ 5 → Z4.1 b f = Z3.1 b f := fun f g => by rw [hZ4, si_obj _ _ _ _ (by omega), si_obj _ _ _ _ (by omega), sl_int, si_fld _ _ _ _ (by omega)]
    have ol : ∀ c, c ≠ tmB b a.1.length → Z4.2.1 c = Z3.2.1 c := fun c g => by
      rw [hZ4]
      show (zSl _ (tmB b a.1.length) 4 _).2.1 c = _
      rw [sl_obj _ _ _ _ g]
      rfl
    refine ⟨by rw [la]; omega, m2, m3, by rw [of 0 (by omega)]; exact m4, ?_, by rw [of 6 (by omega)]; exact m6, by rw [of 8 (by omega)]; exact m7, fun j hj => ?_, fun r hr => by rw [ol (b + 10) (by omega)]; exact m9 r hr, by rw [oo 182 (by omega) (by omega)]; exact m10, by rw [oo 182 (by omega) (by omega)]; exact m11, by rw [oo 182 (by omega) (by omega)]; exact m12, by rw [oo (b + 1) (by omega) (by omega)]; exact m13⟩
    · show Z4.1 b 5 = i3 ((a.1 ++ [l]).length : Nat)
      rw [la, hZ4, si_obj _ _ _ _ (by omega), si_obj _ _ _ _ (by omega), sl_int, si_same]
    · have hj2 : j < a.1.length + 1 := by rw [← la]; exact hj
      show Z4.1 (tmB b j) 5 = i3 ((a.1 ++ [l]).getD j 0 : Nat) ∧ 1 ≤ (a.1 ++ [l]).getD j 0 ∧ (a.1 ++ [l]).getD j 0 ≤ 9 ∧ Z4.1 (tmB b j) 6 = i3 ((if j = a.1.length then 0 else a.2.1 j : Nat) : Int) ∧ (if j = a.1.length then 0 else a.2.1 j) ≤ Lg ∧ Z4.2.1 (tmB b j) 4 = i6 (cT9 j : Nat)
      by_cases e : j = a.1.length
      · rw [e, gd_r, if_pos rfl]
        refine ⟨by rw [hZ4, si_fld _ _ _ _ (by omega), si_same], hl.1, hl.2, by rw [hZ4, si_same]; rfl, Nat.zero_le _, ?_⟩
        rw [hZ4]
        show (zSl _ (tmB b a.1.length) 4 _).2.1 (tmB b a.1.length) 4 = _
        rw [sl_same]
      · have tj := tB j
        rw [gd_l _ _ _ (by omega), if_neg e, oo (tmB b j) (by omega) (by omega), ol (tmB b j) (by omega)]
        exact m8 j (by omega)
/-- the metres, with or without a sign-/
theorem ln_runs (hb : b = 2 ∨ b = 92) (hn : n ≤ 700) (hX : ∀ k, X k ≤ 255) {k te W0 : Nat} {m : Int} (hk9 : k < a.1.length) (htd : a.2.1 k < Lg) (hLg : Lg ≤ 4) (hte : 20 ≤ te ∧ te ≤ 999) (hm : -20 ≤ m ∧ m ≤ 20) (hlast : a.2.1 k + 1 = Lg → m = 0) : lnOk X n b Lg a (a.1, (fun j => if j = k then a.2.1 k + 1 else a.2.1 j), a.2.2) ([(1, W0), (1, 29793 + k), (2, te)] ++ (if m < 0 then [(3, 45), (2, (-m).toNat)] else [(2, m.toNat)])) (f123_readRuns b) := by
  intro Z p q hk hp hr hM
  have hT := hM.1
  obtain ⟨n1, n2, n3, n4⟩ := nm9_ok k (by omega)
  obtain ⟨Z1, a1, a2, a3, a4, a5⟩ := a_adv hn hX hk hp hr
  have M1 := MI_Tk hM hb a5
  obtain ⟨b1, b2⟩ := a_nm hX a2 a3 n3
  have i25 : ∀ (Y : mjZt), MI9 a Y b Lg → f25_teamOfName b (i6 (cT9 k : Nat)) Y = some (i3 (k : Nat)) := fun Y hY => by rw [r25 hY hb n1, (nm9_T _ (by omega)).1 k hk9]
  obtain ⟨Z2, c1, c2, c3, c4, c5⟩ := a_adv hn hX a2 a4 a3
  have M2 := MI_Tk M1 hb c5
  obtain ⟨Z3, d1, d2, d3, d4, d5, d6⟩ := a_num (lo := 20) (hi := 999) hn hX c2 c4 c3 (by omega) (by omega)
  have M3 := MI_T2 M2 hb d6
  have tB : ∀ t, tmB b t = b + 18 + 5 * t := fun t => rfl
  have tBk := tB k
  have g121 : f121_takeTeam b (-1) Z1 = some (i3 (k : Nat), Z2) := by
    unfold f121_takeTeam
    rw [b1, mjBp_some, if_pos (by decide), if_pos (is_b hb), b2]
    show (mjBp (f25_teamOfName b (i6 (cT9 k : Nat)) Z1) fun v107 => _) = _
    rw [i25 Z1 M1, mjBp_some, show (-1 : Int32) = i3 (-1) from rfl, if_neg (by rw [c_eq (by omega)]; omega), if_pos (by rw [c_ne (by omega)]; omega), c1, mjBd_some]
  -- the number of metres, behind the sign
  have fin : ∀ (Y : mjZt) (py x5 mm : Nat), tkC X n Y py → py ≤ n → rdT X n py ((2, mm) :: [(3, 59)]) q → MI9 a Y b Lg → ((x5 = 0 ∧ m = (mm : Int)) ∨ (x5 = 1 ∧ m = -(mm : Int))) → mm ≤ 20 → ∃ Y1 p1, f123_readRuns_j122 b (i3 (k : Nat)) (i3 (te : Nat)) (i3 (x5 : Nat)) Y = some (1, Y1) ∧ tkC X n Y1 p1 ∧ p1 ≤ n ∧ rdT X n p1 [(3, 59)] q ∧ MI9 (a.1, (fun j => if j = k then a.2.1 k + 1 else a.2.1 j), a.2.2) Y1 b Lg := by
    intro Y py x5 mm hkY hpY hrY hMY hx hmm
    obtain ⟨g1, g2, g3, g4, g5, g6⟩ := hMY.2.2.2.2.2.2.2.1 k hk9
    have most : ∃ v : Int, f30_mostMetres b (i3 (a.2.1 k : Nat) + 1) Y = some (i3 v) ∧ (mm : Int) ≤ v ∧ 0 ≤ v ∧ v ≤ 20 := by
      unfold f30_mostMetres
      rw [if_pos (is_b hb), hMY.2.2.2.1, i3_s]
      by_cases e : a.2.1 k + 1 = Lg
      · rw [if_neg (by rw [c_ne (by omega)]; omega)]
        have := hlast e
        exact ⟨0, rfl, by omega, by omega, by omega⟩
      · rw [if_pos (by rw [c_ne (by omega)]; omega)]
        exact ⟨20, rfl, by omega, by omega, by omega⟩
    obtain ⟨v, v1, v2, v3, v4⟩ := most
    obtain ⟨Y1, u1, u2, u3, u4, u5, u6⟩ := a_num (lo := 0) (hi := v) hn hX hkY hpY hrY (by omega) (by omega)
    have MY1 := MI_T2 hMY hb u6
    obtain ⟨m1, m2, m3, m4, m5, m6, m7, m8, m9, m10, m11, m12, m13⟩ := MY1
    obtain ⟨h1, h2, h3, h4, h5, h6⟩ := m8 k hk9
    have e122' := fun y => e122 (Z := Y1) hb (u := k) (l := a.2.1 k) (by omega) (by omega) h4 (i3 (te : Nat)) y
    have res : ∀ y : Int32, ∀ Y2, Y2 = zSi (zSi (zSi Y1 (tmB b k) 6 (i3 ((a.2.1 k + 1 : Nat) : Int))) (tmB b k + 1) (a.2.1 k + 1) (i3 (te : Nat))) (tmB b k + 2) (a.2.1 k + 1) y → tkC X n Y2 (jE X n py) ∧ MI9 (a.1, (fun j => if j = k then a.2.1 k + 1 else a.2.1 j), a.2.2) Y2 b Lg := by
      intro y Y2 hY2
      have oo : ∀ c, c ≠ tmB b k → c ≠ tmB b k + 1 → c ≠ tmB b k + 2 → Y2.1 c = Y1.1 c := fun c q1 q2 q3 => by rw [hY2, si_obj _ _ _ _ q3, si_obj _ _ _ _ q2, si_obj _ _ _ _ q1]
      have ol : Y2.2 = Y1.2 := by rw [hY2]; rfl
      refine ⟨tk_bk u3 (by rw [ol]) ⟨oo 1 (by omega) (by omega) (by omega), oo 183 (by omega) (by omega) (by omega), by rw [ol]⟩, m1, m2, m3, by rw [oo b (by omega) (by omega) (by omega)]; exact m4, by rw [oo b (by omega) (by omega) (by omega)]; exact m5, by rw [oo b (by omega) (by omega) (by omega)]; exact m6, by rw [oo b (by omega) (by omega) (by omega)]; exact m7, fun j hj => ?_, fun r hr => by rw [ol]; exact m9 r hr, by rw [oo 182 (by omega) (by omega) (by omega)]; exact m10, by rw [oo 182 (by omega) (by omega) (by omega)]; exact m11, by rw [oo 182 (by omega) (by omega) (by omega)]; exact m12, by rw [oo (b + 1) (by omega) (by omega) (by omega)]; exact m13⟩
      have hj' : j < a.1.length := hj
      have tj := tB j
      obtain ⟨w1, w2, w3, w4, w5, w6⟩ := m8 j hj'
      show Y2.1 (tmB b j) 5 = i3 (a.1.getD j 0 : Nat) ∧ 1 ≤ a.1.getD j 0 ∧ a.1.getD j 0 ≤ 9 ∧ Y2.1 (tmB b j) 6 = i3 ((if j = k then a.2.1 k + 1 else a.2.1 j : Nat) : Int) ∧ (if j = k then a.2.1 k + 1 else a.2.1 j) ≤ Lg ∧ Y2.2.1 (tmB b j) 4 = i6 (cT9 j : Nat)
      by_cases e : j = k
      · rw [if_pos e, ol]
        refine ⟨?_, w2, w3, ?_, by omega, w6⟩
        · rw [hY2, si_obj _ _ _ _ (by omega), si_obj _ _ _ _ (by omega), si_fld _ _ _ _ (by omega)]; exact w1
        · rw [hY2, si_obj _ _ _ _ (by omega), si_obj _ _ _ _ (by omega), e, si_same]
      · rw [if_neg e, oo (tmB b j) (by omega) (by omega) (by omega), ol]
        exact ⟨w1, w2, w3, w4, w5, w6⟩
    have u1' : f116_takeNumber 0 (i3 v) Y = some (1, Y1) := u1
    rcases hx with ⟨x0, e⟩ | ⟨x0, e⟩
    · obtain ⟨q1, q2⟩ := res (i3 (mm : Nat)) _ rfl
      refine ⟨_, _, ?_, q1, u5, u4, q2⟩
      unfold f123_readRuns_j122
      rw [if_pos (is_b hb), r8 hMY hb hk9, mjBp_some, if_pos (is_tm hb k (by omega)), g4, v1, mjBp_some, u1', mjBd_some, if_pos (by decide), x0, if_pos (by decide), u2, e122', mjBd_some]
    · obtain ⟨q1, q2⟩ := res (-(i3 (mm : Nat))) _ rfl
      refine ⟨_, _, ?_, q1, u5, u4, q2⟩
      unfold f123_readRuns_j122
      rw [if_pos (is_b hb), r8 hMY hb hk9, mjBp_some, if_pos (is_tm hb k (by omega)), g4, v1, mjBp_some, u1', mjBd_some, if_pos (by decide), x0, if_neg (by decide), u2, e122', mjBd_some]
  have d1' : f116_takeNumber 20 999 Z2 = some (1, Z3) := d1
  have head : f123_readRuns b Z = (if mjCmp .ne (Z3.1 183 3) 45 = true then f123_readRuns_j108 b (i3 (k : Nat)) (i3 (te : Nat)) 0 Z3 else f123_readRuns_j108 b (i3 (k : Nat)) (i3 (te : Nat)) 1 Z3) := by
    obtain ⟨g1, g2, g3, g4, g5, g6⟩ := M1.2.2.2.2.2.2.2.1 k hk9
    unfold f123_readRuns
    rw [a1, mjBd_some, b1, mjBp_some, if_neg (by decide), if_pos (is_b hb), b2]
    show (mjBp (f25_teamOfName b (i6 (cT9 k : Nat)) Z1) fun v153 => _) = _
    rw [i25 Z1 M1, mjBp_some]
    unfold f123_readRuns_j32
    rw [if_neg (by rw [show (-1 : Int32) = i3 (-1) from rfl, c_eq (by omega)]; omega), if_pos (is_b hb), r8 M1 hb hk9, mjBp_some, if_pos (is_tm hb k (by omega)), g4, M1.2.2.2.1, if_pos (by rw [c_lt (by omega)]; omega)]
    unfold f123_readRuns_j59
    rw [g121, mjBd_some, if_neg (by rw [show (-1 : Int32) = i3 (-1) from rfl, c_eq (by omega)]; omega), d1', mjBd_some, if_pos (by decide), d2]
  rw [head]
  by_cases neg : m < 0
  · rw [if_pos neg] at d4
    have k45 := a_kd d3 d4 (Or.inr (Or.inr rfl))
    have k45' : Z3.1 183 3 = i3 ((45 : Nat) : Int) := k45
    obtain ⟨Z4, e1, e2, e3, e4, e5⟩ := a_adv hn hX d3 d5 d4
    obtain ⟨Y1, p1, y1, y2, y3, y4, y5⟩ := fin Z4 _ 1 (-m).toNat e2 e4 e3 (MI_Tk M3 hb e5) (Or.inr ⟨rfl, by omega⟩) (by omega)
    refine ⟨Y1, p1, ?_, y2, y3, y4, y5⟩
    rw [k45', if_neg (by decide)]
    unfold f123_readRuns_j108
    rw [if_neg (by decide), e1, mjBd_some]
    exact y1
  · rw [if_neg neg] at d4
    have k45 := a_kd d3 d4 (Or.inr (Or.inl rfl))
    have k45' : Z3.1 183 3 = i3 ((2 : Nat) : Int) := k45
    obtain ⟨Y1, p1, y1, y2, y3, y4, y5⟩ := fin Z3 _ 0 m.toNat d3 d5 d4 M3 (Or.inl ⟨rfl, by omega⟩) (by omega)
    refine ⟨Y1, p1, ?_, y2, y3, y4, y5⟩
    rw [k45', if_pos (by decide)]
    unfold f123_readRuns_j108
    rw [if_pos (by decide)]
    exact y1
end LO
