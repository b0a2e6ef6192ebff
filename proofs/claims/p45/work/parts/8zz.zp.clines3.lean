/-! the class reads lines: acts, rules, through, within-/
theorem kF9 : ∀ k, k < 5 → gX LK 5 (LK.getD k 0) = ((k : Nat) : Int) := by decide
theorem jF9 : gX LJ 5 2003330414 = ((0 : Nat) : Int) ∧ gX LJ 5 111567739122533 = ((1 : Nat) : Int) := by decide
theorem cnd9 : ∀ R, R < 2 → i3 (R : Nat) * 2 + 0 = i3 ((2 * R : Nat) : Int) ∧ i3 (R : Nat) * 2 + 1 = i3 ((2 * R + 1 : Nat) : Int) := by decide
def okT (ts : List (Nat × Nat)) : Prop := ∀ t, t ∈ ts → t.1 ≠ 0
section KT
variable {a b : List (Nat × Nat)} {U : List (Nat × Nat) → Prop} {t : Nat × Nat}
theorem ok_n : okT [] := fun _ h => absurd h (List.not_mem_nil)
theorem ok_c (h : t.1 ≠ 0) (g : okT a) : okT (t :: a) := fun s hs => by
  rcases List.mem_cons.1 hs with e | e
  · rw [e]; exact h
  · exact g s e
theorem ok_ap (h : okT a) (g : okT b) : okT (a ++ b) := fun s hs => by
  rcases List.mem_append.1 hs with e | e
  · exact h s e
  · exact g s e
theorem ok_o {c : Nat} : okT [(3, c)] := ok_c (by show (3 : Nat) ≠ 0; omega) ok_n
theorem ok_lf (h : tLf a) : okT a := by
  rcases h with ⟨v, _, e⟩ | ⟨k, _, e⟩
  · rw [e]; exact ok_c (by show (2 : Nat) ≠ 0; omega) ok_n
  · rw [e]; exact ok_c (by show (1 : Nat) ≠ 0; omega) ok_n
theorem ok_M (h : ∀ a, U a → okT a) : ∀ a, tM U a → okT a := by
  rintro _ (g | ⟨x, y, g1, g2, rfl⟩)
  · exact h _ g
  · exact ok_ap (h _ g1) (ok_c (by show (3 : Nat) ≠ 0; omega) (h _ g2))
theorem ok_E (h : ∀ a, U a → okT a) : ∀ a, tE U a → okT a := by
  rintro _ (g | ⟨x, y, c, g1, g2, _, rfl⟩)
  · exact ok_M h _ g
  · exact ok_ap (ok_M h _ g1) (ok_c (by show (3 : Nat) ≠ 0; omega) (ok_M h _ g2))
theorem ok_U : ∀ n a, tU n a → okT a
  | 0, _, h => ok_lf h
  | n + 1, _, h => by
    rcases h with g | ⟨x, g, rfl⟩
    · exact ok_lf g
    · exact ok_c (by show (3 : Nat) ≠ 0; omega) (ok_ap (ok_E (ok_U n) _ g) ok_o)
theorem ok_C : ∀ a, tC a → okT a := by
  rintro _ ⟨x, y, c, g1, g2, _, rfl⟩
  exact ok_ap (ok_E (ok_U 2) _ g1) (ok_c (by show (3 : Nat) ≠ 0; omega) (ok_E (ok_U 2) _ g2))
theorem ok_A (h : ∀ a, U a → okT a) : ∀ a, tA U a → okT a := by
  rintro _ (g | ⟨x, y, g1, g2, rfl⟩)
  · exact h _ g
  · exact ok_ap (h _ g1) (ok_c (by show (1 : Nat) ≠ 0; omega) (h _ g2))
theorem ok_T (h : ∀ a, U a → okT a) : ∀ a, tT U a → okT a := by
  rintro _ (g | ⟨x, y, g1, g2, rfl⟩)
  · exact ok_A h _ g
  · exact ok_ap (ok_A h _ g1) (ok_c (by show (1 : Nat) ≠ 0; omega) (ok_A h _ g2))
theorem ok_B : ∀ n a, tB n a → okT a
  | 0, _, h => ok_C _ h
  | n + 1, _, h => by
    rcases h with g | ⟨x, g, rfl⟩ | ⟨x, g, rfl⟩
    · exact ok_C _ g
    · exact ok_c (by show (1 : Nat) ≠ 0; omega) (ok_B n _ g)
    · exact ok_c (by show (3 : Nat) ≠ 0; omega) (ok_ap (ok_T (ok_B n) _ g) ok_o)
theorem rd_sp3 {X : Nat → Nat} {n p q2 : Nat} (h : rdT X n p (a ++ b) q2) (hp : p ≤ n) (ok : okT a) : ∃ q, rdT X n p a q ∧ rdT X n q b q2 ∧ q ≤ n ∧ p + a.length ≤ q := by
  induction a generalizing p with
  | nil => exact ⟨p, rfl, h, hp, Nat.le_refl _⟩
  | cons t r ih =>
    obtain ⟨j1, j2, j3, j4⟩ := jE_bd (X := X) hp
    have := j4 (by rw [h.1]; exact ok t (List.mem_cons_self ..))
    obtain ⟨q, g1, g2, g3, g4⟩ := ih h.2.2 j3 (fun s hs => ok s (List.mem_cons_of_mem _ hs))
    exact ⟨q, ⟨h.1, h.2.1, g1⟩, g2, g3, by rw [List.length_cons]; omega⟩
end KT
section LP
variable {X : Nat → Nat} {n b p q N s Lg : Nat} {Z Z1 Z2 : mjZt} {a a2 : mjK} {ts us : List (Nat × Nat)}
theorem r121 (hb : b = 2 ∨ b = 92) (hn : n ≤ 700) (hX : ∀ k, X k ≤ 255) {k : Nat} {ex : Int} (hk : tkC X n Z p) (hp : p ≤ n) (hr : rdT X n p ((1, 29793 + k) :: ts) q) (hM : MI9 a Z b Lg) (hk9 : k < a.1.length) (hex : ex ≠ k ∧ -1 ≤ ex ∧ ex ≤ 10) : ∃ Z1, f121_takeTeam b (i3 ex) Z = some (i3 (k : Nat), Z1) ∧ tkC X n Z1 (jE X n p) ∧ rdT X n (jE X n p) ts q ∧ jE X n p ≤ n ∧ eqTk Z Z1 := by
  have hT := hM.1
  obtain ⟨n1, n2, n3, n4⟩ := nm9_ok k (by omega)
  obtain ⟨b1, b2⟩ := a_nm hX hk hr n3
  obtain ⟨Z2, c1, c2, c3, c4, c5⟩ := a_adv hn hX hk hp hr
  refine ⟨Z2, ?_, c2, c3, c4, c5⟩
  unfold f121_takeTeam
  rw [b1, mjBp_some, if_pos (by decide), if_pos (is_b hb), b2]
  show (mjBp (f25_teamOfName b (i6 (cT9 k : Nat)) Z) fun v107 => _) = _
  rw [r25 hM hb n1, (nm9_T _ (by omega)).1 k hk9, mjBp_some, show (-1 : Int32) = i3 (-1) from rfl, if_neg (by rw [c_eq (by omega)]; omega), if_pos (by rw [c_ne (by omega)]; omega), c1, mjBd_some]
theorem ln_act (hb : b = 2 ∨ b = 92) (hn : n ≤ 700) (hX : ∀ k, X k ≤ 255) {kd tm ot te sz W0 : Nat} (hkd : kd ≤ 3) (htm : tm < a.1.length) (hot : kd = 3 → ot < a.1.length ∧ ot ≠ tm) (hte : te ≤ 9999) (hsz : sz ≤ 99) (hA : a.2.2.1 < 12) : lnOk X n b Lg a (a.1, a.2.1, a.2.2.1 + 1, a.2.2.2) ((1, W0) :: (1, LK.getD kd 0) :: (1, 29793 + tm) :: ((if kd = 3 then [(1, 29793 + ot)] else []) ++ [(2, te), (2, sz)])) (f124_readAct b) := by
  intro Z p q hk hp hr hM
  have hT := hM.1
  obtain ⟨Z1, a1, a2, a3, a4, a5⟩ := a_adv hn hX hk hp hr
  have M1 := MI_Tk hM hb a5
  have ix : f51_indexIn 1000003 Z1 = some (i3 (kd : Nat)) := by
    rw [ixK a2 hX (Or.inl rfl), a_ix a3 (kF9 kd (by omega))]
  obtain ⟨Z2, c1, c2, c3, c4, c5⟩ := a_adv hn hX a2 a4 a3
  have M2 := MI_Tk M1 hb c5
  obtain ⟨Z3, d1, d2, d3, d4, d5⟩ := r121 hb hn hX (ex := -1) c2 c4 c3 M2 htm (by omega)
  have M3 := MI_Tk M2 hb d5
  have tB : ∀ t, tmB b t = b + 18 + 5 * t := fun t => rfl
  have aB : acB b a.2.2.1 = b + 48 + a.2.2.1 := rfl
  have fin : ∀ (Y : mjZt) (py : Nat) (x4 : Int32), tkC X n Y py → py ≤ n → rdT X n py ((2, te) :: (2, sz) :: [(3, 59)]) q → MI9 a Y b Lg → ∃ Y1 p1, f124_readAct_j84 b (i3 (kd : Nat)) (i3 (tm : Nat)) x4 Y = some (1, Y1) ∧ tkC X n Y1 p1 ∧ p1 ≤ n ∧ rdT X n p1 [(3, 59)] q ∧ MI9 (a.1, a.2.1, a.2.2.1 + 1, a.2.2.2) Y1 b Lg := by
    intro Y py x4 hkY hpY hrY hMY
    obtain ⟨Y1, u1, u2, u3, u4, u5, u6⟩ := a_num (lo := 0) (hi := 9999) hn hX hkY hpY hrY (by omega) (by omega)
    have MY1 := MI_T2 hMY hb u6
    obtain ⟨Y2, v1, v2, v3, v4, v5, v6⟩ := a_num (lo := 0) (hi := 99) hn hX u3 u5 u4 (by omega) (by omega)
    have MY2 := MI_T2 MY1 hb v6
    have e28' := e28 (Z := Y2) hb (A := a.2.2.1) (by omega) MY2.2.2.2.2.2.1 (i3 (kd : Nat)) (i3 (tm : Nat)) x4 (i3 (te : Nat)) (i3 (sz : Nat))
    obtain ⟨Y3, hY3⟩ : ∃ Y3, Y3 = zSi (zSi (zSi (zSi (zSi (zSi Y2 (acB b a.2.2.1) 0 (i3 (kd : Nat))) (acB b a.2.2.1) 1 (i3 (tm : Nat))) (acB b a.2.2.1) 2 x4) (acB b a.2.2.1) 3 (i3 (te : Nat))) (acB b a.2.2.1) 4 (i3 (sz : Nat))) b 6 (i3 ((a.2.2.1 + 1 : Nat) : Int)) := ⟨_, rfl⟩
    rw [← hY3] at e28'
    have oo : ∀ c, c ≠ b → c ≠ acB b a.2.2.1 → Y3.1 c = Y2.1 c := fun c g1 g2 => by rw [hY3, si_obj _ _ _ _ g1, si_obj _ _ _ _ g2, si_obj _ _ _ _ g2, si_obj _ _ _ _ g2, si_obj _ _ _ _ g2, si_obj _ _ _ _ g2]
    have of : ∀ f, f ≠ 6 → Y3.1 b f = Y2.1 b f := fun f g => by rw [hY3, si_fld _ _ _ _ (by omega), si_obj _ _ _ _ (by omega), si_obj _ _ _ _ (by omega), si_obj _ _ _ _ (by omega), si_obj _ _ _ _ (by omega), si_obj _ _ _ _ (by omega)]
    have ol : Y3.2 = Y2.2 := by rw [hY3]; rfl
    have u1' : f116_takeNumber 0 9999 Y = some (1, Y1) := u1
    have v1' : f116_takeNumber 0 99 Y1 = some (1, Y2) := v1
    refine ⟨Y3, _, ?_, tk_bk v3 (by rw [ol]) ⟨oo 1 (by omega) (by omega), oo 183 (by omega) (by omega), by rw [ol]⟩, v5, v4, ?_⟩
    · unfold f124_readAct_j84
      rw [if_neg (by rw [hMY.2.2.2.2.2.2.2.2.2.2.2.1]; decide), u1', mjBd_some, if_pos (by decide), v1', mjBd_some, if_pos (by decide), if_pos (is_b hb), u2, v2, e28', mjBd_some]
    · obtain ⟨m1, m2, m3, m4, m5, m6, m7, m8, m9, m10, m11, m12, m13⟩ := MY2
      refine ⟨m1, m2, ?_, by rw [of 0 (by omega)]; exact m4, by rw [of 5 (by omega)]; exact m5, ?_, by rw [of 8 (by omega)]; exact m7, fun j hj => ?_, fun r hr => by rw [ol]; exact m9 r hr, by rw [oo 182 (by omega) (by omega)]; exact m10, by rw [oo 182 (by omega) (by omega)]; exact m11, by rw [oo 182 (by omega) (by omega)]; exact m12, by rw [oo (b + 1) (by omega) (by omega)]; exact m13⟩
      · show a.2.2.1 + 1 ≤ 12
        omega
      · show Y3.1 b 6 = i3 ((a.2.2.1 + 1 : Nat) : Int)
        rw [hY3, si_same]
      · have hj' : j < a.1.length := hj
        have tj := tB j
        rw [oo (tmB b j) (by omega) (by omega), ol]
        exact m8 j hj'
  have c9 : mjCmp .lt (i3 (a.2.2.1 : Nat)) 12 = true := by
    rw [show (12 : Int32) = i3 12 from rfl, c_lt (by omega)]; omega
  have head : f124_readAct b Z = (if mjCmp .ne (i3 (kd : Nat)) 3 = true then f124_readAct_j84 b (i3 (kd : Nat)) (i3 (tm : Nat)) (-1) Z3 else mjBd (f121_takeTeam b (i3 (tm : Nat)) Z3) fun v137 Z138 => f124_readAct_j84 b (i3 (kd : Nat)) (i3 (tm : Nat)) v137 Z138) := by
    have d1' : f121_takeTeam b (-1) Z2 = some (i3 (tm : Nat), Z3) := d1
    unfold f124_readAct
    rw [if_pos (is_b hb), hM.2.2.2.2.2.1, if_pos c9, a1, mjBd_some, ix, mjBp_some, if_neg (by rw [show (-1 : Int32) = i3 (-1) from rfl, c_eq (by omega)]; omega), if_pos (by rw [show (4 : Int32) = i3 4 from rfl, c_ne (by omega)]; omega), c1, mjBd_some, d1', mjBd_some, if_pos (by rw [show (-1 : Int32) = i3 (-1) from rfl, c_ne (by omega)]; omega)]
  by_cases k3 : kd = 3
  · obtain ⟨ho1, ho2⟩ := hot k3
    rw [if_pos k3] at d3
    obtain ⟨Z4, f1, f2, f3, f4, f5⟩ := r121 hb hn hX (ex := ((tm : Nat) : Int)) d2 d4 d3 M3 ho1 (by omega)
    obtain ⟨Y1, p1, y1, y2, y3, y4, y5⟩ := fin Z4 _ (i3 (ot : Nat)) f2 f4 f3 (MI_Tk M3 hb f5)
    refine ⟨Y1, p1, ?_, y2, y3, y4, y5⟩
    rw [head, if_neg (by rw [k3]; decide), f1, mjBd_some]
    exact y1
  · rw [if_neg k3] at d3
    obtain ⟨Y1, p1, y1, y2, y3, y4, y5⟩ := fin Z3 _ (-1) d2 d4 d3 M3
    refine ⟨Y1, p1, ?_, y2, y3, y4, y5⟩
    rw [head, if_pos (by rw [show (3 : Int32) = i3 3 from rfl, c_ne (by omega)]; omega)]
    exact y1
/-- through, within-/
theorem MI_th (hb : b = 2 ∨ b = 92) {f g : Nat} {v : Int32} (hf : f = 2 ∨ f = 3) (hg : g = 9 ∨ g = 10) (hM : MI9 a Z b Lg) : MI9 (a.1, a.2.1, a.2.2.1, a.2.2.2.1, (if f = 2 then true else a.2.2.2.2.1), (if f = 3 then true else a.2.2.2.2.2)) (zSi (zSi Z 182 f 1) b g v) b Lg := by
  have tB : ∀ t, tmB b t = b + 18 + 5 * t := fun t => rfl
  obtain ⟨m1, m2, m3, m4, m5, m6, m7, m8, m9, m10, m11, m12, m13⟩ := hM
  obtain ⟨Y, hY⟩ : ∃ Y, Y = zSi (zSi Z 182 f 1) b g v := ⟨_, rfl⟩
  rw [← hY]
  have oo : ∀ c, c ≠ b → c ≠ 182 → Y.1 c = Z.1 c := fun c g1 g2 => by rw [hY, si_obj _ _ _ _ g1, si_obj _ _ _ _ g2]
  have of : ∀ k, k ≠ g → Y.1 b k = Z.1 b k := fun k q => by rw [hY, si_fld _ _ _ _ (by omega), si_obj _ _ _ _ (by omega)]
  have o2 : ∀ k, k ≠ f → Y.1 182 k = Z.1 182 k := fun k q => by rw [hY, si_obj _ _ _ _ (by omega), si_fld _ _ _ _ (by omega)]
  have os : Y.1 182 f = 1 := by rw [hY, si_obj _ _ _ _ (by omega), si_same]
  have ol : Y.2 = Z.2 := by rw [hY]; rfl
  refine ⟨m1, m2, m3, by rw [of 0 (by omega)]; exact m4, by rw [of 5 (by omega)]; exact m5, by rw [of 6 (by omega)]; exact m6, by rw [of 8 (by omega)]; exact m7, fun j hj => ?_, fun r hr => by rw [ol]; exact m9 r hr, ?_, ?_, by rw [o2 5 (by omega)]; exact m12, by rw [oo (b + 1) (by omega) (by omega)]; exact m13⟩
  · have hj' : j < a.1.length := hj
    have tj := tB j
    rw [oo (tmB b j) (by omega) (by omega), ol]
    exact m8 j hj'
  · show Y.1 182 2 = bI (if f = 2 then true else a.2.2.2.2.1)
    by_cases e : f = 2
    · rw [if_pos e, ← e, os]; rfl
    · rw [if_neg e, o2 2 (by omega)]; exact m10
  · show Y.1 182 3 = bI (if f = 3 then true else a.2.2.2.2.2)
    by_cases e : f = 3
    · rw [if_pos e, ← e, os]; rfl
    · rw [if_neg e, o2 3 (by omega)]; exact m11
theorem tk_th (hb : b = 2 ∨ b = 92) {f g : Nat} {v w : Int32} (hk : tkC X n Z p) : tkC X n (zSi (zSi Z 182 f w) b g v) p := tk_bk hk rfl ⟨by rw [si_obj _ _ _ _ (by omega), si_obj _ _ _ _ (by omega)], by rw [si_obj _ _ _ _ (by omega), si_obj _ _ _ _ (by omega)], rfl⟩
theorem ln_th (hb : b = 2 ∨ b = 92) (hn : n ≤ 700) (hX : ∀ k, X k ≤ 255) {k W0 : Nat} (hk9 : 1 ≤ k ∧ k ≤ 6) (h0 : a.2.2.2.2.1 = false) : lnOk X n b Lg a (a.1, a.2.1, a.2.2.1, a.2.2.2.1, true, a.2.2.2.2.2) [(1, W0), (2, k)] (f126_readThrough b) := by
  intro Z p q hk hp hr hM
  obtain ⟨Z1, a1, a2, a3, a4, a5⟩ := a_adv hn hX hk hp hr
  have M1 := MI_Tk hM hb a5
  obtain ⟨Z2, d1, d2, d3, d4, d5, d6⟩ := a_num (lo := 1) (hi := 6) hn hX a2 a4 a3 (by omega) (by omega)
  have M2 := MI_T2 M1 hb d6
  have d1' : f116_takeNumber 1 6 Z1 = some (1, Z2) := d1
  have t2 := MI_th (f := 2) (g := 9) (v := Z2.1 182 4) hb (Or.inl rfl) (Or.inl rfl) M2
  refine ⟨_, _, ?_, tk_th hb d3, d5, d4, t2⟩
  unfold f126_readThrough
  rw [if_pos (by rw [hM.2.2.2.2.2.2.2.2.2.1, h0]; decide), a1, mjBd_some, d1', mjBd_some, if_pos (by decide), let_eq, if_pos (is_b hb), si_fld _ _ _ _ (by omega), let_eq]
theorem ln_wi (hb : b = 2 ∨ b = 92) (hn : n ≤ 700) (hX : ∀ k, X k ≤ 255) {k W0 : Nat} (hk9 : k ≤ 99) (h0 : a.2.2.2.2.2 = false) : lnOk X n b Lg a (a.1, a.2.1, a.2.2.1, a.2.2.2.1, a.2.2.2.2.1, true) [(1, W0), (2, k)] (f127_readWithin b) := by
  intro Z p q hk hp hr hM
  obtain ⟨Z1, a1, a2, a3, a4, a5⟩ := a_adv hn hX hk hp hr
  have M1 := MI_Tk hM hb a5
  obtain ⟨Z2, d1, d2, d3, d4, d5, d6⟩ := a_num (lo := 0) (hi := 99) hn hX a2 a4 a3 (by omega) (by omega)
  have M2 := MI_T2 M1 hb d6
  have d1' : f116_takeNumber 0 99 Z1 = some (1, Z2) := d1
  have t2 := MI_th (f := 3) (g := 10) (v := Z2.1 182 4) hb (Or.inr rfl) (Or.inr rfl) M2
  refine ⟨_, _, ?_, tk_th hb d3, d5, d4, t2⟩
  unfold f127_readWithin
  rw [if_pos (by rw [hM.2.2.2.2.2.2.2.2.2.2.1, h0]; decide), a1, mjBd_some, d1', mjBd_some, if_pos (by decide), let_eq, if_pos (is_b hb), si_fld _ _ _ _ (by omega), let_eq]
/-- a rule-/
theorem MI_J (hb : b = 2 ∨ b = 92) (hM : MI9 a Z b Lg) (e : eqJ b Z Z2) (h7 : ∃ m : Nat, m ≤ 700 ∧ Z2.1 (b + 1) 7 = i3 (m : Nat)) : MI9 a Z2 b Lg := by
  obtain ⟨m1, m2, m3, m4, m5, m6, m7, m8, m9, m10, m11, m12, m13⟩ := hM
  have tB : ∀ t, tmB b t = b + 18 + 5 * t := fun t => rfl
  obtain ⟨e0, e⟩ := e
  have eb := e b (by unfold jw; omega)
  have e1 := e 182 (by unfold jw; omega)
  refine ⟨m1, m2, m3, by rw [eb.1]; exact m4, by rw [eb.1]; exact m5, by rw [eb.1]; exact m6, by rw [eb.1]; exact m7, fun j hj => ?_, fun r hr => by rw [(e (b + 10) (by unfold jw; omega)).2]; exact m9 r hr, by rw [e1.1]; exact m10, by rw [e1.1]; exact m11, by rw [e1.1]; exact m12, h7⟩
  have tj := tB j
  have ej := e (tmB b j) (by unfold jw; omega)
  rw [ej.1, ej.2]
  exact m8 j hj
theorem nx_sg {c : Nat} (hr : rdT X n p ((3, c) :: ts) q) (hc : c = 59) : nS9 X n p ∧ ¬ (jS X n p = 1 ∧ jN X n p = 6385252) ∧ ¬ (jS X n p = 1 ∧ jN X n p = 28530) := by
  have h1 : jS X n p = 3 := hr.1
  have k : kd X n p = c := kd_tok hr.1 hr.2.1 (Or.inr (Or.inr rfl))
  refine ⟨fun g => by omega, fun g => by omega, fun g => by omega⟩
theorem nx_wd {W : Nat} (hr : rdT X n p ((1, W) :: ts) q) (hc : W ≠ 6385252 ∧ W ≠ 28530) : nS9 X n p ∧ ¬ (jS X n p = 1 ∧ jN X n p = 6385252) ∧ ¬ (jS X n p = 1 ∧ jN X n p = 28530) := by
  have h2 : jN X n p = W := hr.2.1
  have k : kd X n p = 1 := kd_tok hr.1 hr.2.1 (Or.inl rfl)
  refine ⟨fun g => by omega, fun g => by omega, fun g => by omega⟩
theorem ln_rule (hb : b = 2 ∨ b = 92) (hn : n ≤ 700) (hX : ∀ k, X k ≤ 255) {kd W0 : Nat} {t1 es : List (Nat × Nat)} (hkd : kd ≤ 4) (ht1 : tT (tB 2) t1) (hes : es = [] ∨ ∃ t2, tT (tB 2) t2 ∧ es = (1, 111567739122533) :: t2) (hR : a.2.2.2.1 < 2) : lnOk X n b Lg a (a.1, a.2.1, a.2.2.1, a.2.2.2.1 + 1, a.2.2.2.2) ((1, W0) :: (1, 29281 + a.2.2.2.1) :: (1, LK.getD kd 0) :: (1, 2003330414) :: (t1 ++ es)) (f125_readRule b) := by
  intro Z p q hk hp hr hM
  have hT := hM.1
  have tB : ∀ t, tmB b t = b + 18 + 5 * t := fun t => rfl
  obtain ⟨Z1, a1, a2, a3, a4, a5⟩ := a_adv hn hX hk hp hr
  have M1 := MI_Tk hM hb a5
  obtain ⟨n1, n2, n3, n4⟩ := nm9_ok a.2.2.2.1 (by omega)
  obtain ⟨b1, b2⟩ := a_nm hX a2 a3 n4
  have b2' : Z1.2.1 183 6 = i6 (cR9 a.2.2.2.1 : Nat) := b2
  have n26 := r26 M1 hb n2 ((nm9_T _ hT).2.2 _ (by omega)) ((nm9_R _ M1.2.1).2)
  obtain ⟨Z2, c1, c2, c3, c4, c5⟩ := a_adv hn hX a2 a4 a3
  have M2 := MI_Tk M1 hb c5
  have ix : f51_indexIn 1000003 Z2 = some (i3 (kd : Nat)) := by
    rw [ixK c2 hX (Or.inl rfl), a_ix c3 (kF9 kd (by omega))]
  obtain ⟨Z3, d1, d2, d3, d4, d5⟩ := a_adv hn hX c2 c4 c3
  have M3 := MI_Tk M2 hb d5
  obtain ⟨Z4, f1, f2, f3, f4, f5⟩ := a_adv hn hX d2 d4 d3
  have M4 := MI_Tk M3 hb f5
  have g115 : f115_takeWord 1000004 0 Z3 = some (1, Z4) := by
    unfold f115_takeWord
    rw [ixJ d2 hX (Or.inr (Or.inl rfl)), a_ix d3 jF9.1, mjBp_some, if_pos (by decide), f1, mjBd_some]
  have f3' : rdT X n (jE X n (jE X n (jE X n (jE X n p)))) (t1 ++ (es ++ [(3, 59)])) q := by
    rw [← List.append_assoc]; exact f3
  obtain ⟨p5, q1, q2, q3, q4⟩ := rd_sp3 f3' f4 (ok_T (ok_B 2) _ ht1)
  have hnx : nS9 X n p5 ∧ ¬ (jS X n p5 = 1 ∧ jN X n p5 = 6385252) ∧ ¬ (jS X n p5 = 1 ∧ jN X n p5 = 28530) := by
    rcases hes with e | ⟨t2, -, e⟩
    · rw [e] at q2; exact nx_sg q2 rfl
    · rw [e] at q2; exact nx_wd q2 (by omega)
  obtain ⟨cv1, cv2⟩ := cnd9 a.2.2.2.1 hR
  obtain ⟨Z5, h1, h2, h3, h4⟩ := c_cond (w := 2 * a.2.2.2.1) hb hn hX ht1 q1 f4 q3 (by omega) f2 M4.2.2.2.2.2.2.2.2.2.2.2.2 (by omega) hnx
  have M5 := MI_J hb M4 h3 h4
  -- the end of it
  have fin : ∀ (Y : mjZt) (py : Nat), tkC X n Y py → py ≤ n → rdT X n py [(3, 59)] q → MI9 a Y b Lg → ∃ Y1 p1, f125_readRule_j190 b (Z1.2.1 183 6) (i3 (kd : Nat)) 0 Y = some (1, Y1) ∧ tkC X n Y1 p1 ∧ p1 ≤ n ∧ rdT X n p1 [(3, 59)] q ∧ MI9 (a.1, a.2.1, a.2.2.1, a.2.2.2.1 + 1, a.2.2.2.2) Y1 b Lg := by
    intro Y py hkY hpY hrY hMY
    have e29' := e29 (Z := Y) hb (r := a.2.2.2.1) (by omega) hMY.2.2.2.2.2.2.1 (i6 (cR9 a.2.2.2.1 : Nat)) (i3 (kd : Nat))
    obtain ⟨Y3, hY3⟩ : ∃ Y3, Y3 = zSi (zSi (zSl Y (b + 10) a.2.2.2.1 (i6 (cR9 a.2.2.2.1 : Nat))) (b + 11) a.2.2.2.1 (i3 (kd : Nat))) b 8 (i3 ((a.2.2.2.1 + 1 : Nat) : Int)) := ⟨_, rfl⟩
    rw [← hY3] at e29'
    have oo : ∀ c, c ≠ b → c ≠ b + 11 → Y3.1 c = Y.1 c := fun c g1 g2 => by rw [hY3, si_obj _ _ _ _ g1, si_obj _ _ _ _ g2, sl_int]
    have of : ∀ f, f ≠ 8 → Y3.1 b f = Y.1 b f := fun f g => by rw [hY3, si_fld _ _ _ _ (by omega), si_obj _ _ _ _ (by omega), sl_int]
    have ol : ∀ c, c ≠ b + 10 → Y3.2.1 c = Y.2.1 c := fun c g => by
      rw [hY3]
      show (zSl Y (b + 10) a.2.2.2.1 _).2.1 c = _
      rw [sl_obj _ _ _ _ g]
    have os : ∀ r, Y3.2.1 (b + 10) r = if r = a.2.2.2.1 then i6 (cR9 a.2.2.2.1 : Nat) else Y.2.1 (b + 10) r := fun r => by
      rw [hY3]
      show (zSl Y (b + 10) a.2.2.2.1 _).2.1 (b + 10) r = _
      by_cases e : r = a.2.2.2.1
      · rw [if_pos e, e, sl_same]
      · rw [if_neg e, sl_fld _ _ _ _ (by omega)]
    refine ⟨Y3, py, ?_, tk_bk hkY (by rw [hY3]; rfl) ⟨oo 1 (by omega) (by omega), oo 183 (by omega) (by omega), ol 183 (by omega)⟩, hpY, hrY, ?_⟩
    · unfold f125_readRule_j190
      rw [if_pos (by decide), if_pos (is_b hb), b2', e29', mjBd_some]
    · obtain ⟨m1, m2, m3, m4, m5, m6, m7, m8, m9, m10, m11, m12, m13⟩ := hMY
      refine ⟨m1, ?_, m3, by rw [of 0 (by omega)]; exact m4, by rw [of 5 (by omega)]; exact m5, by rw [of 6 (by omega)]; exact m6, ?_, fun j hj => ?_, fun r hr => ?_, by rw [oo 182 (by omega) (by omega)]; exact m10, by rw [oo 182 (by omega) (by omega)]; exact m11, by rw [oo 182 (by omega) (by omega)]; exact m12, by rw [oo (b + 1) (by omega) (by omega)]; exact m13⟩
      · show a.2.2.2.1 + 1 ≤ 2
        omega
      · show Y3.1 b 8 = i3 ((a.2.2.2.1 + 1 : Nat) : Int)
        rw [hY3, si_same]
      · have hj' : j < a.1.length := hj
        have tj := tB j
        rw [oo (tmB b j) (by omega) (by omega), ol (tmB b j) (by omega)]
        exact m8 j hj'
      · have hr' : r < a.2.2.2.1 + 1 := hr
        rw [os r]
        by_cases e : r = a.2.2.2.1
        · rw [if_pos e, e]
        · rw [if_neg e]; exact m9 r (by omega)
  have c9 : mjCmp .lt (i3 (a.2.2.2.1 : Nat)) 8 = true := by
    rw [show (8 : Int32) = i3 8 from rfl, c_lt (by omega)]; omega
  have h1' : f69_read (b + 1) (i3 (a.2.2.2.1 : Nat) * 2 + 0) Z4 = some (0, Z5) := by rw [cv1]; exact h1
  have head : f125_readRule b Z = (mjBp (f51_indexIn 1000004 Z5) fun v145 => if mjCmp .ne v145 1 = true then f125_readRule_j190 b (Z1.2.1 183 6) (i3 (kd : Nat)) 0 Z5 else mjBd (f68_advance Z5) fun _ Z150 => mjBp (f76_condition (Z150.1 b 8) 1 Z150) fun v152 => mjBd (f69_read (b + 1) v152 Z150) fun v155 Z156 => f125_readRule_j190 b (Z1.2.1 183 6) (i3 (kd : Nat)) v155 Z156) := by
    unfold f125_readRule
    rw [if_pos (is_b hb), hM.2.2.2.2.2.2.1, if_pos c9, a1, mjBd_some, b1, mjBp_some, if_pos (by decide), b2', n26, mjBp_some, if_pos (by decide), c1, mjBd_some, ix, mjBp_some, if_pos (by rw [show (-1 : Int32) = i3 (-1) from rfl, c_ne (by omega)]; omega), d1, mjBd_some, g115, mjBd_some, if_pos (by decide), M4.2.2.2.2.2.2.1]
    unfold f76_condition
    rw [mjBp_some, h1', mjBd_some, if_neg (by decide)]
  rw [head]
  rcases hes with e | ⟨t2, ht2, e⟩
  · rw [e] at q2
    have q2' : rdT X n p5 ((3, 59) :: []) q := q2
    have nox : ixT X n p5 LJ 5 = -1 := by
      unfold ixT
      rw [if_neg (by rw [show jS X n p5 = 3 from q2'.1]; decide)]
    rw [ixJ h2 hX (Or.inr (Or.inl rfl)), nox, mjBp_some, if_pos (by decide)]
    exact fin Z5 p5 h2 q3 q2' M5
  · rw [e] at q2
    have q2' : rdT X n p5 ((1, 111567739122533) :: (t2 ++ [(3, 59)])) q := q2
    obtain ⟨Z6, k1, k2, k3, k4, k5⟩ := a_adv hn hX h2 q3 q2'
    have M6 := MI_Tk M5 hb k5
    obtain ⟨p7, r1, r2, r3, r4⟩ := rd_sp3 k3 k4 (ok_T (ok_B 2) _ ht2)
    obtain ⟨Z7, l1, l2, l3, l4⟩ := c_cond (w := 2 * a.2.2.2.1 + 1) hb hn hX ht2 r1 k4 r3 (by omega) k2 M6.2.2.2.2.2.2.2.2.2.2.2.2 (by omega) (nx_sg r2 rfl)
    have l1' : f69_read (b + 1) (i3 (a.2.2.2.1 : Nat) * 2 + 1) Z6 = some (0, Z7) := by rw [cv2]; exact l1
    rw [ixJ h2 hX (Or.inr (Or.inl rfl)), a_ix q2' jF9.2, mjBp_some, if_neg (by decide), k1, mjBd_some, M6.2.2.2.2.2.2.1]
    unfold f76_condition
    rw [mjBp_some, l1', mjBd_some]
    exact fin Z7 p7 l2 r3 r2 (MI_J hb M6 l3 l4)
end LP
