/-! QUERIES: rule, holds -/
section Q7
variable {b : Nat} {S : mjS} {Z Zm : mjZt}
theorem e129 (hb : b = 2 ∨ b = 92) {r p : Nat} (hr : r < 8) (hp : p < 2) : f129_comparisonsOf (b + 1) (i3 r) (i3 p) Z = some (Z.1 (b + 1 + 6) (2 * r + p)) := by
  unfold f129_comparisonsOf f76_condition
  rw [if_pos (is_b1 hb), show (2 : Int32) = i3 2 from rfl, i3_mul, i3_add, mjBp_some, e5 (is_b2 hb 5 (by omega)) ((is_trm hb).2 2 (by omega)) (by omega) (by omega), mjBp_some, show ((r : Int) * 2 + p).toNat = 2 * r + p by omega]
theorem m293h (h : mRep Z S) (ho : okS S) (hoc : okC S) {r p : Nat} (hr : r < sR S) (hp : p < 2) : ∀ f i n, i + f = sTo S r p → f < n → sFr S r p ≤ i → f293_rule_h68 n (i3 r) (i3 ((p : Int) + 1)) (i3 (ciS S (sFr S r p) i)) (i3 i) Z = some (i3 (ciS S (sFr S r p) (sTo S r p)))
  | f, i, 0, _, hn, _ => by omega
  | 0, i, n + 1, hf, _, h1 => by
    obtain rfl : i = sTo S r p := by omega
    have o1 := ok_sc ho
    obtain ⟨_, _, c3, c4, _⟩ := hoc r p hr hp
    have c2 := (ca_fr hoc h hr hp).2
    rw [f293_rule_h68, show (4 : Int32) = i3 4 from rfl, show (2 : Int32) = i3 2 from rfl, i3_mul, i3_mul, i3_add, i3_p, if_pos (in_p (by omega)), ix_i3 (by omega), show (4 * (r : Int) + 2 * ((p : Int) + 1) - 1).toNat = 4 * r + 2 * p + 1 by omega, c2, if_pos (by rw [c_ge (by omega)]; omega)]
  | f + 1, i, n + 1, hf, hn, h1 => by
    have o1 := ok_sc ho
    obtain ⟨_, _, c3, c4, _, c6⟩ := hoc r p hr hp
    have c2 := (ca_fr hoc h hr hp).2
    have ih := m293h h ho hoc hr hp f (i + 1) n (by omega) (by omega) (by omega)
    have g1 := ((c6 (by omega)).1.2.2.2 i h1 (by omega)).1
    rw [ci_s S h1] at ih
    unfold cdv at g1
    rw [f293_rule_h68, show (4 : Int32) = i3 4 from rfl, show (2 : Int32) = i3 2 from rfl, i3_mul, i3_mul, i3_add, i3_p, if_pos (in_p (by omega)), ix_i3 (by omega), show (4 * (r : Int) + 2 * ((p : Int) + 1) - 1).toNat = 4 * r + 2 * p + 1 by omega, c2, if_neg (by rw [c_ge (by omega)]; omega), if_pos (in_p (by omega)), ix_nat (by omega), m_cd h, i36 (by omega), show (30 : Int64) = i6 30 from rfl, show (32 : Int64) = i6 32 from rfl, i3_s]
    by_cases q : 30 ≤ S 9 i ∧ S 9 i ≤ 32
    · rw [show isCm (S 9 i) = true from decide_eq_true q, if_pos rfl] at ih
      rw [m195t (by omega), mjBp_some, m196_1, mjBp_some, i3_add]
      exact ih
    · rw [show isCm (S 9 i) = false from decide_eq_false q, if_neg (by decide), Int.add_zero] at ih
      rw [m195f (by omega), mjBp_some, m196_0, mjBp_some, i3_add, Int.add_zero]
      exact ih
theorem m293 (h : mRep Z S) (ho : okS S) (hoc : okC S) {r p : Nat} (hr : r < sR S) (hp : p < 2) : f293_rule_j50 (i3 r) (i3 ((p : Int) + 1)) Z = some (i3 (ciS S (sFr S r p) (sTo S r p))) := by
  have o1 := ok_sc ho
  obtain ⟨_, _, c3, c4, _⟩ := hoc r p hr hp
  have c1 := (ca_fr hoc h hr hp).1
  have e := m293h h ho hoc hr hp (sTo S r p - sFr S r p) (sFr S r p) mjF (by omega) (by unfold mjF; omega) (Nat.le_refl _)
  rw [ci_0] at e
  unfold f293_rule_j50
  rw [show (4 : Int32) = i3 4 from rfl, show (2 : Int32) = i3 2 from rfl, i3_mul, i3_mul, i3_add, i3_sub, if_pos (in_p (by omega)), ix_i3 (by omega), show (4 * (r : Int) + 2 * ((p : Int) + 1) - 2).toNat = 4 * r + 2 * p by omega, c1]
  exact e
theorem q_rule (hb : Z.2.2.1 = b) (h : cBk Z b S) (htr : cTr Z b S) (ho : okS S) (hoc : okC S) (hm : mRep Zm S) (x y : Int32) : ∃ v, f172_rule x y Z = some v ∧ f293_rule x y Zm = some v := by
  have o1 := ok_sc ho
  have hb2 := b_b h
  unfold f172_rule f293_rule
  rw [hb]
  rcases rl_cases S x with ⟨r, rfl, hr⟩ | ⟨r, rfl, hr⟩
  · obtain ⟨k, rfl, hk1, hk2⟩ := i3_ex y
    have t0 := (htr r 0 hr (by omega)).2
    have t1 := (htr r 1 hr (by omega)).2
    obtain ⟨_, _, _, _, c5, _⟩ := hoc r 0 hr (by omega)
    rw [if_pos (c5 rfl)] at t0
    have C : ∀ v, (if (i3 k).toInt < 0 ∨ 2 < (i3 k).toInt then some ((-2000000) : Int32) else if ((i3 k).toInt - 0).toNat = 0 then mjBp (f20_kindOfRule b (i3 r) Z) fun v109 => some v109 else if ((i3 k).toInt - 0).toNat = 1 then (if mjIs (b + 1) 211 8 = true then mjBp (f129_comparisonsOf (b + 1) (i3 r) 0 Z) fun v114 => some v114 else none) else if ((i3 k).toInt - 0).toNat = 2 then (if mjIs (b + 1) 211 8 = true then mjBp (f92_isTold (b + 1) (i3 r) 1 Z) fun v119 => if mjCmp .eq v119 0 = true then some ((-1)) else mjBp (f129_comparisonsOf (b + 1) (i3 r) 1 Z) fun v123 => some v123 else none) else none) = v → (if mjIs b 211 2 = true then
  mjBp (f16_hasRule b (i3 r) Z) fun v103 =>
  if mjCmp .ne v103 0 = true then
    if (i3 k).toInt < 0 ∨ 2 < (i3 k).toInt then
      some ((-2000000))
    else if ((i3 k).toInt - 0).toNat = 0 then
      mjBp (f20_kindOfRule b (i3 r) Z) fun v109 =>
      some v109
    else if ((i3 k).toInt - 0).toNat = 1 then
      if mjIs (b + 1) 211 8 = true then
      mjBp (f129_comparisonsOf (b + 1) (i3 r) 0 Z) fun v114 =>
      some v114
      else none
    else if ((i3 k).toInt - 0).toNat = 2 then
      if mjIs (b + 1) 211 8 = true then
      mjBp (f92_isTold (b + 1) (i3 r) 1 Z) fun v119 =>
      if mjCmp .eq v119 0 = true then
        some ((-1))
      else
        mjBp (f129_comparisonsOf (b + 1) (i3 r) 1 Z) fun v123 =>
        some v123
      else none
    else none
  else
    some ((-2000000))
  else none) = v := by
      intro v hv
      rw [if_pos (is_b hb2), e16t h ho hr, mjBp_some, if_pos (by decide)]
      exact hv
    have hj0 := m293 hm ho hoc hr (p := 0) (by omega)
    have hj1 := m293 hm ho hoc hr (p := 1) (by omega)
    have he0 := e129 (Z := Z) hb2 (r := r) (p := 0) (by omega) (by omega)
    have he1 := e129 (Z := Z) hb2 (r := r) (p := 1) (by omega) (by omega)
    have he2 := e92 hb2 ho hoc htr hr (p := 1) (by omega)
    rw [show i3 ((0 : Nat) : Int) = 0 from rfl, t0.2.2] at he0
    rw [show i3 ((1 : Nat) : Int) = 1 from rfl] at he1 he2
    rw [show ((0 : Nat) : Int) + 1 = 1 from rfl] at hj0
    rw [show ((1 : Nat) : Int) + 1 = 2 from rfl] at hj1
    rcases (by omega : (k < 0 ∨ 2 < k) ∨ k = 0 ∨ k = 1 ∨ k = 2) with q | rfl | rfl | rfl
    · refine ⟨i3 (-2000000), C _ ?_, ?_⟩
      · rw [if_pos (by rw [i3_int (by omega)]; omega)]; rfl
      · rw [m291t ho hm hr, mjBp_some, if_neg (by decide), i36 (by omega), show (0 : Int64) = i6 0 from rfl, show (2 : Int64) = i6 2 from rfl, m195f (by omega), mjBp_some, if_neg (by decide)]; rfl
    · refine ⟨i3 (S 7 r), C _ ?_, ?_⟩
      · rw [if_neg (by decide), if_pos (by decide), e20 h ho hr, mjBp_some]
      · rw [m291t ho hm hr, mjBp_some, if_neg (by decide), i36 (by omega), show (0 : Int64) = i6 0 from rfl, show (2 : Int64) = i6 2 from rfl, m195t (by omega), mjBp_some, if_pos (by decide), if_neg (by decide), if_pos (in_p (by omega)), ix_nat (by omega), m_rk hm]
    · refine ⟨i3 (ciS S (sFr S r 0) (sTo S r 0)), C _ ?_, ?_⟩
      · rw [if_neg (by decide), if_neg (by decide), if_pos (by decide), if_pos (is_b1 hb2), he0, mjBp_some]
      · rw [m291t ho hm hr, mjBp_some, if_neg (by decide), i36 (by omega), show (0 : Int64) = i6 0 from rfl, show (2 : Int64) = i6 2 from rfl, m195t (by omega), mjBp_some, if_pos (by decide), if_pos (by decide), if_pos (by decide)]
        exact hj0
    · by_cases q : sFr S r 1 < sTo S r 1
      · rw [if_pos q] at t1 he2
        rw [t1.2.2] at he1
        refine ⟨i3 (ciS S (sFr S r 1) (sTo S r 1)), C _ ?_, ?_⟩
        · rw [if_neg (by decide), if_neg (by decide), if_neg (by decide), if_pos (by decide), if_pos (is_b1 hb2), he2, mjBp_some, if_neg (by decide), he1, mjBp_some]
        · rw [m291t ho hm hr, mjBp_some, if_neg (by decide), i36 (by omega), show (0 : Int64) = i6 0 from rfl, show (2 : Int64) = i6 2 from rfl, m195t (by omega), mjBp_some, if_pos (by decide), if_pos (by decide), if_neg (by decide), m289 ho hoc hm hr, mjBp_some, show hasEx S r = true from decide_eq_true q, if_pos rfl, if_pos (by decide)]
          exact hj1
      · rw [if_neg q] at he2
        refine ⟨i3 (-1), C _ ?_, ?_⟩
        · rw [if_neg (by decide), if_neg (by decide), if_neg (by decide), if_pos (by decide), if_pos (is_b1 hb2), he2, mjBp_some, if_pos (by decide)]; rfl
        · rw [m291t ho hm hr, mjBp_some, if_neg (by decide), i36 (by omega), show (0 : Int64) = i6 0 from rfl, show (2 : Int64) = i6 2 from rfl, m195t (by omega), mjBp_some, if_pos (by decide), if_pos (by decide), if_neg (by decide), m289 ho hoc hm hr, mjBp_some, show hasEx S r = false from decide_eq_false q, if_neg (by decide)]; rfl
  · refine ⟨i3 (-2000000), ?_, ?_⟩
    · rw [if_pos (is_b hb2), e16f h ho hr, mjBp_some, if_neg (by decide)]; rfl
    · rw [m291f ho hm hr, mjBp_some, if_pos (by decide)]; rfl
/-- whether a part of a rule can be asked of an act: of the class, of the model -/
theorem asked (hb : Z.2.2.1 = b) (h : cBk Z b S) (hd : cDr Z b S) (htr : cTr Z b S) (ho : okS S) (hoc : okC S) (hm : mRep Zm S) (x y w : Int32) : (f173_canHold x y w Z = some (i3 0) ∧ f292_isAsked x y w Zm = some (i3 0)) ∨ (f173_canHold x y w Z = some (i3 1) ∧ f292_isAsked x y w Zm = some (i3 1) ∧ ∃ r p a : Nat, x = i3 r ∧ y = i3 p ∧ w = i3 a ∧ r < sR S ∧ p < 2 ∧ a < sAll S ∧ sFr S r p < sTo S r p) := by
  have o1 := ok_sc ho
  have hb2 := b_b h
  unfold f173_canHold f292_isAsked
  rw [hb]
  rcases rl_cases S x with ⟨r, rfl, hr⟩ | ⟨r, rfl, hr⟩
  · rcases ac_cases S w with ⟨a, rfl, ha⟩ | ⟨a, rfl, ha⟩
    · obtain ⟨k, rfl, hk1, hk2⟩ := i3_ex y
      obtain ⟨_, _, _, _, c5, _⟩ := hoc r 0 hr (by omega)
      rw [show (0 : Int32) = i3 0 from rfl, show (1 : Int32) = i3 1 from rfl]
      rcases (by omega : (k < 0 ∨ 2 ≤ k) ∨ k = 0 ∨ k = 1) with q | rfl | rfl
      · refine Or.inl ⟨?_, ?_⟩
        · rw [if_pos (is_b hb2), e16t h ho hr, mjBp_some, if_neg (by decide), e17t h hd ho ha, mjBp_some, if_neg (by decide), if_pos (is_b1 hb2), e92n (i3 r) (by omega), mjBp_some, if_pos (by decide)]
        · rw [m291t ho hm hr, mjBp_some, if_neg (by decide), m270t hm ho ha, mjBp_some, if_neg (by decide), if_neg (by rw [c_eq (by omega)]; omega), if_pos (by rw [c_ne (by omega)]; omega)]
      · have e := e92 hb2 ho hoc htr hr (p := 0) (by omega)
        rw [if_pos (c5 rfl), show i3 ((0 : Nat) : Int) = i3 0 from rfl] at e
        refine Or.inr ⟨?_, ?_, r, 0, a, rfl, rfl, rfl, hr, by omega, ha, c5 rfl⟩
        · rw [if_pos (is_b hb2), e16t h ho hr, mjBp_some, if_neg (by decide), e17t h hd ho ha, mjBp_some, if_neg (by decide), if_pos (is_b1 hb2), e, mjBp_some, if_neg (by decide)]
        · rw [m291t ho hm hr, mjBp_some, if_neg (by decide), m270t hm ho ha, mjBp_some, if_neg (by decide), if_pos (by decide)]
      · have e := e92 hb2 ho hoc htr hr (p := 1) (by omega)
        rw [show i3 ((1 : Nat) : Int) = i3 1 from rfl] at e
        have C : ∀ v, (if mjCmp .eq (i3 (if sFr S r 1 < sTo S r 1 then 1 else 0)) (i3 0) = true then some (i3 0) else some (i3 1)) = v → (if mjIs b 211 2 = true then
  mjBp (f16_hasRule b (i3 r) Z) fun v103 =>
  if mjCmp .eq v103 (i3 0) = true then
    some (i3 0)
  else
    mjBp (f17_hasAct b (i3 a) Z) fun v107 =>
    if mjCmp .eq v107 (i3 0) = true then
      some (i3 0)
    else
      if mjIs (b + 1) 211 8 = true then
      mjBp (f92_isTold (b + 1) (i3 r) (i3 1) Z) fun v112 =>
      if mjCmp .eq v112 (i3 0) = true then
        some (i3 0)
      else
        some (i3 1)
      else none
  else none) = v := by
          intro v hv
          rw [if_pos (is_b hb2), e16t h ho hr, mjBp_some, if_neg (by decide), e17t h hd ho ha, mjBp_some, if_neg (by decide), if_pos (is_b1 hb2), e, mjBp_some]
          exact hv
        by_cases q : sFr S r 1 < sTo S r 1
        · refine Or.inr ⟨C _ ?_, ?_, r, 1, a, rfl, rfl, rfl, hr, by omega, ha, q⟩
          · rw [if_pos q, if_neg (by decide)]
          · rw [m291t ho hm hr, mjBp_some, if_neg (by decide), m270t hm ho ha, mjBp_some, if_neg (by decide), if_neg (by decide), if_neg (by decide), m289 ho hoc hm hr, mjBp_some, show hasEx S r = true from decide_eq_true q, if_pos rfl, if_neg (by decide)]
        · refine Or.inl ⟨C _ ?_, ?_⟩
          · rw [if_neg q, if_pos (by decide)]
          · rw [m291t ho hm hr, mjBp_some, if_neg (by decide), m270t hm ho ha, mjBp_some, if_neg (by decide), if_neg (by decide), if_neg (by decide), m289 ho hoc hm hr, mjBp_some, show hasEx S r = false from decide_eq_false q, if_pos (by decide)]
    · refine Or.inl ⟨?_, ?_⟩
      · rw [if_pos (is_b hb2), e16t h ho hr, mjBp_some, if_neg (by decide), e17f h hd ho ha, mjBp_some, if_pos (by decide)]; rfl
      · rw [m291t ho hm hr, mjBp_some, if_neg (by decide), m270f hm ho ha, mjBp_some, if_pos (by decide)]; rfl
  · refine Or.inl ⟨?_, ?_⟩
    · rw [if_pos (is_b hb2), e16f h ho hr, mjBp_some, if_pos (by decide)]; rfl
    · rw [m291f ho hm hr, mjBp_some, if_pos (by decide)]; rfl
theorem q_holds (hb : Z.2.2.1 = b) (h : cBk Z b S) (hd : cDr Z b S) (htr : cTr Z b S) (ho : okS S) (hoc : okC S) (hm : mRep Zm S) (hW : mWv Zm S (sW S)) (x y w : Int32) : ∃ v Z1, f174_holds x y w Z = some (v, Z1) ∧ eqQ Z Z1 ∧ ∃ Z2, f294_holds x y w Zm = some (v, Z2) ∧ eqQ Zm Z2 := by
  have hb2 := b_b h
  unfold f174_holds f294_holds
  rcases asked hb h hd htr ho hoc hm x y w with ⟨q1, q2⟩ | ⟨q1, q2, r, p, a, rfl, rfl, rfl, hr, hp, ha, hlt⟩
  · rw [q1, mjBp_some, q2, mjBp_some]
    exact ⟨_, Z, rfl, eqQ_rf, Zm, rfl, eqQ_rf⟩
  · have hf := fk_bd ho (W := sW S) ha (te_bd ho ha) (sz := sSz S a) (by have := sz_bd ho ha; omega)
    obtain ⟨Z1, r1, r2, r3⟩ := e75 h hd ho ha
    have hb1 : Z1.2.2.1 = b := by rw [r2.1, hb]
    obtain ⟨Z2, s1, s2, _⟩ := e85 hb2 ho hoc hf (cTr_of htr (eqQ_B hb2 (eqF_q r2))) hr hp hlt r3
    obtain ⟨Z3, t1, t2, _⟩ := m290 ho hoc hf hm hr hp hlt (i3 a) (fun Z' e k hk => m280 (mRep_q hm e) ho (mWv_q hW e) ha hk)
    unfold sHo at t1
    refine ⟨i3 (if vS S (sFk S (sW S) a (sTe S a) (sSz S a)) (sTo S r p - 1) = 1 then 1 else 0), Z2, ?_, eqQ_tr (eqF_q r2) (eqV_q s2), Z3, ?_, t2⟩
    · rw [q1, mjBp_some, if_pos (by decide), hb, r1, mjBd_some, hb1, if_pos (is_b hb2), s1, mjBd_some]
      by_cases q : vS S (sFk S (sW S) a (sTe S a) (sSz S a)) (sTo S r p - 1) = 1
      · rw [if_pos q, if_neg (by decide)]; rfl
      · rw [if_neg q, if_pos (by decide)]; rfl
    · rw [q2, mjBp_some, if_neg (by decide), t1, mjBd_some]
      by_cases q : vS S (sFk S (sW S) a (sTe S a) (sSz S a)) (sTo S r p - 1) = 1
      · rw [if_pos q, decide_eq_true q]; rfl
      · rw [if_neg q, decide_eq_false q]; rfl
end Q7
