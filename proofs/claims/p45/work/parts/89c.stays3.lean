/-! STAYS: class and model -/
section S3
variable {b : Nat} {S : mjS} {W : Nat → Bool} {Z Zm : mjZt}
theorem mE_rows (ho : okS S) : ∀ i, (∀ a, a < i → a < sAll S → ∀ j, j < 64 → b6 (Z.2.1 195 a) j = (decide (j < sAll S) && eaP S a (sTe S a) j) ∧ b6 (Z.2.1 196 a) j = (decide (j < sA S) && fcP S a (sTe S a) j)) → 42 ≤ i → mE Z S := by
  intro i h hi a ha
  have oa := all_le ho
  exact h a (by omega) ha
theorem e18h (ho : okS S) (hoc : okC S) {t : Nat} (ht : t < 6) : ∀ f i n (Z : mjZt), i + f = 42 → f < n → cBk Z b S → cDr Z b S → cTr Z b S → (∀ a, a < i → a < sAll S → ∀ j, j < 64 → b6 (Z.2.1 195 a) j = (decide (j < sAll S) && eaP S a (sTe S a) j) ∧ b6 (Z.2.1 196 a) j = (decide (j < sA S) && fcP S a (sTe S a) j)) → mM Z S → ∃ Z1, f96_fewestWaived_h18 n b (i3 t) (i3 i) Z = some (i3 (bSt S t (2 ^ sA S)), Z1) ∧ eqQ Z Z1
  | f, i, 0, _, _, hn, _, _, _, _, _ => by omega
  | 0, i, n + 1, Z, hf, _, h, hd, htr, hE, hM => by
    obtain rfl : i = 42 := by omega
    have o1 := ok_sc ho
    obtain ⟨Z1, r1, r2⟩ := e96h ho hoc ht (2 ^ sA S) 0 mjF Z (by omega) (by have := pw_le (k := sA S) (by omega); unfold mjF; omega) h hd htr (mE_rows ho 42 hE (Nat.le_refl _)) hM
    refine ⟨Z1, ?_, r2⟩
    rw [f96_fewestWaived_h18, if_pos (by decide), if_pos (is_b (b_b h)), b_A h, (sh_12 (sA S) (by omega)).2, (sh_12 (sA S) (by omega)).1]
    exact r1
  | f + 1, i, n + 1, Z, hf, hn, h, hd, htr, hE, hM => by
    have o1 := ok_sc ho
    have oa := all_le ho
    have hb := b_b h
    have key : ∃ y z, f41_earlier b (i3 i) (Z.1 (acB b i) 3) Z = some y ∧ f42_forcers b (i3 i) (Z.1 (acB b i) 3) (zSl Z 195 i y) = some z ∧ (i < sAll S → ∀ j, j < 64 → b6 y j = (decide (j < sAll S) && eaP S i (sTe S i) j) ∧ b6 z j = (decide (j < sA S) && fcP S i (sTe S i) j)) := by
      have e1 : ∀ y, eqQ Z (zSl Z 195 i y) := fun y => eqQ_sl (by omega)
      by_cases q : i < sAll S
      · obtain ⟨a0, a1, a2, a3, a4⟩ := d_ac hd q
        rw [a3]
        obtain ⟨y, y1, y2⟩ := e41 h hd ho q (te_bd ho q)
        obtain ⟨z, z1, z2⟩ := e42 (cBk_q ho h (e1 y)) (cDr_q ho hb hd (e1 y)) ho q (te_bd ho q)
        exact ⟨y, z, y1, z1, fun _ j hj => ⟨y2 j hj, z2 j hj⟩⟩
      · obtain ⟨y, y1⟩ := e41t h hd ho (a := i) (by omega) (Z.1 (acB b i) 3)
        obtain ⟨z, z1⟩ := e42t (cBk_q ho h (e1 y)) ho (a := i) (by omega) (Z.1 (acB b i) 3)
        exact ⟨y, z, y1, z1, fun g => absurd g q⟩
    obtain ⟨y, z, y1, z1, yz⟩ := key
    have e2 : eqQ Z (zSl (zSl Z 195 i y) 196 i z) := eqQ_tr (eqQ_sl (by omega)) (eqQ_sl (by omega))
    obtain ⟨Z1, r1, r2⟩ := e18h ho hoc ht f (i + 1) n _ (by omega) (by omega) (cBk_q ho h e2) (cDr_q ho hb hd e2) (cTr_of htr (eqQ_B hb e2)) (fun a h1 h2 j hj => by
      by_cases q : a = i
      · subst q
        rw [sl_obj _ _ _ _ (by omega), sl_same, sl_same]
        exact yz h2 j hj
      · rw [sl_obj _ _ _ _ (by omega), sl_fld _ _ _ _ (by omega), sl_fld _ _ _ _ (by omega), sl_obj _ _ _ _ (by omega)]
        exact hE a (by omega) h2 j hj) (by
      unfold mM
      rw [sl_obj _ _ _ _ (by omega), sl_obj _ _ _ _ (by omega), sl_obj _ _ _ _ (by omega), sl_obj _ _ _ _ (by omega)]
      exact hM)
    refine ⟨Z1, ?_, eqQ_tr e2 r2⟩
    rw [f96_fewestWaived_h18, show (42 : Int32) = i3 42 from rfl, if_neg (by rw [c_ge (by omega)]; omega), if_pos (is_b hb), e6 hb (by omega), mjBp_some, if_pos (is_ac hb i (by omega)), y1, mjBp_some, if_pos (in_p (by omega)), ix_nat (by omega), let_eq, e6 hb (by omega), mjBp_some, if_pos (is_ac hb i (by omega)), sl_int, z1, mjBp_some, let_eq, i3_s]
    exact r1
theorem e96 (ho : okS S) (hoc : okC S) {t : Nat} (ht : t < 6) (h : cBk Z b S) (hd : cDr Z b S) (htr : cTr Z b S) : ∃ Z1, f96_fewestWaived b (i3 t) Z = some (i3 (bSt S t (2 ^ sA S)), Z1) ∧ eqQ Z Z1 := by
  have hb := b_b h
  have oa := all_le ho
  obtain ⟨Z1, r1, r2, r3, r4, r5⟩ := e326 (o := 197) (N := 168) (by decide) (by decide) (by omega) 0 Z
  obtain ⟨Z2, s1, s2, s3, s4, s5⟩ := e326 (o := 198) (N := 168) (by decide) (by decide) (by omega) 0 Z1
  have e1 : eqQ Z Z2 := ⟨by rw [s3, r3], fun a h1 h2 => ⟨by rw [s2, r2], by rw [s4 a (by unfold scr at h1; omega), r4 a (by unfold scr at h1; omega)]⟩, fun f _ => by rw [s2, r2], by rw [s4 211 (by omega), r4 211 (by omega)]⟩
  obtain ⟨Z3, t1, t2⟩ := e18h ho hoc ht 42 0 mjF Z2 (by omega) (by decide) (cBk_q ho h e1) (cDr_q ho hb hd e1) (cTr_of htr (eqQ_B hb e1)) (fun a h1 => by omega) (fun a ha v hv => by
    rw [s5 _ (by omega), s4 197 (by omega), r5 _ (by omega), show (0 : Int64) = i6 0 from rfl, b6_0, Bool.false_and])
  refine ⟨Z3, ?_, eqQ_tr e1 t2⟩
  unfold f96_fewestWaived
  rw [r1, mjBd_some, s1, mjBd_some]
  exact t1
/-! the model -/
theorem m318h (hk : okS S) (hoc : okC S) {t : Nat} (ht : t < 6) : ∀ f i n (Z : mjZt), i + f = sAll S → f < n → mRep Z S → mWv Z S W → ∃ Z1, f318_isClean_h2 n (i3 t) (i3 i) Z = some (i3 (if unF S W t f i = true then 1 else 0), Z1) ∧ eqQ Z Z1
  | f, i, 0, _, _, hn, _, _ => by omega
  | 0, i, n + 1, Z, hf, _, hm, hW => by
    obtain rfl : i = sAll S := by omega
    have oa := all_le hk
    exact ⟨Z, by rw [f318_isClean_h2, m251 hm hk, mjBp_some, if_pos (by rw [c_ge (by omega)]; omega)]; rfl, eqQ_rf⟩
  | f + 1, i, n + 1, Z, hf, hn, hm, hW => by
    have o1 := ok_sc hk
    have oa := all_le hk
    have hi : i < sAll S := by omega
    have t2 := tmA_lt hk hi
    have fb := fI_bd (fun r => sSt S W i (sTe S i) (sSz S i) r) (sR S) 0
    rw [f318_isClean_h2, m251 hm hk, mjBp_some, if_neg (by rw [c_ge (by omega)]; omega), m274 hm hk hi, mjBp_some, i3_s, unF]
    by_cases q1 : sTmA S i = t
    · obtain ⟨Z1, r1, r2⟩ := m298 hk hoc hi hm hW
      rw [if_neg (by rw [c_ne (by omega)]; omega), r1, mjBd_some, show (-1 : Int32) = i3 (-1) from rfl]
      by_cases q2 : fRu S W i (sTe S i) (sSz S i) = -1
      · have hs : stk S W i = false := decide_eq_false (by omega)
        obtain ⟨Z2, s1, s2⟩ := m318h hk hoc ht f (i + 1) n Z1 (by omega) (by omega) (mRep_q hm r2) (mWv_q hW r2)
        have U : (if sTmA S i = t ∧ stk S W i = true then false else unF S W t f (i + 1)) = unF S W t f (i + 1) := if_neg (fun g => by rw [hs] at g; exact absurd g.2 (by decide))
        refine ⟨Z2, ?_, eqQ_tr r2 s2⟩
        rw [U, if_pos (by rw [q2]; decide)]
        exact s1
      · have hs : stk S W i = true := decide_eq_true q2
        refine ⟨Z1, ?_, r2⟩
        rw [if_pos (show sTmA S i = t ∧ stk S W i = true from ⟨q1, hs⟩), if_neg (by unfold fRu at q2 ⊢; rw [c_eq (by omega)]; omega)]; rfl
    · have U : (if sTmA S i = t ∧ stk S W i = true then false else unF S W t f (i + 1)) = unF S W t f (i + 1) := if_neg (fun g => q1 g.1)
      rw [U, if_pos (by rw [c_ne (by omega)]; omega)]
      exact m318h hk hoc ht f (i + 1) n Z (by omega) (by omega) hm hW
/-- the same but for what a trial waives -/
def eqX (Z Z2 : mjZt) : Prop := ∀ c, eqQ (zSi Z 211 60 c) (zSi Z2 211 60 c)
theorem eqX_rf : eqX Z Z := fun _ => eqQ_rf
theorem eqX_tr {Z2 Z3 : mjZt} (h : eqX Z Z2) (g : eqX Z2 Z3) : eqX Z Z3 := fun c => eqQ_tr (h c) (g c)
theorem eqX_q {Z2 : mjZt} (h : eqQ Z Z2) : eqX Z Z2 := by
  intro c
  refine ⟨h.1, fun a h1 h2 => ⟨by rw [si_obj _ _ _ _ h2, si_obj _ _ _ _ h2]; exact (h.2.1 a h1 h2).1, (h.2.1 a h1 h2).2⟩, fun f hf => ?_, h.2.2.2⟩
  by_cases q : f = 60
  · subst q; rw [si_same, si_same]
  · rw [si_fld _ _ _ _ (by omega), si_fld _ _ _ _ (by omega)]; exact h.2.2.1 f hf
theorem eqX_si {v : Int32} : eqX Z (zSi Z 211 60 v) := by
  intro c
  refine ⟨rfl, fun a h1 h2 => ⟨by rw [si_obj _ _ _ _ h2, si_obj _ _ _ _ h2, si_obj _ _ _ _ h2], rfl⟩, fun f hf => ?_, rfl⟩
  by_cases q : f = 60
  · subst q; rw [si_same, si_same]
  · rw [si_fld _ _ _ _ (by omega), si_fld _ _ _ _ (by omega), si_fld _ _ _ _ (by omega)]
theorem eqX_f {Z2 : mjZt} (h : eqX Z Z2) {f : Nat} (h1 : f < 65) (h2 : f ≠ 60) : Z2.1 211 f = Z.1 211 f := by
  have := (h 0).2.2.1 f h1
  rw [si_fld _ _ _ _ (by omega), si_fld _ _ _ _ (by omega)] at this
  exact this
theorem eqX_m {Z2 : mjZt} (h : eqX Z Z2) (hm : mRep Z S) : mRep Z2 S := by
  refine mRep_of hm ⟨fun a ha => ?_, fun f h1 h2 => eqX_f h (by omega) (by omega)⟩
  have := (h 0).2.1 a (by unfold scr; omega) (by omega)
  rw [si_obj _ _ _ _ (by omega), si_obj _ _ _ _ (by omega)] at this
  exact this
theorem eqX_fin {Z2 : mjZt} (h : eqX Z Z2) (h1 : Z.1 211 60 = i3 0) (h2 : Z2.1 211 60 = i3 0) : eqQ Z Z2 := by
  refine ⟨(h 0).1, fun a g1 g2 => ⟨?_, ((h 0).2.1 a g1 g2).2⟩, fun f hf => ?_, (h 0).2.2.2⟩
  · have := ((h 0).2.1 a g1 g2).1
    rw [si_obj _ _ _ _ g2, si_obj _ _ _ _ g2] at this
    exact this
  · by_cases q : f = 60
    · subst q; rw [h1, h2]
    · exact eqX_f h hf q
theorem cm_m (hk : okS S) {m : Nat} (hm : m < 2 ^ sA S) {x : Int32} (hx : ∀ j, j < 32 → bt x j = (decide (j < sA S) && sW S j)) : (mjCmp .ne (i3 m &&& x) 0 = true) = ¬ (cmW S m = false) := by
  have o1 := ok_sc hk
  rw [ne_c]
  have e := bt_any (y := i3 (m : Int) &&& x) (p := fun j => m.testBit j && sW S j) (T := sA S) (by omega) (fun j hj => by
    rw [bt_and, bt_nat hj, hx j hj]
    by_cases q : j < sA S
    · rw [decide_eq_true q, Bool.true_and]
    · rw [tb_big hm (by omega), Bool.false_and, Bool.false_and]) (fun j h1 _ => by rw [tb_big hm h1, Bool.false_and])
  rw [e]
  rfl
theorem m319h (hk : okS S) (hoc : okC S) {t : Nat} (ht : t < sT S) {k : Int} (hkr : 0 ≤ k ∧ k ≤ 1) {x : Int32} (hx : ∀ j, j < 32 → bt x j = (decide (j < sA S) && sW S j)) : ∀ f m n (Z : mjZt), m + f = 2 ^ sA S → f < n → mRep Z S → Z.1 211 59 = i3 (-1) → ∃ Z1, f319_stays_h73 n (i3 t) (i3 k) (i3 (bSt S t m)) (i3 (bC S t m)) x (i3 m) Z = some (i3 (if bSt S t (2 ^ sA S) = -2 then -2 else if k = 0 then bC S t (2 ^ sA S) else bSt S t (2 ^ sA S)), Z1) ∧ eqX Z Z1 ∧ Z1.1 211 60 = i3 0
  | f, m, 0, _, _, hn, _, _ => by omega
  | 0, m, n + 1, Z, hf, _, hm, _ => by
    have o1 := ok_sc hk
    have hp := pw_le (k := sA S) (by omega)
    have bb := bC_bd (S := S) t m
    have sh := (sh_12 (sA S) (by omega)).1
    generalize hN : 2 ^ sA S = N at *
    obtain rfl : m = N := by omega
    refine ⟨zSi Z 211 60 (i3 0), ?_, eqX_si, si_same _ _ _ _⟩
    rw [f319_stays_h73, m_A hm, sh, if_pos (by rw [c_ge (by omega)]; omega), let_eq, show (-2 : Int32) = i3 (-2) from rfl, show (0 : Int32) = i3 0 from rfl]
    by_cases q : bSt S t m = -2
    · rw [if_neg (by rw [c_ne (by omega)]; omega), if_pos q]
    · rw [if_pos (by rw [c_ne (by omega)]; omega), if_neg q]
      by_cases q2 : k = 0
      · rw [if_neg (by rw [c_ne (by omega)]; omega), if_pos q2]
      · rw [if_pos (by rw [c_ne (by omega)]; omega), if_neg q2]
  | f + 1, m, n + 1, Z, hf, hn, hm, h59 => by
    have o1 := ok_sc hk
    have hp := pw_le (k := sA S) (by omega)
    have hm2 : m < 2 ^ sA S := by omega
    have bb := bC_bd (S := S) t m
    have cc := cb_le 12 m
    have c1 := cm_m hk hm2 hx
    have sh := (sh_12 (sA S) (by omega)).1
    have ih := fun Z2 hM h5 => m319h hk hoc ht hkr hx f (m + 1) n Z2 (by omega) (by omega) hM h5
    have i64 : (i3 (m : Int)).toInt64 = i6 m := i36 (by omega)
    have g1 : ¬ mjCmp .ge (i3 (m : Int)) (i3 ((2 ^ sA S : Nat) : Int)) = true := by rw [c_ge (by omega)]; omega
    rw [bC, bSt] at ih
    rw [f319_stays_h73, m_A hm, sh, if_neg g1, i3_s]
    by_cases q1 : cmW S m = false
    · rw [if_neg (by rw [c1]; exact fun g => g q1), m283, i64, cnt12 (by omega), mjBp_some]
      by_cases q2 : (cb 12 m : Int) < bC S t m
      · have hm3 : mRep (zSi Z 211 60 (i3 m)) S := eqX_m eqX_si hm
        have hW : mWv (zSi Z 211 60 (i3 m)) S (wM S m) := fun j hj => by
          rw [m278 hm3 hk (x := -1) (s := i3 m) (by omega) (by rw [si_fld _ _ _ _ (by omega)]; exact h59) (si_same _ _ _ _) hj, show decide ((j : Int) = -1) = false from decide_eq_false (by omega)]
          unfold wM
          rw [Bool.bne_false]
        obtain ⟨Z1, r1, r2⟩ := m318h hk hoc (W := wM S m) (show t < 6 by omega) (sAll S) 0 mjF _ (by omega) (by have := all_le hk; unfold mjF; omega) hm3 hW
        have eX : eqX Z Z1 := eqX_tr eqX_si (eqX_q r2)
        have st := ih Z1 (eqX_m eX hm) (by rw [eqX_f eX (by omega) (by omega)]; exact h59)
        rw [if_pos (by rw [c_lt (by omega)]; omega), let_eq]
        unfold f318_isClean
        rw [show i3 ((0 : Nat) : Int) = (0 : Int32) from rfl] at r1
        rw [r1, mjBd_some]
        by_cases q3 : unF S (wM S m) t (sAll S) 0 = true
        · rw [if_pos ⟨q1, q2, q3⟩, if_pos ⟨q1, q2, q3⟩] at st
          obtain ⟨Z2, s1, s2, s3⟩ := st
          exact ⟨Z2, by rw [if_pos (by rw [q3]; decide), m283, cnt12 (by omega), mjBp_some]; exact s1, eqX_tr eX s2, s3⟩
        · rw [if_neg (fun g => q3 g.2.2), if_neg (fun g => q3 g.2.2)] at st
          obtain ⟨Z2, s1, s2, s3⟩ := st
          have q4 : unF S (wM S m) t (sAll S) 0 = false := by simpa using q3
          exact ⟨Z2, by rw [if_neg (by rw [q4]; decide)]; exact s1, eqX_tr eX s2, s3⟩
      · have st := ih Z hm h59
        rw [if_neg (fun g => q2 g.2.1), if_neg (fun g => q2 g.2.1)] at st
        rw [if_neg (by rw [c_lt (by omega)]; omega)]
        exact st
    · have st := ih Z hm h59
      rw [if_neg (fun g => q1 g.1), if_neg (fun g => q1 g.1)] at st
      rw [if_pos (by rw [c1]; exact q1)]
      exact st
theorem m319a (hk : okS S) (hm : mRep Z S) (K : Int32) (x1 x2 x3 x4 : Int32) : ∀ f i n (x : Int32), i + f = sA S → f < n → (∀ j, j < 32 → bt x j = (decide (j < i) && sW S j)) → ∃ y, f319_stays_h33 n x1 x2 x3 x4 x (i3 i) Z = f319_stays_h73 mjF x1 x2 x3 x4 y 0 Z ∧ ∀ j, j < 32 → bt y j = (decide (j < sA S) && sW S j)
  | f, i, 0, _, _, hn, _ => by omega
  | 0, i, n + 1, x, hf, _, hx => by
    obtain rfl : i = sA S := by omega
    have o1 := ok_sc hk
    exact ⟨x, by rw [f319_stays_h33, m_A hm, if_pos (by rw [c_ge (by omega)]; omega)], hx⟩
  | f + 1, i, n + 1, x, hf, hn, hx => by
    have o1 := ok_sc hk
    have hi : i < sA S := by omega
    have oa := (ok_act hk hi).2.2.2.2.2.2.2.2.2.2
    have e0 : S 3 (72 + 3 * i + 2) = (if sW S i = true then 1 else 0) := by
      unfold sW
      rcases oa with q | q
      · rw [q]; simp
      · rw [q]; simp [hi]
    obtain ⟨y, r1, r2⟩ := m319a hk hm K x1 x2 x3 x4 f (i + 1) n _ (by omega) (by omega) (bt_put (by omega) rfl hx)
    refine ⟨y, ?_, r2⟩
    rw [f319_stays_h33, m_A hm, if_neg (by rw [c_ge (by omega)]; omega), show (72 : Int32) = i3 72 from rfl, show (3 : Int32) = i3 3 from rfl, show (2 : Int32) = i3 2 from rfl, i3_mul, i3_add, i3_add, if_pos (in_p (by omega)), ix_i3 (by omega), show ((72 : Int) + 3 * i + 2).toNat = 72 + 3 * i + 2 by omega, m_nw hm, let_eq, e0, i3_s]
    exact r1
theorem q_stays (hb : Z.2.2.1 = b) (h : cBk Z b S) (hd : cDr Z b S) (htr : cTr Z b S) (ho : okS S) (hoc : okC S) (hm : mRep Zm S) (h59 : Zm.1 211 59 = i3 (-1)) (h60 : Zm.1 211 60 = i3 0) (x y : Int32) : ∃ v Z1, f189_stays x y Z = some (v, Z1) ∧ eqQ Z Z1 ∧ ∃ Z2, f319_stays x y Zm = some (v, Z2) ∧ eqQ Zm Z2 := by
  have hb2 := b_b h
  have o1 := ok_sc ho
  have hp := pw_le (k := sA S) (by omega)
  unfold f189_stays f319_stays
  rw [hb]
  rcases tm_cases S x with ⟨t, rfl, ht⟩ | ⟨t, rfl, ht⟩
  · obtain ⟨k, rfl, hk1, hk2⟩ := i3_ex y
    by_cases q : 0 ≤ k ∧ k ≤ 1
    · obtain ⟨Z1, r1, r2⟩ := e96 ho hoc (show t < 6 by omega) h hd htr
      obtain ⟨w, w1, w2⟩ := m319a ho hm 0 (i3 t) (i3 k) (-2) 13 (sA S) 0 mjF 0 (by omega) (by unfold mjF; omega) (fun j hj => by rw [show (0 : Int32) = i3 0 from rfl, bt_0]; simp)
      obtain ⟨Z2, s1, s2, s3⟩ := m319h ho hoc ht q w2 (2 ^ sA S) 0 mjF Zm (by omega) (by unfold mjF; omega) hm h59
      have bb := bC_bd (S := S) t (2 ^ sA S)
      refine ⟨i3 (if bSt S t (2 ^ sA S) = -2 then -2 else if k = 0 then bC S t (2 ^ sA S) else bSt S t (2 ^ sA S)), Z1, ?_, r2, Z2, ?_, eqX_fin s2 h60 s3⟩
      · rw [if_pos (is_b hb2), e7t h ho ht, mjBp_some, if_neg (by decide), show (0 : Int32) = i3 0 from rfl, show (1 : Int32) = i3 1 from rfl, if_neg (by rw [c_lt (by omega)]; omega), if_pos (by rw [c_le (by omega)]; omega), r1, mjBd_some, show (-2 : Int32) = i3 (-2) from rfl]
        generalize hN : 2 ^ sA S = N at *
        by_cases q2 : bSt S t N = -2
        · rw [if_pos (by rw [q2]; decide), if_pos q2, q2]
        · obtain ⟨c, hc⟩ : ∃ c : Nat, bSt S t N = c := ⟨(bSt S t N).toNat, by omega⟩
          rw [if_neg (by rw [c_eq (by omega)]; omega), if_neg q2]
          by_cases q3 : k = 0
          · have g : bC S t N = cb 12 c := by
              have := bb.2.2
              rw [hc, Int.toNat_natCast] at this
              omega
            rw [if_pos (by rw [c_ne (by omega)]; omega), if_pos q3, e323, mjBp_some, hc, bc_12 c (by omega), g]
          · rw [if_neg (by rw [c_ne (by omega)]; omega), if_neg q3]
      · rw [m240t hm ho ht, mjBp_some, if_neg (by decide), i36 (by omega), show (0 : Int64) = i6 0 from rfl, show (1 : Int64) = i6 1 from rfl, m195t (by omega), mjBp_some, if_pos (by decide)]
        exact w1.trans s1
    · refine ⟨i3 (-1), Z, ?_, eqQ_rf, Zm, ?_, eqQ_rf⟩
      · rw [if_pos (is_b hb2), e7t h ho ht, mjBp_some, if_neg (by decide), show (0 : Int32) = i3 0 from rfl, show (-1 : Int32) = i3 (-1) from rfl, show (1 : Int32) = i3 1 from rfl]
        by_cases q2 : k < 0
        · rw [if_pos (by rw [c_lt (by omega)]; omega)]
        · rw [if_neg (by rw [c_lt (by omega)]; omega), if_neg (by rw [c_le (by omega)]; omega)]
      · rw [m240t hm ho ht, mjBp_some, if_neg (by decide), i36 (by omega), show (0 : Int64) = i6 0 from rfl, show (1 : Int64) = i6 1 from rfl, m195f (by omega), mjBp_some, if_neg (by decide)]; rfl
  · refine ⟨i3 (-1), Z, ?_, eqQ_rf, Zm, ?_, eqQ_rf⟩
    · rw [if_pos (is_b hb2), e7f h ho ht, mjBp_some, if_pos (by decide)]; rfl
    · rw [m240f hm ho ht, mjBp_some, if_pos (by decide)]; rfl
end S3
