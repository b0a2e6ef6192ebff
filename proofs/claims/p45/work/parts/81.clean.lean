/-! QUERIES: clean, free -/
def fsN (p : Nat → Bool) : Nat → Int
  | 0 => -1
  | n + 1 => if fsN p n = -1 then (if p n = true then (n : Int) else -1) else fsN p n
def lsN (p : Nat → Bool) : Nat → Int
  | 0 => -1
  | n + 1 => if p n = true then (n : Int) else lsN p n
theorem fsN_bd (p : Nat → Bool) : ∀ n, -1 ≤ fsN p n ∧ fsN p n < n
  | 0 => by simp [fsN]
  | n + 1 => by have := fsN_bd p n; rw [fsN]; split <;> (try split) <;> omega
theorem lsN_bd (p : Nat → Bool) : ∀ n, -1 ≤ lsN p n ∧ lsN p n < n
  | 0 => by simp [lsN]
  | n + 1 => by have := lsN_bd p n; rw [lsN]; split <;> omega
def tR (p : Nat → Bool) (N : Nat) (k : Int) : Int := if k = 0 then cN p N else if k = 1 then fsN p N else lsN p N
/-- whether no rule strikes an act of another tenth (m = 0) or size (m = 1) -/
def clP (S : mjS) (W : Nat → Bool) (a m v : Nat) : Bool := decide (fRu S W a (if m = 0 then (v : Int) else sTe S a) (if m = 0 then sSz S a else (v : Int)) = -1)
theorem i3_s0 (x : Int) : i3 x + 1 = i3 (x + 1) := by rw [show (1 : Int32) = i3 1 from rfl, i3_add]
theorem fI_neg {p : Nat → Bool} : ∀ f t i, fI p f t = -1 → t ≤ i → i < t + f → p i = false
  | 0, t, i, _, h1, h2 => by omega
  | f + 1, t, i, h, h1, h2 => by
    rw [fI] at h
    by_cases q : p t = true
    · rw [if_pos q] at h; omega
    · rw [if_neg q] at h
      by_cases q2 : i = t
      · subst q2; simpa using q
      · exact fI_neg f (t + 1) i h (by omega) (by omega)
theorem bt_none {y : Int32} {R : Nat} {P : Nat → Bool} (hR : R ≤ 32) (h : ∀ j, j < 32 → bt y j = (decide (j < R) && P j)) : (y = i3 0) = (fI P R 0 = -1) := by
  apply propext
  constructor
  · intro e
    subst e
    refine fI_none _ _ (fun i _ h2 => ?_)
    have := h i (by omega)
    rw [bt_0, decide_eq_true (show i < R by omega), Bool.true_and] at this
    exact this.symm
  · intro e
    refine bt_ext (fun i hi => ?_)
    rw [h i hi, bt_0]
    by_cases q : i < R
    · rw [decide_eq_true q, Bool.true_and]
      exact fI_neg R 0 i e (by omega) (by omega)
    · rw [decide_eq_false q, Bool.false_and]
theorem eqQ_sym {Z Z2 : mjZt} (h : eqQ Z Z2) : eqQ Z2 Z := ⟨h.1.symm, fun a h1 h2 => ⟨(h.2.1 a h1 h2).1.symm, (h.2.1 a h1 h2).2.symm⟩, fun f h1 => (h.2.2.1 f h1).symm, h.2.2.2.symm⟩
section Q81
variable {b : Nat} {S : mjS} {Z Zm : mjZt}
theorem okS_upd (ho : okS S) {a m : Nat} (ha : a < sA S) {v : Int} (hm : m = 0 ∧ 0 ≤ v ∧ v ≤ 9999 ∨ m = 1 ∧ 0 ≤ v ∧ v ≤ 99) : okS (updS S (72 + 3 * a + m) v) := by
  have e : ∀ f, f ≠ 3 → updS S (72 + 3 * a + m) v f = S f := fun f hf => updS_f hf
  have n : ∀ k, k ≠ 72 + 3 * a + m → updS S (72 + 3 * a + m) v 3 k = S 3 k := fun k hk => updS_n hk
  have y : updS S (72 + 3 * a + m) v 3 (72 + 3 * a + m) = v := updS_e
  generalize updS S (72 + 3 * a + m) v = S2 at e n y ⊢
  have g : eqG S S2 := ⟨e, fun k hk => n k (by omega)⟩
  obtain ⟨o1, o2, o3, o4, o5, o6, o7, o8, o9⟩ := ho
  unfold okS
  rw [g_T g, g_A g, g_R g, g_Lg g, e 0 (by omega)]
  refine ⟨o1, o2, ?_, o4, ?_, ?_, ?_, ?_, ?_⟩
  · unfold sTh sWi at o3 ⊢; rw [e 10 (by omega)]; exact o3
  · intro t ht; have := o5 t ht; unfold sLn at this ⊢; rw [g_Td g, e 1 (by omega), e 2 (by omega)]; exact this
  · intro t t2 ht ht2 h; unfold sLn at h; rw [e 1 (by omega)] at h; exact o6 t t2 ht ht2 h
  · intro t l ht hl; rw [g_Td g] at hl; have h5 := (o5 t ht).2.2.1; rw [g_Tn g (by omega) (by omega), g_Mt g (by omega) (by omega)]; exact o7 t l ht hl
  · intro c hc
    have h8 := o8 c hc
    rw [e 4 (by omega), e 5 (by omega), e 6 (by omega)]
    obtain ⟨p1, p2, p3, p4, p5, p6, p7, p8, p9, p10, p11⟩ := h8
    rw [n (72 + 3 * c + 2) (by omega)]
    refine ⟨p1, p2, p3, p4, p5, p6, ?_, ?_, ?_, ?_, p11⟩
    · by_cases q : 72 + 3 * c = 72 + 3 * a + m
      · rw [q, y]; omega
      · rw [n _ q]; exact p7
    · by_cases q : 72 + 3 * c = 72 + 3 * a + m
      · rw [q, y]; omega
      · rw [n _ q]; exact p8
    · by_cases q : 72 + 3 * c + 1 = 72 + 3 * a + m
      · rw [q, y]; omega
      · rw [n _ q]; exact p9
    · by_cases q : 72 + 3 * c + 1 = 72 + 3 * a + m
      · rw [q, y]; omega
      · rw [n _ q]; exact p10
  · rw [e 7 (by omega)]; exact o9
theorem sW_upd {a m : Nat} (hm : m < 2) {v : Int} : sW (updS S (72 + 3 * a + m) v) = sW S := by
  funext c
  unfold sW sA
  rw [updS_f (by omega), updS_n (by omega)]
theorem okC_of {S2 : mjS} (hoc : okC S) (e : ∀ f, f ≠ 3 → S2 f = S f) : okC S2 := by
  have e1 : spS S2 = spS S := by funext i; unfold spS; exact g_spF e _ _
  have e2 : lfS S2 = lfS S := by funext i; exact g_lf e i
  intro r p hr hp
  unfold sR at hr
  rw [e 10 (by omega)] at hr
  have h := hoc r p hr hp
  unfold sFr sTo sCa WF ciS at h ⊢
  rw [e1, e2, e 8 (by omega), e 9 (by omega)]
  exact h
theorem okC_upd {K : Nat} {v : Int} (hoc : okC S) : okC (updS S K v) := by
  have e : ∀ f, f ≠ 3 → updS S K v f = S f := fun f hf => updS_f hf
  generalize updS S K v = S2 at e ⊢
  exact okC_of hoc e
theorem si_self {K : Nat} : eqQ Z (zSi Z 239 K (Z.1 239 K)) := by
  have e : (zSi Z 239 K (Z.1 239 K)).1 = Z.1 := by
    funext i j
    unfold zSi
    by_cases q : i = 239
    · subst q
      by_cases q2 : j = K
      · subst q2; simp
      · simp [q2]
    · simp [q]
  exact ⟨rfl, fun a _ _ => ⟨by rw [e], rfl⟩, fun f _ => by rw [e], rfl⟩
theorem si_si {K : Nat} {x c : Int32} : zSi (zSi Z 239 K x) 239 K c = zSi Z 239 K c := by
  unfold zSi
  refine Prod.ext ?_ rfl
  funext i j
  by_cases q : i = 239
  · subst q
    by_cases q2 : j = K
    · subst q2; simp
    · simp [q2]
  · simp [q]
theorem eqQ_239 {Z2 : mjZt} {K : Nat} {c : Int32} (h : eqQ Z Z2) : eqQ (zSi Z 239 K c) (zSi Z2 239 K c) := by
  refine ⟨h.1, fun a h1 h2 => ⟨?_, (h.2.1 a h1 h2).2⟩, fun f hf => ?_, h.2.2.2⟩
  · have := (h.2.1 a h1 h2).1
    funext j
    unfold zSi
    simp only [this]
  · have := h.2.2.1 f hf
    unfold zSi
    simp only [this]
/-! the model's loop -/
theorem m299h (ho : okS S) (hoc : okC S) {a m : Nat} (ha : a < sA S) (hm : m < 2) {k : Int} (hk : 0 ≤ k ∧ k ≤ 2) {N : Nat} (hN : N = if m = 0 then 1000 else 100) : ∀ f v n y (Z : mjZt), v + f = N → f < n → mRep Z (updS S (72 + 3 * a + m) y) → Z.1 211 59 = i3 (-1) → Z.1 211 60 = i3 0 → ∃ Z2, f299_without_h60 n (i3 a) (i3 m) (i3 ((N - 1 : Nat) : Int)) (i3 k) (i3 (S 3 (72 + 3 * a + m))) (i3 (cN (clP S (sW S) a m) v)) (i3 (fsN (clP S (sW S) a m) v)) (i3 (lsN (clP S (sW S) a m) v)) (i3 v) Z = some (i3 (tR (clP S (sW S) a m) N k), Z2) ∧ (∀ c, eqQ (zSi Z 239 (72 + 3 * a + m) c) (zSi Z2 239 (72 + 3 * a + m) c)) ∧ Z2.1 239 (72 + 3 * a + m) = i3 (S 3 (72 + 3 * a + m))
  | f, v, 0, _, _, _, hn, _, _, _ => by omega
  | 0, v, n + 1, y, Z, hf, _, hr, _, _ => by
    obtain rfl : v = N := by omega
    have o1 := ok_sc ho
    have b1 := cN_bd (clP S (sW S) a m) v
    have hv : v ≤ 1000 ∧ 1 ≤ v := by rw [hN]; split <;> omega
    refine ⟨zSi Z 239 (72 + 3 * a + m) (i3 (S 3 (72 + 3 * a + m))), ?_, fun c => by rw [si_si]; exact eqQ_rf, si_same _ _ _ _⟩
    rw [f299_without_h60, if_pos (by rw [c_gt (by omega)]; omega), show (72 : Int32) = i3 72 from rfl, show (3 : Int32) = i3 3 from rfl, i3_mul, i3_add, i3_add, if_pos (in_p (by omega)), ix_i3 (by omega), show ((72 : Int) + 3 * a + m).toNat = 72 + 3 * a + m by omega, let_eq]
    unfold tR
    rcases (by omega : k = 0 ∨ k = 1 ∨ k = 2) with rfl | rfl | rfl
    · rw [if_neg (by decide), if_pos rfl]
    · rw [if_pos (by decide), if_neg (by decide), if_neg (by decide), if_pos rfl]
    · rw [if_pos (by decide), if_pos (by decide), if_neg (by decide), if_neg (by decide)]
  | f + 1, v, n + 1, y, Z, hf, hn, hr, h59, h60 => by
    have o1 := ok_sc ho
    have b1 := cN_bd (clP S (sW S) a m) v
    have b2 := fsN_bd (clP S (sW S) a m) v
    have hv : N ≤ 1000 ∧ (m = 0 → v < 1000) ∧ (m = 1 → v < 100) := by rw [hN] at hf ⊢; split at hf <;> split <;> omega
    have ho2 : okS (updS S (72 + 3 * a + m) v) := okS_upd ho ha (by omega)
    have hr2 : mRep (zSi Z 239 (72 + 3 * a + m) (i3 v)) (updS S (72 + 3 * a + m) v) := mRep_upd hr
    have hw2 := mWv_0 hr2 ho2 (by rw [si_obj _ _ _ _ (by omega)]; exact h59) (by rw [si_obj _ _ _ _ (by omega)]; exact h60)
    have g : eqG S (updS S (72 + 3 * a + m) v) := ⟨fun f hf => updS_f hf, fun k hk => updS_n (by omega)⟩
    have ea : eqA S (updS S (72 + 3 * a + m) v) a := ⟨fun f hf => updS_f hf, fun k h1 h2 => updS_n (by omega)⟩
    obtain ⟨Z1, r1, r2⟩ := m298 ho2 (okC_upd hoc) (a := a) (by unfold sAll; rw [g_A g]; omega) hr2 hw2
    rw [sW_upd hm, a_Ru ea ho ha] at r1
    have hP : clP S (sW S) a m v = decide (fRu S (sW S) a (sTe (updS S (72 + 3 * a + m) v) a) (sSz (updS S (72 + 3 * a + m) v) a) = -1) := by
      unfold clP sTe sSz
      rw [g_A g, if_pos ha, if_pos ha, if_pos ha, if_pos ha]
      rcases (by omega : m = 0 ∨ m = 1) with rfl | rfl
      · rw [if_pos rfl, if_pos rfl, show updS S (72 + 3 * a + 0) v 3 (72 + 3 * a) = v from updS_e, updS_n (by omega)]
      · rw [if_neg (by omega), if_neg (by omega), updS_e, updS_n (by omega)]
    have hbd : -1 ≤ fRu S (sW S) a (sTe (updS S (72 + 3 * a + m) v) a) (sSz (updS S (72 + 3 * a + m) v) a) ∧ fRu S (sW S) a (sTe (updS S (72 + 3 * a + m) v) a) (sSz (updS S (72 + 3 * a + m) v) a) < 8 := by
      have := fI_bd (fun r => sSt S (sW S) a (sTe (updS S (72 + 3 * a + m) v) a) (sSz (updS S (72 + 3 * a + m) v) a) r) (sR S) 0
      unfold fRu
      omega
    obtain ⟨Z2, s1, s2, s3⟩ := m299h ho hoc ha hm hk hN f (v + 1) n v Z1 (by omega) (by omega) (mRep_q hr2 r2) (by rw [r2.2.2.1 59 (by omega), si_obj _ _ _ _ (by omega)]; exact h59) (by rw [r2.2.2.1 60 (by omega), si_obj _ _ _ _ (by omega)]; exact h60)
    refine ⟨Z2, ?_, fun c => ?_, s3⟩
    · rw [cN, fsN, lsN, hP] at s1
      rw [f299_without_h60, if_neg (by rw [c_gt (by omega)]; omega), show (72 : Int32) = i3 72 from rfl, show (3 : Int32) = i3 3 from rfl, i3_mul, i3_add, i3_add, if_pos (in_p (by omega)), ix_i3 (by omega), show ((72 : Int) + 3 * a + m).toNat = 72 + 3 * a + m by omega, let_eq, r1, mjBd_some, show (-1 : Int32) = i3 (-1) from rfl, i3_s]
      by_cases q : fRu S (sW S) a (sTe (updS S (72 + 3 * a + m) v) a) (sSz (updS S (72 + 3 * a + m) v) a) = -1
      · rw [decide_eq_true q, if_pos rfl, if_pos rfl, if_pos rfl] at s1
        rw [if_pos (by rw [c_eq (by omega)]; omega), i3_s0]
        by_cases q2 : fsN (clP S (sW S) a m) v = -1
        · rw [if_pos q2] at s1
          rw [if_neg (by rw [c_ne (by omega)]; omega)]
          exact s1
        · rw [if_neg q2] at s1
          rw [if_pos (by rw [c_ne (by omega)]; omega)]
          exact s1
      · rw [decide_eq_false q] at s1
        simp only [Bool.false_eq_true, if_false, Int.add_zero] at s1
        rw [if_neg (by rw [c_eq (by omega)]; omega)]
        have : (if fsN (clP S (sW S) a m) v = -1 then (-1 : Int) else fsN (clP S (sW S) a m) v) = fsN (clP S (sW S) a m) v := by split <;> omega
        try rw [this] at s1
        exact s1
    · have := eqQ_239 (K := 72 + 3 * a + m) (c := c) r2
      rw [si_si] at this
      exact eqQ_tr this (s2 c)
/-! the class's loop -/
theorem e94h (ho : okS S) (hoc : okC S) {a m : Nat} (ha : a < sA S) (hm : m < 2) {k : Int} (hk : 0 ≤ k ∧ k ≤ 2) {N : Nat} (hN : N = if m = 0 then 1000 else 100) : ∀ f v n (Z : mjZt), v + f = N → f < n → cBk Z b S → cDr Z b S → cTr Z b S → ∃ Z1, f94_tally_h33 n b (i3 a) (i3 m) (i3 k) (acB b a) (i3 ((N - 1 : Nat) : Int)) (i3 (cN (clP S (sW S) a m) v)) (i3 (fsN (clP S (sW S) a m) v)) (i3 (lsN (clP S (sW S) a m) v)) (i3 v) Z = some (i3 (tR (clP S (sW S) a m) N k), Z1) ∧ eqQ Z Z1
  | f, v, 0, _, _, hn, _, _, _ => by omega
  | 0, v, n + 1, Z, hf, _, _, _, _ => by
    obtain rfl : v = N := by omega
    have hv : v ≤ 1000 ∧ 1 ≤ v := by rw [hN]; split <;> omega
    refine ⟨Z, ?_, eqQ_rf⟩
    rw [f94_tally_h33, if_pos (by rw [c_gt (by omega)]; omega)]
    unfold tR
    rcases (by omega : k = 0 ∨ k = 1 ∨ k = 2) with rfl | rfl | rfl
    · rw [if_neg (by decide), if_pos rfl]
    · rw [if_pos (by decide), if_neg (by decide), if_neg (by decide), if_pos rfl]
    · rw [if_pos (by decide), if_pos (by decide), if_neg (by decide), if_neg (by decide)]
  | f + 1, v, n + 1, Z, hf, hn, h, hd, htr => by
    have o1 := ok_sc ho
    have hb := b_b h
    have hal : a < sAll S := by unfold sAll; omega
    have b2 := fsN_bd (clP S (sW S) a m) v
    have hv : N ≤ 1000 ∧ (m = 0 → v < 1000) ∧ (m = 1 → v < 100) := by rw [hN] at hf ⊢; split at hf <;> split <;> omega
    have t1 := te_bd ho hal
    have t2 := sz_bd ho hal
    obtain ⟨_, _, _, d4, d5⟩ := d_ac hd hal
    have step : ∀ te sz : Int, 0 ≤ te → te ≤ 9999 → 0 ≤ sz → sz ≤ 9999 → (fRu S (sW S) a te sz = -1) = (clP S (sW S) a m v = true) → ∃ Z1, f94_tally_j70 (f94_tally_h33 n) b (i3 a) (i3 m) (i3 k) (acB b a) (i3 ((N - 1 : Nat) : Int)) (i3 (cN (clP S (sW S) a m) v)) (i3 (fsN (clP S (sW S) a m) v)) (i3 (lsN (clP S (sW S) a m) v)) (i3 v) (i3 te) (i3 sz) Z = some (i3 (tR (clP S (sW S) a m) N k), Z1) ∧ eqQ Z Z1 := by
      intro te sz h1 h2 h3 h4 hc
      obtain ⟨y, Z1, r1, r2, _, _, r5⟩ := e93 ho hoc hal ⟨h1, h2⟩ ⟨h3, h4⟩ h hd htr (fun j _ => wv_bit h (by have := all_le ho; omega))
      obtain ⟨Z2, s1, s2⟩ := e94h ho hoc ha hm hk hN f (v + 1) n Z1 (by omega) (by omega) (cBk_q ho h r2) (cDr_q ho hb hd r2) (cTr_of htr (eqQ_B hb r2))
      refine ⟨Z2, ?_, eqQ_tr r2 s2⟩
      have hy := bt_none (R := sR S) (P := fun r => sSt S (sW S) a te sz r) (by omega) r5
      rw [cN, fsN, lsN] at s1
      rw [f94_tally_j70, if_pos (is_b hb), r1, mjBd_some, show (-1 : Int32) = i3 (-1) from rfl, i3_s, show (0 : Int32) = i3 0 from rfl]
      by_cases q : clP S (sW S) a m v = true
      · rw [q, if_pos rfl, if_pos rfl, if_pos rfl] at s1
        have e : y = i3 0 := by rw [hy]; rw [← hc] at q; exact q
        rw [e, if_neg (by decide), i3_s0]
        by_cases q2 : fsN (clP S (sW S) a m) v = -1
        · rw [if_pos q2] at s1
          rw [if_neg (by rw [c_ne (by omega)]; omega)]
          exact s1
        · rw [if_neg q2] at s1
          rw [if_pos (by rw [c_ne (by omega)]; omega)]
          exact s1
      · have e : ¬ y = i3 0 := by rw [hy]; rw [← hc] at q; exact q
        have e2 : mjCmp .ne y (i3 0) = true := by
          obtain ⟨z, rfl, z1, z2⟩ := i3_ex y
          rw [c_ne (by omega)]
          intro e3; exact e (by rw [e3])
        rw [if_neg q, if_neg q, if_neg q, Int.add_zero] at s1
        rw [if_pos e2]
        have : (if fsN (clP S (sW S) a m) v = -1 then (-1 : Int) else fsN (clP S (sW S) a m) v) = fsN (clP S (sW S) a m) v := by split <;> omega
        rw [this] at s1
        exact s1
    rw [f94_tally_h33, if_neg (by rw [c_gt (by omega)]; omega)]
    rcases (by omega : m = 0 ∨ m = 1) with rfl | rfl
    · rw [if_pos (by decide), f94_tally_j54, if_pos (by decide), if_pos (is_ac hb a (by omega)), d5]
      exact step v (sSz S a) (by omega) (by omega) (by omega) (by omega) (by unfold clP; rw [if_pos rfl, if_pos rfl, decide_eq_true_eq])
    · rw [if_neg (by decide), if_pos (is_ac hb a (by omega)), f94_tally_j54, if_neg (by decide), d4]
      exact step (sTe S a) v (by omega) (by omega) (by omega) (by omega) (by unfold clP; rw [if_neg (by omega), if_neg (by omega), decide_eq_true_eq])
theorem e94 (ho : okS S) (hoc : okC S) {a m : Nat} (ha : a < sA S) (hm : m < 2) {k : Int} (hk : 0 ≤ k ∧ k ≤ 2) (h : cBk Z b S) (hd : cDr Z b S) (htr : cTr Z b S) : ∃ Z1, f94_tally b (i3 a) (i3 m) (i3 k) Z = some (i3 (tR (clP S (sW S) a m) (if m = 0 then 1000 else 100) k), Z1) ∧ eqQ Z Z1 := by
  have hb := b_b h
  have o1 := ok_sc ho
  unfold f94_tally f94_tally_j19
  rw [if_pos (is_b hb), e6 hb (by omega), mjBp_some]
  rcases (by omega : m = 0 ∨ m = 1) with rfl | rfl
  · rw [if_pos (by decide)]
    exact e94h ho hoc ha hm hk rfl 1000 0 mjF Z (by decide) (by decide) h hd htr
  · rw [if_neg (by decide)]
    exact e94h ho hoc ha hm hk rfl 100 0 mjF Z (by decide) (by decide) h hd htr
theorem m299 (ho : okS S) (hoc : okC S) {m : Nat} (hm : m < 2) (hr : mRep Z S) (h59 : Z.1 211 59 = i3 (-1)) (h60 : Z.1 211 60 = i3 0) {a : Nat} (ha : a < sA S) {k : Int} (hk : 0 ≤ k ∧ k ≤ 2) : ∃ Z2, f299_without (i3 a) (i3 m) (i3 (((if m = 0 then 1000 else 100) - 1 : Nat) : Int)) (i3 k) Z = some (i3 (tR (clP S (sW S) a m) (if m = 0 then 1000 else 100) k), Z2) ∧ eqQ Z Z2 := by
  have o1 := ok_sc ho
  unfold f299_without
  have hr0 : mRep Z (updS S (72 + 3 * a + m) (S 3 (72 + 3 * a + m))) := by rw [updS_self]; exact hr
  obtain ⟨Z2, s1, s2, s3⟩ := m299h ho hoc ha hm hk rfl (if m = 0 then 1000 else 100) 0 mjF _ Z (by omega) (by unfold mjF; split <;> omega) hr0 h59 h60
  refine ⟨Z2, ?_, ?_⟩
  · rw [m_A hr, i3_p, i36 (by omega), i36 (by omega), show (0 : Int64) = i6 0 from rfl, m195t (by omega), mjBp_some, if_neg (by decide), i36 (by omega), show (2 : Int64) = i6 2 from rfl, m195t (by omega), mjBp_some, if_pos (by decide), show (72 : Int32) = i3 72 from rfl, show (3 : Int32) = i3 3 from rfl, i3_mul, i3_add, i3_add, if_pos (in_p (by omega)), ix_i3 (by omega), show ((72 : Int) + 3 * a + m).toNat = 72 + 3 * a + m by omega, m_nw hr]
    exact s1
  · have e1 := s2 (i3 (S 3 (72 + 3 * a + m)))
    have e2 := si_self (Z := Z2) (K := 72 + 3 * a + m)
    have e3 := si_self (Z := Z) (K := 72 + 3 * a + m)
    rw [s3] at e2
    rw [m_nw hr] at e3
    exact eqQ_tr e3 (eqQ_tr e1 (eqQ_sym e2))
theorem cl_fr (hb : Z.2.2.1 = b) (h : cBk Z b S) (hd : cDr Z b S) (htr : cTr Z b S) (ho : okS S) (hoc : okC S) (hm : mRep Zm S) (h59 : Zm.1 211 59 = i3 (-1)) (h60 : Zm.1 211 60 = i3 0) {m : Nat} (hmm : m < 2) (x y : Int32) : ∃ v Z1, (if mjIs Z.2.2.1 211 2 = true then
  mjBp (f18_wasTold Z.2.2.1 x Z) fun v103 =>
  if mjCmp .eq v103 0 = true then
    some ((-2000000), Z)
  else
    if mjCmp .lt y 0 = true then
      some ((-2000000), Z)
    else
      if mjCmp .le y 2 = true then
        mjBd (f94_tally Z.2.2.1 x (i3 m) y Z) fun v109 Z110 =>
        some (v109, Z110)
      else
        some ((-2000000), Z)
  else none) = some (v, Z1) ∧ eqQ Z Z1 ∧ ∃ Z2, f299_without x (i3 m) (i3 (((if m = 0 then 1000 else 100) - 1 : Nat) : Int)) y Zm = some (v, Z2) ∧ eqQ Zm Z2 := by
  have o1 := ok_sc ho
  have hb2 := b_b h
  rw [hb]
  rcases tl_cases S x with ⟨a, rfl, ha⟩ | ⟨a, rfl, ha⟩
  · obtain ⟨k, rfl, hk1, hk2⟩ := i3_ex y
    by_cases q : 0 ≤ k ∧ k ≤ 2
    · obtain ⟨Z1, r1, r2⟩ := e94 (Z := Z) ho hoc ha hmm q h hd htr
      obtain ⟨Z2, s1, s2⟩ := m299 ho hoc hmm hm h59 h60 ha q
      refine ⟨_, Z1, ?_, r2, Z2, s1, s2⟩
      rw [if_pos (is_b hb2), e18t h ho ha, mjBp_some, if_neg (by decide), show (0 : Int32) = i3 0 from rfl, if_neg (by rw [c_lt (by omega)]; omega), show (2 : Int32) = i3 2 from rfl, if_pos (by rw [c_le (by omega)]; omega), r1, mjBd_some]
    · refine ⟨i3 (-2000000), Z, ?_, eqQ_rf, Zm, ?_, eqQ_rf⟩
      · rw [if_pos (is_b hb2), e18t h ho ha, mjBp_some, if_neg (by decide), show (0 : Int32) = i3 0 from rfl, show (2 : Int32) = i3 2 from rfl]
        by_cases q2 : k < 0
        · rw [if_pos (by rw [c_lt (by omega)]; omega)]; rfl
        · rw [if_neg (by rw [c_lt (by omega)]; omega), if_neg (by rw [c_le (by omega)]; omega)]; rfl
      · unfold f299_without
        rw [m_A hm, i3_p, i36 (by omega), i36 (by omega), show (0 : Int64) = i6 0 from rfl, m195t (by omega), mjBp_some, if_neg (by decide), i36 (by omega), show (2 : Int64) = i6 2 from rfl, m195f (by omega), mjBp_some, if_neg (by decide)]; rfl
  · refine ⟨i3 (-2000000), Z, ?_, eqQ_rf, Zm, ?_, eqQ_rf⟩
    · rw [if_pos (is_b hb2), e18f h ho ha, mjBp_some, if_pos (by decide)]; rfl
    · unfold f299_without
      rw [m_A hm, i3_p, i36 (by omega), i36 (by omega), show (0 : Int64) = i6 0 from rfl, m195f (by omega), mjBp_some, if_pos (by decide)]; rfl
theorem q_clean (hb : Z.2.2.1 = b) (h : cBk Z b S) (hd : cDr Z b S) (htr : cTr Z b S) (ho : okS S) (hoc : okC S) (hm : mRep Zm S) (h59 : Zm.1 211 59 = i3 (-1)) (h60 : Zm.1 211 60 = i3 0) (x y : Int32) : ∃ v Z1, f177_clean x y Z = some (v, Z1) ∧ eqQ Z Z1 ∧ ∃ Z2, f300_clean x y Zm = some (v, Z2) ∧ eqQ Zm Z2 := by
  obtain ⟨v, Z1, r1, r2, Z2, s1, s2⟩ := cl_fr hb h hd htr ho hoc hm h59 h60 (m := 1) (by omega) x y
  exact ⟨v, Z1, r1, r2, Z2, by unfold f300_clean; rw [show (1 : Int32) = i3 ((1 : Nat) : Int) from rfl, show (99 : Int32) = i3 (((if 1 = 0 then 1000 else 100) - 1 : Nat) : Int) from rfl, s1, mjBd_some], s2⟩
theorem q_free (hb : Z.2.2.1 = b) (h : cBk Z b S) (hd : cDr Z b S) (htr : cTr Z b S) (ho : okS S) (hoc : okC S) (hm : mRep Zm S) (h59 : Zm.1 211 59 = i3 (-1)) (h60 : Zm.1 211 60 = i3 0) (x y : Int32) : ∃ v Z1, f178_free x y Z = some (v, Z1) ∧ eqQ Z Z1 ∧ ∃ Z2, f301_free x y Zm = some (v, Z2) ∧ eqQ Zm Z2 := by
  obtain ⟨v, Z1, r1, r2, Z2, s1, s2⟩ := cl_fr hb h hd htr ho hoc hm h59 h60 (m := 0) (by omega) x y
  exact ⟨v, Z1, r1, r2, Z2, by unfold f301_free; rw [show (0 : Int32) = i3 ((0 : Nat) : Int) from rfl, show (999 : Int32) = i3 (((if 0 = 0 then 1000 else 100) - 1 : Nat) : Int) from rfl, s1, mjBd_some], s2⟩
end Q81
