/-! THE FIRST LINE -/
def sOf (Z : mjZt) : mjS := fun f k =>
  if f = 0 then (Z.1 218 k).toInt else if f = 1 then (Z.1 219 k).toInt else if f = 2 then (Z.1 220 k).toInt else if f = 3 then (Z.1 221 k).toInt else if f = 4 then (Z.1 222 k).toInt else if f = 5 then (Z.1 223 k).toInt else if f = 6 then (Z.1 224 k).toInt else if f = 7 then (Z.1 225 k).toInt else if f = 8 then (Z.1 226 k).toInt else if f = 9 then (Z.1 215 k).toInt
  else if f = 10 then (if k = 3 then 2 else if k = 4 then 5 else 0) else if f = 11 then (Z.2.1 227 k).toInt else (Z.2.1 228 k).toInt
theorem sOf_ex (Z : mjZt) : ∃ S : mjS, ((∀ k, Z.1 218 k = i3 (S 0 k)) ∧ (∀ k, Z.1 219 k = i3 (S 1 k)) ∧ (∀ k, Z.1 220 k = i3 (S 2 k)) ∧ (∀ k, Z.1 221 k = i3 (S 3 k)) ∧ (∀ k, Z.1 222 k = i3 (S 4 k)) ∧ (∀ k, Z.1 223 k = i3 (S 5 k)) ∧ (∀ k, Z.1 224 k = i3 (S 6 k)) ∧ (∀ k, Z.1 225 k = i3 (S 7 k)) ∧ (∀ k, Z.1 226 k = i3 (S 8 k)) ∧ (∀ k, Z.1 215 k = i3 (S 9 k))) ∧ (∀ k, Z.2.1 227 k = i6 (S 11 k)) ∧ (∀ k, Z.2.1 228 k = i6 (S 12 k)) ∧ (S 10 0 = 0 ∧ S 10 1 = 0 ∧ S 10 2 = 0 ∧ S 10 3 = 2 ∧ S 10 4 = 5) ∧ ∀ k, S 0 k = (Z.1 218 k).toInt :=
  ⟨sOf Z, ⟨fun k => (i3_toInt _).symm, fun k => (i3_toInt _).symm, fun k => (i3_toInt _).symm, fun k => (i3_toInt _).symm, fun k => (i3_toInt _).symm, fun k => (i3_toInt _).symm, fun k => (i3_toInt _).symm, fun k => (i3_toInt _).symm, fun k => (i3_toInt _).symm, fun k => (i3_toInt _).symm⟩, fun k => (i6_toInt _).symm, fun k => (i6_toInt _).symm, ⟨rfl, rfl, rfl, rfl, rfl⟩, fun _ => rfl⟩
/-- what the first line leaves of the class, of the model -/
def eqC0 (b : Nat) (Z Z2 : mjZt) : Prop := Z2.2.2 = Z.2.2 ∧ (∀ a, a ≠ 182 → a ≠ 183 → Z2.2.1 a = Z.2.1 a) ∧ (∀ a, a ≠ 182 → a ≠ 183 → a ≠ b → Z2.1 a = Z.1 a) ∧ (∀ f, 5 ≤ f → Z2.1 b f = Z.1 b f) ∧ ∀ f, f ≠ 4 → Z2.1 182 f = Z.1 182 f
def eqM0 (Z Z2 : mjZt) : Prop := Z2.2.2 = Z.2.2 ∧ (∀ a, a ≠ 211 → Z2.2.1 a = Z.2.1 a) ∧ (∀ a, a ≠ 211 → a ≠ 218 → Z2.1 a = Z.1 a) ∧ ∀ f, (f < 5 ∨ 8 < f) → Z2.1 211 f = Z.1 211 f
theorem eqC0_tr {b : Nat} {Z Z2 Z3 : mjZt} (h : eqC0 b Z Z2) (g : eqC0 b Z2 Z3) : eqC0 b Z Z3 := ⟨g.1.trans h.1, fun a q r => (g.2.1 a q r).trans (h.2.1 a q r), fun a q1 q2 q3 => (g.2.2.1 a q1 q2 q3).trans (h.2.2.1 a q1 q2 q3), fun f q => (g.2.2.2.1 f q).trans (h.2.2.2.1 f q), fun f q => (g.2.2.2.2 f q).trans (h.2.2.2.2 f q)⟩
theorem eqM0_tr {Z Z2 Z3 : mjZt} (h : eqM0 Z Z2) (g : eqM0 Z2 Z3) : eqM0 Z Z3 := ⟨g.1.trans h.1, fun a q => (g.2.1 a q).trans (h.2.1 a q), fun a q1 q2 => (g.2.2.1 a q1 q2).trans (h.2.2.1 a q1 q2), fun f q => (g.2.2.2 f q).trans (h.2.2.2 f q)⟩
theorem eqT2_0 {b : Nat} {Z Z2 : mjZt} (hb : b = 2 ∨ b = 92) (h : eqT2 Z Z2) : eqC0 b Z Z2 := ⟨h.1, fun a q r => (h.2.1 a q r).2, fun a q1 q2 _ => (h.2.1 a q1 q2).1, fun f _ => by rw [(h.2.1 b (by omega) (by omega)).1], h.2.2⟩
theorem eqC0_si {b : Nat} {Z : mjZt} (hb : b = 2 ∨ b = 92) {k : Nat} {v : Int32} (hk : k < 5) : eqC0 b Z (zSi Z b k v) := ⟨rfl, fun _ _ _ => rfl, fun a _ _ q => si_obj _ _ _ _ q, fun f q => si_fld _ _ _ _ (by omega), fun f q => by rw [si_obj _ _ _ _ (by omega)]⟩
theorem eqGo_0 {Z Z2 : mjZt} (h : eqGo Z Z2) : eqM0 Z Z2 := ⟨h.1, fun a q => (h.2.1 a q).2, fun a q _ => (h.2.1 a q).1, h.2.2⟩
theorem eqM0_si {Z : mjZt} {k : Nat} {v : Int32} : eqM0 Z (zSi Z 218 k v) := ⟨rfl, fun _ _ => rfl, fun a _ q => si_obj _ _ _ _ q, fun f _ => by rw [si_obj _ _ _ _ (by omega)]⟩
theorem eqC0_R {b : Nat} {Z Z2 : mjZt} (h : eqC0 b Z Z2) : eqRc b Z Z2 := ⟨h.1, fun a q => ⟨h.2.2.1 a (by unfold rdw at q; omega) (by unfold rdw at q; omega) (by unfold rdw at q; omega), h.2.1 a (by unfold rdw at q; omega) (by unfold rdw at q; omega)⟩⟩
theorem eqM0_R {Z Z2 : mjZt} (h : eqM0 Z Z2) : eqRd Z Z2 := ⟨h.1, fun a q1 q2 q3 q4 => ⟨h.2.2.1 a q1 (by omega), h.2.1 a q1⟩, fun f q => h.2.2.2 f (by omega)⟩
section TR
variable {X : Nat → Nat} {n b : Nat} {Z Zc Zm : mjZt} {p : Nat}
theorem flt_w {k : Int} {q a j : Nat} {v : Int32} (h : fltM Z k q) (ha : a ≠ 211) : fltM (zSi Z a j v) k q := fltM_of h (by rw [si_obj _ _ _ _ (by omega)]) (by rw [si_obj _ _ _ _ (by omega)])
theorem trk5 {k : Int} {q : Nat} (h : fltM Z k q) (hk : 1 ≤ k ∧ k ≤ 7) (v : Int32) : ∃ Z1, (mjLet (zSi Z 218 4 v) fun Z128 => mjBd (f212_must (i3 ((59 : Nat) : Int)) Z128) fun _ Z131 => some ((), Z131)) = some ((), Z1) ∧ fltM Z1 k q ∧ eqM0 Z Z1 := by
  refine ⟨zSi Z 218 4 v, ?_, flt_w h (by omega), eqM0_si⟩
  rw [let_eq, m212f (flt_w h (by omega)) hk, mjBd_some]
theorem trk4 {k : Int} {q : Nat} (h : fltM Z k q) (hk : 1 ≤ k ∧ k ≤ 7) (v : Int32) : ∃ Z1, (mjLet (zSi Z 218 3 v) fun Z124 => mjBd (f213_number (i3 0) (Z124.1 218 1) Z124) fun v126 Z127 => mjLet (zSi Z127 218 4 v126) fun Z128 => mjBd (f212_must (i3 ((59 : Nat) : Int)) Z128) fun _ Z131 => some ((), Z131)) = some ((), Z1) ∧ fltM Z1 k q ∧ eqM0 Z Z1 := by
  have g := flt_w (a := 218) (j := 3) (v := v) h (by omega)
  obtain ⟨Z1, r1, r2, r3⟩ := trk5 g hk ((zSi Z 218 3 v).1 211 8)
  exact ⟨Z1, by rw [let_eq, m213f g hk, mjBd_some]; exact r1, r2, eqM0_tr eqM0_si r3⟩
theorem trk3 {k : Int} {q : Nat} (h : fltM Z k q) (hk : 1 ≤ k ∧ k ≤ 7) (v : Int32) : ∃ Z1, (mjLet (zSi Z 218 2 v) fun Z120 => mjBd (f213_number (i3 0) (i3 20) Z120) fun v122 Z123 => mjLet (zSi Z123 218 3 v122) fun Z124 => mjBd (f213_number (i3 0) (Z124.1 218 1) Z124) fun v126 Z127 => mjLet (zSi Z127 218 4 v126) fun Z128 => mjBd (f212_must (i3 ((59 : Nat) : Int)) Z128) fun _ Z131 => some ((), Z131)) = some ((), Z1) ∧ fltM Z1 k q ∧ eqM0 Z Z1 := by
  have g := flt_w (a := 218) (j := 2) (v := v) h (by omega)
  obtain ⟨Z1, r1, r2, r3⟩ := trk4 g hk ((zSi Z 218 2 v).1 211 8)
  exact ⟨Z1, by rw [let_eq, m213f g hk, mjBd_some]; exact r1, r2, eqM0_tr eqM0_si r3⟩
theorem trk2 {k : Int} {q : Nat} (h : fltM Z k q) (hk : 1 ≤ k ∧ k ≤ 7) (v : Int32) : ∃ Z1, (mjLet (zSi Z 218 1 v) fun Z116 => mjBd (f213_number (i3 0) (i3 20) Z116) fun v118 Z119 => mjLet (zSi Z119 218 2 v118) fun Z120 => mjBd (f213_number (i3 0) (i3 20) Z120) fun v122 Z123 => mjLet (zSi Z123 218 3 v122) fun Z124 => mjBd (f213_number (i3 0) (Z124.1 218 1) Z124) fun v126 Z127 => mjLet (zSi Z127 218 4 v126) fun Z128 => mjBd (f212_must (i3 ((59 : Nat) : Int)) Z128) fun _ Z131 => some ((), Z131)) = some ((), Z1) ∧ fltM Z1 k q ∧ eqM0 Z Z1 := by
  have g := flt_w (a := 218) (j := 1) (v := v) h (by omega)
  obtain ⟨Z1, r1, r2, r3⟩ := trk3 g hk ((zSi Z 218 1 v).1 211 8)
  exact ⟨Z1, by rw [let_eq, m213f g hk, mjBd_some]; exact r1, r2, eqM0_tr eqM0_si r3⟩
theorem trk1 {k : Int} {q : Nat} (h : fltM Z k q) (hk : 1 ≤ k ∧ k ≤ 7) (v : Int32) : ∃ Z1, (mjLet (zSi Z 218 0 v) fun Z112 => mjBd (f213_number (i3 50) (i3 400) Z112) fun v114 Z115 => mjLet (zSi Z115 218 1 v114) fun Z116 => mjBd (f213_number (i3 0) (i3 20) Z116) fun v118 Z119 => mjLet (zSi Z119 218 2 v118) fun Z120 => mjBd (f213_number (i3 0) (i3 20) Z120) fun v122 Z123 => mjLet (zSi Z123 218 3 v122) fun Z124 => mjBd (f213_number (i3 0) (Z124.1 218 1) Z124) fun v126 Z127 => mjLet (zSi Z127 218 4 v126) fun Z128 => mjBd (f212_must (i3 ((59 : Nat) : Int)) Z128) fun _ Z131 => some ((), Z131)) = some ((), Z1) ∧ fltM Z1 k q ∧ eqM0 Z Z1 := by
  have g := flt_w (a := 218) (j := 0) (v := v) h (by omega)
  obtain ⟨Z1, r1, r2, r3⟩ := trk2 g hk ((zSi Z 218 0 v).1 211 8)
  exact ⟨Z1, by rw [let_eq, m213f g hk, mjBd_some]; exact r1, r2, eqM0_tr eqM0_si r3⟩
theorem gd_c0 {Zc2 Zm2 : mjZt} (h : gd X n Zc Zm p) (hb : b = 2 ∨ b = 92) {j : Nat} {v w : Int32} (e1 : Zc2 = zSi Zc b j v) (e2 : Zm2 = zSi Zm 218 j w) : gd X n Zc2 Zm2 p := by
  subst e1 e2
  exact gd_of h rfl (si_obj _ _ _ _ (by omega)) (si_obj _ _ _ _ (by omega)) rfl (by rw [si_obj _ _ _ _ (by omega)]) (si_obj _ _ _ _ (by omega)) (fun f _ _ => by rw [si_obj _ _ _ _ (by omega)]) rfl
theorem p_word (h : gd X n Zc Zm p) (hn : n ≤ 700) (hX : ∀ k, X k ≤ 255) {id N j w : Nat} {L : List Nat} (hi : f51_indexIn id Zc = some (i3 (ixT X n p L N))) (hN : N ≤ 20) (hj : j < N) (hw : w < 2 ^ 63) (hL : ixT X n p L N = j ↔ jS X n p = 1 ∧ jN X n p = w) :
    (∃ Zc1 Zm1, f115_takeWord id (i3 j) Zc = some (1, Zc1) ∧ f208_isWord (i6 w) Zm = some 1 ∧ f205_goOn Zm = some ((), Zm1) ∧ gd X n Zc1 Zm1 (jE X n p) ∧ p < jE X n p ∧ eqTk Zc Zc1 ∧ eqGo Zm Zm1) ∨
    (∃ Zc1 Zm1, f115_takeWord id (i3 j) Zc = some (0, Zc1) ∧ f208_isWord (i6 w) Zm = some 0 ∧ f206_wrong 2 Zm = some ((), Zm1) ∧ bd Zc1 Zm1 ∧ eqT3 Zc Zc1 ∧ eqGw Zm Zm1) := by
  have b1 := ixT_bd (X := X) (n := n) (p := p) (L := L) (N := N)
  have m8 := m208 h.2.1 hX h.2.2.2.1 hw
  by_cases q : jS X n p = 1 ∧ jN X n p = w
  · left
    obtain ⟨Zc1, Zm1, a1, a2, a3, a4, a5⟩ := nxt h hn hX
    rw [decide_eq_true q] at m8
    refine ⟨Zc1, Zm1, ?_, m8, a2, a3, (jE_bd h.2.2.2.2).2.2.2 (by omega), a4, a5⟩
    unfold f115_takeWord
    rw [hi, mjBp_some, hL.mpr q, if_pos (by rw [c_eq (by omega)]), a1, mjBd_some]
  · right
    obtain ⟨Zc1, Zm1, a1, a2, a3, a4, a5, _⟩ := flt h (k := 2) (by omega)
    rw [decide_eq_false q] at m8
    refine ⟨Zc1, Zm1, ?_, m8, a2, a3, a4, a5⟩
    unfold f115_takeWord
    rw [hi, mjBp_some, if_neg (by rw [c_eq (by omega)]; exact fun g => q (hL.mp g)), show (2 : Int32) = i3 2 from rfl, a1, mjBd_some, if_pos (Or.inl rfl)]
/-- the first of a list -/
theorem gX_0 {W x : Nat} {L : List Nat} {N : Nat} (h : L.getD 0 0 = x) (hN : 0 < N) : gX L N W = ((0 : Nat) : Int) ↔ W = x := by
  obtain ⟨M, rfl⟩ : ∃ M, N = M + 1 := ⟨N - 1, by omega⟩
  have b1 := fI_bd (fun j => decide (L.getD j 0 = W)) M 1
  unfold gX
  rw [fI, h]
  constructor
  · intro g
    by_cases q : x = W
    · exact q.symm
    · rw [if_neg (by simpa using q)] at g
      obtain ⟨y, y1, y2, _⟩ := fI_ne (p := fun j => decide (L.getD j 0 = W)) M 1 (by rw [g]; decide)
      have y3 : (y : Int) = ((0 : Nat) : Int) := y1.symm.trans g
      omega
  · intro g
    rw [if_pos (by simp [g])]
theorem ixT_0 {x : Nat} {L : List Nat} {N : Nat} (h : L.getD 0 0 = x) (hN : 0 < N) : ixT X n p L N = ((0 : Nat) : Int) ↔ jS X n p = 1 ∧ jN X n p = x := by
  unfold ixT
  by_cases q : jS X n p = 1
  · rw [if_pos q, gX_0 h hN]
    exact ⟨fun g => ⟨q, g⟩, fun g => g.2⟩
  · rw [if_neg q]
    exact ⟨fun g => by omega, fun g => absurd g.1 q⟩
theorem trk_n (h : gd X n Zc Zm p) (hn : n ≤ 700) (hX : ∀ k, X k ≤ 255) (hb : b = 2 ∨ b = 92) {j : Nat} (hj : j < 5) {lo hi : Int} (hl : 0 ≤ lo ∧ hi ≤ 9999 ∧ 0 ≤ hi ∧ lo ≤ 9999) :
    (∃ Zc1 Zm1, ∃ v p1 : Nat, f116_takeNumber (i3 lo) (i3 hi) Zc = some (1, Zc1) ∧ f213_number (i3 lo) (i3 hi) Zm = some (i3 v, Zm1) ∧ lo ≤ v ∧ v ≤ hi ∧ Zc1.1 182 4 = i3 v ∧ gd X n (zSi Zc1 b j (i3 v)) (zSi Zm1 218 j (i3 v)) p1 ∧ p < p1 ∧ eqC0 b Zc (zSi Zc1 b j (i3 v)) ∧ eqM0 Zm (zSi Zm1 218 j (i3 v)) ∧ (∀ i, i ≠ j → (zSi Zc1 b j (i3 v)).1 b i = Zc.1 b i) ∧ ∀ i, i ≠ j → (zSi Zm1 218 j (i3 v)).1 218 i = Zm.1 218 i) ∨
    (∃ Zc1 Zm1 v k q, f116_takeNumber (i3 lo) (i3 hi) Zc = some (0, Zc1) ∧ f213_number (i3 lo) (i3 hi) Zm = some (v, Zm1) ∧ fltC Zc1 k q ∧ fltM Zm1 k q ∧ (1 ≤ k ∧ k ≤ 7) ∧ eqRc b Zc Zc1 ∧ eqRd Zm Zm1) := by
  rcases p_num h hn hX hl with ⟨Zc1, Zm1, v, a1, a2, a3, a4, a5, a6, a7, a8, a9, _⟩ | ⟨Zc1, Zm1, v, a1, a2, ⟨k, q, k1, k2, k3, k4⟩, a4, a5⟩
  · refine Or.inl ⟨Zc1, Zm1, v, jE X n p, a1, a2, a3, a4, a5, gd_c0 a6 hb rfl rfl, a7, eqC0_tr (eqT2_0 hb a8) (eqC0_si hb hj), eqM0_tr (eqGo_0 a9) eqM0_si, fun i hi2 => ?_, fun i hi2 => ?_⟩
    · rw [si_fld _ _ _ _ (by omega), (a8.2.1 b (by omega) (by omega)).1]
    · rw [si_fld _ _ _ _ (by omega), (a9.2.1 218 (by omega)).1]
  · exact Or.inr ⟨Zc1, Zm1, v, k, q, a1, a2, k3, k4, ⟨k1, k2⟩, eqT3_R a4, eqGw_R a5⟩
theorem trk_end {Zd Md : mjZt} {v0 v1 v2 v3 v4 p1 : Nat} (hb : b = 2 ∨ b = 92)
    (c0 : Zc.1 b 5 = 0 ∧ Zc.1 b 6 = 0 ∧ Zc.1 b 8 = 0 ∧ Zc.1 b 9 = 2 ∧ Zc.1 b 10 = 5 ∧ Zc.2.1 b 11 = 0) (c1 : Zc.1 (b + 1) 7 = 0) (c2 : ∀ k, k < 16 → Zc.1 (b + 1 + 4) k = 0 ∧ Zc.1 (b + 1 + 5) k = 0)
    (c3 : ∀ t, t < 6 → Zc.1 (tmB b t + 3) 0 = 0 ∧ Zc.1 (tmB b t + 4) 0 = 0) (c4 : ∀ j k, j ≤ 4 → Zc.1 (b + 12 + j) k = 0) (c5 : Zc.2.1 (b + 12) 4 = 0) (c6 : Zc.1 182 2 = 0 ∧ Zc.1 182 3 = 0 ∧ Zc.1 182 6 = -1)
    (m0 : Zm.1 211 21 = 0 ∧ Zm.1 211 22 = 0 ∧ Zm.1 211 23 = 0 ∧ Zm.1 211 24 = 0 ∧ Zm.1 211 25 = 2 ∧ Zm.1 211 26 = 5 ∧ Zm.1 211 17 = 0) (m1 : kfM Zm)
    (C7 : eqC0 b Zc Zd) (D7 : eqM0 Zm Md) (hg : gd X n Zd Md p1)
    (X0 : Zd.1 b 0 = i3 v0) (X1 : Zd.1 b 1 = i3 v1) (X2 : Zd.1 b 2 = i3 v2) (X3 : Zd.1 b 3 = i3 v3) (X4 : Zd.1 b 4 = i3 v4)
    (Y0 : Md.1 218 0 = i3 v0) (Y1 : Md.1 218 1 = i3 v1) (Y2 : Md.1 218 2 = i3 v2) (Y3 : Md.1 218 3 = i3 v3) (Y4 : Md.1 218 4 = i3 v4)
    (h0 : 2 ≤ v0 ∧ v0 ≤ 6) (h1 : 50 ≤ v1 ∧ v1 ≤ 400) (h2 : v2 ≤ 20) (h3 : v3 ≤ 20) (h4 : v4 ≤ v1) : ∃ S, jR X n b Zd Md S 0 p1 false false := by
  have ib := is_b hb
  obtain ⟨S, hr, hr11, hr12, ⟨z0, z1, z2, t3, t4⟩, S0⟩ := sOf_ex Md
  have w0 : S 0 0 = v0 := by rw [S0, Y0, i3_int (by omega)]
  have w1 : S 0 1 = v1 := by rw [S0, Y1, i3_int (by omega)]
  have w2 : S 0 2 = v2 := by rw [S0, Y2, i3_int (by omega)]
  have w3 : S 0 3 = v3 := by rw [S0, Y3, i3_int (by omega)]
  have w4 : S 0 4 = v4 := by rw [S0, Y4, i3_int (by omega)]
  have tT : sT S = 0 := by unfold sT; rw [z0]; rfl
  have tA : sA S = 0 := by unfold sA; rw [z1]; rfl
  have tR' : sR S = 0 := by unfold sR; rw [z2]; rfl
  have lg : sLg S = v0 := by unfold sLg; rw [w0, Int.toNat_natCast]
  have e3 : sTh S = 2 := t3
  have e4 : sWi S = 5 := t4
  have oS : okS S := ⟨⟨by omega, by omega, by omega, by omega⟩, ⟨by omega, by omega, by omega, by omega, by omega, by omega, by omega, by omega, by omega⟩, ⟨by omega, by omega, by omega, by omega⟩, fun g => by omega, fun t g => by omega, fun t u g => by omega, fun t l g => by omega, fun a g => by omega, fun r g => by omega⟩
  have oC : okC S := fun r q g => by omega
  have oN : okN S := ⟨fun t g => by omega, fun r g => by omega⟩
  have cz : ∀ f, 5 ≤ f → Zd.1 b f = Zc.1 b f := C7.2.2.2.1
  have ob : ∀ a, a ≠ 182 → a ≠ 183 → a ≠ b → Zd.1 a = Zc.1 a := C7.2.2.1
  have lb : ∀ a, a ≠ 182 → a ≠ 183 → Zd.2.1 a = Zc.2.1 a := C7.2.1
  refine ⟨S, hg, ⟨?_, ?_, ?_, ?_⟩, ?_, ⟨oS, oC, oN, by omega, fun r q g => by omega, fun a g => by omega, by omega, by omega⟩, ?_, ?_, ?_⟩
  · unfold cBk
    rw [tT, tA, tR', t3, t4, cz 5 (by omega), cz 6 (by omega), cz 8 (by omega), cz 9 (by omega), cz 10 (by omega), c0.1, c0.2.1, c0.2.2.1, c0.2.2.2.1, c0.2.2.2.2.1, lb b (by omega) (by omega), c0.2.2.2.2.2, lb (b + 12) (by omega) (by omega)]
    refine ⟨hb, fun k hk => ?_, rfl, rfl, rfl, rfl, rfl, fun t g => by omega, fun a g => by omega, fun i hi => ?_, fun r g => by omega, fun t g => ?_, fun j k g => ?_, c5⟩
    · rcases (by omega : k = 0 ∨ k = 1 ∨ k = 2 ∨ k = 3 ∨ k = 4) with rfl | rfl | rfl | rfl | rfl
      · rw [w0, X0]
      · rw [w1, X1]
      · rw [w2, X2]
      · rw [w3, X3]
      · rw [w4, X4]
    · rw [decide_eq_false (by omega)]
      exact b6_0 i
    · have hT : tmB b t = b + 18 + 5 * t := rfl
      rw [ob _ (by omega) (by omega) (by omega), ob _ (by omega) (by omega) (by omega)]
      exact c3 t g
    · rw [ob _ (by omega) (by omega) (by omega)]
      exact c4 j k g
  · exact fun r q g => by omega
  · rw [ob _ (by omega) (by omega) (by omega), c1]; rfl
  · intro k g1 g2
    rw [ob _ (by omega) (by omega) (by omega), ob _ (by omega) (by omega) (by omega)]
    exact c2 k g2
  · have mm : ∀ f, 9 < f → Md.1 211 f = Zm.1 211 f := fun f g => D7.2.2.2 f (by omega)
    have k5 : kfM Md := by
      unfold kfM at m1 ⊢
      rw [D7.2.1 213 (by omega), D7.2.1 214 (by omega)]; exact m1
    unfold rM
    rw [tT, tA, tR', t3, t4, mm 21 (by omega), mm 22 (by omega), mm 23 (by omega), mm 25 (by omega), mm 26 (by omega), mm 17 (by omega), m0.1, m0.2.1, m0.2.2.1, m0.2.2.2.2.1, m0.2.2.2.2.2.1, m0.2.2.2.2.2.2]
    exact ⟨hr.1, hr.2.1, hr.2.2.1, hr.2.2.2.1, hr.2.2.2.2.1, hr.2.2.2.2.2.1, hr.2.2.2.2.2.2.1, hr.2.2.2.2.2.2.2.1, hr.2.2.2.2.2.2.2.2.1, hr.2.2.2.2.2.2.2.2.2, ⟨rfl, rfl, rfl, rfl, rfl⟩, hr11, hr12, rfl, k5⟩
  · exact ⟨by rw [C7.2.2.2.2 2 (by omega), c6.1]; rfl, by rw [C7.2.2.2.2 6 (by omega)]; exact c6.2.2⟩
  · rw [C7.2.2.2.2 3 (by omega), c6.2.1]; rfl
  · rw [D7.2.2.2 24 (by omega), m0.2.2.2.1]; rfl
theorem p_track (hb : b = 2 ∨ b = 92) (h : gd X n Zc Zm p) (hn : n ≤ 700) (hX : ∀ k, X k ≤ 255)
    (c0 : Zc.1 b 5 = 0 ∧ Zc.1 b 6 = 0 ∧ Zc.1 b 8 = 0 ∧ Zc.1 b 9 = 2 ∧ Zc.1 b 10 = 5 ∧ Zc.2.1 b 11 = 0) (c1 : Zc.1 (b + 1) 7 = 0) (c2 : ∀ k, k < 16 → Zc.1 (b + 1 + 4) k = 0 ∧ Zc.1 (b + 1 + 5) k = 0)
    (c3 : ∀ t, t < 6 → Zc.1 (tmB b t + 3) 0 = 0 ∧ Zc.1 (tmB b t + 4) 0 = 0) (c4 : ∀ j k, j ≤ 4 → Zc.1 (b + 12 + j) k = 0) (c5 : Zc.2.1 (b + 12) 4 = 0) (c6 : Zc.1 182 2 = 0 ∧ Zc.1 182 3 = 0 ∧ Zc.1 182 6 = -1)
    (m0 : Zm.1 211 21 = 0 ∧ Zm.1 211 22 = 0 ∧ Zm.1 211 23 = 0 ∧ Zm.1 211 24 = 0 ∧ Zm.1 211 25 = 2 ∧ Zm.1 211 26 = 5 ∧ Zm.1 211 17 = 0) (m1 : kfM Zm) :
    (∃ Zc1 Zm1 S p1, f118_readTrack b Zc = some (1, Zc1) ∧ f234_trackLine Zm = some ((), Zm1) ∧ jR X n b Zc1 Zm1 S 0 p1 false false ∧ p < p1 ∧ eqRc b Zc Zc1 ∧ eqRd Zm Zm1) ∨
    (∃ Zc1 Zm1, f118_readTrack b Zc = some (0, Zc1) ∧ f234_trackLine Zm = some ((), Zm1) ∧ bd Zc1 Zm1 ∧ eqRc b Zc Zc1 ∧ eqRd Zm Zm1) := by
  have ib := is_b hb
  rcases p_word (w := 500135191403) h hn hX (ixL h.1 hX (Or.inl rfl)) (by omega) (j := 0) (by omega) (by decide) (ixT_0 rfl (by omega)) with ⟨Z1, M1, a1, a2, a3, hg1, lt1, ec1, em1⟩ | ⟨Z1, M1, a1, a2, a3, ⟨k, q, k1, k2, k3, k4⟩, ec1, em1⟩
  rotate_left
  · right
    have a1' : f115_takeWord 1000002 0 Zc = some (0, Z1) := a1
    have a2' : f208_isWord 500135191403 Zm = some 0 := by rw [show (500135191403 : Int64) = i6 ((500135191403 : Nat) : Int) from rfl]; exact a2
    obtain ⟨M2, r1, r2, r3⟩ := trk1 k4 ⟨k1, k2⟩ (M1.1 211 8)
    refine ⟨Z1, M2, ?_, ?_, ⟨k, q, k1, k2, k3, r2⟩, eqT3_R ec1, eqRd_tr (eqGw_R em1) (eqM0_R r3)⟩
    · unfold f118_readTrack
      rw [a1', mjBd_some, if_pos (by decide)]
    · unfold f234_trackLine f234_trackLine_j15 f234_trackLine_j26
      rw [a2', mjBp_some, if_neg (by decide), a3, mjBd_some, bdM k4 ⟨k1, k2⟩, mjBp_some, if_pos (by decide), m213f k4 ⟨k1, k2⟩, mjBd_some, show (50 : Int32) = i3 50 from rfl, show (400 : Int32) = i3 400 from rfl, show (20 : Int32) = i3 20 from rfl, show (59 : Int32) = i3 ((59 : Nat) : Int) from rfl, show (0 : Int32) = i3 0 from rfl]
      exact r1
  have a1' : f115_takeWord 1000002 0 Zc = some (1, Z1) := a1
  have a2' : f208_isWord 500135191403 Zm = some 1 := by rw [show (500135191403 : Int64) = i6 ((500135191403 : Nat) : Int) from rfl]; exact a2
  have C1 : eqC0 b Zc Z1 := eqT2_0 hb (eqTk_2 ec1)
  have D1 : eqM0 Zm M1 := eqGo_0 em1
  unfold f118_readTrack
  rw [a1', mjBd_some, if_neg (by decide)]
  unfold f234_trackLine f234_trackLine_j15 f234_trackLine_j26
  rw [a2', mjBp_some, if_pos (by decide), gdM h.2.2.2.1, mjBp_some, if_neg (by decide), a3, mjBd_some, show (2 : Int32) = i3 2 from rfl, show (6 : Int32) = i3 6 from rfl, show (50 : Int32) = i3 50 from rfl, show (400 : Int32) = i3 400 from rfl, show (20 : Int32) = i3 20 from rfl, show (59 : Int32) = i3 ((59 : Nat) : Int) from rfl, show (0 : Int32) = i3 0 from rfl]
  clear a1 a2 a3 a1' a2'
  rcases trk_n (j := 0) (lo := 2) (hi := 6) hg1 hn hX hb (by omega) (by omega) with ⟨Z2, M2, v0, p2, b1, b2, b3, b4, b5, b6, b7, b8, b9, b10, b11⟩ | ⟨Z2, M2, v, k, q, b1, b2, b3, b4, b5, b6, b7⟩
  rotate_left
  · right
    obtain ⟨M3, r1, r2, r3⟩ := trk1 b4 b5 v
    exact ⟨Z2, M3, by rw [b1, mjBd_some, if_neg (by decide)], by rw [b2, mjBd_some]; exact r1, ⟨k, q, b5.1, b5.2, b3, r2⟩, eqRc_tr (eqC0_R C1) b6, eqRd_tr (eqM0_R D1) (eqRd_tr b7 (eqM0_R r3))⟩
  rw [b1, mjBd_some, if_pos (by decide), if_pos ib, b5, let_eq, b2, mjBd_some, let_eq]
  generalize hZ3 : zSi Z2 b 0 (i3 v0) = Z3 at *
  generalize hM3 : zSi M2 218 0 (i3 v0) = M3 at *
  have C2 := eqC0_tr C1 b8
  have D2 := eqM0_tr D1 b9
  have x0 : Z3.1 b 0 = i3 v0 := by rw [← hZ3, si_same]
  have y0 : M3.1 218 0 = i3 v0 := by rw [← hM3, si_same]
  rcases trk_n (j := 1) (lo := 50) (hi := 400) b6 hn hX hb (by omega) (by omega) with ⟨Z4, M4, v1, p3, d1, d2, d3, d4, d5, d6, d7, d8, d9, d10, d11⟩ | ⟨Z4, M4, v, k, q, d1, d2, d3, d4, d5, d6, d7⟩
  rotate_left
  · right
    obtain ⟨M5, r1, r2, r3⟩ := trk2 d4 d5 v
    exact ⟨Z4, M5, by rw [d1, mjBd_some, if_neg (by decide)], by rw [d2, mjBd_some]; exact r1, ⟨k, q, d5.1, d5.2, d3, r2⟩, eqRc_tr (eqC0_R C2) d6, eqRd_tr (eqM0_R D2) (eqRd_tr d7 (eqM0_R r3))⟩
  rw [d1, mjBd_some, if_pos (by decide), d5, let_eq, d2, mjBd_some, let_eq]
  generalize hZ5 : zSi Z4 b 1 (i3 v1) = Z5 at *
  generalize hM5 : zSi M4 218 1 (i3 v1) = M5 at *
  have C3 := eqC0_tr C2 d8
  have D3 := eqM0_tr D2 d9
  have x1 : Z5.1 b 1 = i3 v1 := by rw [← hZ5, si_same]
  have y1 : M5.1 218 1 = i3 v1 := by rw [← hM5, si_same]
  rcases trk_n (j := 2) (lo := 0) (hi := 20) d6 hn hX hb (by omega) (by omega) with ⟨Z6, M6, v2, p4, f1, f2, f3, f4, f5, f6, f7, f8, f9, f10, f11⟩ | ⟨Z6, M6, v, k, q, f1, f2, f3, f4, f5, f6, f7⟩
  rotate_left
  · right
    obtain ⟨M7, r1, r2, r3⟩ := trk3 f4 f5 v
    exact ⟨Z6, M7, by rw [f1, mjBd_some, if_neg (by decide)], by rw [f2, mjBd_some]; exact r1, ⟨k, q, f5.1, f5.2, f3, r2⟩, eqRc_tr (eqC0_R C3) f6, eqRd_tr (eqM0_R D3) (eqRd_tr f7 (eqM0_R r3))⟩
  rw [f1, mjBd_some, if_pos (by decide), f5, let_eq, f2, mjBd_some, let_eq]
  generalize hZ7 : zSi Z6 b 2 (i3 v2) = Z7 at *
  generalize hM7 : zSi M6 218 2 (i3 v2) = M7 at *
  have C4 := eqC0_tr C3 f8
  have D4 := eqM0_tr D3 f9
  have x2 : Z7.1 b 2 = i3 v2 := by rw [← hZ7, si_same]
  have y2 : M7.1 218 2 = i3 v2 := by rw [← hM7, si_same]
  rcases trk_n (j := 3) (lo := 0) (hi := 20) f6 hn hX hb (by omega) (by omega) with ⟨Z8, M8, v3, p5, g1, g2, g3, g4, g5, g6, g7, g8, g9, g10, g11⟩ | ⟨Z8, M8, v, k, q, g1, g2, g3, g4, g5, g6, g7⟩
  rotate_left
  · right
    obtain ⟨M9, r1, r2, r3⟩ := trk4 g4 g5 v
    exact ⟨Z8, M9, by rw [g1, mjBd_some, if_neg (by decide)], by rw [g2, mjBd_some]; exact r1, ⟨k, q, g5.1, g5.2, g3, r2⟩, eqRc_tr (eqC0_R C4) g6, eqRd_tr (eqM0_R D4) (eqRd_tr g7 (eqM0_R r3))⟩
  rw [g1, mjBd_some, if_pos (by decide), g5, let_eq, g2, mjBd_some, let_eq]
  generalize hZ9 : zSi Z8 b 3 (i3 v3) = Z9 at *
  generalize hM9 : zSi M8 218 3 (i3 v3) = M9 at *
  have C5 := eqC0_tr C4 g8
  have D5 := eqM0_tr D4 g9
  have x3 : Z9.1 b 3 = i3 v3 := by rw [← hZ9, si_same]
  have y3 : M9.1 218 3 = i3 v3 := by rw [← hM9, si_same]
  have x1' : Z9.1 b 1 = i3 v1 := by rw [g10 1 (by omega), f10 1 (by omega), x1]
  have y1' : M9.1 218 1 = i3 v1 := by rw [g11 1 (by omega), f11 1 (by omega), y1]
  rw [x1', y1']
  rcases trk_n (j := 4) (lo := 0) (hi := v1) g6 hn hX hb (by omega) (by omega) with ⟨Za, Ma, v4, p6, i1, i2, i3', i4, i5, i6', i7, i8, i9, i10, i11⟩ | ⟨Za, Ma, v, k, q, i1, i2, i3', i4, i5, i6', i7⟩
  rotate_left
  · right
    obtain ⟨Mb, r1, r2, r3⟩ := trk5 i4 i5 v
    exact ⟨Za, Mb, by rw [i1, mjBd_some, if_neg (by decide)], by rw [i2, mjBd_some]; exact r1, ⟨k, q, i5.1, i5.2, i3', r2⟩, eqRc_tr (eqC0_R C5) i6', eqRd_tr (eqM0_R D5) (eqRd_tr i7 (eqM0_R r3))⟩
  rw [i1, mjBd_some, if_pos (by decide), i5, let_eq, i2, mjBd_some, let_eq]
  generalize hZb : zSi Za b 4 (i3 v4) = Zb at *
  generalize hMb : zSi Ma 218 4 (i3 v4) = Mb at *
  have C6 := eqC0_tr C5 i8
  have D6 := eqM0_tr D5 i9
  have x4 : Zb.1 b 4 = i3 v4 := by rw [← hZb, si_same]
  have y4 : Mb.1 218 4 = i3 v4 := by rw [← hMb, si_same]
  have X0 : Zb.1 b 0 = i3 v0 := by rw [i10 0 (by omega), g10 0 (by omega), f10 0 (by omega), d10 0 (by omega), x0]
  have X1 : Zb.1 b 1 = i3 v1 := by rw [i10 1 (by omega), x1']
  have X2 : Zb.1 b 2 = i3 v2 := by rw [i10 2 (by omega), g10 2 (by omega), x2]
  have X3 : Zb.1 b 3 = i3 v3 := by rw [i10 3 (by omega), x3]
  have Y0 : Mb.1 218 0 = i3 v0 := by rw [i11 0 (by omega), g11 0 (by omega), f11 0 (by omega), d11 0 (by omega), y0]
  have Y1 : Mb.1 218 1 = i3 v1 := by rw [i11 1 (by omega), y1']
  have Y2 : Mb.1 218 2 = i3 v2 := by rw [i11 2 (by omega), g11 2 (by omega), y2]
  have Y3 : Mb.1 218 3 = i3 v3 := by rw [i11 3 (by omega), y3]
  rcases p_sign (c := 59) i6' hn hX (by omega) with ⟨Zd, Md, s1, s2, s3, s4, s5, s6⟩ | ⟨Zd, Md, s1, s2, s3, s4, s5⟩
  rotate_left
  · right
    have s1' := s1
    have s2' := s2
    exact ⟨Zd, Md, by rw [s1', mjBd_some, if_pos (Or.inl (by rfl))]; rfl, by rw [s2', mjBd_some], s3, eqRc_tr (eqC0_R C6) (eqT3_R s4), eqRd_tr (eqM0_R D6) (eqGw_R s5)⟩
  left
  have s1' := s1
  have s2' := s2
  have C7 := eqC0_tr C6 (eqT2_0 hb s5)
  have D7 := eqM0_tr D6 (eqGo_0 s6)
  have zb : Zd.1 b = Zb.1 b := (s5.2.1 b (by omega) (by omega)).1
  have mb : Md.1 218 = Mb.1 218 := (s6.2.1 218 (by omega)).1
  obtain ⟨S, hS⟩ := trk_end hb c0 c1 c2 c3 c4 c5 c6 m0 m1 C7 D7 s3 (by rw [zb]; exact X0) (by rw [zb]; exact X1) (by rw [zb]; exact X2) (by rw [zb]; exact X3) (by rw [zb]; exact x4) (by rw [mb]; exact Y0) (by rw [mb]; exact Y1) (by rw [mb]; exact Y2) (by rw [mb]; exact Y3) (by rw [mb]; exact y4) (by omega) (by omega) (by omega) (by omega) (by omega)
  exact ⟨Zd, Md, S, jE X n p6, by rw [s1', mjBd_some, if_pos (Or.inr (by rfl))], by rw [s2', mjBd_some], hS, by omega, eqC0_R C7, eqM0_R D7⟩
end TR
