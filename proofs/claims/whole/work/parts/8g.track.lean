/-! THE FIRST LINE -/
def sOf (Z : mjZt) : mjS := fun f k =>
  if f = 0 then (Z.1 218 k).toInt else if f = 1 then (Z.1 219 k).toInt else if f = 2 then (Z.1 220 k).toInt else if f = 3 then (Z.1 221 k).toInt else if f = 4 then (Z.1 222 k).toInt else if f = 5 then (Z.1 223 k).toInt else if f = 6 then (Z.1 224 k).toInt else if f = 7 then (Z.1 225 k).toInt else if f = 8 then (Z.1 226 k).toInt else if f = 9 then (Z.1 215 k).toInt
  else if f = 10 then (if k = 3 then 2 else if k = 4 then 5 else 0) else if f = 11 then (Z.2.1 227 k).toInt else (Z.2.1 228 k).toInt
/-- what the first line leaves of the class, of the model -/
def eqC0 (b : Nat) (Z Z2 : mjZt) : Prop := Z2.2.2 = Z.2.2 ∧ (∀ a, a ≠ 183 → Z2.2.1 a = Z.2.1 a) ∧ (∀ a, a ≠ 182 → a ≠ 183 → a ≠ b → Z2.1 a = Z.1 a) ∧ (∀ f, 5 ≤ f → Z2.1 b f = Z.1 b f) ∧ ∀ f, f ≠ 4 → Z2.1 182 f = Z.1 182 f
def eqM0 (Z Z2 : mjZt) : Prop := Z2.2.2 = Z.2.2 ∧ (∀ a, a ≠ 211 → Z2.2.1 a = Z.2.1 a) ∧ (∀ a, a ≠ 211 → a ≠ 218 → Z2.1 a = Z.1 a) ∧ ∀ f, (f < 5 ∨ 8 < f) → Z2.1 211 f = Z.1 211 f
theorem eqC0_tr {b : Nat} {Z Z2 Z3 : mjZt} (h : eqC0 b Z Z2) (g : eqC0 b Z2 Z3) : eqC0 b Z Z3 := ⟨g.1.trans h.1, fun a q => (g.2.1 a q).trans (h.2.1 a q), fun a q1 q2 q3 => (g.2.2.1 a q1 q2 q3).trans (h.2.2.1 a q1 q2 q3), fun f q => (g.2.2.2.1 f q).trans (h.2.2.2.1 f q), fun f q => (g.2.2.2.2 f q).trans (h.2.2.2.2 f q)⟩
theorem eqM0_tr {Z Z2 Z3 : mjZt} (h : eqM0 Z Z2) (g : eqM0 Z2 Z3) : eqM0 Z Z3 := ⟨g.1.trans h.1, fun a q => (g.2.1 a q).trans (h.2.1 a q), fun a q1 q2 => (g.2.2.1 a q1 q2).trans (h.2.2.1 a q1 q2), fun f q => (g.2.2.2 f q).trans (h.2.2.2 f q)⟩
theorem eqT2_0 {b : Nat} {Z Z2 : mjZt} (hb : b = 2 ∨ b = 92) (h : eqT2 Z Z2) (hl : ∀ a, a ≠ 183 → Z2.2.1 a = Z.2.1 a) : eqC0 b Z Z2 := ⟨h.1, hl, fun a q1 q2 _ => (h.2.1 a q1 q2).1, fun f _ => by rw [(h.2.1 b (by omega) (by omega)).1], h.2.2⟩
theorem eqC0_si {b : Nat} {Z : mjZt} (hb : b = 2 ∨ b = 92) {k : Nat} {v : Int32} (hk : k < 5) : eqC0 b Z (zSi Z b k v) := ⟨rfl, fun _ _ => rfl, fun a _ _ q => si_obj _ _ _ _ q, fun f q => si_fld _ _ _ _ (by omega), fun f q => by rw [si_obj _ _ _ _ (by omega)]⟩
theorem eqGo_0 {Z Z2 : mjZt} (h : eqGo Z Z2) : eqM0 Z Z2 := ⟨h.1, fun a q => (h.2.1 a q).2, fun a q _ => (h.2.1 a q).1, h.2.2⟩
theorem eqM0_si {Z : mjZt} {k : Nat} {v : Int32} : eqM0 Z (zSi Z 218 k v) := ⟨rfl, fun _ _ => rfl, fun a _ q => si_obj _ _ _ _ q, fun f _ => by rw [si_obj _ _ _ _ (by omega)]⟩
theorem eqC0_R {b : Nat} {Z Z2 : mjZt} (h : eqC0 b Z Z2) : eqRc b Z Z2 := ⟨h.1, fun a q => ⟨h.2.2.1 a (by unfold rdw at q; omega) (by unfold rdw at q; omega) (by unfold rdw at q; omega), h.2.1 a (by unfold rdw at q; omega)⟩⟩
theorem eqM0_R {Z Z2 : mjZt} (h : eqM0 Z Z2) : eqRd Z Z2 := ⟨h.1, fun a q1 q2 q3 q4 => ⟨h.2.2.1 a q1 (by omega), h.2.1 a q1⟩, fun f q => h.2.2.2 f (by omega)⟩
section TR
variable {X : Nat → Nat} {n b : Nat} {Z Zc Zm : mjZt} {p : Nat}
theorem flt_w {k : Int} {q a j : Nat} {v : Int32} (h : fltM Z k q) (ha : a ≠ 211) : fltM (zSi Z a j v) k q := fltM_of h (by rw [si_obj _ _ _ _ (by omega)]) (by rw [si_obj _ _ _ _ (by omega)])
theorem trk5 {k : Int} {q : Nat} (h : fltM Z k q) (hk : 1 ≤ k ∧ k ≤ 7) (v : Int32) : ∃ Z1, (mjLet (zSi Z 218 4 v) fun Z128 => mjBd (f212_must 59 Z128) fun _ Z131 => some ((), Z131)) = some ((), Z1) ∧ fltM Z1 k q ∧ eqM0 Z Z1 := by
  refine ⟨zSi Z 218 4 v, ?_, flt_w h (by omega), eqM0_si⟩
  rw [let_eq, m212f (flt_w h (by omega)) hk, mjBd_some]
theorem trk4 {k : Int} {q : Nat} (h : fltM Z k q) (hk : 1 ≤ k ∧ k ≤ 7) (v : Int32) : ∃ Z1, (mjLet (zSi Z 218 3 v) fun Z124 => mjBd (f213_number 0 (Z124.1 218 1) Z124) fun v126 Z127 => mjLet (zSi Z127 218 4 v126) fun Z128 => mjBd (f212_must 59 Z128) fun _ Z131 => some ((), Z131)) = some ((), Z1) ∧ fltM Z1 k q ∧ eqM0 Z Z1 := by
  have g := flt_w (a := 218) (j := 3) (v := v) h (by omega)
  obtain ⟨Z1, r1, r2, r3⟩ := trk5 g hk ((zSi Z 218 3 v).1 211 8)
  exact ⟨Z1, by rw [let_eq, m213f g hk, mjBd_some]; exact r1, r2, eqM0_tr eqM0_si r3⟩
theorem trk3 {k : Int} {q : Nat} (h : fltM Z k q) (hk : 1 ≤ k ∧ k ≤ 7) (v : Int32) : ∃ Z1, (mjLet (zSi Z 218 2 v) fun Z120 => mjBd (f213_number 0 20 Z120) fun v122 Z123 => mjLet (zSi Z123 218 3 v122) fun Z124 => mjBd (f213_number 0 (Z124.1 218 1) Z124) fun v126 Z127 => mjLet (zSi Z127 218 4 v126) fun Z128 => mjBd (f212_must 59 Z128) fun _ Z131 => some ((), Z131)) = some ((), Z1) ∧ fltM Z1 k q ∧ eqM0 Z Z1 := by
  have g := flt_w (a := 218) (j := 2) (v := v) h (by omega)
  obtain ⟨Z1, r1, r2, r3⟩ := trk4 g hk ((zSi Z 218 2 v).1 211 8)
  exact ⟨Z1, by rw [let_eq, m213f g hk, mjBd_some]; exact r1, r2, eqM0_tr eqM0_si r3⟩
theorem trk2 {k : Int} {q : Nat} (h : fltM Z k q) (hk : 1 ≤ k ∧ k ≤ 7) (v : Int32) : ∃ Z1, (mjLet (zSi Z 218 1 v) fun Z116 => mjBd (f213_number 0 20 Z116) fun v118 Z119 => mjLet (zSi Z119 218 2 v118) fun Z120 => mjBd (f213_number 0 20 Z120) fun v122 Z123 => mjLet (zSi Z123 218 3 v122) fun Z124 => mjBd (f213_number 0 (Z124.1 218 1) Z124) fun v126 Z127 => mjLet (zSi Z127 218 4 v126) fun Z128 => mjBd (f212_must 59 Z128) fun _ Z131 => some ((), Z131)) = some ((), Z1) ∧ fltM Z1 k q ∧ eqM0 Z Z1 := by
  have g := flt_w (a := 218) (j := 1) (v := v) h (by omega)
  obtain ⟨Z1, r1, r2, r3⟩ := trk3 g hk ((zSi Z 218 1 v).1 211 8)
  exact ⟨Z1, by rw [let_eq, m213f g hk, mjBd_some]; exact r1, r2, eqM0_tr eqM0_si r3⟩
theorem trk1 {k : Int} {q : Nat} (h : fltM Z k q) (hk : 1 ≤ k ∧ k ≤ 7) (v : Int32) : ∃ Z1, (mjLet (zSi Z 218 0 v) fun Z112 => mjBd (f213_number 50 400 Z112) fun v114 Z115 => mjLet (zSi Z115 218 1 v114) fun Z116 => mjBd (f213_number 0 20 Z116) fun v118 Z119 => mjLet (zSi Z119 218 2 v118) fun Z120 => mjBd (f213_number 0 20 Z120) fun v122 Z123 => mjLet (zSi Z123 218 3 v122) fun Z124 => mjBd (f213_number 0 (Z124.1 218 1) Z124) fun v126 Z127 => mjLet (zSi Z127 218 4 v126) fun Z128 => mjBd (f212_must 59 Z128) fun _ Z131 => some ((), Z131)) = some ((), Z1) ∧ fltM Z1 k q ∧ eqM0 Z Z1 := by
  have g := flt_w (a := 218) (j := 0) (v := v) h (by omega)
  obtain ⟨Z1, r1, r2, r3⟩ := trk2 g hk ((zSi Z 218 0 v).1 211 8)
  exact ⟨Z1, by rw [let_eq, m213f g hk, mjBd_some]; exact r1, r2, eqM0_tr eqM0_si r3⟩
theorem gd_c0 {Zc2 Zm2 : mjZt} (h : gd X n Zc Zm p) (hb : b = 2 ∨ b = 92) {j : Nat} {v w : Int32} (e1 : Zc2 = zSi Zc b j v) (e2 : Zm2 = zSi Zm 218 j w) : gd X n Zc2 Zm2 p := by
  subst e1 e2
  exact gd_of h rfl (si_obj _ _ _ _ (by omega)) (si_obj _ _ _ _ (by omega)) rfl (by rw [si_obj _ _ _ _ (by omega)]) (si_obj _ _ _ _ (by omega)) (fun f _ _ => by rw [si_obj _ _ _ _ (by omega)]) rfl
theorem t2_l {Z2 : mjZt} (h : eqT2 Z Z2) (h2 : Z2.2.1 182 = Z.2.1 182) : ∀ a, a ≠ 183 → Z2.2.1 a = Z.2.1 a := fun a q => by
  by_cases g : a = 182
  · subst g; exact h2
  · exact (h.2.1 a g q).2
theorem p_word (h : gd X n Zc Zm p) (hn : n ≤ 700) (hX : ∀ k, X k ≤ 255) {id N j w : Nat} {L : List Nat} (hi : f51_indexIn id Zc = some (i3 (ixT X n p L N))) (hN : N ≤ 20) (hj : j < N) (hw : w < 2 ^ 63) (hL : ixT X n p L N = j ↔ jS X n p = 1 ∧ jN X n p = w) :
    (∃ Zc1 Zm1, f115_takeWord id (i3 j) Zc = some (1, Zc1) ∧ f208_isWord (i6 w) Zm = some 1 ∧ f205_goOn Zm = some ((), Zm1) ∧ gd X n Zc1 Zm1 (jE X n p) ∧ p < jE X n p ∧ eqTk Zc Zc1 ∧ eqGo Zm Zm1) ∨
    (∃ Zc1 Zm1, f115_takeWord id (i3 j) Zc = some (0, Zc1) ∧ f208_isWord (i6 w) Zm = some 0 ∧ f206_wrong 2 Zm = some ((), Zm1) ∧ bd Zc1 Zm1 ∧ eqT3 Zc Zc1 ∧ eqGw Zm Zm1) := by
  have b1 := ixT_bd (X := X) (n := n) (p := p) (L := L) (N := N)
  have m8 := m208 h.2.1 hX h.2.2.2.1 hw
  by_cases q : jS X n p = 1 ∧ jN X n p = w
  · left
    obtain ⟨Zc1, Zm1, a1, a2, a3, a4, a5⟩ := nxt h hn hX
    rw [decide_eq_true q] at m8
    refine ⟨Zc1, Zm1, ?_, m8, a2, a3, (jE_bd h.2.2.2.2).2.2.2 (by omega), a4, a5⟩
    unfold f115_takeWord
    rw [hi, mjBp_some, hL.mpr q, if_pos (by rw [c_eq (by omega)]), a1, mjBd_some]
  · right
    obtain ⟨Zc1, Zm1, a1, a2, a3, a4, a5, _⟩ := flt h (k := 2) (by omega)
    rw [decide_eq_false q] at m8
    refine ⟨Zc1, Zm1, ?_, m8, a2, a3, a4, a5⟩
    unfold f115_takeWord
    rw [hi, mjBp_some, if_neg (by rw [c_eq (by omega)]; exact fun g => q (hL.mp g)), show (2 : Int32) = i3 2 from rfl, a1, mjBd_some, if_pos (Or.inl rfl)]
/-- the first of a list -/
theorem gX_0 {W x : Nat} {L : List Nat} {N : Nat} (h : L.getD 0 0 = x) (hN : 0 < N) : gX L N W = ((0 : Nat) : Int) ↔ W = x := by
  obtain ⟨M, rfl⟩ : ∃ M, N = M + 1 := ⟨N - 1, by omega⟩
  have b1 := fI_bd (fun j => decide (L.getD j 0 = W)) M 1
  unfold gX
  rw [fI, h]
  constructor
  · intro g
    by_cases q : x = W
    · exact q.symm
    · rw [if_neg (by simpa using q)] at g
      obtain ⟨y, y1, y2, _⟩ := fI_ne (p := fun j => decide (L.getD j 0 = W)) M 1 (by rw [g]; decide)
      have y3 : (y : Int) = ((0 : Nat) : Int) := y1.symm.trans g
      omega
  · intro g
    rw [if_pos (by simp [g])]
theorem ixT_0 {x : Nat} {L : List Nat} {N : Nat} (h : L.getD 0 0 = x) (hN : 0 < N) : ixT X n p L N = ((0 : Nat) : Int) ↔ jS X n p = 1 ∧ jN X n p = x := by
  unfold ixT
  by_cases q : jS X n p = 1
  · rw [if_pos q, gX_0 h hN]
    exact ⟨fun g => ⟨q, g⟩, fun g => g.2⟩
  · rw [if_neg q]
    exact ⟨fun g => by omega, fun g => absurd g.1 q⟩
end TR
