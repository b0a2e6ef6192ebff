/-! CONDITIONS READ: those that bind tighter become terms -/
def rd (q : Int → Bool) : pL → mjS → Nat → mjS × Nat × pL
  | [], S, m => (S, m, [])
  | (c, a) :: L, S, m => if q c = true then rd q L (zuS S 9 m c) (m + 1) else (S, m, (c, a) :: L)
theorem rd_comp {q q1 : Int → Bool} (h : ∀ c, q1 c = true → q c = true) : ∀ (L : pL) (S : mjS) (m : Nat), rd q (rd q1 L S m).2.2 (rd q1 L S m).1 (rd q1 L S m).2.1 = rd q L S m
  | [], S, m => rfl
  | (c, a) :: L, S, m => by
    rw [rd, rd]
    by_cases g : q1 c = true
    · rw [if_pos g, if_pos (h c g)]; exact rd_comp h L _ _
    · rw [if_neg g]
      show rd q ((c, a) :: L) S m = _
      rw [rd]
theorem rd_cT {q q1 : Int → Bool} (h : ∀ c, isT c = true → q c = q1 c) : ∀ (L : pL) (S : mjS) (m : Nat), pT L → rd q L S m = rd q1 L S m
  | [], _, _, _ => rfl
  | (c, a) :: L, S, m, ⟨h1, _, h3⟩ => by
    rw [rd, rd, h c h1, rd_cT h L _ _ h3]
theorem rd_cN {q q1 : Int → Bool} {x : Int} (h : ∀ c, isN c = true → q c = q1 c) (hx : q x = q1 x) (hT : q x = false ∨ ∀ c, isT c = true → q c = q1 c) : ∀ (L : pL) (S : mjS) (m : Nat), pN x L → rd q L S m = rd q1 L S m
  | [], _, _, h => h.elim
  | (c, a) :: L, S, m, .inl ⟨h1, _, h3⟩ => by
    rw [rd, rd, h c h1, rd_cN h hx hT L _ _ h3]
  | (c, a) :: L, S, m, .inr ⟨_, h2, h3⟩ => by
    subst h2
    rw [rd, rd, hx]
    rcases hT with hT | hT
    · rw [← hx, hT]; rfl
    · rw [rd_cT hT L _ _ h3]
/-- a proper one -/
def prp (c : Int) : Prop := c = 21 ∨ c = 22 ∨ c = 23 ∨ c = 30 ∨ c = 31 ∨ c = 32 ∨ c = 40 ∨ c = 41 ∨ c = 42
/-- a pile and whether its present operand is a truth -/
def stg (x : Int) (ty : Bool) (L : pL) : Prop := (ty = false ∧ pN x L) ∨ (ty = true ∧ pT L)
theorem stg_top {x c : Int} {a : Nat} {ty : Bool} {L : pL} (h : stg x ty ((c, a) :: L)) (hp : prp c) : ty = decide (40 ≤ c) ∧ stg x (decide (30 ≤ c)) L ∧ (isCm c = true → pT L) := by
  unfold prp at hp
  rcases h with ⟨rfl, h⟩ | ⟨rfl, h1, _, h3⟩
  · rcases h with ⟨h1, _, h3⟩ | ⟨h1, h2, h3⟩
    · have hc : c = 21 ∨ c = 22 ∨ c = 23 ∨ c = 51 := of_decide_eq_true h1
      refine ⟨show false = decide (40 ≤ c) from (decide_eq_false (by omega)).symm, Or.inl ⟨show decide (30 ≤ c) = false from decide_eq_false (by omega), h3⟩, fun g => ?_⟩
      have : 30 ≤ c ∧ c ≤ 32 := of_decide_eq_true g
      omega
    · have hc : c = 52 ∨ c = 30 ∨ c = 31 ∨ c = 32 := of_decide_eq_true h1
      have hc2 : c = 30 ∨ c = 31 ∨ c = 32 := by omega
      exact ⟨show false = decide (40 ≤ c) from (decide_eq_false (by omega)).symm, Or.inr ⟨show decide (30 ≤ c) = true from decide_eq_true (by omega), h3⟩, fun _ => h3⟩
  · have hc : c = 40 ∨ c = 41 ∨ c = 42 ∨ c = 50 := of_decide_eq_true h1
    exact ⟨show true = decide (40 ≤ c) from (decide_eq_true (by omega)).symm, Or.inr ⟨show decide (30 ≤ c) = true from decide_eq_true (by omega), h3⟩, fun _ => h3⟩
theorem rd_ok {q : Int → Bool} {fr : Nat} {x : Int} (hq : ∀ c, q c = true → prp c) : ∀ (L : pL) (S : mjS) (m e : Nat) (ty : Bool), cI S fr m L e → hasI S m e ty → stg x ty L → ∃ e2 ty2, cI (rd q L S m).1 fr (rd q L S m).2.1 (rd q L S m).2.2 e2 ∧ hasI (rd q L S m).1 (rd q L S m).2.1 e2 ty2 ∧ stg x ty2 (rd q L S m).2.2 ∧ m ≤ (rd q L S m).2.1 ∧ (rd q L S m).2.1 + wtL (rd q L S m).2.2 = m + wtL L ∧ opn (rd q L S m).2.2 ≤ opn L ∧ (∀ k, k < m → (rd q L S m).1 9 k = S 9 k) ∧ (∀ f, f ≠ 9 → (rd q L S m).1 f = S f) ∧ (∀ c a M, (rd q L S m).2.2 = (c, a) :: M → q c = false) ∧ (fr ≤ e → fr ≤ e2)
  | [], S, m, e, ty, h, hh, hs => ⟨e, ty, h, hh, hs, Nat.le_refl _, rfl, Nat.le_refl _, fun _ _ => rfl, fun _ _ => rfl, fun _ _ _ g => (by cases g), fun g => g⟩
  | (c, a) :: L, S, m, e, ty, h, hh, hs => by
    rw [rd]
    by_cases g : q c = true
    · have hp := hq c g
      obtain ⟨t1, t2, t3⟩ := stg_top hs hp
      have ea : e = a := h.2.1.1
      subst ea
      rw [t1] at hh
      obtain ⟨e2, k1, k2, _, k4⟩ := emit h hh hp t3
      obtain ⟨e3, ty3, j1, j2, j3, j4, j5, j6, j7, j8, j9, j10⟩ := rd_ok hq L (zuS S 9 m c) (m + 1) e2 _ k1 k2 t2
      rw [if_pos g]
      refine ⟨e3, ty3, j1, j2, j3, by omega, ?_, ?_, fun k hk => ?_, fun f hf => by rw [j8 f hf, zuS_f hf], j9, fun _ => j10 k4⟩
      · rw [j5, wtL, if_neg (by unfold prp at hp; omega)]; omega
      · rw [opn]; split <;> omega
      · rw [j7 k (by omega), zuS_n (by omega)]
    · rw [if_neg g]
      exact ⟨e, ty, h, hh, hs, Nat.le_refl _, rfl, Nat.le_refl _, fun _ _ => rfl, fun _ _ => rfl, fun c2 a2 M g2 => by
        have : c2 = c := by have := List.cons.inj g2; exact (Prod.mk.inj this.1).1.symm
        rw [this]
        cases e3 : q c with
        | true => exact absurd e3 g
        | false => rfl, fun g => g⟩
/-! the class's pile and terms -/
def plC (Z : mjZt) : pL → Prop
  | [] => True
  | (c, a) :: L => Z.1 186 L.length = i3 (opW c) ∧ Z.1 187 L.length = i3 ((a : Int) - 1) ∧ plC Z L
def plK (Z : mjZt) (K : pL) : Prop := Z.1 185 1 = i3 (opn K) ∧ Z.1 185 6 = i3 K.length ∧ plC Z K
def trC (b : Nat) (Z : mjZt) (S : mjS) (fr m wr : Nat) : Prop := Z.1 (b + 1) 7 = i3 m ∧ Z.1 (b + 1) 6 = i3 wr ∧ wr < 16 ∧ Z.1 (b + 1 + 4) wr = i3 fr ∧ Z.1 (b + 1 + 6) wr = i3 (ciS S fr m) ∧ cOne Z b S fr m ∧ fr ≤ m
def eqPt (b wr m : Nat) (Z Z2 : mjZt) : Prop := Z2.2 = Z.2 ∧ (∀ a, a ≠ b + 1 → a ≠ b + 1 + 1 → a ≠ b + 1 + 2 → a ≠ b + 1 + 3 → a ≠ b + 1 + 6 → Z2.1 a = Z.1 a) ∧ (∀ f, f ≠ 7 → Z2.1 (b + 1) f = Z.1 (b + 1) f) ∧ (∀ j k, j < 3 → k < m → Z2.1 (b + 1 + (j + 1)) k = Z.1 (b + 1 + (j + 1)) k) ∧ ∀ k, k ≠ wr → Z2.1 (b + 1 + 6) k = Z.1 (b + 1 + 6) k
/-- what reading a condition leaves of the class -/
def eqCc (b wr m : Nat) (Z Z2 : mjZt) : Prop := Z2.2.2 = Z.2.2 ∧ (∀ a, a ≠ 183 → Z2.2.1 a = Z.2.1 a) ∧ (∀ a, a ≠ 183 → a ≠ 185 → a ≠ 186 → a ≠ 187 → (a ≤ b ∨ b + 7 < a) → Z2.1 a = Z.1 a) ∧ (∀ j k, j < 3 → k < m → Z2.1 (b + 1 + (j + 1)) k = Z.1 (b + 1 + (j + 1)) k) ∧ ∀ j k, j < 3 → k ≠ wr → Z2.1 (b + 1 + (j + 4)) k = Z.1 (b + 1 + (j + 4)) k
theorem eqCc_rf {b wr m : Nat} {Z : mjZt} : eqCc b wr m Z Z := ⟨rfl, fun _ _ => rfl, fun _ _ _ _ _ _ => rfl, fun _ _ _ _ => rfl, fun _ _ _ _ => rfl⟩
theorem eqCc_tr {b wr m m2 : Nat} {Z Z2 Z3 : mjZt} (h : eqCc b wr m Z Z2) (g : eqCc b wr m2 Z2 Z3) (hm : m ≤ m2) : eqCc b wr m Z Z3 :=
  ⟨g.1.trans h.1, fun a q => (g.2.1 a q).trans (h.2.1 a q), fun a q1 q2 q3 q4 q5 => (g.2.2.1 a q1 q2 q3 q4 q5).trans (h.2.2.1 a q1 q2 q3 q4 q5), fun j k q1 q2 => (g.2.2.2.1 j k q1 (by omega)).trans (h.2.2.2.1 j k q1 q2), fun j k q1 q2 => (g.2.2.2.2 j k q1 q2).trans (h.2.2.2.2 j k q1 q2)⟩
theorem eqPt_c {b wr m : Nat} {Z Z2 : mjZt} (hb : b = 2 ∨ b = 92) (h : eqPt b wr m Z Z2) : eqCc b wr m Z Z2 := by
  obtain ⟨h1, h2, h3, h4, h5⟩ := h
  refine ⟨by rw [h1], fun a _ => by rw [h1], fun a q1 q2 q3 q4 q5 => h2 a (by omega) (by omega) (by omega) (by omega) (by omega), h4, fun j k q1 q2 => ?_⟩
  rcases (by omega : j = 0 ∨ j = 1 ∨ j = 2) with rfl | rfl | rfl
  · rw [h2 _ (by omega) (by omega) (by omega) (by omega) (by omega)]
  · rw [h2 _ (by omega) (by omega) (by omega) (by omega) (by omega)]
  · exact h5 k q2
theorem eqTk_c {b wr m : Nat} {Z Z2 : mjZt} (hb : b = 2 ∨ b = 92) (h : eqTk Z Z2) : eqCc b wr m Z Z2 :=
  ⟨h.1, fun a q => (h.2 a q).2, fun a q _ _ _ _ => (h.2 a q).1, fun j k q1 q2 => by rw [(h.2 _ (by omega)).1], fun j k q1 q2 => by rw [(h.2 _ (by omega)).1]⟩
theorem eqCc_si {b wr m : Nat} {Z : mjZt} (hb : b = 2 ∨ b = 92) {a k : Nat} {v : Int32} (ha : a = 185 ∨ a = 186 ∨ a = 187) : eqCc b wr m Z (zSi Z a k v) :=
  ⟨rfl, fun _ _ => rfl, fun c _ _ _ _ _ => si_obj _ _ _ _ (by omega), fun j c q1 q2 => by rw [si_obj _ _ _ _ (by omega)], fun j c q1 q2 => by rw [si_obj _ _ _ _ (by omega)]⟩
section RD
variable {b : Nat} {Z : mjZt} {S : mjS} {fr m wr : Nat} {L : pL}
theorem plC_of {Z2 : mjZt} (e1 : Z2.1 186 = Z.1 186) (e2 : Z2.1 187 = Z.1 187) : ∀ K, plC Z K → plC Z2 K
  | [], _ => trivial
  | (c, a) :: K, ⟨h1, h2, h3⟩ => ⟨by rw [e1]; exact h1, by rw [e2]; exact h2, plC_of e1 e2 K h3⟩
theorem plK_of {Z2 : mjZt} {K : pL} (h : plK Z K) (e0 : Z2.1 185 = Z.1 185) (e1 : Z2.1 186 = Z.1 186) (e2 : Z2.1 187 = Z.1 187) : plK Z2 K := ⟨by rw [e0]; exact h.1, by rw [e0]; exact h.2.1, plC_of e1 e2 K h.2.2⟩
theorem trC_of {Z2 : mjZt} (h : trC b Z S fr m wr) (e : ∀ a, b + 1 ≤ a → a ≤ b + 7 → Z2.1 a = Z.1 a) : trC b Z2 S fr m wr := by
  obtain ⟨h1, h2, h3, h4, h5, h6, h7⟩ := h
  refine ⟨by rw [e _ (by omega) (by omega)]; exact h1, by rw [e _ (by omega) (by omega)]; exact h2, h3, by rw [e _ (by omega) (by omega)]; exact h4, by rw [e _ (by omega) (by omega)]; exact h5, fun i g1 g2 => ?_, h7⟩
  rw [e _ (by omega) (by omega), e _ (by omega) (by omega), e _ (by omega) (by omega)]
  exact h6 i g1 g2
/-- a term is put -/
theorem e48 (hb : b = 2 ∨ b = 92) (h : trC b Z S fr m wr) (hm : m < 700) {c v l : Int} (hv : isCm c = false → v = nuC (zuS S 9 m c) fr m) (hl : isLf c = false → c ≠ 40 → l = lfS (zuS S 9 m c) m) : ∃ Z1, f48_put (b + 1) (i3 (opC c)) (i3 v) (i3 l) Z = some ((), Z1) ∧ trC b Z1 (zuS S 9 m c) fr (m + 1) wr ∧ eqPt b wr m Z Z1 := by
  obtain ⟨h1, h2, h3, h4, h5, h6, h7⟩ := h
  have ob : 0 ≤ opC c ∧ opC c ≤ 12 := by
    unfold opC
    repeat (split <;> try omega)
  have cm : isCm c = true ↔ (7 ≤ opC c ∧ opC c ≤ 9) := by
    unfold isCm opC
    rw [decide_eq_true_eq]
    constructor
    · intro g
      repeat (split <;> try omega)
    · intro g
      repeat (split at g <;> try omega)
  have ib := is_b2 hb
  have it := is_trm hb
  have ag : ∀ k, k < m → zuS S 9 m c 9 k = S 9 k := fun k hk => zuS_n (by omega)
  have em : zuS S 9 m c 9 m = c := zuS_e
  have cib := ci_bd S fr m
  have ci0 : ciS (zuS S 9 m c) fr m = ciS S fr m := ci_agr (fun j hj => ag j hj)
  have ci1 : ciS (zuS S 9 m c) fr (m + 1) = ciS S fr m + (if isCm c = true then 1 else 0) := by rw [ci_s _ h7, ci0, em]
  have nuO : ∀ i, i < m → nuC (zuS S 9 m c) fr i = nuC S fr i := fun i hi => by
    unfold nuC; rw [ag i hi, ci_agr (fun j hj => ag j (by omega))]
  have lfO : ∀ i, i < m → lfS (zuS S 9 m c) i = lfS S i := fun i hi => lf_agr (fun k hk => ag k (by omega))
  generalize zuS S 9 m c = S2 at *
  have i1 : mjIs (b + 1 + 1) 211 13 = true := ib 0 (by omega)
  have i2 : mjIs (b + 1 + 2) 211 13 = true := ib 1 (by omega)
  have i3' : mjIs (b + 1 + 3) 211 13 = true := ib 2 (by omega)
  have i6' : mjIs (b + 1 + 6) 211 13 = true := ib 5 (by omega)
  have l1 : (mjLay (b + 1 + 1)).2 = 700 := it.1 0 (by omega)
  have l2 : (mjLay (b + 1 + 2)).2 = 700 := it.1 1 (by omega)
  have l3 : (mjLay (b + 1 + 3)).2 = 700 := it.1 2 (by omega)
  have l6 : (mjLay (b + 1 + 6)).2 = 16 := it.2 2 (by omega)
  have head : f48_put (b + 1) (i3 (opC c)) (i3 v) (i3 l) Z = (mjLet (zSi (zSi (zSi Z (b + 1 + 1) m (i3 (opC c))) (b + 1 + 2) m (i3 v)) (b + 1 + 3) m (i3 l)) fun Z115 => if mjCmp .lt (i3 (opC c)) 7 = true then mjLet (zSi Z115 (b + 1) 7 ((Z115.1 (b + 1) 7) + 1)) fun Z117 => some ((), Z117) else if mjCmp .gt (i3 (opC c)) 9 = true then mjLet (zSi Z115 (b + 1) 7 ((Z115.1 (b + 1) 7) + 1)) fun Z119 => some ((), Z119) else if mjIn (Z115.1 (b + 1) 6) (mjLay (b + 1 + 6)).2 = true then (if mjIn (Z115.1 (b + 1) 7) (mjLay (b + 1 + 2)).2 = true then mjLet (zSi Z115 (b + 1 + 2) (mjIx (Z115.1 (b + 1) 7)) (Z115.1 (b + 1 + 6) (mjIx (Z115.1 (b + 1) 6)))) fun Z122 => if mjIn (Z122.1 (b + 1) 6) (mjLay (b + 1 + 6)).2 = true then mjLet (zSi Z122 (b + 1 + 6) (mjIx (Z122.1 (b + 1) 6)) ((Z122.1 (b + 1 + 6) (mjIx (Z122.1 (b + 1) 6))) + 1)) fun Z124 => mjLet (zSi Z124 (b + 1) 7 ((Z124.1 (b + 1) 7) + 1)) fun Z125 => some ((), Z125) else none else none) else none) := by
    unfold f48_put
    rw [if_pos (is_b1 hb), h1, h2, show (0 : Int32) = i3 0 from rfl, if_neg (by rw [c_lt (by omega)]; omega), show (700 : Int32) = i3 700 from rfl, if_neg (by rw [c_ge (by omega)]; omega), if_neg (by rw [c_lt (by omega)]; omega), if_pos i6', l6, i3_ofNat, if_pos (by rw [c_lt (by omega)]; omega), if_pos i1, l1, if_pos (in_p (by omega)), ix_nat (by omega), let_eq, if_pos i2, l2, si_obj _ _ _ _ (by omega), h1, if_pos (in_p (by omega)), ix_nat (by omega), let_eq, if_pos i3', l3, si_obj _ _ _ _ (by omega), si_obj _ _ _ _ (by omega), h1, if_pos (in_p (by omega)), ix_nat (by omega)]
  generalize hZa : zSi (zSi (zSi Z (b + 1 + 1) m (i3 (opC c))) (b + 1 + 2) m (i3 v)) (b + 1 + 3) m (i3 l) = Za at head
  have z1 : Za.1 (b + 1) = Z.1 (b + 1) := by rw [← hZa, si_obj _ _ _ _ (by omega), si_obj _ _ _ _ (by omega), si_obj _ _ _ _ (by omega)]
  have z6 : Za.1 (b + 1 + 6) = Z.1 (b + 1 + 6) := by rw [← hZa, si_obj _ _ _ _ (by omega), si_obj _ _ _ _ (by omega), si_obj _ _ _ _ (by omega)]
  have zo : ∀ a, a ≠ b + 1 + 1 → a ≠ b + 1 + 2 → a ≠ b + 1 + 3 → Za.1 a = Z.1 a := fun a g1 g2 g3 => by rw [← hZa, si_obj _ _ _ _ g3, si_obj _ _ _ _ g2, si_obj _ _ _ _ g1]
  have zr1 : ∀ k, k ≠ m → Za.1 (b + 1 + 1) k = Z.1 (b + 1 + 1) k := fun k g => by rw [← hZa, si_obj _ _ _ _ (by omega), si_obj _ _ _ _ (by omega), si_fld _ _ _ _ (by omega)]
  have zr2 : ∀ k, k ≠ m → Za.1 (b + 1 + 2) k = Z.1 (b + 1 + 2) k := fun k g => by rw [← hZa, si_obj _ _ _ _ (by omega), si_fld _ _ _ _ (by omega), si_obj _ _ _ _ (by omega)]
  have zr3 : ∀ k, k ≠ m → Za.1 (b + 1 + 3) k = Z.1 (b + 1 + 3) k := fun k g => by rw [← hZa, si_fld _ _ _ _ (by omega), si_obj _ _ _ _ (by omega), si_obj _ _ _ _ (by omega)]
  have y1 : Za.1 (b + 1 + 1) m = i3 (opC c) := by rw [← hZa, si_obj _ _ _ _ (by omega), si_obj _ _ _ _ (by omega), si_same]
  have y2 : Za.1 (b + 1 + 2) m = i3 v := by rw [← hZa, si_obj _ _ _ _ (by omega), si_same]
  have y3 : Za.1 (b + 1 + 3) m = i3 l := by rw [← hZa, si_same]
  have zl : Za.2 = Z.2 := by rw [← hZa]; rfl
  have rows : ∀ Z1 : mjZt, Z1.2 = Z.2 → (∀ a, a ≠ b + 1 → a ≠ b + 1 + 2 → a ≠ b + 1 + 6 → Z1.1 a = Za.1 a) → (∀ f, f ≠ 7 → Z1.1 (b + 1) f = Z.1 (b + 1) f) → Z1.1 (b + 1) 7 = i3 ((m + 1 : Nat) : Int) → (∀ k, k ≠ m → Z1.1 (b + 1 + 2) k = Za.1 (b + 1 + 2) k) → Z1.1 (b + 1 + 2) m = i3 (nuC S2 fr m) → (∀ k, k ≠ wr → Z1.1 (b + 1 + 6) k = Z.1 (b + 1 + 6) k) → Z1.1 (b + 1 + 6) wr = i3 (ciS S2 fr (m + 1)) → trC b Z1 S2 fr (m + 1) wr ∧ eqPt b wr m Z Z1 := fun Z1 g0 g1 g2 g3 g4 g5 g6 g7 => by
    refine ⟨⟨g3, by rw [g2 6 (by omega)]; exact h2, h3, by rw [g1 _ (by omega) (by omega) (by omega), zo _ (by omega) (by omega) (by omega)]; exact h4, g7, fun i q1 q2 => ?_, by omega⟩, g0, fun a q1 q2 q3 q4 q5 => by rw [g1 a q1 q3 q5, zo a q2 q3 q4], g2, fun j k q1 q2 => ?_, g6⟩
    · by_cases q : i = m
      · subst q
        rw [g1 (b + 1 + 1) (by omega) (by omega) (by omega), y1, g5, g1 (b + 1 + 3) (by omega) (by omega) (by omega), y3, em]
        exact ⟨rfl, rfl, fun k1 k2 => by rw [hl k1 k2]⟩
      · rw [g1 (b + 1 + 1) (by omega) (by omega) (by omega), zr1 i q, g4 i q, zr2 i q, g1 (b + 1 + 3) (by omega) (by omega) (by omega), zr3 i q, ag i (by omega), nuO i (by omega), lfO i (by omega)]
        exact h6 i q1 (by omega)
    · rcases (by omega : j = 0 ∨ j = 1 ∨ j = 2) with rfl | rfl | rfl
      · rw [g1 _ (by omega) (by omega) (by omega), zr1 k (by omega)]
      · rw [g4 k (by omega), zr2 k (by omega)]
      · rw [g1 _ (by omega) (by omega) (by omega), zr3 k (by omega)]
  rw [head, let_eq, z1, h1, h2, l6, l2, z6, i3_s, show (7 : Int32) = i3 7 from rfl, show (9 : Int32) = i3 9 from rfl]
  cases q : isCm c with
  | false =>
    have nc : opC c < 7 ∨ 9 < opC c := by
      rcases Int.lt_or_le (opC c) 7 with g | g
      · exact Or.inl g
      · rcases Int.lt_or_le 9 (opC c) with g2 | g2
        · exact Or.inr g2
        · have := cm.mpr ⟨g, g2⟩; rw [q] at this; cases this
    refine ⟨zSi Za (b + 1) 7 (i3 ((m + 1 : Nat) : Int)), ?_, rows _ zl (fun a g1 _ _ => si_obj _ _ _ _ g1) (fun f hf => by rw [si_fld _ _ _ _ (by omega), z1]) (si_same _ _ _ _) (fun k _ => by rw [si_obj _ _ _ _ (by omega)]) (by rw [si_obj _ _ _ _ (by omega), y2, hv q]) (fun k _ => by rw [si_obj _ _ _ _ (by omega), z6]) (by rw [si_obj _ _ _ _ (by omega), z6, h5, ci1, q]; exact congrArg i3 (by simp))⟩
    rcases nc with g | g
    · rw [if_pos (by rw [c_lt (by omega)]; omega), let_eq]
    · rw [if_neg (by rw [c_lt (by omega)]; omega), if_pos (by rw [c_gt (by omega)]; omega), let_eq]
  | true =>
    have g := cm.mp q
    rw [if_neg (by rw [c_lt (by omega)]; omega), if_neg (by rw [c_gt (by omega)]; omega), if_pos (in_p (by omega)), if_pos (in_p (by omega)), ix_nat (by omega), ix_nat (by omega), let_eq]
    have w1 : (zSi Za (b + 1 + 2) m (Z.1 (b + 1 + 6) wr)).1 (b + 1) 6 = i3 wr := by rw [si_obj _ _ _ _ (by omega), z1, h2]
    have w2 : (zSi Za (b + 1 + 2) m (Z.1 (b + 1 + 6) wr)).1 (b + 1 + 6) wr = i3 (ciS S fr m) := by rw [si_obj _ _ _ _ (by omega), z6, h5]
    have w3 : (zSi (zSi Za (b + 1 + 2) m (Z.1 (b + 1 + 6) wr)) (b + 1 + 6) wr (i3 (ciS S fr m + 1))).1 (b + 1) 7 = i3 m := by rw [si_obj _ _ _ _ (by omega), si_obj _ _ _ _ (by omega), z1, h1]
    rw [w1, if_pos (in_p (by omega)), ix_nat (by omega), w2, i3_s0, let_eq, w3, i3_s, let_eq]
    have nu : nuC S2 fr m = ciS S fr m := by
      unfold nuC
      have := (of_decide_eq_true q : 30 ≤ c ∧ c ≤ 32)
      rw [em, if_neg (by omega), if_neg (by omega), if_pos q, ci0]
    refine ⟨_, rfl, rows _ zl (fun a g1 g2 g3 => by rw [si_obj _ _ _ _ g1, si_obj _ _ _ _ g3, si_obj _ _ _ _ g2]) (fun f hf => by rw [si_fld _ _ _ _ (by omega), si_obj _ _ _ _ (by omega), si_obj _ _ _ _ (by omega), z1]) (si_same _ _ _ _) (fun k g1 => by rw [si_obj _ _ _ _ (by omega), si_obj _ _ _ _ (by omega), si_fld _ _ _ _ (by omega)]) (by rw [si_obj _ _ _ _ (by omega), si_obj _ _ _ _ (by omega), si_same, h5, nu]) (fun k g1 => by rw [si_obj _ _ _ _ (by omega), si_fld _ _ _ _ (by omega), si_obj _ _ _ _ (by omega), z6]) (by rw [si_obj _ _ _ _ (by omega), si_same, ci1, if_pos q])⟩
end RD
