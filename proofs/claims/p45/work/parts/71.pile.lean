/-! a frame for conditions: but for longs of the scratch and the model's own fields nothing changes -/
def eqP (Z Z2 : mjZt) : Prop := eqQ Z Z2 ∧ ∀ a, a ≠ 211 → Z2.1 a = Z.1 a
theorem eqP_rf {Z : mjZt} : eqP Z Z := ⟨eqQ_rf, fun _ _ => rfl⟩
theorem eqP_tr {Z Z2 Z3 : mjZt} (h : eqP Z Z2) (g : eqP Z2 Z3) : eqP Z Z3 := ⟨eqQ_tr h.1 g.1, fun a ha => (g.2 a ha).trans (h.2 a ha)⟩
theorem eqP_si {Z : mjZt} {k : Nat} {v : Int32} (h : 65 ≤ k) : eqP Z (zSi Z 211 k v) := ⟨eqQ_si (by omega), fun a ha => si_obj _ _ _ _ ha⟩
theorem eqP_sl {Z : mjZt} {a k : Nat} {v : Int64} (h : (a = 189 ∨ (191 ≤ a ∧ a ≤ 198) ∨ (204 ≤ a ∧ a ≤ 208) ∨ (241 ≤ a ∧ a ≤ 250))) : eqP Z (zSl Z a k v) := ⟨eqQ_sl h, fun _ _ => rfl⟩
/-! THE MODEL works a condition on its pile -/
section PI
variable {S : mjS} {fk : Nat → Int} {fr to : Nat}
theorem shape1 {l : List Nat} {i : Nat} (h : isSt S fr l i) (hi : fr < i) : ∃ rest, l = (i - 1) :: rest ∧ isSt S fr rest (spS S (i - 1)) := by
  cases l with
  | nil => have : i = fr := h; omega
  | cons e rest =>
    obtain ⟨h1, h2⟩ := h
    obtain rfl : e = i - 1 := by omega
    exact ⟨rest, rfl, h2⟩
theorem shape2 {l : List Nat} {i : Nat} (h : isSt S fr l i) (hi : fr < i) (hs : fr < spS S (i - 1)) : ∃ rest, l = (i - 1) :: lfS S i :: rest ∧ isSt S fr rest (spS S (lfS S i)) := by
  obtain ⟨r1, rfl, h1⟩ := shape1 h hi
  obtain ⟨r2, rfl, h2⟩ := shape1 h1 hs
  exact ⟨r2, rfl, h2⟩
theorem st_mem {l : List Nat} : ∀ {i : Nat}, isSt S fr l i → ∀ e, e ∈ l → fr ≤ e ∧ e < i := by
  induction l with
  | nil => intro i _ e he; cases he
  | cons a l ih =>
    intro i h e he
    have g := isSt_ge l _ h.2
    have g2 := sp_le S a
    rcases List.mem_cons.mp he with rfl | he
    · have := h.1; omega
    · have h3 := ih h.2 e he
      have := h.1
      omega
theorem leaf_tt {c : Int} (h : isLf c = true) : isTt c = false ∧ isCm c = false := by
  simp only [isLf, decide_eq_true_eq] at h
  constructor
  · simp only [isTt, decide_eq_false_iff_not]; omega
  · simp only [isCm, decide_eq_false_iff_not]; omega
/-- only comparisons of its own stretch -/
theorem yw_sup (hw : WF S fr to) {k : Nat} : ∀ n e, e < n → fr ≤ e → e < to → (ywS S fk e).1 k = true → spS S e ≤ k ∧ k ≤ e ∧ isCm (S 9 k) = true
  | 0, e, hn, _, _, _ => by omega
  | n + 1, e, hn, h1, h2, hk => by
    obtain ⟨g1, g2, g3⟩ := hw.2.2.2 e h1 h2
    cases q : isLf (S 9 e) with
    | true => rw [show ywS S fk e = (fun _ => false, 0) from tS_leaf q] at hk; cases hk
    | false =>
      by_cases q2 : S 9 e = 40
      · obtain ⟨g4, g5, g6⟩ := g2 q2
        rw [show ywS S fk e = ywS S fk (e - 1) from tS_not q2 (by omega)] at hk
        have ih := yw_sup (k := k) hw n (e - 1) (by omega) (by omega) (by omega) hk
        rw [sp_not q2 (by omega)]
        exact ⟨ih.1, by omega, ih.2.2⟩
      · obtain ⟨g4, g5, g6, _⟩ := g3 q q2
        have s1 := sp_le S (e - 1)
        have s2 := sp_le S (lfS S e)
        have e1 : lfS S e = spS S (e - 1) - 1 := rfl
        rw [show ywS S fk e = ywB S fk e (ywS S fk (lfS S e)) (ywS S fk (e - 1)) from tS_bin q q2 (by omega)] at hk
        rw [sp_bin q q2 (by omega)]
        have il := yw_sup (k := k) hw n (lfS S e) (by omega) (by omega) (by omega)
        have ir := yw_sup (k := k) hw n (e - 1) (by omega) (by omega) (by omega)
        unfold ywB at hk
        split at hk
        · split at hk
          · split at hk
            · have := ir hk; exact ⟨by omega, by omega, this.2.2⟩
            · have := il hk; exact ⟨by omega, by omega, this.2.2⟩
          · simp only [Bool.or_eq_true] at hk
            rcases hk with hk | hk
            · have := il hk; exact ⟨by omega, by omega, this.2.2⟩
            · have := ir hk; exact ⟨by omega, by omega, this.2.2⟩
        · split at hk
          · rename_i q3
            simp only [decide_eq_true_eq] at hk
            subst hk
            exact ⟨by omega, by omega, q3⟩
          · cases hk
/-- a leaf -/
theorem st_leaf {Z : mjZt} (hf : ∀ k, k ≤ 10 → -2147483648 ≤ fk k ∧ fk k ≤ 2147483647) (hw : WF S fr to) {l : List Nat} {fl : Bool} {i : Nat} (h1 : fr ≤ i) (h2 : i < to) (hv : Iv Z S fr fk l fl i) (q : isLf (S 9 i) = true) : Iv (zSi (zSl Z 243 l.length (i6 (vL S fk i))) 211 65 (i3 ((l.length + 1 : Nat) : Int))) S fr fk (i :: l) fl (i + 1) := by
  obtain ⟨v1, v2, v3, v4, v5, v6, v7⟩ := hv
  have t := leaf_tt q
  have e : vS S fk i = vL S fk i := tS_leaf q
  have bd := (vS_bd hf hw (i + 1) i (by omega) h1 h2).2 t.1
  have nb : vS S fk i ≠ BEY := by
    rw [e]
    have g1 := (hw.2.2.2 i h1 h2).1
    simp only [isLf, decide_eq_true_eq] at q
    unfold cdv at g1
    unfold vL BEY
    split
    · omega
    · have := hf (S 9 i - 1).toNat (by omega)
      omega
  refine ⟨⟨rfl, by rw [sp_leaf q]; exact v1⟩, ⟨(fun q2 => by rw [t.1] at q2; cases q2), v2⟩, ⟨(fun q2 => by rw [t.1] at q2; cases q2), fun _ _ => ?_, ?_⟩, ?_, ?_, ?_, ?_⟩
  · rw [si_lng, sl_same, e]
  · refine plR_of (fun h => h) l (fun a h q1 q2 q3 => ?_) v3
    rw [si_lng, sl_fld _ _ _ _ (by omega)]
  · refine Iff.trans v4 ?_
    constructor
    · rintro ⟨x, hx, hx2⟩; exact ⟨x, List.mem_cons_of_mem _ hx, hx2⟩
    · rintro ⟨x, hx, hx2, hx3⟩
      rcases List.mem_cons.mp hx with rfl | hx
      · exact absurd hx3 nb
      · exact ⟨x, hx, hx2, hx3⟩
  · rw [si_same]; rfl
  · rw [si_fld _ _ _ _ (by omega), sl_int, v6, ci_s S h1, t.2]; simp
  · rw [si_fld _ _ _ _ (by omega), sl_int, v7]
theorem m285 {Z : mjZt} (x : Int64) : (f285_kept x Z = some (x, Z) ∧ -2147483648 ≤ x.toInt ∧ x.toInt ≤ 2147483647) ∨ (f285_kept x Z = some (i6 0, zSi Z 211 67 (i3 1)) ∧ ¬ (-2147483648 ≤ x.toInt ∧ x.toInt ≤ 2147483647)) := by
  have e := i6_toInt x
  have l1 := x.le_toInt
  have l2 := x.toInt_lt
  generalize x.toInt = z at e l1 l2 ⊢
  subst e
  unfold f285_kept
  rw [show ((-2147483648) : Int64) = i6 (-2147483648) from rfl, show (2147483647 : Int64) = i6 2147483647 from rfl]
  rcases (by omega : z < -2147483648 ∨ 2147483647 < z ∨ (-2147483648 ≤ z ∧ z ≤ 2147483647)) with q | q | q
  · right
    rw [lg6_lt (by omega), if_pos (by decide)]
    exact ⟨rfl, by omega⟩
  · right
    rw [lg6_gt (by omega), if_neg (by decide), lg6_gt (by omega), if_pos (by decide)]
    exact ⟨rfl, by omega⟩
  · left
    refine ⟨?_, q⟩
    have a1 : ¬ mjCmp .lt (lg_cmp (i6 z) (i6 (-2147483648))) 0 = true := by
      rcases Int.lt_or_le (-2147483648) z with h | h
      · rw [lg6_gt (by omega)]; decide
      · rw [lg6_eq (by omega)]; decide
    have a2 : ¬ mjCmp .gt (lg_cmp (i6 z) (i6 2147483647)) 0 = true := by
      rcases Int.lt_or_le z 2147483647 with h | h
      · rw [lg6_lt (by omega)]; decide
      · rw [lg6_eq (by omega)]; decide
    rw [if_neg a1, if_neg a2]
/-- arithmetic: what was beyond stays told -/
theorem st_ar {Z : mjZt} (hf : ∀ k, k ≤ 10 → -2147483648 ≤ fk k ∧ fk k ≤ 2147483647) (hw : WF S fr to) (hto : to ≤ 700) {l : List Nat} {fl : Bool} {i : Nat} (h1 : fr ≤ i) (h2 : i < to) (hv : Iv Z S fr fk l fl i) (q : S 9 i = 21 ∨ S 9 i = 22 ∨ S 9 i = 23) (x1 x3 : Int32) : ∃ Z3 l3 fl3, (∀ R, f288_worked_j128 R x1 x3 (i3 i) (i3 (S 9 i)) Z = R x1 x3 (i3 ((i + 1 : Nat) : Int)) Z3) ∧ Iv Z3 S fr fk l3 fl3 (i + 1) ∧ eqP Z Z3 := by
  obtain ⟨v1, v2, v3, v4, v5, v6, v7⟩ := hv
  obtain ⟨g1, g2, g3⟩ := hw.2.2.2 i h1 h2
  have qa : isLf (S 9 i) = false := by simp only [isLf, decide_eq_false_iff_not]; omega
  have qt : isTt (S 9 i) = false := by simp only [isTt, decide_eq_false_iff_not]; omega
  have qc : isCm (S 9 i) = false := by simp only [isCm, decide_eq_false_iff_not]; omega
  obtain ⟨g4, g5, g6, g7, g8, g9⟩ := g3 qa (by omega)
  obtain ⟨n1, n2⟩ := g7 (by omega)
  obtain ⟨rest, rfl, hs⟩ := shape2 v1 g4 g5
  have len := isSt_ge _ _ v1
  simp only [List.length_cons] at len v5
  have e : vS S fk i = vB S i (vS S fk (lfS S i)) (vS S fk (i - 1)) := tS_bin qa (by omega) (by omega)
  have s1 := sp_le S (i - 1)
  have bl := (vS_bd hf hw (lfS S i + 1) (lfS S i) (by omega) (by unfold lfS; omega) (by unfold lfS; omega)).2 n2
  have br := (vS_bd hf hw (i - 1 + 1) (i - 1) (by omega) (by omega) (by omega)).2 n1
  obtain ⟨_, p2, _, p4, p5⟩ := v3
  -- what is reckoned
  generalize hX : (if S 9 i = 21 then Z.2.1 243 rest.length + Z.2.1 243 (rest.length + 1) else if S 9 i = 22 then Z.2.1 243 rest.length - Z.2.1 243 (rest.length + 1) else Z.2.1 243 rest.length * Z.2.1 243 (rest.length + 1)) = X
  have run : ∀ R, f288_worked_j128 R x1 x3 (i3 i) (i3 (S 9 i)) Z = mjBd (f285_kept X (zSi Z 211 65 (i3 ((rest.length + 1 : Nat) : Int)))) (fun v Z2 => R x1 x3 (i3 ((i + 1 : Nat) : Int)) (zSl Z2 243 rest.length v)) := by
    intro R
    unfold f288_worked_j128
    have e1 : i3 ((rest.length + 1 + 1 : Nat) : Int) - 1 = i3 ((rest.length + 1 : Nat) : Int) := by rw [i3_p]; congr 1; omega
    have e2 : i3 ((rest.length + 1 : Nat) : Int) - 1 = i3 (rest.length : Int) := by rw [i3_p]; congr 1; omega
    rw [v5, e1, let_eq, si_same, e2, if_pos (in_p (by omega)), if_pos (in_p (by omega)), ix_nat (by omega), ix_nat (by omega), si_lng, i3_s]
    rcases q with q | q | q
    · rw [q] at hX ⊢
      rw [if_pos rfl] at hX
      rw [if_neg (by decide), hX]
      rfl
    · rw [q] at hX ⊢
      rw [if_neg (by decide), if_pos rfl] at hX
      rw [if_pos (by decide), if_neg (by decide), hX]
      rfl
    · rw [q] at hX ⊢
      rw [if_neg (by decide), if_neg (by decide)] at hX
      rw [if_pos (by decide), if_pos (by decide), hX]
      rfl
  -- the state behind it
  have build : ∀ (v : Int64) (Z2 : mjZt) (fl3 : Bool), (∀ a h, Z2.2.1 a h = Z.2.1 a h) → Z2.1 211 65 = i3 ((rest.length + 1 : Nat) : Int) → Z2.1 211 66 = Z.1 211 66 → Z2.1 211 67 = i3 (if fl3 = true then 1 else 0) → (fl3 = false → fl = false ∧ v = i6 (vS S fk i)) → (fl3 = true ↔ fl = true ∨ vS S fk i = BEY) → (fl = true → vS S fk i = BEY ∨ ∃ x, x ∈ rest ∧ isTt (S 9 x) = false ∧ vS S fk x = BEY) → Iv (zSl Z2 243 rest.length v) S fr fk (i :: rest) fl3 (i + 1) := by
    intro v Z2 fl3 c1 c2 c3 c4 c5 c6 c7
    refine ⟨⟨rfl, by rw [sp_bin qa (by omega) (by omega)]; exact hs⟩, ⟨(fun q2 => by rw [qt] at q2; cases q2), v2.2.2⟩, ⟨(fun q2 => by rw [qt] at q2; cases q2), fun _ q2 => ?_, ?_⟩, ?_, ?_, ?_, ?_⟩
    · rw [sl_same]; exact (c5 q2).2
    · refine plR_of (fun h => (c5 h).1) rest (fun a h q1 q2 q3 => ?_) p5
      rw [sl_fld _ _ _ _ (by omega), c1]
    · refine Iff.trans c6 ?_
      constructor
      · rintro (q1 | q1)
        · rcases c7 q1 with q2 | ⟨x, hx, hx2⟩
          · exact ⟨i, List.mem_cons_self, qt, q2⟩
          · exact ⟨x, List.mem_cons_of_mem _ hx, hx2⟩
        · exact ⟨i, List.mem_cons_self, qt, q1⟩
      · rintro ⟨x, hx, hx2, hx3⟩
        rcases List.mem_cons.mp hx with rfl | hx
        · exact Or.inr hx3
        · exact Or.inl (Iff.mpr v4 ⟨x, List.mem_cons_of_mem _ (List.mem_cons_of_mem _ hx), hx2, hx3⟩)
    · rw [sl_int, c2]; rfl
    · rw [sl_int, c3, v6, ci_s S h1, qc]; simp
    · rw [sl_int, c4]
  have c7 : fl = true → vS S fk i = BEY ∨ ∃ x, x ∈ rest ∧ isTt (S 9 x) = false ∧ vS S fk x = BEY := by
    intro q1
    obtain ⟨x, hx, hx2, hx3⟩ := Iff.mp v4 q1
    have bb : vS S fk (lfS S i) = BEY ∨ vS S fk (i - 1) = BEY → vS S fk i = BEY := by
      intro q2
      rw [e]; unfold vB
      rw [if_neg (by omega), if_neg (by omega), if_pos q2, qc]; rfl
    rcases List.mem_cons.mp hx with rfl | hx
    · exact Or.inl (bb (Or.inr hx3))
    · rcases List.mem_cons.mp hx with rfl | hx
      · exact Or.inl (bb (Or.inl hx3))
      · exact Or.inr ⟨x, hx, hx2, hx3⟩
  -- without the flag the sides are numbers within 32 bits
  have clean : fl = false → vS S fk i = w32 X.toInt ∧ X = i6 X.toInt := by
    intro q1
    have nb : ∀ x, x ∈ (i - 1) :: lfS S i :: rest → isTt (S 9 x) = false → vS S fk x ≠ BEY := fun x hx hx2 hx3 => by
      have := Iff.mpr v4 ⟨x, hx, hx2, hx3⟩
      rw [q1] at this; cases this
    have nl := nb (lfS S i) (by simp) n2
    have nr := nb (i - 1) (by simp) n1
    have cl := p4 n2 q1
    have cr := p2 n1 q1
    simp only [List.length_cons] at cr
    have rl : -2147483648 ≤ vS S fk (lfS S i) ∧ vS S fk (lfS S i) ≤ 2147483647 := bl.resolve_left nl
    have rr : -2147483648 ≤ vS S fk (i - 1) ∧ vS S fk (i - 1) ≤ 2147483647 := br.resolve_left nr
    have mm := mul62 rl rr
    rw [cl, cr, i6_add, i6_sub, i6_mul] at hX
    refine ⟨?_, (i6_toInt X).symm⟩
    rw [e]; unfold vB
    rw [if_neg (by omega), if_neg (by omega), if_neg (by rintro (q2 | q2); exact nl q2; exact nr q2), if_neg (by omega), if_neg (by omega), if_neg (by omega), ← hX]
    rcases q with q | q | q
    · rw [if_pos q, if_pos q, i6_int (by omega)]
    · rw [if_neg (by omega), if_pos q, if_neg (by omega), if_pos q, i6_int (by omega)]
    · rw [if_neg (by omega), if_neg (by omega), if_neg (by omega), if_neg (by omega), i6_int (by omega)]
  have q65 : eqP Z (zSi Z 211 65 (i3 ((rest.length + 1 : Nat) : Int))) := eqP_si (by omega)
  rcases m285 (Z := zSi Z 211 65 (i3 ((rest.length + 1 : Nat) : Int))) X with ⟨k1, k2⟩ | ⟨k1, k2⟩
  · refine ⟨zSl (zSi Z 211 65 (i3 ((rest.length + 1 : Nat) : Int))) 243 rest.length X, i :: rest, fl, fun R => by rw [run, k1, mjBd_some], build X _ fl (fun a h => rfl) (si_same _ _ _ _) (si_fld _ _ _ _ (by omega)) (by rw [si_fld _ _ _ _ (by omega), v7]) (fun q1 => ⟨q1, ?_⟩) ?_ c7, eqP_tr q65 (eqP_sl (by omega))⟩
    · obtain ⟨a1, a2⟩ := clean q1
      rw [a1, w32, if_pos k2]; exact a2
    · constructor
      · exact Or.inl
      · rintro (q1 | q1)
        · exact q1
        · cases q2 : fl with
          | true => rfl
          | false =>
            obtain ⟨a1, a2⟩ := clean q2
            rw [a1, w32, if_pos k2] at q1
            unfold BEY at q1; omega
  · refine ⟨zSl (zSi (zSi Z 211 65 (i3 ((rest.length + 1 : Nat) : Int))) 211 67 (i3 1)) 243 rest.length (i6 0), i :: rest, true, fun R => by rw [run, k1, mjBd_some], build _ _ true (fun a h => rfl) (by rw [si_fld _ _ _ _ (by omega), si_same]) (by rw [si_fld _ _ _ _ (by omega), si_fld _ _ _ _ (by omega)]) (si_same _ _ _ _) (fun q1 => by cases q1) ?_ c7, eqP_tr (eqP_tr q65 (eqP_si (by omega))) (eqP_sl (by omega))⟩
    · constructor
      · intro _
        cases q2 : fl with
        | true => exact Or.inl rfl
        | false =>
          obtain ⟨a1, a2⟩ := clean q2
          rw [a1, w32, if_neg k2]
          exact Or.inr rfl
      · exact fun _ => rfl
end PI
