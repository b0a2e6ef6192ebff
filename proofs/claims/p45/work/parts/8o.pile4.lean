/-! CONDITIONS READ: the pile of what waits; a pile is a list of (code, where its right side begins), the latest first; codes are the model's, 52 is the begin of a comparison whose sign hasn't been, 30 .. 32 one whose sign has been -/
abbrev pL : Type := List (Int × Nat)
def opW (c : Int) : Int := if c = 50 then 2 else if c = 51 then 3 else opC c
def qM (c : Int) : Int := if isCm c = true then 52 else c
def isOp (c : Int) : Bool := decide (c = 40 ∨ c = 50 ∨ c = 51)
def opn : pL → Nat
  | [] => 0
  | (c, _) :: L => opn L + (if isOp c = true then 1 else 0)
def crl : pL → Nat
  | [] => 0
  | (c, _) :: L => crl L + (if c = 51 then 1 else 0)
/-- those that become terms -/
def wtL : pL → Nat
  | [] => 0
  | (c, _) :: L => wtL L + (if c = 50 ∨ c = 51 ∨ c = 52 then 0 else 1)
/-- the class's pile has no 52 -/
def cL : pL → pL
  | [] => []
  | (c, a) :: L => if c = 52 then cL L else (c, a) :: cL L
def isT (c : Int) : Bool := decide (c = 40 ∨ c = 41 ∨ c = 42 ∨ c = 50)
def isN (c : Int) : Bool := decide (c = 21 ∨ c = 22 ∨ c = 23 ∨ c = 51)
def isX (c : Int) : Bool := decide (c = 52 ∨ c = 30 ∨ c = 31 ∨ c = 32)
/-- what may stand on what -/
def onT (c : Int) : pL → Prop
  | [] => True
  | (y, _) :: _ => (c = 41 → y = 42 ∨ y = 50) ∧ (c = 42 → y = 50)
def onN (c : Int) : pL → Prop
  | [] => True
  | (y, _) :: _ => (c = 21 ∨ c = 22 → y = 51 ∨ isX y = true) ∧ (c = 23 → y = 21 ∨ y = 22 ∨ y = 51 ∨ isX y = true)
/-- piles of truths: T; of a comparison: N (x: its mark) -/
def pT : pL → Prop
  | [] => True
  | (c, _) :: L => isT c = true ∧ onT c L ∧ pT L
def pN (x : Int) : pL → Prop
  | [] => False
  | (c, _) :: L => (isN c = true ∧ onN c L ∧ pN x L) ∨ (isX c = true ∧ c = x ∧ pT L)
/-- where operands begin -/
def chn (S : mjS) (fr : Nat) : pL → Nat → Prop
  | [], e => e = fr
  | (c, a) :: L, e => e = a ∧ fr ≤ a ∧ ((isOp c = true ∨ c = 52) ∧ chn S fr L a ∨ (isOp c = false ∧ c ≠ 52) ∧ ∃ a', a' < a ∧ spS S (a - 1) = a' ∧ isTt (S 9 (a - 1)) = decide (40 < c) ∧ chn S fr L a')
def rkW : pL → Nat
  | [] => 0
  | (c, _) :: _ => if isOp c = true then 0 else if c = 42 then 1 else if c = 41 then 2 else if isX c = true then 3 else if c = 21 ∨ c = 22 then 4 else 5
theorem rk_le (L : pL) : rkW L ≤ 5 := by
  unfold rkW
  split
  · omega
  · repeat (split <;> try omega)
theorem pT_len : ∀ L, pT L → L.length ≤ 6 * opn L + rkW L ∧ rkW L ≤ 2
  | [], _ => by simp [opn, rkW]
  | (c, a) :: L, ⟨h1, h2, h3⟩ => by
    have ih := pT_len L h3
    have r := rk_le L
    have hc : c = 40 ∨ c = 41 ∨ c = 42 ∨ c = 50 := of_decide_eq_true h1
    rw [List.length_cons, opn]
    rcases hc with rfl | rfl | rfl | rfl
    · rw [show isOp 40 = true by decide, if_pos rfl, show rkW ((40, a) :: L) = 0 by rfl]; omega
    · rw [show isOp 41 = false by decide, if_neg (by decide), show rkW ((41, a) :: L) = 2 by rfl]
      cases L with
      | nil => simp only [rkW] at ih; omega
      | cons d M =>
        obtain ⟨y, k⟩ := d
        rcases h2.1 rfl with g | g
        · rw [g, show rkW ((42, k) :: M) = 1 by rfl] at ih; rw [g]; omega
        · rw [g, show rkW ((50, k) :: M) = 0 by rfl] at ih; rw [g]; omega
    · rw [show isOp 42 = false by decide, if_neg (by decide), show rkW ((42, a) :: L) = 1 by rfl]
      cases L with
      | nil => simp only [rkW] at ih; omega
      | cons d M =>
        obtain ⟨y, k⟩ := d
        have g := h2.2 rfl
        rw [g, show rkW ((50, k) :: M) = 0 by rfl] at ih; rw [g]; omega
    · rw [show isOp 50 = true by decide, if_pos rfl, show rkW ((50, a) :: L) = 0 by rfl]; omega
theorem pN_len {x : Int} : ∀ L, pN x L → L.length ≤ 6 * opn L + rkW L
  | [], h => h.elim
  | (c, a) :: L, .inr ⟨h1, h2, h3⟩ => by
    have ih := pT_len L h3
    have hc : c = 52 ∨ c = 30 ∨ c = 31 ∨ c = 32 := of_decide_eq_true h1
    have e : rkW ((c, a) :: L) = 3 := by rcases hc with rfl | rfl | rfl | rfl <;> rfl
    have e2 : isOp c = false := by rcases hc with rfl | rfl | rfl | rfl <;> rfl
    rw [List.length_cons, opn, e, e2, if_neg (by decide)]; omega
  | (c, a) :: L, .inl ⟨h1, h2, h3⟩ => by
    have ih := pN_len L h3
    have r := rk_le L
    have hc : c = 21 ∨ c = 22 ∨ c = 23 ∨ c = 51 := of_decide_eq_true h1
    have rx : ∀ y k (M : pL), isX y = true → rkW ((y, k) :: M) = 3 := fun y k M g => by
      have : y = 52 ∨ y = 30 ∨ y = 31 ∨ y = 32 := of_decide_eq_true g
      rcases this with rfl | rfl | rfl | rfl <;> rfl
    rw [List.length_cons, opn]
    cases L with
    | nil => exact h3.elim
    | cons d M =>
      obtain ⟨y, k⟩ := d
      have s4 : (c = 21 ∨ c = 22) → rkW ((c, a) :: (y, k) :: M) = 4 ∧ isOp c = false := fun g => by rcases g with rfl | rfl <;> exact ⟨rfl, rfl⟩
      rcases hc with g | g | g | g
      · obtain ⟨e, e2⟩ := s4 (Or.inl g)
        rw [e, e2, if_neg (by decide)]
        rcases h2.1 (Or.inl g) with g2 | g2
        · rw [g2, show rkW ((51, k) :: M) = 0 by rfl] at ih; rw [g2]; omega
        · rw [rx y k M g2] at ih; omega
      · obtain ⟨e, e2⟩ := s4 (Or.inr g)
        rw [e, e2, if_neg (by decide)]
        rcases h2.1 (Or.inr g) with g2 | g2
        · rw [g2, show rkW ((51, k) :: M) = 0 by rfl] at ih; rw [g2]; omega
        · rw [rx y k M g2] at ih; omega
      · subst g
        rw [show isOp 23 = false by decide, if_neg (by decide), show rkW ((23, a) :: (y, k) :: M) = 5 by rfl]
        rcases h2.2 rfl with g2 | g2 | g2 | g2
        · rw [g2, show rkW ((21, k) :: M) = 4 by rfl] at ih; rw [g2]; omega
        · rw [g2, show rkW ((22, k) :: M) = 4 by rfl] at ih; rw [g2]; omega
        · rw [g2, show rkW ((51, k) :: M) = 0 by rfl] at ih; rw [g2]; omega
        · rw [rx y k M g2] at ih; omega
      · subst g
        rw [show isOp 51 = true by decide, if_pos rfl, show rkW ((51, a) :: (y, k) :: M) = 0 by rfl]; omega
theorem cL_len : ∀ L, (cL L).length ≤ L.length
  | [] => Nat.le_refl _
  | (c, a) :: L => by
    have ih := cL_len L
    rw [cL]
    split
    · rw [List.length_cons]; omega
    · rw [List.length_cons, List.length_cons]; omega
theorem cL_opn : ∀ L, opn (cL L) = opn L
  | [] => rfl
  | (c, a) :: L => by
    have ih := cL_opn L
    rw [cL]
    split
    · rename_i h
      subst h
      rw [opn, ih, show isOp 52 = false by decide, if_neg (by decide)]; rfl
    · rw [opn, opn, ih]
theorem pT_cL : ∀ L, pT L → cL L = L
  | [], _ => rfl
  | (c, a) :: L, ⟨h1, _, h3⟩ => by
    have hc : c = 40 ∨ c = 41 ∨ c = 42 ∨ c = 50 := of_decide_eq_true h1
    rw [cL, if_neg (by omega), pT_cL L h3]
theorem pT_crl : ∀ L, pT L → crl L = 0
  | [], _ => rfl
  | (c, a) :: L, ⟨h1, _, h3⟩ => by
    have hc : c = 40 ∨ c = 41 ∨ c = 42 ∨ c = 50 := of_decide_eq_true h1
    rw [crl, pT_crl L h3, if_neg (by omega)]
/-- a chain looks at codes ahead alone -/
theorem chn_agr {S S2 : mjS} {fr : Nat} : ∀ (L : pL) (e : Nat), (∀ k, k < e → S2 9 k = S 9 k) → chn S fr L e → chn S2 fr L e
  | [], e, _, h => h
  | (c, a) :: L, e, hk, ⟨h1, h2, h3⟩ => by
    subst h1
    refine ⟨rfl, h2, ?_⟩
    rcases h3 with ⟨g1, g2⟩ | ⟨g1, a', g2, g3, g4, g5⟩
    · exact Or.inl ⟨g1, chn_agr L e hk g2⟩
    · refine Or.inr ⟨g1, a', g2, ?_, ?_, chn_agr L a' (fun k q => hk k (by omega)) g5⟩
      · rw [spS_agr (fun k q => hk k (by omega))]; exact g3
      · rw [hk _ (by omega)]; exact g4
theorem chn_fr {S : mjS} {fr : Nat} : ∀ (L : pL) (e : Nat), chn S fr L e → fr ≤ e
  | [], e, h => by have : e = fr := h; omega
  | (c, a) :: L, e, ⟨h1, h2, _⟩ => by omega
/-- behind truths a comparison begins at the begin, or behind a truth -/
theorem chn_T {S : mjS} {fr : Nat} : ∀ (L : pL) (e : Nat), pT L → chn S fr L e → e = fr ∨ isTt (S 9 (e - 1)) = true
  | [], e, _, h => Or.inl h
  | (c, a) :: L, e, ⟨p1, _, p3⟩, ⟨h1, h2, h3⟩ => by
    subst h1
    have hc : c = 40 ∨ c = 41 ∨ c = 42 ∨ c = 50 := of_decide_eq_true p1
    rcases h3 with ⟨g1, g2⟩ | ⟨⟨g1, g1'⟩, a', g2, g3, g4, g5⟩
    · exact chn_T L e p3 g2
    · right
      rw [g4]
      have : c ≠ 40 := fun q => by subst q; cases g1
      exact decide_eq_true (by omega)
/-- a term's own conditions -/
def wfI (S : mjS) (fr i : Nat) : Prop := cdv (S 9 i) ∧
  (S 9 i = 40 → fr < i ∧ isTt (S 9 (i - 1)) = true ∧ fr ≤ spS S (i - 1)) ∧
  (isLf (S 9 i) = false → S 9 i ≠ 40 → fr < i ∧ fr < spS S (i - 1) ∧ fr ≤ spS S (lfS S i) ∧
    (S 9 i ≤ 32 → isTt (S 9 (i - 1)) = false ∧ isTt (S 9 (lfS S i)) = false) ∧ (isCm (S 9 i) = true → spS S (lfS S i) = fr ∨ isTt (S 9 (spS S (lfS S i) - 1)) = true) ∧
    (40 < S 9 i → isTt (S 9 (i - 1)) = true ∧ isTt (S 9 (lfS S i)) = true))
theorem wfI_agr {S S2 : mjS} {fr i : Nat} (e : ∀ k, k ≤ i → S2 9 k = S 9 k) (h : wfI S fr i) : wfI S2 fr i := by
  have l1 := sp_le S (i - 1)
  have l2 : lfS S i ≤ i := by unfold lfS; omega
  have l3 := sp_le S (lfS S i)
  unfold wfI at *
  rw [e i (by omega), lf_agr (fun k hk => e k (by omega)), spS_agr (i := i - 1) (fun k hk => e k (by omega)), spS_agr (i := lfS S i) (fun k hk => e k (by omega)), e (i - 1) (by omega), e (lfS S i) (by omega), e (spS S (lfS S i) - 1) (by omega)]
  exact h
/-- what is so of terms and pile: e is where the present operand begins -/
def cI (S : mjS) (fr m : Nat) (L : pL) (e : Nat) : Prop := e ≤ m ∧ chn S fr L e ∧ ∀ i, fr ≤ i → i < m → wfI S fr i
/-- the present operand is there; a truth or not -/
def hasI (S : mjS) (m e : Nat) (ty : Bool) : Prop := e < m ∧ spS S (m - 1) = e ∧ isTt (S 9 (m - 1)) = ty
theorem cI_agr {S S2 : mjS} {fr m : Nat} {L : pL} {e : Nat} (h : cI S fr m L e) (g : ∀ k, k < m → S2 9 k = S 9 k) : cI S2 fr m L e :=
  ⟨h.1, chn_agr L e (fun k hk => g k (by have := h.1; omega)) h.2.1, fun i h1 h2 => wfI_agr (fun k hk => g k (by omega)) (h.2.2 i h1 h2)⟩
theorem chn_bin {S : mjS} {fr : Nat} {c : Int} {a e : Nat} {L : pL} (h : chn S fr ((c, a) :: L) e) (hc : isOp c = false) (h52 : c ≠ 52) : ∃ a', a' < a ∧ spS S (a - 1) = a' ∧ isTt (S 9 (a - 1)) = decide (40 < c) ∧ chn S fr L a' := by
  obtain ⟨_, _, h3⟩ := h
  rcases h3 with ⟨g1, _⟩ | ⟨_, g⟩
  · rcases g1 with g1 | g1
    · rw [hc] at g1; cases g1
    · exact absurd g1 h52
  · exact g
theorem chn_opn {S : mjS} {fr : Nat} {c : Int} {a e : Nat} {L : pL} (h : chn S fr ((c, a) :: L) e) (hc : isOp c = true ∨ c = 52) : chn S fr L a := by
  obtain ⟨_, _, h3⟩ := h
  rcases h3 with ⟨_, g⟩ | ⟨⟨g1, g2⟩, _⟩
  · exact g
  · rcases hc with hc | hc
    · rw [hc] at g1; cases g1
    · exact absurd hc g2
/-- an operator has what is behind it: it becomes a term -/
theorem emit {S : mjS} {fr m : Nat} {c : Int} {a : Nat} {L : pL} (h : cI S fr m ((c, a) :: L) a) (hh : hasI S m a (decide (40 ≤ c))) (hc : c = 21 ∨ c = 22 ∨ c = 23 ∨ c = 30 ∨ c = 31 ∨ c = 32 ∨ c = 40 ∨ c = 41 ∨ c = 42) (hT : isCm c = true → pT L) : ∃ e, cI (zuS S 9 m c) fr (m + 1) L e ∧ hasI (zuS S 9 m c) (m + 1) e (decide (30 ≤ c)) ∧ (c ≠ 40 → lfS (zuS S 9 m c) m = a - 1 ∧ 0 < a) ∧ fr ≤ e := by
  obtain ⟨h1, h23, h4⟩ := h
  have h2 : fr ≤ a := h23.2.1
  obtain ⟨k1, k2, k3⟩ := hh
  have ag : ∀ k, k < m → zuS S 9 m c 9 k = S 9 k := fun k hk => zuS_n (by omega)
  have em : zuS S 9 m c 9 m = c := zuS_e
  generalize zuS S 9 m c = S2 at *
  have sm : spS S2 (m - 1) = a := by rw [spS_agr (fun k hk => ag k (by omega)), k2]
  have tm : S2 9 (m - 1) = S 9 (m - 1) := ag _ (by omega)
  have lf : lfS S2 m = a - 1 := by unfold lfS; rw [sm]
  have nlf : isLf (S2 9 m) = false := by rw [em]; exact decide_eq_false (by omega)
  have old : ∀ i, fr ≤ i → i < m → wfI S2 fr i := fun i q1 q2 => wfI_agr (fun k hk => ag k (by omega)) (h4 i q1 q2)
  have cd : cdv (S2 9 m) := by
    rw [em]; unfold cdv; omega
  have tt : isTt c = decide (30 ≤ c) := decide_eq_decide.mpr ⟨fun g => g.1, fun g => by omega⟩
  by_cases q : c = 40
  · subst q
    have g2 := chn_opn h23 (Or.inl rfl)
    clear h23
    have s2 : spS S2 m = a := by rw [sp_not em (by omega), sm]
    refine ⟨a, ⟨by omega, chn_agr L a (fun k hk => ag k (by omega)) g2, fun i q1 q2 => ?_⟩, ⟨by omega, by rw [Nat.add_sub_cancel]; exact s2, by rw [Nat.add_sub_cancel, em]; exact tt⟩, fun g => absurd rfl g, h2⟩
    by_cases q3 : i = m
    · subst q3
      refine ⟨cd, fun _ => ⟨by omega, by rw [tm, k3]; rfl, by rw [sm]; exact h2⟩, fun _ g => absurd em g⟩
    · exact old i q1 (by omega)
  · have no : isOp c = false ∧ c ≠ 52 := ⟨decide_eq_false (by omega), by omega⟩
    obtain ⟨a', g2, g3, g4, g5⟩ := chn_bin h23 no.1 no.2
    clear h23
    have sl : spS S2 (a - 1) = a' := by rw [spS_agr (fun k hk => ag k (by omega)), g3]
    have tl : S2 9 (a - 1) = S 9 (a - 1) := ag _ (by omega)
    have s2 : spS S2 m = a' := by rw [sp_bin nlf (by rw [em]; exact q) (by omega), lf, sl]
    have fa := chn_fr L a' g5
    refine ⟨a', ⟨by omega, chn_agr L a' (fun k hk => ag k (by omega)) g5, fun i q1 q2 => ?_⟩, ⟨by omega, by rw [Nat.add_sub_cancel]; exact s2, by rw [Nat.add_sub_cancel, em]; exact tt⟩, fun _ => ⟨lf, by omega⟩, fa⟩
    by_cases q3 : i = m
    · subst q3
      refine ⟨cd, fun g => by rw [em] at g; exact absurd g q, fun _ _ => ⟨by omega, by rw [sm]; omega, by rw [lf, sl]; exact fa, fun g => ?_, fun g => ?_, fun g => ?_⟩⟩
      · rw [em] at g
        rw [tm, k3, lf, tl, g4]
        exact ⟨decide_eq_false (by omega), decide_eq_false (by omega)⟩
      · rw [em] at g
        rw [lf, sl]
        rcases chn_T L a' (hT g) g5 with g6 | g6
        · exact Or.inl g6
        · refine (Nat.eq_zero_or_pos a').elim (fun z => Or.inl (by omega)) (fun z => Or.inr ?_)
          rw [ag _ (by omega)]; exact g6
      · rw [em] at g
        rw [tm, k3, lf, tl, g4]
        exact ⟨decide_eq_true (by omega), decide_eq_true (by omega)⟩
    · exact old i q1 (by omega)
/-- a number, a fact becomes a term -/
theorem leaf {S : mjS} {fr m : Nat} {c : Int} {L : pL} (h : cI S fr m L m) (hc : (100 ≤ c ∧ c ≤ 10099) ∨ (1 ≤ c ∧ c ≤ 11)) : cI (zuS S 9 m c) fr (m + 1) L m ∧ hasI (zuS S 9 m c) (m + 1) m false := by
  obtain ⟨h1, h2, h4⟩ := h
  have ag : ∀ k, k < m → zuS S 9 m c 9 k = S 9 k := fun k hk => zuS_n (by omega)
  have em : zuS S 9 m c 9 m = c := zuS_e
  generalize zuS S 9 m c = S2 at *
  have lf : isLf (S2 9 m) = true := by rw [em]; exact decide_eq_true (by omega)
  refine ⟨⟨by omega, chn_agr L m (fun k hk => ag k (by omega)) h2, fun i q1 q2 => ?_⟩, ⟨by omega, by rw [Nat.add_sub_cancel]; exact sp_leaf lf, by rw [Nat.add_sub_cancel, em]; exact decide_eq_false (by omega)⟩⟩
  by_cases q3 : i = m
  · subst q3
    refine ⟨by rw [em]; unfold cdv; omega, fun g => by rw [em] at g; omega, fun g => by rw [lf] at g; cases g⟩
  · exact wfI_agr (fun k hk => ag k (by omega)) (h4 i q1 (by omega))
/-- an operator waits: of an opener, of one with a left side -/
theorem push_o {S : mjS} {fr m : Nat} {c : Int} {L : pL} (h : cI S fr m L m) (hc : isOp c = true ∨ c = 52) : cI S fr m ((c, m) :: L) m :=
  ⟨Nat.le_refl _, ⟨rfl, chn_fr L m h.2.1, Or.inl ⟨hc, h.2.1⟩⟩, h.2.2⟩
theorem push_b {S : mjS} {fr m e : Nat} {c : Int} {L : pL} (h : cI S fr m L e) (hh : hasI S m e (decide (40 < c))) (hc : isOp c = false ∧ c ≠ 52) : cI S fr m ((c, m) :: L) m :=
  ⟨Nat.le_refl _, ⟨rfl, by have := chn_fr L e h.2.1; have := hh.1; omega, Or.inr ⟨hc, e, hh.1, hh.2.1, hh.2.2, h.2.1⟩⟩, h.2.2⟩
