/-! WORDS: kept ones, in groups -/
def LJ : List Nat := [2003330414, 111567739122533, 6385252, 28530, 7237492]
def LF : List Nat := [499917943912, 1936292453, 7103847, 482854658917, 1818324581, 478694368626, 418363302244, 6518132, 418346264942, 112628846519652, 1918987883]
def LL : List Nat := [500135191403, 1952801133, 1920298611, 6382452, 1920298085, 32765938003961704, 131294808271214]
def LK : List Nat := [1685221232, 1818324581, 6518132, 115918758044773, 6451064]
theorem pk_Z (Z Y : mjZt) : ∀ n x0 x1 x2 x4, f50_packed_h5 n x0 x1 x2 x4 Z = f50_packed_h5 n x0 x1 x2 x4 Y
  | 0, _, _, _, _ => rfl
  | n + 1, x0, x1, x2, x4 => by
    have e1 : f327_length x0 Z = f327_length x0 Y := rfl
    have e2 : f329_charAt x0 (x1 + x4) Z = f329_charAt x0 (x1 + x4) Y := rfl
    rw [f50_packed_h5, f50_packed_h5, e1, e2]
    simp only [pk_Z Z Y n]
theorem pkJ : ∀ id, id = 1000000 ∨ id = 1000004 ∨ id = 1000008 → mjSid id = true ∧ f327_length id zO = some (i3 (8 * ((5 : Nat) : Int))) ∧ ∀ j : Nat, j < 5 → f50_packed id (i3 j * 8) zO = some (i6 (cvN 8 (LJ.getD j 0))) := by
  rintro id (rfl | rfl | rfl) <;> decide +kernel
theorem pkF : ∀ id, id = 1000001 ∨ id = 1000009 → mjSid id = true ∧ f327_length id zO = some (i3 (8 * ((11 : Nat) : Int))) ∧ ∀ j : Nat, j < 11 → f50_packed id (i3 j * 8) zO = some (i6 (cvN 8 (LF.getD j 0))) := by
  rintro id (rfl | rfl) <;> decide +kernel
theorem pkL : ∀ id, id = 1000002 ∨ id = 1000006 → mjSid id = true ∧ f327_length id zO = some (i3 (8 * ((7 : Nat) : Int))) ∧ ∀ j : Nat, j < 7 → f50_packed id (i3 j * 8) zO = some (i6 (cvN 8 (LL.getD j 0))) := by
  rintro id (rfl | rfl) <;> decide +kernel
theorem pkK : ∀ id, id = 1000003 ∨ id = 1000007 → mjSid id = true ∧ f327_length id zO = some (i3 (8 * ((5 : Nat) : Int))) ∧ ∀ j : Nat, j < 5 → f50_packed id (i3 j * 8) zO = some (i6 (cvN 8 (LK.getD j 0))) := by
  rintro id (rfl | rfl) <;> decide +kernel
def nmB : Nat → Nat → Bool
  | 0, w => decide (w = 0)
  | f + 1, w => decide (w = 0) || (decide (97 ≤ w % 256) && (decide (w % 256 ≤ 122) && nmB f (w / 256)))
theorem nmB_F : ∀ f w, nmB f w = true → nmF f w
  | 0, w, h => of_decide_eq_true (p := w = 0) h
  | f + 1, w, h => by
    rw [nmB, Bool.or_eq_true, Bool.and_eq_true, Bool.and_eq_true] at h
    rcases h with h | ⟨h1, h2, h3⟩
    · exact Or.inl (of_decide_eq_true h)
    · exact Or.inr ⟨of_decide_eq_true h1, of_decide_eq_true h2, nmB_F f _ h3⟩
theorem nmJ : ∀ j, j < 5 → nmF 8 (LJ.getD j 0) := fun j hj => nmB_F 8 _ ((by decide : ∀ j, j < 5 → nmB 8 (LJ.getD j 0) = true) j hj)
theorem nmFa : ∀ j, j < 11 → nmF 8 (LF.getD j 0) := fun j hj => nmB_F 8 _ ((by decide : ∀ j, j < 11 → nmB 8 (LF.getD j 0) = true) j hj)
theorem nmLi : ∀ j, j < 7 → nmF 8 (LL.getD j 0) := fun j hj => nmB_F 8 _ ((by decide : ∀ j, j < 7 → nmB 8 (LL.getD j 0) = true) j hj)
theorem nmK : ∀ j, j < 5 → nmF 8 (LK.getD j 0) := fun j hj => nmB_F 8 _ ((by decide : ∀ j, j < 5 → nmB 8 (LK.getD j 0) = true) j hj)
theorem nm_63 {w : Nat} (h : nmF 8 w) : w < 2 ^ 63 := Nat.lt_trans (nm_bd 7 w h) (by decide)
/-- which of a group a word is -/
def gX (L : List Nat) (N W : Nat) : Int := fI (fun j => decide (L.getD j 0 = W)) N 0
section WO
variable {X : Nat → Nat} {n : Nat} {Z : mjZt}
theorem e51h {id N : Nat} {L : List Nat} (hN : N ≤ 20) (hs : mjSid id = true ∧ f327_length id zO = some (i3 (8 * (N : Int))) ∧ ∀ j : Nat, j < N → f50_packed id (i3 j * 8) zO = some (i6 (cvN 8 (L.getD j 0)))) (hnm : ∀ j, j < N → nmF 8 (L.getD j 0)) {W : Nat} (hW : nmF 8 W) (h6 : Z.2.1 183 6 = i6 (cvN 8 W)) : ∀ f s m, s + f = N → f < m → f51_indexIn_h12 m id (i3 s) Z = some (i3 (fI (fun j => decide (L.getD j 0 = W)) f s))
  | f, s, 0, _, hm => by omega
  | 0, s, m + 1, hf, _ => by
    have hl : f327_length id Z = some (i3 (8 * (N : Int))) := hs.2.1
    rw [f51_indexIn_h12, if_pos hs.1, hl, mjBp_some, i3_s, show (8 : Int32) = i3 8 from rfl, i3_mul, if_pos (by rw [c_gt (by omega)]; omega), fI]; rfl
  | f + 1, s, m + 1, hf, hm => by
    have hl : f327_length id Z = some (i3 (8 * (N : Int))) := hs.2.1
    have ih := e51h hN hs hnm hW h6 f (s + 1) m (by omega) (by omega)
    have pk : f50_packed id (i3 s * 8) Z = some (i6 (cvN 8 (L.getD s 0))) := by
      rw [← hs.2.2 s (by omega)]
      exact pk_Z Z zO _ _ _ _ _
    have l1 := cv_40 hW
    have l2 := cv_40 (hnm s (by omega))
    rw [f51_indexIn_h12, if_pos hs.1, hl, mjBp_some, i3_s, pk, mjBp_some, h6, show (8 : Int32) = i3 8 from rfl, i3_mul, if_neg (by rw [c_gt (by omega)]; omega), fI]
    by_cases q : L.getD s 0 = W
    · rw [q, if_neg (by rw [lg_ne6 (by omega)]; simp), if_pos (by simp)]
    · rw [if_pos (by rw [lg_ne6 (by omega)]; intro g; exact q (cv_inj 8 _ _ (hnm s (by omega)) hW (by omega))), if_neg (by simpa using q)]
      exact ih
/-- what the class holds as kind -/
def kd (X : Nat → Nat) (n p : Nat) : Nat := cK (jS X n p) (jV X n p)
theorem kd_spec {p : Nat} : (jS X n p = 3 ∧ kd X n p = jV X n p ∧ 40 ≤ jV X n p ∧ isSg (jV X n p) = true) ∨ (jS X n p = 4 ∧ kd X n p = 3) ∨ (jS X n p < 3 ∧ kd X n p = jS X n p) := by
  unfold kd cK jS jV uS uV
  split
  · exact Or.inr (Or.inr ⟨by decide, rfl⟩)
  · split
    · split
      · exact Or.inr (Or.inl ⟨rfl, rfl⟩)
      · exact Or.inr (Or.inr ⟨by decide, rfl⟩)
    · split
      · split
        · exact Or.inr (Or.inl ⟨rfl, rfl⟩)
        · exact Or.inr (Or.inr ⟨by decide, rfl⟩)
      · split
        · rename_i h
          refine Or.inl ⟨rfl, rfl, ?_, h⟩
          have : _ := of_decide_eq_true h
          omega
        · exact Or.inr (Or.inl ⟨rfl, rfl⟩)
theorem jN_nm (hX : ∀ k, X k ≤ 255) {p : Nat} : nmF 8 (jN X n p) ∧ (jS X n p = 1 → 0 < jN X n p) := by
  unfold jN jS uN uS
  generalize jQ X n p = q
  by_cases q0 : n ≤ q
  · rw [if_pos q0, if_pos q0]; exact ⟨nm_0 8, fun h => by cases h⟩
  · rw [if_neg q0, if_neg q0]
    cases q1 : isLe (X q) with
    | false =>
      rw [if_neg (by decide), if_neg (by decide)]
      refine ⟨nm_0 8, fun h => ?_⟩
      split at h
      · split at h <;> cases h
      · split at h <;> cases h
    | true =>
      rw [if_pos rfl, if_pos rfl]
      have lw : 97 ≤ X q ∧ X q ≤ 122 := of_decide_eq_true q1
      have rp := run_pos (n := n) (q := q) (by omega) lw
      have ra := fun j => run_all (X := X) (n := n) (lo := 97) (hi := 122) (n - q) q j
      unfold jLr
      have w8 := wd_8 (X := X) (p := q) (k := min (runF X n 97 122 (n - q) q) 8) (by omega) (fun j hj => (ra j (by omega)).2)
      exact ⟨w8.1, fun _ => w8.2.2 (by omega)⟩
/-- which of a group the token is -/
def ixT (X : Nat → Nat) (n p : Nat) (L : List Nat) (N : Nat) : Int := if jS X n p = 1 then gX L N (jN X n p) else -1
theorem e51g {p id N : Nat} {L : List Nat} (h : tkC X n Z p) (hX : ∀ k, X k ≤ 255) (hN : N ≤ 20) (hs : mjSid id = true ∧ f327_length id zO = some (i3 (8 * (N : Int))) ∧ ∀ j : Nat, j < N → f50_packed id (i3 j * 8) zO = some (i6 (cvN 8 (L.getD j 0)))) (hnm : ∀ j, j < N → nmF 8 (L.getD j 0)) : f51_indexIn id Z = some (i3 (ixT X n p L N)) := by
  obtain ⟨_, _, h3, _, _, h6⟩ := h
  have ks := kd_spec (X := X) (n := n) (p := p)
  have v := hX
  have h3' : Z.1 183 3 = i3 (kd X n p) := h3
  have vb := jV_bd (X := X) (n := n) (p := p) hX
  unfold f51_indexIn ixT gX
  rw [h3', show (1 : Int32) = i3 1 from rfl]
  by_cases q : jS X n p = 1
  · rw [if_pos (by rw [c_eq (by omega)]; omega), if_pos q]
    exact e51h hN hs hnm (jN_nm hX).1 (h6 q) N 0 mjF (by omega) (by unfold mjF; omega)
  · rw [if_neg (by rw [c_eq (by omega)]; omega), if_neg q]; rfl
theorem ixJ {p : Nat} (h : tkC X n Z p) (hX : ∀ k, X k ≤ 255) {id : Nat} (hi : id = 1000000 ∨ id = 1000004 ∨ id = 1000008) : f51_indexIn id Z = some (i3 (ixT X n p LJ 5)) := e51g h hX (by omega) (pkJ id hi) nmJ
theorem ixF {p : Nat} (h : tkC X n Z p) (hX : ∀ k, X k ≤ 255) {id : Nat} (hi : id = 1000001 ∨ id = 1000009) : f51_indexIn id Z = some (i3 (ixT X n p LF 11)) := e51g h hX (by omega) (pkF id hi) nmFa
theorem ixL {p : Nat} (h : tkC X n Z p) (hX : ∀ k, X k ≤ 255) {id : Nat} (hi : id = 1000002 ∨ id = 1000006) : f51_indexIn id Z = some (i3 (ixT X n p LL 7)) := e51g h hX (by omega) (pkL id hi) nmLi
theorem ixK {p : Nat} (h : tkC X n Z p) (hX : ∀ k, X k ≤ 255) {id : Nat} (hi : id = 1000003 ∨ id = 1000007) : f51_indexIn id Z = some (i3 (ixT X n p LK 5)) := e51g h hX (by omega) (pkK id hi) nmK
theorem ixT_bd {p N : Nat} {L : List Nat} : -1 ≤ ixT X n p L N ∧ ixT X n p L N < max N 1 := by
  have := fI_bd (fun j => decide (L.getD j 0 = jN X n p)) N 0
  unfold ixT gX
  split <;> omega
/-- a name -/
def kpB (W : Nat) : Bool := decide (gX LL 7 W ≠ -1 ∨ gX LK 5 W ≠ -1 ∨ gX LJ 5 W ≠ -1 ∨ gX LF 11 W ≠ -1)
def isNm (X : Nat → Nat) (n p : Nat) : Bool := decide (jS X n p = 1) && !(kpB (jN X n p))
theorem e119 {p : Nat} (h : tkC X n Z p) (hX : ∀ k, X k ≤ 255) : f119_isName Z = some (bI (isNm X n p)) := by
  have ks := kd_spec (X := X) (n := n) (p := p)
  have vb := jV_bd (X := X) (n := n) (p := p) hX
  have h3' : Z.1 183 3 = i3 (kd X n p) := h.2.2.1
  have b1 := ixT_bd (X := X) (n := n) (p := p) (L := LL) (N := 7)
  have b2 := ixT_bd (X := X) (n := n) (p := p) (L := LK) (N := 5)
  have b3 := ixT_bd (X := X) (n := n) (p := p) (L := LJ) (N := 5)
  have b4 := ixT_bd (X := X) (n := n) (p := p) (L := LF) (N := 11)
  unfold f119_isName isNm kpB
  rw [h3', show (-1 : Int32) = i3 (-1) from rfl, show (1 : Int32) = i3 1 from rfl, ixL h hX (by omega), mjBp_some, ixK h hX (by omega), mjBp_some, ixJ h hX (by omega), mjBp_some, ixF h hX (by omega), mjBp_some]
  by_cases q : jS X n p = 1
  · rw [if_neg (by rw [c_ne (by omega)]; omega), decide_eq_true q, Bool.true_and]
    unfold ixT at b1 b2 b3 b4 ⊢
    rw [if_pos q] at b1 b2 b3 b4
    simp only [if_pos q]
    by_cases q1 : gX LL 7 (jN X n p) = -1
    · rw [if_neg (by rw [c_ne (by omega)]; omega)]
      by_cases q2 : gX LK 5 (jN X n p) = -1
      · rw [if_neg (by rw [c_ne (by omega)]; omega)]
        by_cases q3 : gX LJ 5 (jN X n p) = -1
        · rw [if_neg (by rw [c_ne (by omega)]; omega)]
          by_cases q4 : gX LF 11 (jN X n p) = -1
          · rw [if_neg (by rw [c_ne (by omega)]; omega), decide_eq_false (by omega)]; rfl
          · rw [if_pos (by rw [c_ne (by omega)]; omega), decide_eq_true (by omega)]; rfl
        · rw [if_pos (by rw [c_ne (by omega)]; omega), decide_eq_true (by omega)]; rfl
      · rw [if_pos (by rw [c_ne (by omega)]; omega), decide_eq_true (by omega)]; rfl
    · rw [if_pos (by rw [c_ne (by omega)]; omega), decide_eq_true (by omega)]; rfl
  · rw [if_pos (by rw [c_ne (by omega)]; omega), decide_eq_false q]; rfl
/-! the model's -/
theorem m210 {o N M : Nat} {g : Nat → Nat} (h1 : mjIs o 251 14 = true) (h2 : (mjLay o).2 = M) (hN : N ≤ M) (hM : M ≤ 100) {W : Nat} (hW : W < 2 ^ 63) (hg : ∀ j, j < N → Z.2.1 o j = i6 (g j) ∧ g j < 2 ^ 63) : ∀ f s m, s + f = N → f < m → f210_among_h3 m o (i3 N) (i6 W) (i3 s) Z = some (i3 (fI (fun j => decide (g j = W)) f s))
  | f, s, 0, _, hm => by omega
  | 0, s, m + 1, hf, _ => by
    rw [f210_among_h3, if_pos (by rw [c_ge (by omega)]; omega), fI]; rfl
  | f + 1, s, m + 1, hf, hm => by
    have ih := m210 h1 h2 hN hM hW hg f (s + 1) m (by omega) (by omega)
    have hg' := hg s (by omega)
    rw [f210_among_h3, if_neg (by rw [c_ge (by omega)]; omega), if_pos h1, h2, if_pos (in_p (by omega)), ix_nat (by omega), hg'.1, fI, i3_s]
    by_cases q : g s = W
    · rw [q, if_neg (by rw [lg_ne6 (by omega)]; simp), if_pos (by simp)]
    · rw [if_pos (by rw [lg_ne6 (by omega)]; omega), if_neg (by simpa using q)]
      exact ih
/-- the model's own rows -/
def kfM (Z : mjZt) : Prop := (∀ j, j < 5 → Z.2.1 213 j = i6 (LK.getD j 0)) ∧ ∀ j, j < 11 → Z.2.1 214 j = i6 (LF.getD j 0)
theorem m210K (hk : kfM Z) {N : Nat} (hN : N ≤ 5) {W : Nat} (hW : W < 2 ^ 63) : f210_among 213 (i3 N) (i6 W) Z = some (i3 (gX LK N W)) :=
  m210 (o := 213) (M := 5) (g := fun j => LK.getD j 0) (by decide) (by decide) hN (by omega) hW (fun j hj => ⟨hk.1 j (by omega), nm_63 (nmK j (by omega))⟩) N 0 mjF (by omega) (by unfold mjF; omega)
theorem m210F (hk : kfM Z) {W : Nat} (hW : W < 2 ^ 63) : f210_among 214 11 (i6 W) Z = some (i3 (gX LF 11 W)) :=
  m210 (o := 214) (N := 11) (M := 11) (g := fun j => LF.getD j 0) (by decide) (by decide) (by omega) (by omega) hW (fun j hj => ⟨hk.2 j (by omega), nm_63 (nmFa j (by omega))⟩) 11 0 mjF (by omega) (by unfold mjF; omega)
theorem gX_bd (L : List Nat) (N W : Nat) : -1 ≤ gX L N W ∧ gX L N W < max N 1 := by
  have := fI_bd (fun j => decide (L.getD j 0 = W)) N 0
  unfold gX; omega
theorem m211 (hk : kfM Z) {W : Nat} (hW : W < 2 ^ 63) (h : Z.2.1 211 13 = i6 W) : f211_isKept Z = some (bI (kpB W)) := by
  have bK := gX_bd LK 5 W
  have bF := gX_bd LF 11 W
  unfold f211_isKept
  rw [h]
  by_cases q0 : W = 500135191403
  · subst q0
    rw [if_pos (by decide), show kpB 500135191403 = true by decide]; rfl
  rw [if_neg (by rw [show (500135191403 : Int64) = i6 ((500135191403 : Nat) : Int) from rfl, lg_eq6 (by omega)]; omega)]
  by_cases q1 : W = 1952801133
  · subst q1
    rw [if_pos (by decide), show kpB 1952801133 = true by decide]; rfl
  rw [if_neg (by rw [show (1952801133 : Int64) = i6 ((1952801133 : Nat) : Int) from rfl, lg_eq6 (by omega)]; omega)]
  by_cases q2 : W = 1920298611
  · subst q2
    rw [if_pos (by decide), show kpB 1920298611 = true by decide]; rfl
  rw [if_neg (by rw [show (1920298611 : Int64) = i6 ((1920298611 : Nat) : Int) from rfl, lg_eq6 (by omega)]; omega)]
  by_cases q3 : W = 6382452
  · subst q3
    rw [if_pos (by decide), show kpB 6382452 = true by decide]; rfl
  rw [if_neg (by rw [show (6382452 : Int64) = i6 ((6382452 : Nat) : Int) from rfl, lg_eq6 (by omega)]; omega)]
  by_cases q4 : W = 1920298085
  · subst q4
    rw [if_pos (by decide), show kpB 1920298085 = true by decide]; rfl
  rw [if_neg (by rw [show (1920298085 : Int64) = i6 ((1920298085 : Nat) : Int) from rfl, lg_eq6 (by omega)]; omega)]
  by_cases q5 : W = 32765938003961704
  · subst q5
    rw [if_pos (by decide), show kpB 32765938003961704 = true by decide]; rfl
  rw [if_neg (by rw [show (32765938003961704 : Int64) = i6 ((32765938003961704 : Nat) : Int) from rfl, lg_eq6 (by omega)]; omega)]
  by_cases q6 : W = 131294808271214
  · subst q6
    rw [if_pos (by decide), show kpB 131294808271214 = true by decide]; rfl
  rw [if_neg (by rw [show (131294808271214 : Int64) = i6 ((131294808271214 : Nat) : Int) from rfl, lg_eq6 (by omega)]; omega)]
  by_cases q7 : W = 2003330414
  · subst q7
    rw [if_pos (by decide), show kpB 2003330414 = true by decide]; rfl
  rw [if_neg (by rw [show (2003330414 : Int64) = i6 ((2003330414 : Nat) : Int) from rfl, lg_eq6 (by omega)]; omega)]
  by_cases q8 : W = 111567739122533
  · subst q8
    rw [if_pos (by decide), show kpB 111567739122533 = true by decide]; rfl
  rw [if_neg (by rw [show (111567739122533 : Int64) = i6 ((111567739122533 : Nat) : Int) from rfl, lg_eq6 (by omega)]; omega)]
  by_cases q9 : W = 6385252
  · subst q9
    rw [if_pos (by decide), show kpB 6385252 = true by decide]; rfl
  rw [if_neg (by rw [show (6385252 : Int64) = i6 ((6385252 : Nat) : Int) from rfl, lg_eq6 (by omega)]; omega)]
  by_cases q10 : W = 28530
  · subst q10
    rw [if_pos (by decide), show kpB 28530 = true by decide]; rfl
  rw [if_neg (by rw [show (28530 : Int64) = i6 ((28530 : Nat) : Int) from rfl, lg_eq6 (by omega)]; omega)]
  by_cases q11 : W = 7237492
  · subst q11
    rw [if_pos (by decide), show kpB 7237492 = true by decide]; rfl
  rw [if_neg (by rw [show (7237492 : Int64) = i6 ((7237492 : Nat) : Int) from rfl, lg_eq6 (by omega)]; omega)]
  have eL : gX LL 7 W = -1 := fI_none 7 0 (fun i _ hi => decide_eq_false (by
    rcases (by omega : i = 0 ∨ i = 1 ∨ i = 2 ∨ i = 3 ∨ i = 4 ∨ i = 5 ∨ i = 6) with rfl | rfl | rfl | rfl | rfl | rfl | rfl
    · exact fun g => q0 g.symm
    · exact fun g => q1 g.symm
    · exact fun g => q2 g.symm
    · exact fun g => q3 g.symm
    · exact fun g => q4 g.symm
    · exact fun g => q5 g.symm
    · exact fun g => q6 g.symm))
  have eJ : gX LJ 5 W = -1 := fI_none 5 0 (fun i _ hi => decide_eq_false (by
    rcases (by omega : i = 0 ∨ i = 1 ∨ i = 2 ∨ i = 3 ∨ i = 4) with rfl | rfl | rfl | rfl | rfl
    · exact fun g => q7 g.symm
    · exact fun g => q8 g.symm
    · exact fun g => q9 g.symm
    · exact fun g => q10 g.symm
    · exact fun g => q11 g.symm))
  rw [show (5 : Int32) = i3 ((5 : Nat) : Int) from rfl, m210K hk (by omega) hW, mjBp_some, m210F hk hW, mjBp_some, show (-1 : Int32) = i3 (-1) from rfl]
  unfold kpB
  rw [eL, eJ]
  by_cases g1 : gX LK 5 W = -1
  · rw [if_neg (by rw [c_ne (by omega)]; omega)]
    by_cases g2 : gX LF 11 W = -1
    · rw [if_pos (by rw [c_eq (by omega)]; omega), decide_eq_false (by omega)]; rfl
    · rw [if_neg (by rw [c_eq (by omega)]; omega), decide_eq_true (by omega)]; rfl
  · rw [if_pos (by rw [c_ne (by omega)]; omega), decide_eq_true (by omega)]; rfl
end WO
