/-! CONDITIONS READ: the class's loop, a row for each state; what comes of a piece -/
def cLp (b N s : Nat) (Z : mjZt) : Option (Int32 × mjZt) := f69_read_h23 N (b + 1) (i3 s) Z
section CL
variable {X : Nat → Nat} {n b N s : Nat} {Z : mjZt}
theorem cl1 (h0 : Z.1 185 0 = 1) (hs : s ≤ 700) : cLp b (N + 1) s Z = mjBd (f57_startNumber (b + 1) Z) fun v Z1 => if mjCmp .eq v 0 = true then mjBd (f68_advance Z1) fun _ Z2 => cLp b N (s + 1) Z2 else some (v, Z1) := by
  unfold cLp
  rw [f69_read_h23, show (700 : Int32) = i3 700 from rfl, if_neg (by rw [c_gt (by omega)]; omega), h0, if_pos (by decide)]
  unfold f69_read_j59 f69_read_j98 f69_read_j128
  rw [h0, if_pos (by decide), if_pos (by decide), if_neg (by decide), if_neg (by decide), if_pos (by decide)]
  simp only [i3_s]
theorem cl2 (h0 : Z.1 185 0 = 2) (hs : s ≤ 700) (he : f47_comparisonEnds Z = some 0) : cLp b (N + 1) s Z = mjBd (f61_goOnWithNumber (b + 1) Z) fun v Z1 => if mjCmp .eq v 0 = true then mjBd (f68_advance Z1) fun _ Z2 => cLp b N (s + 1) Z2 else some (v, Z1) := by
  unfold cLp
  rw [f69_read_h23, show (700 : Int32) = i3 700 from rfl, if_neg (by rw [c_gt (by omega)]; omega), h0, if_neg (by decide), he, mjBp_some, if_pos (by decide)]
  unfold f69_read_j59 f69_read_j98 f69_read_j128
  rw [h0, if_pos (by decide), if_pos (by decide), if_neg (by decide), if_neg (by decide), if_neg (by decide), if_pos (by decide)]
  simp only [i3_s]
theorem cl2e {Z1 : mjZt} (h0 : Z.1 185 0 = 2) (hs : s ≤ 700) (he : f47_comparisonEnds Z = some 1) (hr : f49_reduce (b + 1) 6 Z = some ((), Z1)) : cLp b (N + 1) s Z = cLp b (N + 1) s (zSi Z1 185 0 3) := by
  unfold cLp
  have h3 : (zSi Z1 185 0 3).1 185 0 = 3 := si_same _ _ _ _
  have hgt : ¬ (mjCmp .gt (i3 s) (i3 700) = true) := by rw [c_gt (by omega)]; omega
  rw [f69_read_h23, f69_read_h23, show (700 : Int32) = i3 700 from rfl, if_neg hgt, if_neg hgt, h0, if_neg (by decide), he, mjBp_some, if_neg (by decide), hr, mjBd_some, let_eq, h3, if_pos (by decide)]
theorem cl0s (h0 : Z.1 185 0 = 0) (hs : s ≤ 700) (he : f54_comparisonStarts Z = some 1) : cLp b (N + 1) s Z = cLp b (N + 1) s (zSi (zSi (zSi Z 185 3 0) 185 2 0) 185 0 1) := by
  unfold cLp
  have h3 : (zSi (zSi (zSi Z 185 3 0) 185 2 0) 185 0 1).1 185 0 = 1 := si_same _ _ _ _
  have hgt : ¬ (mjCmp .gt (i3 s) (i3 700) = true) := by rw [c_gt (by omega)]; omega
  rw [f69_read_h23, f69_read_h23, show (700 : Int32) = i3 700 from rfl, if_neg hgt, if_neg hgt, h0, if_pos (by decide), h3, if_pos (by decide)]
  unfold f69_read_j59 f69_read_j98
  rw [h0, if_pos (by decide), if_neg (by decide), he, mjBp_some, if_neg (by decide), let_eq, let_eq, let_eq, h3, if_pos (by decide), if_pos (by decide)]
theorem cl0o (h0 : Z.1 185 0 = 0) (hs : s ≤ 700) (he : f54_comparisonStarts Z = some 0) : cLp b (N + 1) s Z = mjBd (f56_openOne (b + 1) (if mjCmp .ne (Z.1 183 3) 40 = true then 6 else 2) Z) fun v Z1 => if mjCmp .eq v 0 = true then mjBd (f68_advance Z1) fun _ Z2 => cLp b N (s + 1) Z2 else some (v, Z1) := by
  unfold cLp
  rw [f69_read_h23, show (700 : Int32) = i3 700 from rfl, if_neg (by rw [c_gt (by omega)]; omega), h0, if_pos (by decide)]
  unfold f69_read_j59 f69_read_j98 f69_read_j128
  rw [h0, if_pos (by decide), if_neg (by decide), he, mjBp_some, if_pos (by decide), if_neg (by decide), if_pos (by decide)]
  unfold f69_read_j177
  simp only [i3_s]
  split <;> rfl
theorem cl3 (h0 : Z.1 185 0 = 3) (hs : s ≤ 700) (he : f52_truthEnds Z = some 0) : cLp b (N + 1) s Z = mjBd (f62_goOnWithTruth (b + 1) Z) fun v Z1 => if mjCmp .eq v 0 = true then mjBd (f68_advance Z1) fun _ Z2 => cLp b N (s + 1) Z2 else some (v, Z1) := by
  unfold cLp
  rw [f69_read_h23, show (700 : Int32) = i3 700 from rfl, if_neg (by rw [c_gt (by omega)]; omega), h0, if_pos (by decide)]
  unfold f69_read_j59 f69_read_j98 f69_read_j128
  rw [h0, if_neg (by decide), he, mjBp_some, if_pos (by decide), if_pos (by decide), if_pos (by decide)]
  simp only [i3_s]
theorem cl3e {Z1 Z2 : mjZt} (hb : b = 2 ∨ b = 92) (h0 : Z.1 185 0 = 3) (hs : s ≤ 700) (he : f52_truthEnds Z = some 1) (hr : f49_reduce (b + 1) 4 Z = some ((), Z1)) (hf : f53_finish (b + 1) Z1 = some ((), Z2)) : cLp b (N + 1) s Z = if mjCmp .ne (Z2.1 185 1) 0 = true then some (2, Z2) else some (0, Z2) := by
  unfold cLp
  rw [f69_read_h23, show (700 : Int32) = i3 700 from rfl, if_neg (by rw [c_gt (by omega)]; omega), h0, if_pos (by decide)]
  unfold f69_read_j59
  rw [h0, if_neg (by decide), he, mjBp_some, if_neg (by decide), hr, mjBd_some, if_pos (is_b1 hb), hf, mjBd_some]
end CL
/-- what is so between class and model while a condition is read -/
def cdS (X : Nat → Nat) (n b : Nat) (Zc Zm : mjZt) (S : mjS) (fr m wr : Nat) (L : pL) (st : Int32) (p s N : Nat) : Prop :=
  gd X n Zc Zm p ∧ Zc.1 185 0 = st ∧ plK Zc (cL L) ∧ trC b Zc S fr m wr ∧ mdM Zm S m L ∧ Zm.1 211 19 = i3 (bsL L) ∧ kfM Zm ∧ opn L ≤ 6 ∧ m + wtL L ≤ p ∧ s ≤ p ∧ N + s = 20000
/-- a comparison's own marks -/
def cmS (Zc : mjZt) (x : Int) (L : pL) : Prop := Zc.1 185 2 = i3 (crl L) ∧ Zc.1 185 3 = bI (decide (x ≠ 52))
def oBad (X : Nat → Nat) (n b wr m : Nat) (rc : Option (Int32 × mjZt)) (rm : Option (Unit × mjZt)) (Zc Zm : mjZt) : Prop :=
  ∃ (k : Int) (p1 : Nat) (Zc1 Zm1 : mjZt), 1 ≤ k ∧ k ≤ 7 ∧ rc = some (i3 k, Zc1) ∧ rm = some ((), Zm1) ∧ tkC X n Zc1 p1 ∧ p1 ≤ n ∧ Zc1.1 182 5 = 0 ∧ fltM Zm1 (fK X n p1 k) (jQ X n p1) ∧ eqCc b wr m Zc Zc1 ∧ eqCd Zm Zm1
/-- frames of what grows -/
def grw (b wr m m1 : Nat) (S S1 : mjS) (Zc Zm Zc1 Zm1 : mjZt) : Prop := m ≤ m1 ∧ (∀ k, k < m → S1 9 k = S 9 k) ∧ (∀ f, f ≠ 9 → S1 f = S f) ∧ eqCc b wr m Zc Zc1 ∧ eqCd Zm Zm1
theorem grw_tr {b wr m m1 m2 : Nat} {S S1 S2 : mjS} {Zc Zm Zc1 Zm1 Zc2 Zm2 : mjZt} (h : grw b wr m m1 S S1 Zc Zm Zc1 Zm1) (g : grw b wr m1 m2 S1 S2 Zc1 Zm1 Zc2 Zm2) : grw b wr m m2 S S2 Zc Zm Zc2 Zm2 := by
  obtain ⟨a1, a2, a3, a4, a5⟩ := h
  obtain ⟨b1, b2, b3, b4, b5⟩ := g
  exact ⟨by omega, fun k hk => by rw [b2 k (by omega), a2 k hk], fun f hf => by rw [b3 f hf, a3 f hf], eqCc_tr a4 b4 a1, eqCd_tr a5 b5⟩
theorem oBad_go {X : Nat → Nat} {n b wr m m1 : Nat} {S S1 : mjS} {rc : Option (Int32 × mjZt)} {rm : Option (Unit × mjZt)} {Zc Zm Zc1 Zm1 : mjZt} (h : oBad X n b wr m1 rc rm Zc1 Zm1) (g : grw b wr m m1 S S1 Zc Zm Zc1 Zm1) : oBad X n b wr m rc rm Zc Zm := by
  obtain ⟨k, p1, Y, W, h1, h2, h3, h4, h5, h6, h7, h8, h9, h10⟩ := h
  obtain ⟨a1, a2, a3, a4, a5⟩ := g
  exact ⟨k, p1, Y, W, h1, h2, h3, h4, h5, h6, h7, h8, eqCc_tr a4 h9 a1, eqCd_tr a5 h10⟩
/-- a fault here: the class answers k, the model is wrong -/
theorem oBad_here {X : Nat → Nat} {n b wr m p : Nat} {rc : Option (Int32 × mjZt)} {rm : Option (Unit × mjZt)} {Zc Zm : mjZt} (hg : gd X n Zc Zm p) {k : Int} (hk : 1 ≤ k ∧ k ≤ 7) (h1 : rc = some (i3 k, Zc)) (h2 : ∀ Zm1, f206_wrong (i3 k) Zm = some ((), Zm1) → fltM Zm1 (fK X n p k) (jQ X n p) → eqGw Zm Zm1 → ∃ Zm2, rm = some ((), Zm2) ∧ fltM Zm2 (fK X n p k) (jQ X n p) ∧ eqCd Zm1 Zm2) : oBad X n b wr m rc rm Zc Zm := by
  obtain ⟨Zm1, b1, b2, b3⟩ := flM hg.2.1 hg.2.2.2.1 k
  obtain ⟨Zm2, c1, c2, c3⟩ := h2 Zm1 b1 b2 b3
  exact ⟨k, p, Zc, Zm2, hk.1, hk.2, h1, c1, hg.1, hg.2.2.2.2, hg.2.2.1, c2, eqCc_rf, eqCd_tr (eqGw_d b3) c3⟩
/-- the reading room: gd when only piles and terms have changed -/
theorem gd_cd {X : Nat → Nat} {n b wr m p : Nat} {Zc Zm Zc2 Zm2 : mjZt} (hb : b = 2 ∨ b = 92) (h : gd X n Zc Zm p) (ec : eqRe b wr m Zc Zc2) (em : eqWk Zm Zm2) : gd X n Zc2 Zm2 p := by
  obtain ⟨e1, e2, e3, e4⟩ := ec
  exact gd_of h (by rw [e2]) (e1.2.2.1 1 (by omega) (by omega) (by omega) (by omega) (by omega)) e3 (by rw [e2]) (by rw [e1.2.2.1 182 (by omega) (by omega) (by omega) (by omega) (by omega)]) (em.2.1 212 (by omega) (by omega) (by omega)) (fun f g1 g2 => em.2.2 f (by omega) (by omega) (by omega)) (by rw [em.1])
theorem fK_b {X : Nat → Nat} {n p : Nat} {k : Int} (h : 1 ≤ k ∧ k ≤ 7) : 1 ≤ fK X n p k ∧ fK X n p k ≤ 7 := fK_bd h
/-- the model opens -/
theorem m217b {Z : mjZt} {S : mjS} {m : Nat} {L : pL} {X : Nat → Nat} {n p : Nat} (h : tkM X n Z p) (hg : Z.1 211 9 = 0) (hd : mdM Z S m L) (ho : opn L = 6) (hl : L.length < 700) (c : Int) : ∃ Z1, f217_opens (i3 c) Z = some ((), Z1) ∧ fltM Z1 (fK X n p 7) (jQ X n p) ∧ eqCd Z Z1 := by
  obtain ⟨Z1, b1, b2, b3⟩ := flM h hg 7
  have kb := fK_bd (X := X) (n := n) (p := p) (k := 7) (by omega)
  obtain ⟨d1, d2, d3, d4, d5⟩ := hd
  have l18 : Z1.1 211 18 = i3 L.length := by rw [b3.2.2 18 (by omega)]; exact d3
  refine ⟨zSi (zSi (zSi Z1 211 20 (Z1.1 211 20 + 1)) 217 L.length (i3 c)) 211 18 (i3 ((L.length + 1 : Nat) : Int)), ?_, fltM_of b2 (by rw [si_fld _ _ _ _ (by omega), si_obj _ _ _ _ (by omega), si_fld _ _ _ _ (by omega)]) (by rw [si_fld _ _ _ _ (by omega), si_obj _ _ _ _ (by omega), si_fld _ _ _ _ (by omega)]), eqCd_tr (eqGw_d b3) (eqCd_tr (eqCd_si (by omega)) (eqCd_tr (eqWk_d (eqWk_si (by omega))) (eqCd_si (by omega))))⟩
  unfold f217_opens f217_opens_j15 f215_waitsFor
  have f2 : fltM (zSi (zSi (zSi Z1 211 20 (Z1.1 211 20 + 1)) 217 L.length (i3 c)) 211 18 (i3 ((L.length + 1 : Nat) : Int))) (fK X n p 7) (jQ X n p) := fltM_of b2 (by rw [si_fld _ _ _ _ (by omega), si_obj _ _ _ _ (by omega), si_fld _ _ _ _ (by omega)]) (by rw [si_fld _ _ _ _ (by omega), si_obj _ _ _ _ (by omega), si_fld _ _ _ _ (by omega)])
  rw [d4, ho, if_neg (by decide), show (7 : Int32) = i3 7 from rfl, b1, mjBd_some, let_eq, si_fld _ _ _ _ (by omega), l18, if_pos (in_p (by omega)), ix_nat (by omega), let_eq, si_obj _ _ _ _ (by omega), si_fld _ _ _ _ (by omega), l18, i3_s, let_eq, mjBd_some, bdM f2 kb, mjBp_some, if_pos (by decide)]
theorem m217g {Z : mjZt} {S : mjS} {m : Nat} {L : pL} (hg : Z.1 211 9 = 0) (hd : mdM Z S m L) (ho : opn L < 6) (hl : L.length < 700) {c : Int} (hc : isOp c = true) : ∃ Z1, f217_opens (i3 (qM c)) Z = (mjBd (f205_goOn Z1) fun _ Z2 => some ((), Z2)) ∧ mdM Z1 S m ((c, m) :: L) ∧ eqWk Z Z1 := by
  obtain ⟨d1, d2, d3, d4, d5⟩ := hd
  have oc : opn ((c, m) :: L) = opn L + 1 := by rw [opn, if_pos hc]
  obtain ⟨Z1, r1, r2, r3⟩ := m215 (Z := zSi Z 211 20 (i3 ((opn L + 1 : Nat) : Int))) (S := S) (m := m) (L := L) (c := c) (a := m) ⟨fun k => by rw [si_obj _ _ _ _ (by omega)]; exact d1 k, by rw [si_fld _ _ _ _ (by omega)]; exact d2, by rw [si_fld _ _ _ _ (by omega)]; exact d3, plM_of (si_obj _ _ _ _ (by omega)) L d5⟩ (by rw [si_same, oc]) (by omega)
  refine ⟨Z1, ?_, r2, eqWk_tr (eqWk_si (by omega)) r3⟩
  have g1 : Z1.1 211 9 = 0 := by rw [r3.2.2 9 (by omega) (by omega) (by omega), si_fld _ _ _ _ (by omega)]; exact hg
  unfold f217_opens f217_opens_j15
  rw [d4, show (6 : Int32) = i3 6 from rfl, if_pos (by rw [c_ne (by omega)]; omega), i3_s, let_eq, r1, mjBd_some, gdM g1, mjBp_some, if_neg (by decide)]
/-- the class opens -/
theorem e56g {b wr fr m : Nat} {Z : mjZt} {S : mjS} {K : pL} (hb : b = 2 ∨ b = 92) (hk : plK Z K) (ht : trC b Z S fr m wr) (ho : opn K < 6) (hl : K.length < 64) {c : Int} (hc : isOp c = true) : ∃ Z1, f56_openOne (b + 1) (i3 (opW c)) Z = some (0, Z1) ∧ plK Z1 ((c, m) :: K) ∧ trC b Z1 S fr m wr ∧ eqRe b wr m Z Z1 := by
  obtain ⟨p1, p2, p3⟩ := hk
  have oc : opn ((c, m) :: K) = opn K + 1 := by rw [opn, if_pos hc]
  obtain ⟨Z1, r1, r2, r3, r4⟩ := e55 hb (Z := zSi Z 185 1 (i3 ((opn K + 1 : Nat) : Int))) (S := S) (m := m) (K := K) (fr := fr) (wr := wr) (by rw [si_fld _ _ _ _ (by omega)]; exact p2) (plC_of (si_obj _ _ _ _ (by omega)) (si_obj _ _ _ _ (by omega)) K p3) (trC_of ht (fun a _ _ => si_obj _ _ _ _ (by omega))) hl (c := c) (by rw [si_same, oc])
  refine ⟨Z1, ?_, r2, r3, eqRe_tr (m2 := m) ⟨eqCc_si hb (by omega), rfl, si_obj _ _ _ _ (by omega), fun f g1 g2 => si_fld _ _ _ _ (by omega)⟩ r4 (Nat.le_refl _)⟩
  unfold f56_openOne
  rw [p1, show (6 : Int32) = i3 6 from rfl, if_pos (by rw [c_lt (by omega)]; omega), i3_s, let_eq, r1, mjBd_some]
theorem e56b {b : Nat} {Z : mjZt} {K : pL} (hk : plK Z K) (ho : opn K = 6) (w : Int32) : f56_openOne (b + 1) w Z = some (i3 7, Z) := by
  unfold f56_openOne
  rw [hk.1, ho, if_neg (by decide)]; rfl
