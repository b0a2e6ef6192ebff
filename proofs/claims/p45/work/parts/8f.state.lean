/-! WHAT IS READ SO FAR, in class and model -/
section AG
variable {S S2 : mjS}
theorem sp_agr : ∀ f i, (∀ k, k ≤ i → S2 9 k = S 9 k) → spF S2 f i = spF S f i
  | 0, _, _ => rfl
  | f + 1, i, h => by
    have l := spF_le S f (i - 1)
    rw [spF, spF, h i (by omega), sp_agr f (i - 1) (fun k hk => h k (by omega)), sp_agr f (spF S f (i - 1) - 1) (fun k hk => h k (by omega))]
theorem spS_agr {i : Nat} (h : ∀ k, k ≤ i → S2 9 k = S 9 k) : spS S2 i = spS S i := sp_agr _ _ h
theorem lf_agr {i : Nat} (h : ∀ k, k ≤ i → S2 9 k = S 9 k) : lfS S2 i = lfS S i := by
  unfold lfS
  rw [spS_agr (fun k hk => h k (by omega))]
theorem ci_agr {fr k : Nat} (h : ∀ j, j < k → S2 9 j = S 9 j) : ciS S2 fr k = ciS S fr k := by
  unfold ciS
  exact cN_congr _ (fun j hj => by rw [h (fr + j) (by omega)])
theorem WF_agr {fr to : Nat} (e : ∀ k, k < to → S2 9 k = S 9 k) (h : WF S fr to) : WF S2 fr to := by
  obtain ⟨h1, h2, h3, h4⟩ := h
  refine ⟨h1, by rw [e _ (by omega)]; exact h2, by rw [spS_agr (fun k hk => e k (by omega))]; exact h3, fun i g1 g2 => ?_⟩
  obtain ⟨a1, a2, a3⟩ := h4 i g1 g2
  have l1 := sp_le S (i - 1)
  have l2 : lfS S i ≤ i := by unfold lfS; omega
  have l3 := sp_le S (lfS S i)
  rw [e i g2, lf_agr (fun k hk => e k (by omega)), spS_agr (i := i - 1) (fun k hk => e k (by omega)), spS_agr (i := lfS S i) (fun k hk => e k (by omega)), e (i - 1) (by omega), e (lfS S i) (by omega), e (spS S (lfS S i) - 1) (by omega)]
  exact ⟨a1, a2, a3⟩
def okCb (S : mjS) (r p : Nat) : Prop := 0 ≤ S 8 (4 * r + 2 * p) ∧ 0 ≤ S 8 (4 * r + 2 * p + 1) ∧ sFr S r p ≤ sTo S r p ∧ sTo S r p ≤ 700 ∧ (p = 0 → sFr S r p < sTo S r p) ∧ (sFr S r p < sTo S r p → WF S (sFr S r p) (sTo S r p) ∧ ciS S (sFr S r p) (sTo S r p) ≤ 180)
theorem okCb_agr {r p m : Nat} (h : okCb S r p) (hm : sTo S r p ≤ m) (e9 : ∀ k, k < m → S2 9 k = S 9 k) (e8 : S2 8 (4 * r + 2 * p) = S 8 (4 * r + 2 * p)) (e8' : S2 8 (4 * r + 2 * p + 1) = S 8 (4 * r + 2 * p + 1)) : okCb S2 r p ∧ sFr S2 r p = sFr S r p ∧ sTo S2 r p = sTo S r p := by
  have f1 : sFr S2 r p = sFr S r p := by unfold sFr sCa; rw [e8]
  have f2 : sTo S2 r p = sTo S r p := by unfold sTo sCa; rw [e8']
  obtain ⟨a1, a2, a3, a4, a5, a6⟩ := h
  refine ⟨?_, f1, f2⟩
  unfold okCb
  rw [e8, e8', f1, f2]
  refine ⟨a1, a2, a3, a4, a5, fun g => ?_⟩
  obtain ⟨b1, b2⟩ := a6 g
  exact ⟨WF_agr (fun k hk => e9 k (by omega)) b1, by rw [ci_agr (fun j hj => e9 j (by omega))]; exact b2⟩
def cTrb (Z : mjZt) (b : Nat) (S : mjS) (r p : Nat) : Prop := cOne Z b S (sFr S r p) (sTo S r p) ∧ (if sFr S r p < sTo S r p then Z.1 (b + 1 + 4) (2 * r + p) = i3 (sFr S r p) ∧ Z.1 (b + 1 + 5) (2 * r + p) = i3 (sTo S r p) ∧ Z.1 (b + 1 + 6) (2 * r + p) = i3 (ciS S (sFr S r p) (sTo S r p)) else Z.1 (b + 1 + 4) (2 * r + p) = i3 0 ∧ Z.1 (b + 1 + 5) (2 * r + p) = i3 0)
theorem cTrb_agr {Z Z2 : mjZt} {b r p m : Nat} (h : cTrb Z b S r p) (hm : sTo S r p ≤ m) (e9 : ∀ k, k < m → S2 9 k = S 9 k) (f1 : sFr S2 r p = sFr S r p) (f2 : sTo S2 r p = sTo S r p) (z : ∀ j, j < 3 → ∀ k, k < m → Z2.1 (b + 1 + (j + 1)) k = Z.1 (b + 1 + (j + 1)) k) (z2 : ∀ j, j < 3 → Z2.1 (b + 1 + (j + 4)) (2 * r + p) = Z.1 (b + 1 + (j + 4)) (2 * r + p)) : cTrb Z2 b S2 r p := by
  obtain ⟨a1, a2⟩ := h
  unfold cTrb
  rw [f1, f2]
  have y1 : Z2.1 (b + 1 + 4) (2 * r + p) = Z.1 (b + 1 + 4) (2 * r + p) := z2 0 (by omega)
  have y2 : Z2.1 (b + 1 + 5) (2 * r + p) = Z.1 (b + 1 + 5) (2 * r + p) := z2 1 (by omega)
  have y3 : Z2.1 (b + 1 + 6) (2 * r + p) = Z.1 (b + 1 + 6) (2 * r + p) := z2 2 (by omega)
  rw [y1, y2, y3, ci_agr (S := S) (S2 := S2) (fun j hj => e9 j (by omega))]
  refine ⟨fun i g1 g2 => ?_, a2⟩
  obtain ⟨b1, b2, b3⟩ := a1 i g1 g2
  have x1 : Z2.1 (b + 1 + 1) i = Z.1 (b + 1 + 1) i := z 0 (by omega) i (by omega)
  have x2 : Z2.1 (b + 1 + 2) i = Z.1 (b + 1 + 2) i := z 1 (by omega) i (by omega)
  have x3 : Z2.1 (b + 1 + 3) i = Z.1 (b + 1 + 3) i := z 2 (by omega) i (by omega)
  have n1 : nuC S2 (sFr S r p) i = nuC S (sFr S r p) i := by
    unfold nuC
    rw [e9 i (by omega), ci_agr (fun j hj => e9 j (by omega))]
  rw [x1, x2, x3, n1, e9 i (by omega), lf_agr (fun k hk => e9 k (by omega))]
  exact ⟨b1, b2, b3⟩
end AG
/-- the model's rows of what is read -/
def rM (Z : mjZt) (S : mjS) (m : Nat) : Prop :=
  (∀ k, Z.1 218 k = i3 (S 0 k)) ∧ (∀ k, Z.1 219 k = i3 (S 1 k)) ∧ (∀ k, Z.1 220 k = i3 (S 2 k)) ∧ (∀ k, Z.1 221 k = i3 (S 3 k)) ∧ (∀ k, Z.1 222 k = i3 (S 4 k)) ∧ (∀ k, Z.1 223 k = i3 (S 5 k)) ∧ (∀ k, Z.1 224 k = i3 (S 6 k)) ∧ (∀ k, Z.1 225 k = i3 (S 7 k)) ∧ (∀ k, Z.1 226 k = i3 (S 8 k)) ∧ (∀ k, Z.1 215 k = i3 (S 9 k)) ∧
  (Z.1 211 21 = i3 (sT S) ∧ Z.1 211 22 = i3 (sA S) ∧ Z.1 211 23 = i3 (sR S) ∧ Z.1 211 25 = i3 (S 10 3) ∧ Z.1 211 26 = i3 (S 10 4)) ∧
  (∀ k, Z.2.1 227 k = i6 (S 11 k)) ∧ (∀ k, Z.2.1 228 k = i6 (S 12 k)) ∧ Z.1 211 17 = i3 m ∧ kfM Z
def rC (b : Nat) (Z : mjZt) (S : mjS) (m : Nat) : Prop := cBk Z b S ∧ cTr Z b S ∧ Z.1 (b + 1) 7 = i3 m ∧ ∀ k, 2 * sR S ≤ k → k < 16 → Z.1 (b + 1 + 4) k = 0 ∧ Z.1 (b + 1 + 5) k = 0
def okR (S : mjS) (m p : Nat) : Prop := okS S ∧ okC S ∧ okN S ∧ m ≤ p ∧ (∀ r q, r < sR S → q < 2 → sTo S r q ≤ m) ∧ (∀ a, a < sA S → S 3 (72 + 3 * a + 2) = 0) ∧ 2 ≤ sLg S ∧ 50 ≤ S 0 1
def fgR (Zc Zm : mjZt) (t w : Bool) : Prop := (Zc.1 182 2 = bI t ∧ Zc.1 182 6 = -1) ∧ Zc.1 182 3 = bI w ∧ Zm.1 211 24 = i3 ((if t = true then 1 else 0) + (if w = true then 2 else 0))
def jR (X : Nat → Nat) (n b : Nat) (Zc Zm : mjZt) (S : mjS) (m p : Nat) (t w : Bool) : Prop := gd X n Zc Zm p ∧ rC b Zc S m ∧ rM Zm S m ∧ okR S m p ∧ fgR Zc Zm t w
/-- frames of reading -/
def rdw (b a : Nat) : Prop := a = 182 ∨ a = 183 ∨ a = 185 ∨ a = 186 ∨ a = 187 ∨ (b ≤ a ∧ a < b + 12) ∨ (b + 18 ≤ a ∧ a < b + 48 ∧ (a - b - 18) % 5 ≤ 2) ∨ (b + 48 ≤ a ∧ a < b + 90)
def eqRc (b : Nat) (Z Z2 : mjZt) : Prop := Z2.2.2 = Z.2.2 ∧ ∀ a, ¬ rdw b a → Z2.1 a = Z.1 a ∧ Z2.2.1 a = Z.2.1 a
def eqRd (Z Z2 : mjZt) : Prop := Z2.2.2 = Z.2.2 ∧ (∀ a, a ≠ 211 → a ≠ 215 → a ≠ 217 → (a < 218 ∨ 228 < a) → Z2.1 a = Z.1 a ∧ Z2.2.1 a = Z.2.1 a) ∧ ∀ f, (f < 5 ∨ (10 < f ∧ f < 17) ∨ 26 < f) → Z2.1 211 f = Z.1 211 f
theorem eqRc_rf {b : Nat} {Z : mjZt} : eqRc b Z Z := ⟨rfl, fun _ _ => ⟨rfl, rfl⟩⟩
theorem eqRc_tr {b : Nat} {Z Z2 Z3 : mjZt} (h : eqRc b Z Z2) (g : eqRc b Z2 Z3) : eqRc b Z Z3 := ⟨g.1.trans h.1, fun a q => ⟨(g.2 a q).1.trans (h.2 a q).1, (g.2 a q).2.trans (h.2 a q).2⟩⟩
theorem eqRd_rf {Z : mjZt} : eqRd Z Z := ⟨rfl, fun _ _ _ _ _ => ⟨rfl, rfl⟩, fun _ _ => rfl⟩
theorem eqRd_tr {Z Z2 Z3 : mjZt} (h : eqRd Z Z2) (g : eqRd Z2 Z3) : eqRd Z Z3 := ⟨g.1.trans h.1, fun a q1 q2 q3 q4 => ⟨(g.2.1 a q1 q2 q3 q4).1.trans (h.2.1 a q1 q2 q3 q4).1, (g.2.1 a q1 q2 q3 q4).2.trans (h.2.1 a q1 q2 q3 q4).2⟩, fun f q => (g.2.2 f q).trans (h.2.2 f q)⟩
theorem eqT3_R {b : Nat} {Z Z2 : mjZt} (h : eqT3 Z Z2) : eqRc b Z Z2 := ⟨h.1, fun a q => h.2 a (by unfold rdw at q; omega) (by unfold rdw at q; omega)⟩
theorem eqT2_R {b : Nat} {Z Z2 : mjZt} (h : eqT2 Z Z2) : eqRc b Z Z2 := eqT3_R (eqT2_3 h)
theorem eqTk_R {b : Nat} {Z Z2 : mjZt} (h : eqTk Z Z2) : eqRc b Z Z2 := eqT2_R (eqTk_2 h)
theorem eqGw_R {Z Z2 : mjZt} (h : eqGw Z Z2) : eqRd Z Z2 := ⟨h.1, fun a q _ _ _ => h.2.1 a q, fun f q => h.2.2 f (by omega)⟩
theorem eqGo_R {Z Z2 : mjZt} (h : eqGo Z Z2) : eqRd Z Z2 := eqGw_R (eqGo_w h)
theorem eqRc_si {b : Nat} {Z : mjZt} {a k : Nat} {v : Int32} (h : rdw b a) : eqRc b Z (zSi Z a k v) := ⟨rfl, fun c q => ⟨si_obj _ _ _ _ (fun g => q (by rw [g]; exact h)), rfl⟩⟩
theorem eqRc_sl {b : Nat} {Z : mjZt} {a k : Nat} {v : Int64} (h : rdw b a) : eqRc b Z (zSl Z a k v) := ⟨rfl, fun c q => ⟨rfl, sl_obj _ _ _ _ (fun g => q (by rw [g]; exact h))⟩⟩
theorem eqRd_si {Z : mjZt} {a k : Nat} {v : Int32} (h : a = 215 ∨ a = 217 ∨ (218 ≤ a ∧ a ≤ 228) ∨ (a = 211 ∧ ((5 ≤ k ∧ k ≤ 10) ∨ (17 ≤ k ∧ k ≤ 26)))) : eqRd Z (zSi Z a k v) := ⟨rfl, fun c q1 q2 q3 q4 => ⟨si_obj _ _ _ _ (by omega), rfl⟩, fun f q => si_fld _ _ _ _ (by omega)⟩
theorem eqRd_sl {Z : mjZt} {a k : Nat} {v : Int64} (h : 218 ≤ a ∧ a ≤ 228) : eqRd Z (zSl Z a k v) := ⟨rfl, fun c q1 q2 q3 q4 => ⟨rfl, sl_obj _ _ _ _ (by omega)⟩, fun f q => rfl⟩
section JR
variable {X : Nat → Nat} {n b : Nat} {Z Zc Zm : mjZt} {S : mjS} {m p : Nat} {t w : Bool}
theorem rM_of {Z2 : mjZt} (h : rM Z S m) (e : ∀ a, 213 ≤ a → a ≤ 228 → a ≠ 217 → Z2.1 a = Z.1 a ∧ Z2.2.1 a = Z.2.1 a) (e2 : ∀ f, (f = 17 ∨ (21 ≤ f ∧ f ≤ 26 ∧ f ≠ 24)) → Z2.1 211 f = Z.1 211 f) : rM Z2 S m := by
  unfold rM kfM at h ⊢
  rw [(e 218 (by omega) (by omega) (by omega)).1, (e 219 (by omega) (by omega) (by omega)).1, (e 220 (by omega) (by omega) (by omega)).1, (e 221 (by omega) (by omega) (by omega)).1, (e 222 (by omega) (by omega) (by omega)).1, (e 223 (by omega) (by omega) (by omega)).1, (e 224 (by omega) (by omega) (by omega)).1, (e 225 (by omega) (by omega) (by omega)).1, (e 226 (by omega) (by omega) (by omega)).1, (e 215 (by omega) (by omega) (by omega)).1, (e 227 (by omega) (by omega) (by omega)).2, (e 228 (by omega) (by omega) (by omega)).2, (e 213 (by omega) (by omega) (by omega)).2, (e 214 (by omega) (by omega) (by omega)).2, e2 21 (by omega), e2 22 (by omega), e2 23 (by omega), e2 25 (by omega), e2 26 (by omega), e2 17 (by omega)]
  exact h
theorem rM_go {Z2 : mjZt} (h : rM Z S m) (e : eqGo Z Z2) : rM Z2 S m := rM_of h (fun a g1 g2 _ => e.2.1 a (by omega)) (fun f g => e.2.2 f (by omega))
theorem rC_of {Z2 : mjZt} (ho : okS S) (h : rC b Z S m) (e : eqB b Z Z2) : rC b Z2 S m := by
  obtain ⟨h1, h2, h3, h4⟩ := h
  refine ⟨cBk_of ⟨(ok_sc ho).1, (ok_sc ho).2.1⟩ h1 e, cTr_of h2 e, by rw [(e (b + 1) (by omega) (by omega)).1]; exact h3, fun k g1 g2 => ?_⟩
  rw [(e (b + 1 + 4) (by omega) (by omega)).1, (e (b + 1 + 5) (by omega) (by omega)).1]
  exact h4 k g1 g2
theorem eqT3_B {Z2 : mjZt} (hb : b = 2 ∨ b = 92) (h : eqT3 Z Z2) : eqB b Z Z2 := fun a g1 g2 => h.2 a (by omega) (by omega)
theorem rC_b (h : rC b Z S m) : b = 2 ∨ b = 92 := b_b h.1
theorem okR_p {p2 : Nat} (h : okR S m p) (hp : p ≤ p2) : okR S m p2 := ⟨h.1, h.2.1, h.2.2.1, Nat.le_trans h.2.2.2.1 hp, h.2.2.2.2⟩
/-- only tokens have moved -/
theorem jR_go {Zc2 Zm2 : mjZt} {p2 : Nat} (h : jR X n b Zc Zm S m p t w) (hg : gd X n Zc2 Zm2 p2) (e1 : eqT2 Zc Zc2) (e2 : eqGo Zm Zm2) (hp : p ≤ p2) : jR X n b Zc2 Zm2 S m p2 t w := by
  obtain ⟨h1, h2, h3, h4, h5, h6, h7⟩ := h
  refine ⟨hg, rC_of h4.1 h2 (eqT3_B (rC_b h2) (eqT2_3 e1)), rM_go h3 e2, okR_p h4 hp, ?_, ?_, ?_⟩
  · rw [e1.2.2 2 (by omega), e1.2.2 6 (by omega)]; exact h5
  · rw [e1.2.2 3 (by omega)]; exact h6
  · rw [e2.2.2 24 (by omega)]; exact h7
/-- names -/
def tmN (S : mjS) (W : Nat) : Int := fI (fun k => decide ((S 11 k).toNat = W)) (sT S) 0
def rlN (S : mjS) (W : Nat) : Int := fI (fun k => decide ((S 12 k).toNat = W)) (sR S) 0
theorem e25h (h : cBk Z b S) (ho : okS S) (hn : okN S) {W : Nat} (hW : nmF 8 W) : ∀ f i N, i + f = sT S → f < N → f25_teamOfName_h2 N b (i6 (cvN 8 W)) (i3 i) Z = some (i3 (fI (fun k => decide ((S 11 k).toNat = W)) f i))
  | f, i, 0, _, hN => by omega
  | 0, i, N + 1, hf, _ => by
    have o1 := ok_sc ho
    rw [f25_teamOfName_h2, if_pos (is_b (b_b h)), b_T h, if_pos (by rw [c_ge (by omega)]; omega), fI]; rfl
  | f + 1, i, N + 1, hf, hN => by
    have o1 := ok_sc ho
    have ih := e25h h ho hn hW f (i + 1) N (by omega) (by omega)
    obtain ⟨v, v1, v2⟩ := hn.1 i (by omega)
    have l1 := cv_40 hW
    have l2 := cv_40 v2
    rw [f25_teamOfName_h2, if_pos (is_b (b_b h)), b_T h, if_neg (by rw [c_ge (by omega)]; omega), e8 h ho (by omega), mjBp_some, if_pos (is_tm (b_b h) i (by omega)), (b_tm h (t := i) (by omega)).2.2.1, v1, show sCv (v : Int) = (cvN 8 v : Int) from sCv_c 8 v v2, fI, i3_s, v1, Int.toNat_natCast]
    by_cases q : v = W
    · rw [q, if_neg (by rw [lg_ne6 (by omega)]; simp), if_pos (by simp)]
    · rw [if_pos (by rw [lg_ne6 (by omega)]; intro g; exact q (cv_inj 8 _ _ v2 hW (by omega))), if_neg (by simpa using q)]
      exact ih
theorem e25 (h : cBk Z b S) (ho : okS S) (hn : okN S) {W : Nat} (hW : nmF 8 W) : f25_teamOfName b (i6 (cvN 8 W)) Z = some (i3 (tmN S W)) :=
  e25h h ho hn hW (sT S) 0 mjF (by omega) (by have := ok_sc ho; unfold mjF; omega)
theorem e22 (h : cBk Z b S) (ho : okS S) {r : Nat} (hr : r < sR S) : f22_nameOfRule b (i3 r) Z = some (Z.2.1 (b + 10) r) := by
  have o1 := ok_sc ho
  have hb2 := b_b h
  unfold f22_nameOfRule
  rw [if_pos (is_b hb2), e21 (is_b10 hb2).1 (is_b10 hb2).2 (by omega) (by omega), mjBp_some, Int.toNat_natCast]
theorem e26h (h : cBk Z b S) (ho : okS S) (hn : okN S) {W : Nat} (hW : nmF 8 W) : ∀ f i N, i + f = sR S → f < N → f26_isNameTaken_h13 N b (i6 (cvN 8 W)) (i3 i) Z = some (bI (decide (fI (fun k => decide ((S 12 k).toNat = W)) f i ≠ -1)))
  | f, i, 0, _, hN => by omega
  | 0, i, N + 1, hf, _ => by
    have o1 := ok_sc ho
    rw [f26_isNameTaken_h13, if_pos (is_b (b_b h)), b_R h, if_pos (by rw [c_ge (by omega)]; omega), fI]; rfl
  | f + 1, i, N + 1, hf, hN => by
    have o1 := ok_sc ho
    have ih := e26h h ho hn hW f (i + 1) N (by omega) (by omega)
    obtain ⟨v, v1, v2⟩ := hn.2 i (by omega)
    have l1 := cv_40 hW
    have l2 := cv_40 v2
    rw [f26_isNameTaken_h13, if_pos (is_b (b_b h)), b_R h, if_neg (by rw [c_ge (by omega)]; omega), e22 h ho (by omega), mjBp_some, (b_rl h (r := i) (by omega)).2, v1, show sCv (v : Int) = (cvN 8 v : Int) from sCv_c 8 v v2, fI, i3_s, v1, Int.toNat_natCast]
    by_cases q : v = W
    · rw [q, if_neg (by rw [lg_ne6 (by omega)]; simp), if_pos (show decide (W = W) = true by simp), decide_eq_true (by omega)]; rfl
    · rw [if_pos (by rw [lg_ne6 (by omega)]; intro g; exact q (cv_inj 8 _ _ v2 hW (by omega))), if_neg (show ¬ decide (v = W) = true by simpa using q)]
      exact ih
theorem e26 (h : cBk Z b S) (ho : okS S) (hn : okN S) {W : Nat} (hW : nmF 8 W) : f26_isNameTaken b (i6 (cvN 8 W)) Z = some (bI (decide (tmN S W ≠ -1 ∨ rlN S W ≠ -1))) := by
  have o1 := ok_sc ho
  have bd1 := fI_bd (fun k => decide ((S 11 k).toNat = W)) (sT S) 0
  unfold f26_isNameTaken
  rw [if_pos (is_b (b_b h)), e25 h ho hn hW, mjBp_some, show (-1 : Int32) = i3 (-1) from rfl]
  unfold tmN at *
  by_cases q : fI (fun k => decide ((S 11 k).toNat = W)) (sT S) 0 = -1
  · rw [if_pos (by rw [c_eq (by omega)]; omega)]
    have e := e26h h ho hn hW (sR S) 0 mjF (by omega) (by unfold mjF; omega)
    rw [show (0 : Int32) = i3 ((0 : Nat) : Int) from rfl, e]
    unfold rlN
    congr 2
    exact decide_eq_decide.mpr ⟨fun g => Or.inr g, fun g => by omega⟩
  · rw [if_neg (by rw [c_eq (by omega)]; omega), decide_eq_true (Or.inl q)]; rfl
theorem m210T (h : rM Z S m) (ho : okS S) (hn : okN S) {W : Nat} (hW : W < 2 ^ 63) : f210_among 227 (Z.1 211 21) (i6 W) Z = some (i3 (tmN S W)) := by
  have o1 := ok_sc ho
  rw [h.2.2.2.2.2.2.2.2.2.2.1.1]
  exact m210 (o := 227) (M := 6) (g := fun k => (S 11 k).toNat) (by decide) (by decide) (by omega) (by omega) hW (fun j hj => by
    obtain ⟨v, v1, v2⟩ := hn.1 j hj
    have l := nm_63 v2
    exact ⟨by rw [h.2.2.2.2.2.2.2.2.2.2.2.1 j, v1, Int.toNat_natCast], by rw [v1, Int.toNat_natCast]; exact l⟩) (sT S) 0 mjF (by omega) (by unfold mjF; omega)
theorem m210R (h : rM Z S m) (ho : okS S) (hn : okN S) {W : Nat} (hW : W < 2 ^ 63) : f210_among 228 (Z.1 211 23) (i6 W) Z = some (i3 (rlN S W)) := by
  have o1 := ok_sc ho
  rw [h.2.2.2.2.2.2.2.2.2.2.1.2.2.1]
  exact m210 (o := 228) (M := 8) (g := fun k => (S 12 k).toNat) (by decide) (by decide) (by omega) (by omega) hW (fun j hj => by
    obtain ⟨v, v1, v2⟩ := hn.2 j hj
    have l := nm_63 v2
    exact ⟨by rw [h.2.2.2.2.2.2.2.2.2.2.2.2.1 j, v1, Int.toNat_natCast], by rw [v1, Int.toNat_natCast]; exact l⟩) (sR S) 0 mjF (by omega) (by unfold mjF; omega)
end JR
