/-! what the JDK's StringBuilder does, over the memory; objects are numbered from 1000 on -/
def sg0 (j : Nat) : Nat := 1000 + j
def sm (M M2 : mjMem) (a : Nat) : Prop := M2.1 a = M.1 a ∧ M2.2.2.1 a = M.2.2.1 a ∧ M2.2.2.2 a = M.2.2.2 a
def oldO (Z : mjQ) (a : Nat) : Prop := a < 1000 + Z.1.1 ∨ 1000000 ≤ a
/-- old objects keep their kinds; those outside P are as they were -/
def frm (Z Z2 : mjQ) (P : Nat → Prop) : Prop := Z.1.1 ≤ Z2.1.1 ∧ ∀ a, oldO Z a → (Z2.2.2.2.2 a = Z.2.2.2.2 a ∧ (¬ P a → sm Z.2 Z2.2 a))
theorem frm_rf {Z : mjQ} {P : Nat → Prop} : frm Z Z P := ⟨Nat.le_refl _, fun _ _ => ⟨rfl, fun _ => ⟨rfl, rfl, rfl⟩⟩⟩
theorem frm_tr {Z Z2 Z3 : mjQ} {P : Nat → Prop} (h : frm Z Z2 P) (g : frm Z2 Z3 P) : frm Z Z3 P := by
  refine ⟨Nat.le_trans h.1 g.1, fun a ha => ?_⟩
  have ha2 : oldO Z2 a := by
    have := h.1
    rcases ha with q | q
    · exact Or.inl (by omega)
    · exact Or.inr q
  refine ⟨(g.2 a ha2).1.trans (h.2 a ha).1, fun hp => ?_⟩
  obtain ⟨x1, x2, x3⟩ := (h.2 a ha).2 hp
  obtain ⟨y1, y2, y3⟩ := (g.2 a ha2).2 hp
  exact ⟨y1.trans x1, y2.trans x2, y3.trans x3⟩
theorem frm_tr2 {Z Z2 Z3 : mjQ} {P Q : Nat → Prop} (h : frm Z Z2 P) (g : frm Z2 Z3 Q) (hq : ∀ a, oldO Z a → Q a → P a) : frm Z Z3 P := by
  refine ⟨Nat.le_trans h.1 g.1, fun a ha => ?_⟩
  have ha2 : oldO Z2 a := by
    have := h.1
    rcases ha with q | q
    · exact Or.inl (by omega)
    · exact Or.inr q
  refine ⟨(g.2 a ha2).1.trans (h.2 a ha).1, fun hp => ?_⟩
  obtain ⟨x1, x2, x3⟩ := (h.2 a ha).2 hp
  obtain ⟨y1, y2, y3⟩ := (g.2 a ha2).2 (fun q => hp (hq a ha q))
  exact ⟨y1.trans x1, y2.trans x2, y3.trans x3⟩
theorem old_new {Z : mjQ} {a : Nat} (hn : Z.1.1 < 90000) (h : oldO Z a) : ¬ a = 1000 + Z.1.1 := by
  rcases h with q | q <;> omega
theorem frm_wk {Z Z2 : mjQ} {P Q : Nat → Prop} (h : frm Z Z2 P) (g : ∀ a, oldO Z a → P a → Q a) : frm Z Z2 Q :=
  ⟨h.1, fun a ha => ⟨(h.2 a ha).1, fun hq => (h.2 a ha).2 (fun hp => hq (g a ha hp))⟩⟩
/-- writes of ints and references at an object of P -/
theorem frm_si {Z : mjQ} {a k : Nat} {x : Int32} {P : Nat → Prop} (h : P a) : frm Z (Z.1, mjSi Z.2 a k x) P := by
  refine ⟨Nat.le_refl _, fun b _ => ⟨rfl, fun hb => ⟨?_, rfl, rfl⟩⟩⟩
  have : ¬ b = a := fun q => hb (q ▸ h)
  funext j
  exact if_neg this
theorem frm_sr {Z : mjQ} {a k : Nat} {x : Option Nat} {P : Nat → Prop} (h : P a) : frm Z (Z.1, mjSr Z.2 a k x) P := by
  refine ⟨Nat.le_refl _, fun b _ => ⟨rfl, fun hb => ⟨rfl, ?_, rfl⟩⟩⟩
  have : ¬ b = a := fun q => hb (q ▸ h)
  funext j
  exact if_neg this
theorem frm_cp {Z : mjQ} {f : Nat → Int32} {a sp dp n : Nat} {P : Nat → Prop} (h : P a) : frm Z (Z.1, mjCp Z.2 f a sp dp n) P := by
  refine ⟨Nat.le_refl _, fun b _ => ⟨rfl, fun hb => ⟨?_, rfl, rfl⟩⟩⟩
  have : ¬ b = a := fun q => hb (q ▸ h)
  funext j
  exact if_neg this
theorem frm_zr {Z : mjQ} {m : Nat} {q : Nat × Nat} {P : Nat → Prop} (hn : Z.1.1 < 100000) : frm Z ((Z.1.1 + 1, m), mjZr Z.2 (1000 + Z.1.1) q) P := by
  refine ⟨Nat.le_succ _, fun b hb => ?_⟩
  have : ¬ b = 1000 + Z.1.1 := by
    rcases hb with h | h <;> omega
  have e4 : (mjZr Z.2 (1000 + Z.1.1) q).2.2.2 b = Z.2.2.2.2 b := if_neg this
  refine ⟨e4, fun _ => ⟨?_, ?_, e4⟩⟩
  · funext j; exact if_neg this
  · funext j; exact if_neg this
theorem qNew_0 {Z : mjQ} {q : Nat × Nat} (hn : Z.1.1 < 100000) : qNew sg0 Z q = some (1000 + Z.1.1, ((Z.1.1 + 1, Z.1.2 + mjSzK q), mjZr Z.2 (1000 + Z.1.1) q)) := if_pos hn
theorem qNewA_0 {Z : mjQ} {t n : Nat} (hn : Z.1.1 < 100000) (h : n ≤ 100000) : qNewA sg0 Z t (i3 n) = some (1000 + Z.1.1, ((Z.1.1 + 1, Z.1.2 + mjSzK (t, n)), mjZr Z.2 (1000 + Z.1.1) (t, n))) := by
  unfold qNewA
  rw [i3_int (by omega), if_pos (by omega), Int.toNat_natCast]
  exact qNew_0 hn
def fitB (f : Nat → Int32) : Prop := ∀ j, fits .byte (.int (f j)) = true
theorem mjFit_of {f : Nat → Int32} (h : fitB f) (sp n : Nat) : mjFit f sp n = true := by
  unfold mjFit
  rw [List.all_eq_true]
  intro i _
  exact h _
theorem qCp_0 {Z : mjQ} {k s d cap capd : Nat} {sp dp w : Nat} (hk : mjKC ≤ k) (h1 : Z.2.2.2.2 s = (118, cap)) (hs : s < 1000000) (h2 : Z.2.2.2.2 d = (118, capd)) (hw : sp + w ≤ cap) (hd : dp + w ≤ capd) (hc : cap ≤ 100000 ∧ capd ≤ 100000) (hf : fitB (Z.2.1 s)) :
    qCp k [.ref s, .int (i3 sp), .ref d, .int (i3 dp), .int (i3 w)] Z = some (Z.1, mjCp Z.2 (Z.2.1 s) d sp dp w) := by
  have hb : mjByt Z.2 s = some (cap, Z.2.1 s) := by
    unfold mjByt
    have h3 : mjSbd s = false := decide_eq_false (by omega)
    have h4 : mjKs Z.2 s 118 = true := by rw [mjKs, h1]; rfl
    rw [h3, if_neg (by decide), if_pos h4, mjAl, h1]
  have hks : mjKs Z.2 d 118 = true := by rw [mjKs, h2]; rfl
  have hal : mjAl Z.2 d = capd := by rw [mjAl, h2]
  have hwr : mjWr k d = true := decide_eq_true (Or.inl hk)
  have hc9 : mjCopy k [.ref s, .int (i3 sp), .ref d, .int (i3 dp), .int (i3 w)] Z.2 = some (mjCp Z.2 (Z.2.1 s) d sp dp w) := by
    unfold mjCopy
    dsimp only
    rw [hb]
    dsimp only
    rw [i3_int (by omega), i3_int (by omega), i3_int (by omega), Int.toNat_natCast, Int.toNat_natCast, Int.toNat_natCast, hal]
    rw [if_pos ⟨hks, hwr, ⟨by omega, by omega, by omega⟩, hw, hd, mjFit_of hf _ _⟩]
  rw [qCp, hc9]
/-- a StringBuilder of text t, its bytes in v, room for cap -/
def bS (Z : mjQ) (sb v cap : Nat) (t : List Int32) : Prop := Z.2.2.2.2 sb = (19, 0) ∧ Z.2.2.2.1 sb 0 = some v ∧ Z.2.1 sb 1 = i3 0 ∧ Z.2.1 sb 3 = i3 t.length ∧ Z.2.2.2.2 v = (118, cap) ∧ t.length ≤ cap ∧ cap ≤ 40000 ∧ (∀ i, i < t.length → Z.2.1 v i = t.getD i 0) ∧ fitB (Z.2.1 v) ∧ sb < 1000 + Z.1.1 ∧ v < 1000 + Z.1.1 ∧ Z.2.1 sb 2 = i3 0
theorem bS_frm {Z Z2 : mjQ} {sb v cap : Nat} {t : List Int32} {P : Nat → Prop} (h : bS Z sb v cap t) (g : frm Z Z2 P) (h1 : ¬ P sb) (h2 : ¬ P v) : bS Z2 sb v cap t := by
  obtain ⟨hk, hr, hc1, h3, hv, hl, hc, ht, hf, hs1, hs2, hm2⟩ := h
  obtain ⟨x1, x2, x3⟩ := (g.2 sb (Or.inl hs1)).2 h1
  obtain ⟨y1, y2, y3⟩ := (g.2 v (Or.inl hs2)).2 h2
  have := g.1
  refine ⟨by rw [x3]; exact hk, by rw [x2]; exact hr, by rw [x1]; exact hc1, by rw [x1]; exact h3, by rw [y3]; exact hv, hl, hc, ?_, by rw [y1]; exact hf, by omega, by omega, by rw [x1]; exact hm2⟩
  rw [y1]; exact ht
theorem ks_of {M : mjMem} {a c n : Nat} (h : M.2.2.2 a = (c, n)) : mjKs M a c = true := by rw [mjKs, h]; exact beq_self_eq_true c
theorem ro_of {M : mjMem} {a c n : Nat} (h : M.2.2.2 a = (c, n)) : mjRo M a c = true := by rw [mjRo, ks_of h]; rfl
theorem qR_of {M : mjMem} {a c n f b : Nat} (h : M.2.2.2 a = (c, n)) (hf : mjFk c f = 2) (hb : M.2.2.1 a f = some b) : qR M a c f = some b := by
  rw [qR, if_pos (ks_of h), if_pos hf, hb]
theorem qI_of {M : mjMem} {a c n f : Nat} {x : Int32} (h : M.2.2.2 a = (c, n)) (hf : ¬ (mjFk c f = 1 ∨ mjFk c f = 2)) (hx : M.1 a f = x) : qI M a c f = some x := by
  rw [qI, if_pos (ks_of h), if_neg hf, hx]
theorem qSi_of {Z : mjQ} {a c n f : Nat} {x : Int32} (h : Z.2.2.2.2 a = (c, n)) (hp : mjPutI (mjFk c f) x = true) : qSi Z a c f x = some (Z.1, mjSi Z.2 a f x) := if_pos ⟨ks_of h, hp⟩
theorem qSr_of {Z : mjQ} {a c n f : Nat} {b : Option Nat} (h : Z.2.2.2.2 a = (c, n)) (hp : mjFk c f = 2) : qSr Z a c f b = some (Z.1, mjSr Z.2 a f b) := if_pos ⟨ks_of h, hp⟩
theorem qLn_of {M : mjMem} {a c n : Nat} (h : M.2.2.2 a = (c, n)) (ha : a < 1000000) (hc : 113 ≤ c ∧ c < 121) : qLn M a = some (i3 n) := by
  have h3 : mjSbd a = false := decide_eq_false (by omega)
  have h4 : mjSrd a = none := by
    unfold mjSrd
    rw [if_neg (by omega), if_neg (by omega), if_neg (by omega)]
  unfold qLn
  rw [if_neg (by omega), h3, if_neg (by decide), h4]
  dsimp only
  rw [h, if_pos hc, mjAl, h, i3_ofNat]
theorem sh_0 (x : Int32) : x <<< ((i3 0) &&& 31) = x := by
  rw [show (i3 0 &&& 31 : Int32) = 0 from by decide]
  exact Int32.shiftLeft_zero
theorem shr_0 (x : Int32) : x >>> ((i3 0) &&& 31) = x := by
  rw [show (i3 0 &&& 31 : Int32) = 0 from by decide]
  exact Int32.shiftRight_zero
theorem newLength_0 {a b c : Nat} {Z : mjQ} (h : a + max b c ≤ 100000) (h0 : 0 < a + max b c) : g255_newLength (i3 a) (i3 b) (i3 c) Z = some (i3 ((a + max b c : Nat) : Int)) := by
  have hm : i3 (a : Int) + mjMax (i3 (b : Int)) (i3 (c : Int)) = i3 ((a + max b c : Nat) : Int) := by
    rw [max_i3 (by omega), i3_add]
    congr 1
    omega
  unfold g255_newLength
  rw [hm, show (0 : Int32) = i3 0 from rfl, if_neg (by rw [c_ge (by omega)]; omega), show (2147483639 : Int32) = i3 2147483639 from rfl, if_neg (by rw [c_gt (by omega)]; omega)]
