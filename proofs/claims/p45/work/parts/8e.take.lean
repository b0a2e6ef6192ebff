/-! TAKING TOKENS: class and model side by side -/
/-- the fault's kind at a token -/
def fK (X : Nat → Nat) (n p : Nat) (k : Int) : Int := if jS X n p = 4 then 1 else k
def fltC (Z : mjZt) (k : Int) (q : Nat) : Prop := Z.1 182 5 = i3 k ∧ Z.1 182 6 = i3 q
def fltM (Z : mjZt) (k : Int) (q : Nat) : Prop := Z.1 211 9 = i3 k ∧ Z.1 211 10 = i3 q
def gd (X : Nat → Nat) (n : Nat) (Zc Zm : mjZt) (p : Nat) : Prop := tkC X n Zc p ∧ tkM X n Zm p ∧ Zc.1 182 5 = 0 ∧ Zm.1 211 9 = 0 ∧ p ≤ n
def bd (Zc Zm : mjZt) : Prop := ∃ (k : Int) (q : Nat), 1 ≤ k ∧ k ≤ 7 ∧ fltC Zc k q ∧ fltM Zm k q
/-- frames: of the class when a token is taken, when there is a fault; of the model when there is a fault -/
def eqT2 (Z Z2 : mjZt) : Prop := Z2.2.2 = Z.2.2 ∧ (∀ a, a ≠ 182 → a ≠ 183 → Z2.1 a = Z.1 a ∧ Z2.2.1 a = Z.2.1 a) ∧ ∀ f, f ≠ 4 → Z2.1 182 f = Z.1 182 f
def eqT3 (Z Z2 : mjZt) : Prop := Z2.2.2 = Z.2.2 ∧ (∀ a, a ≠ 182 → a ≠ 183 → Z2.1 a = Z.1 a ∧ Z2.2.1 a = Z.2.1 a)
def eqGw (Z Z2 : mjZt) : Prop := Z2.2.2 = Z.2.2 ∧ (∀ a, a ≠ 211 → Z2.1 a = Z.1 a ∧ Z2.2.1 a = Z.2.1 a) ∧ ∀ f, (f < 5 ∨ 10 < f) → Z2.1 211 f = Z.1 211 f
theorem eqT2_rf {Z : mjZt} : eqT2 Z Z := ⟨rfl, fun _ _ _ => ⟨rfl, rfl⟩, fun _ _ => rfl⟩
theorem eqT3_rf {Z : mjZt} : eqT3 Z Z := ⟨rfl, fun _ _ _ => ⟨rfl, rfl⟩⟩
theorem eqGw_rf {Z : mjZt} : eqGw Z Z := ⟨rfl, fun _ _ => ⟨rfl, rfl⟩, fun _ _ => rfl⟩
theorem eqT2_tr {Z Z2 Z3 : mjZt} (h : eqT2 Z Z2) (g : eqT2 Z2 Z3) : eqT2 Z Z3 := ⟨g.1.trans h.1, fun a q r => ⟨(g.2.1 a q r).1.trans (h.2.1 a q r).1, (g.2.1 a q r).2.trans (h.2.1 a q r).2⟩, fun f q => (g.2.2 f q).trans (h.2.2 f q)⟩
theorem eqT3_tr {Z Z2 Z3 : mjZt} (h : eqT3 Z Z2) (g : eqT3 Z2 Z3) : eqT3 Z Z3 := ⟨g.1.trans h.1, fun a q r => ⟨(g.2 a q r).1.trans (h.2 a q r).1, (g.2 a q r).2.trans (h.2 a q r).2⟩⟩
theorem eqGw_tr {Z Z2 Z3 : mjZt} (h : eqGw Z Z2) (g : eqGw Z2 Z3) : eqGw Z Z3 := ⟨g.1.trans h.1, fun a q => ⟨(g.2.1 a q).1.trans (h.2.1 a q).1, (g.2.1 a q).2.trans (h.2.1 a q).2⟩, fun f q => (g.2.2 f q).trans (h.2.2 f q)⟩
theorem eqTk_2 {Z Z2 : mjZt} (h : eqTk Z Z2) : eqT2 Z Z2 := ⟨h.1, fun a _ r => h.2 a r, fun f _ => by rw [(h.2 182 (by omega)).1]⟩
theorem eqT2_3 {Z Z2 : mjZt} (h : eqT2 Z Z2) : eqT3 Z Z2 := ⟨h.1, h.2.1⟩
theorem eqGo_w {Z Z2 : mjZt} (h : eqGo Z Z2) : eqGw Z Z2 := ⟨h.1, h.2.1, fun f q => h.2.2 f (by omega)⟩
section TA
variable {X : Nat → Nat} {n : Nat} {Z Zc Zm : mjZt} {p : Nat}
theorem fK_bd {k : Int} (h : 1 ≤ k ∧ k ≤ 7) : 1 ≤ fK X n p k ∧ fK X n p k ≤ 7 := by unfold fK; split <;> omega
theorem tkC_182 (h : tkC X n Z p) {f : Nat} {v : Int32} : tkC X n (zSi Z 182 f v) p := by
  obtain ⟨⟨h1, h2, h3⟩, h4, h5, h6, h7, h8⟩ := h
  have e : (zSi Z 182 f v).1 183 = Z.1 183 := si_obj _ _ _ _ (by omega)
  have e1 : (zSi Z 182 f v).1 1 = Z.1 1 := si_obj _ _ _ _ (by omega)
  exact ⟨⟨h1, by rw [e1]; exact h2, by rw [e]; exact h3⟩, by rw [e]; exact h4, by rw [e]; exact h5, by rw [e]; exact h6, by rw [e]; exact h7, h8⟩
theorem e114 (h : tkC X n Z p) (k : Int32) : f114_fail k Z = some (0, zSi (zSi Z 182 5 (if jS X n p = 4 then 1 else k)) 182 6 (i3 (jQ X n p))) := by
  have ks := kd_spec (X := X) (n := n) (p := p)
  have h3 : Z.1 183 3 = i3 (kd X n p) := h.2.2.1
  have h4 := h.2.2.2.1
  unfold f114_fail
  rw [h3]
  by_cases q : jS X n p = 4
  · have e : kd X n p = 3 := by omega
    rw [e, if_neg (by decide), let_eq, si_obj _ _ _ _ (by omega), h4, let_eq, if_pos q]
  · by_cases e : kd X n p = 0 ∨ kd X n p = 1 ∨ kd X n p = 2
    · rw [if_pos (by rcases e with e | e | e <;> rw [e] <;> decide), let_eq, si_obj _ _ _ _ (by omega), h4, let_eq, if_neg q]
    · have e3 : jS X n p = 3 ∧ kd X n p = jV X n p ∧ 40 ≤ jV X n p ∧ isSg (jV X n p) = true := by
        rcases ks with g | g | g
        · exact g
        · exact absurd g.1 q
        · omega
      have e4 : kd X n p ≤ 125 := by
        have := of_decide_eq_true e3.2.2.2
        omega
      rw [if_pos (by rw [show (3 : Int32) = i3 3 from rfl, c_ne (by omega)]; omega), let_eq, si_obj _ _ _ _ (by omega), h4, let_eq, if_neg q]
theorem flC (h : tkC X n Z p) (k : Int) : ∃ Z1, f114_fail (i3 k) Z = some (0, Z1) ∧ fltC Z1 (fK X n p k) (jQ X n p) ∧ eqT3 Z Z1 := by
  refine ⟨_, e114 h (i3 k), ⟨?_, si_same _ _ _ _⟩, rfl, fun a h1 h2 => ⟨by rw [si_obj _ _ _ _ h1, si_obj _ _ _ _ h1], rfl⟩⟩
  rw [si_fld _ _ _ _ (by omega), si_same]
  unfold fK
  split <;> rfl
theorem flM (h : tkM X n Z p) (hg : Z.1 211 9 = 0) (k : Int) : ∃ Z1, f206_wrong (i3 k) Z = some ((), Z1) ∧ fltM Z1 (fK X n p k) (jQ X n p) ∧ eqGw Z Z1 := by
  have e : ∀ w : Int32, eqGw Z (zSi (zSi Z 211 9 w) 211 10 (i3 (jQ X n p))) := fun w => ⟨rfl, fun a ha => ⟨by rw [si_obj _ _ _ _ ha, si_obj _ _ _ _ ha], rfl⟩, fun f hf => by rw [si_fld _ _ _ _ (by omega), si_fld _ _ _ _ (by omega)]⟩
  have h6 := h.2.2.1
  have h7 := h.2.2.2.1
  have sb : jS X n p ≤ 4 := by have := kd_spec (X := X) (n := n) (p := p); omega
  unfold f206_wrong fK
  rw [hg, if_pos (by decide), h7, show (4 : Int32) = i3 4 from rfl]
  by_cases q : jS X n p = 4
  · rw [if_neg (by rw [c_ne (by omega)]; omega), let_eq, si_fld _ _ _ _ (by omega), h6, let_eq, if_pos q]
    exact ⟨_, rfl, ⟨by rw [si_fld _ _ _ _ (by omega), si_same]; rfl, si_same _ _ _ _⟩, e _⟩
  · rw [if_pos (by rw [c_ne (by omega)]; omega), let_eq, si_fld _ _ _ _ (by omega), h6, let_eq, if_neg q]
    exact ⟨_, rfl, ⟨by rw [si_fld _ _ _ _ (by omega), si_same], si_same _ _ _ _⟩, e _⟩
/-- a fault in both -/
theorem flt (h : gd X n Zc Zm p) {k : Int} (hk : 1 ≤ k ∧ k ≤ 7) : ∃ Zc1 Zm1, f114_fail (i3 k) Zc = some (0, Zc1) ∧ f206_wrong (i3 k) Zm = some ((), Zm1) ∧ bd Zc1 Zm1 ∧ eqT3 Zc Zc1 ∧ eqGw Zm Zm1 ∧ ∃ (k : Int) (q : Nat), 1 ≤ k ∧ k ≤ 7 ∧ fltM Zm1 k q := by
  obtain ⟨Zc1, a1, a2, a3⟩ := flC h.1 k
  obtain ⟨Zm1, b1, b2, b3⟩ := flM h.2.1 h.2.2.2.1 k
  have := fK_bd (X := X) (n := n) (p := p) hk
  exact ⟨Zc1, Zm1, a1, b1, ⟨_, _, this.1, this.2, a2, b2⟩, a3, b3, ⟨_, _, this.1, this.2, b2⟩⟩
/-- going on in both -/
theorem nxt (h : gd X n Zc Zm p) (hn : n ≤ 700) (hX : ∀ k, X k ≤ 255) : ∃ Zc1 Zm1, f68_advance Zc = some ((), Zc1) ∧ f205_goOn Zm = some ((), Zm1) ∧ gd X n Zc1 Zm1 (jE X n p) ∧ eqTk Zc Zc1 ∧ eqGo Zm Zm1 := by
  obtain ⟨h1, h2, h3, h4, h5⟩ := h
  obtain ⟨Zc1, a1, a2, a3⟩ := adv h1 hn hX h5
  obtain ⟨Zm1, b1, b2, b3⟩ := goOn h2 hn hX h5
  exact ⟨Zc1, Zm1, a1, b1, ⟨a2, b2, by rw [(a3.2 182 (by omega)).1]; exact h3, by rw [b3.2.2 9 (by omega)]; exact h4, (jE_bd h5).2.2.1⟩, a3, b3⟩
/-- of the model, good or not -/
theorem gdM (h : Z.1 211 9 = 0) : f207_isGood Z = some 1 := by
  unfold f207_isGood
  rw [h, if_neg (by decide)]
theorem bdM {k : Int} {q : Nat} (h : fltM Z k q) (hk : 1 ≤ k ∧ k ≤ 7) : f207_isGood Z = some 0 := by
  unfold f207_isGood
  rw [h.1, show (0 : Int32) = i3 0 from rfl, if_pos (by rw [c_ne (by omega)]; omega)]
theorem bdL {k : Int} {q : Nat} (h : fltM Z k q) (hk : 1 ≤ k ∧ k ≤ 7) : ¬ (mjCmp .le (Z.1 211 9) 0 = true) := by
  rw [h.1, show (0 : Int32) = i3 0 from rfl, c_le (by omega)]; omega
theorem gdL (h : Z.1 211 9 = 0) : mjCmp .le (Z.1 211 9) 0 = true := by rw [h]; decide
theorem m206f {k : Int} {q : Nat} (h : fltM Z k q) (hk : 1 ≤ k ∧ k ≤ 7) (w : Int32) : f206_wrong w Z = some ((), Z) := by
  unfold f206_wrong
  rw [if_neg (bdL h hk)]
theorem m208 (h : tkM X n Z p) (hX : ∀ k, X k ≤ 255) (hg : Z.1 211 9 = 0) {w : Nat} (hw : w < 2 ^ 63) : f208_isWord (i6 w) Z = some (bI (decide (jS X n p = 1 ∧ jN X n p = w))) := by
  have h7 := h.2.2.2.1
  have h13 := h.2.2.2.2.2
  have l := nm_63 (jN_nm (n := n) hX (p := p)).1
  have sb : jS X n p ≤ 4 := by have := kd_spec (X := X) (n := n) (p := p); omega
  unfold f208_isWord
  rw [hg, if_neg (by decide), h7, h13, show (1 : Int32) = i3 1 from rfl]
  by_cases q : jS X n p = 1
  · rw [if_neg (by rw [c_ne (by omega)]; omega)]
    by_cases q2 : jN X n p = w
    · rw [if_neg (by rw [lg_ne6 (by omega)]; omega), decide_eq_true ⟨q, q2⟩]; rfl
    · rw [if_pos (by rw [lg_ne6 (by omega)]; omega), decide_eq_false (fun g => q2 g.2)]; rfl
  · rw [if_pos (by rw [c_ne (by omega)]; omega), decide_eq_false (fun g => q g.1)]; rfl
theorem m208f {k : Int} {q : Nat} (h : fltM Z k q) (hk : 1 ≤ k ∧ k ≤ 7) (w : Int64) : f208_isWord w Z = some 0 := by
  unfold f208_isWord
  rw [h.1, show (0 : Int32) = i3 0 from rfl, if_pos (by rw [c_ne (by omega)]; omega)]
def sgn (X : Nat → Nat) (n p c : Nat) : Bool := decide (jS X n p = 3 ∧ jV X n p = c)
theorem m209 (h : tkM X n Z p) (hX : ∀ k, X k ≤ 255) (hg : Z.1 211 9 = 0) {c : Nat} (hc : c ≤ 255) : f209_isSignHere (i3 c) Z = some (bI (sgn X n p c)) := by
  have h7 := h.2.2.2.1
  have h8 := h.2.2.2.2.1
  have vb := jV_bd (X := X) (n := n) (p := p) hX
  have sb : jS X n p ≤ 4 := by have := kd_spec (X := X) (n := n) (p := p); omega
  unfold f209_isSignHere sgn
  rw [hg, if_neg (by decide), h7, h8, show (3 : Int32) = i3 3 from rfl]
  by_cases q : jS X n p = 3
  · rw [if_neg (by rw [c_ne (by omega)]; omega)]
    by_cases q2 : jV X n p = c
    · rw [if_neg (by rw [c_ne (by omega)]; omega), decide_eq_true ⟨q, q2⟩]; rfl
    · rw [if_pos (by rw [c_ne (by omega)]; omega), decide_eq_false (fun g => q2 g.2)]; rfl
  · rw [if_pos (by rw [c_ne (by omega)]; omega), decide_eq_false (fun g => q g.1)]; rfl
theorem m209f {k : Int} {q : Nat} (h : fltM Z k q) (hk : 1 ≤ k ∧ k ≤ 7) (w : Int32) : f209_isSignHere w Z = some 0 := by
  unfold f209_isSignHere
  rw [h.1, show (0 : Int32) = i3 0 from rfl, if_pos (by rw [c_ne (by omega)]; omega)]
/-- the class's look at a sign, a kind -/
theorem kdS {c : Nat} (hc : 4 ≤ c) : (kd X n p = c) ↔ sgn X n p c = true := by
  have ks := kd_spec (X := X) (n := n) (p := p)
  unfold sgn
  rw [decide_eq_true_eq]
  omega
theorem kd_255 (hX : ∀ k, X k ≤ 255) : kd X n p ≤ 125 := by
  have ks := kd_spec (X := X) (n := n) (p := p)
  rcases ks with g | g | g
  · have := of_decide_eq_true g.2.2.2
    omega
  · omega
  · omega
/-- a sign -/
theorem p_sign (h : gd X n Zc Zm p) (hn : n ≤ 700) (hX : ∀ k, X k ≤ 255) {c : Nat} (hc : 4 ≤ c ∧ c ≤ 255) :
    (∃ Zc1 Zm1, f117_takeSign (i3 c) Zc = some (1, Zc1) ∧ f212_must (i3 c) Zm = some ((), Zm1) ∧ gd X n Zc1 Zm1 (jE X n p) ∧ p < jE X n p ∧ eqT2 Zc Zc1 ∧ eqGo Zm Zm1) ∨
    (∃ Zc1 Zm1, f117_takeSign (i3 c) Zc = some (0, Zc1) ∧ f212_must (i3 c) Zm = some ((), Zm1) ∧ bd Zc1 Zm1 ∧ eqT3 Zc Zc1 ∧ eqGw Zm Zm1) := by
  have h3 : Zc.1 183 3 = i3 (kd X n p) := h.1.2.2.1
  have k5 := kd_255 (n := n) (p := p) hX
  have e := kdS (X := X) (n := n) (p := p) hc.1
  have m9 := m209 h.2.1 hX h.2.2.2.1 hc.2
  cases q : sgn X n p c with
  | true =>
    obtain ⟨Zc1, Zm1, a1, a2, a3, a4, a5⟩ := nxt h hn hX
    left
    have k6 : kd X n p = c := e.mpr q
    have s3 : jS X n p = 3 := (of_decide_eq_true q : jS X n p = 3 ∧ _).1
    refine ⟨Zc1, Zm1, ?_, ?_, a3, (jE_bd h.2.2.2.2).2.2.2 (by omega), eqTk_2 a4, a5⟩
    · unfold f117_takeSign
      rw [h3, if_pos (by rw [c_eq (by omega)]; omega), a1, mjBd_some]
    · unfold f212_must
      rw [gdM h.2.2.2.1, mjBp_some, if_neg (by decide), m9, q, mjBp_some, if_pos (by decide), if_neg (by decide), a2, mjBd_some]
  | false =>
    obtain ⟨Zc1, Zm1, a1, a2, a3, a4, a5, k, q2, k1, k2, k3⟩ := flt h (k := 2) (by omega)
    right
    have k6 : ¬ kd X n p = c := fun g => by rw [e.mp g] at q; cases q
    refine ⟨Zc1, Zm1, ?_, ?_, a3, a4, a5⟩
    · unfold f117_takeSign
      rw [h3, if_neg (by rw [c_eq (by omega)]; omega), show (2 : Int32) = i3 2 from rfl, a1, mjBd_some, if_pos (Or.inl rfl)]
    · unfold f212_must
      rw [gdM h.2.2.2.1, mjBp_some, if_neg (by decide), m9, q, mjBp_some, if_neg (by decide), show (2 : Int32) = i3 2 from rfl, a2, mjBd_some, bdM k3 ⟨k1, k2⟩, mjBp_some, if_pos (by decide)]
theorem m212f {k : Int} {q : Nat} (h : fltM Z k q) (hk : 1 ≤ k ∧ k ≤ 7) (w : Int32) : f212_must w Z = some ((), Z) := by
  unfold f212_must
  rw [bdM h hk, mjBp_some, if_pos (by decide), if_pos (by decide)]
theorem m213f {k : Int} {q : Nat} (h : fltM Z k q) (hk : 1 ≤ k ∧ k ≤ 7) (x y : Int32) : f213_number x y Z = some (Z.1 211 8, Z) := by
  unfold f213_number f213_number_j20
  rw [bdM h hk, mjBp_some, if_pos (by decide), mjBp_some, if_pos (by decide), if_pos (by decide)]
/-- a number -/
theorem p_num (h : gd X n Zc Zm p) (hn : n ≤ 700) (hX : ∀ k, X k ≤ 255) {lo hi : Int} (hl : 0 ≤ lo ∧ hi ≤ 9999 ∧ 0 ≤ hi ∧ lo ≤ 9999) :
    (∃ Zc1 Zm1, ∃ v : Nat, f116_takeNumber (i3 lo) (i3 hi) Zc = some (1, Zc1) ∧ f213_number (i3 lo) (i3 hi) Zm = some (i3 v, Zm1) ∧ lo ≤ v ∧ v ≤ hi ∧ Zc1.1 182 4 = i3 v ∧ gd X n Zc1 Zm1 (jE X n p) ∧ p < jE X n p ∧ eqT2 Zc Zc1 ∧ eqGo Zm Zm1 ∧ v = jV X n p) ∨
    (∃ Zc1 Zm1 v, f116_takeNumber (i3 lo) (i3 hi) Zc = some (0, Zc1) ∧ f213_number (i3 lo) (i3 hi) Zm = some (v, Zm1) ∧ bd Zc1 Zm1 ∧ eqT3 Zc Zc1 ∧ eqGw Zm Zm1) := by
  have h3 : Zc.1 183 3 = i3 (kd X n p) := h.1.2.2.1
  have k5 := kd_255 (n := n) (p := p) hX
  have vb := jV_bd (X := X) (n := n) (p := p) hX
  have ks := kd_spec (X := X) (n := n) (p := p)
  have h7 := h.2.1.2.2.2.1
  have h8 := h.2.1.2.2.2.2.1
  by_cases q : jS X n p = 2
  · have h5 := h.1.2.2.2.2.1 q
    have cl : f116_takeNumber (i3 lo) (i3 hi) Zc = if mjCmp .lt (i3 (jV X n p)) (i3 lo) = true then (mjBd (f114_fail (i3 4) Zc) fun v104 Z105 => if v104 = 0 ∨ v104 = 1 then some (v104, Z105) else none) else if mjCmp .le (i3 (jV X n p)) (i3 hi) = true then (mjLet (zSi Zc 182 4 (i3 (jV X n p))) fun Z108 => mjBd (f68_advance Z108) fun _ Z111 => some (1, Z111)) else (mjBd (f114_fail (i3 4) Zc) fun v113 Z114 => if v113 = 0 ∨ v113 = 1 then some (v113, Z114) else none) := by
      unfold f116_takeNumber
      rw [h3, show (2 : Int32) = i3 2 from rfl, if_pos (by rw [c_eq (by omega)]; omega), h5]; rfl
    have md : f213_number (i3 lo) (i3 hi) Zm = mjBp (f195_isIn (i6 (jV X n p)) (i6 lo) (i6 hi) Zm) fun v117 => if mjCmp .ne v117 0 = true then (mjBd (f205_goOn Zm) fun _ Z126 => some (i3 (jV X n p), Z126)) else (mjBd (f206_wrong (i3 4) Zm) fun _ Z129 => mjBp (f207_isGood Z129) fun v131 => if mjCmp .eq v131 0 = true then some (i3 (jV X n p), Z129) else mjBd (f205_goOn Z129) fun _ Z136 => some (i3 (jV X n p), Z136)) := by
      unfold f213_number
      rw [gdM h.2.2.2.1, mjBp_some, if_neg (by decide), h7, show (2 : Int32) = i3 2 from rfl, if_pos (by rw [c_eq (by omega)]; omega)]
      unfold f213_number_j20
      rw [gdM h.2.2.2.1, mjBp_some, if_neg (by decide), h8, i36 (by omega), i36 (by omega), i36 (by omega)]
      rfl
    rw [cl, md]
    by_cases q2 : lo ≤ jV X n p ∧ (jV X n p : Int) ≤ hi
    · left
      have hc : tkC X n (zSi Zc 182 4 (i3 (jV X n p))) p := tkC_182 h.1
      obtain ⟨Zc1, a1, a2, a3⟩ := adv hc hn hX h.2.2.2.2
      obtain ⟨Zm1, b1, b2, b3⟩ := goOn h.2.1 hn hX h.2.2.2.2
      have a182 := (a3.2 182 (by omega)).1
      refine ⟨Zc1, Zm1, jV X n p, ?_, ?_, q2.1, q2.2, ?_, ⟨a2, b2, ?_, ?_, (jE_bd h.2.2.2.2).2.2.1⟩, (jE_bd h.2.2.2.2).2.2.2 (by omega), ⟨a3.1, fun a g1 g2 => ?_, fun f g => ?_⟩, b3, rfl⟩
      · rw [if_neg (by rw [c_lt (by omega)]; omega), if_pos (by rw [c_le (by omega)]; omega), let_eq, a1, mjBd_some]
      · rw [m195t (by omega), mjBp_some, if_pos (by decide), b1, mjBd_some]
      · rw [a182, si_same]
      · rw [a182, si_fld _ _ _ _ (by omega)]; exact h.2.2.1
      · rw [b3.2.2 9 (by omega)]; exact h.2.2.2.1
      · rw [(a3.2 a g2).1, (a3.2 a g2).2, si_obj _ _ _ _ g1]; exact ⟨rfl, rfl⟩
      · rw [a182, si_fld _ _ _ _ (by omega)]
    · right
      obtain ⟨Zc1, Zm1, a1, a2, a3, a4, a5, k, q3, k1, k2, k3⟩ := flt h (k := 4) (by omega)
      refine ⟨Zc1, Zm1, i3 (jV X n p), ?_, ?_, a3, a4, a5⟩
      · by_cases q4 : (jV X n p : Int) < lo
        · rw [if_pos (by rw [c_lt (by omega)]; omega), a1, mjBd_some, if_pos (Or.inl rfl)]
        · rw [if_neg (by rw [c_lt (by omega)]; omega), if_neg (by rw [c_le (by omega)]; omega), a1, mjBd_some, if_pos (Or.inl rfl)]
      · rw [m195f (by omega), mjBp_some, if_neg (by decide), a2, mjBd_some, bdM k3 ⟨k1, k2⟩, mjBp_some, if_pos (by decide)]
  · right
    obtain ⟨Zc1, Zm1, a1, a2, a3, a4, a5, k, q3, k1, k2, k3⟩ := flt h (k := 2) (by omega)
    refine ⟨Zc1, Zm1, Zm1.1 211 8, ?_, ?_, a3, a4, a5⟩
    · unfold f116_takeNumber
      rw [h3, show (2 : Int32) = i3 2 from rfl, if_neg (by rw [c_eq (by omega)]; omega), a1, mjBd_some, if_pos (Or.inl rfl)]
    · unfold f213_number
      rw [gdM h.2.2.2.1, mjBp_some, if_neg (by decide), h7, show (2 : Int32) = i3 2 from rfl, if_neg (by rw [c_eq (by omega)]; omega), a2, mjBd_some]
      unfold f213_number_j20
      rw [bdM k3 ⟨k1, k2⟩, mjBp_some, if_pos (by decide), if_pos (by decide)]
/-- fault or not of the model, kept by frames -/
theorem fltM_of {Z2 : mjZt} {k : Int} {q : Nat} (h : fltM Z k q) (e1 : Z2.1 211 9 = Z.1 211 9) (e2 : Z2.1 211 10 = Z.1 211 10) : fltM Z2 k q := ⟨e1.trans h.1, e2.trans h.2⟩
/-- reading goes on behind what doesn't touch the tokens -/
theorem gd_of {Zc2 Zm2 : mjZt} (h : gd X n Zc Zm p) (c1 : Zc2.2.2.2 = Zc.2.2.2) (c2 : Zc2.1 1 = Zc.1 1) (c3 : Zc2.1 183 = Zc.1 183) (c4 : Zc2.2.1 183 = Zc.2.1 183) (c5 : Zc2.1 182 5 = Zc.1 182 5) (m1 : Zm2.1 212 = Zm.1 212) (m2 : ∀ f, 4 ≤ f → f ≤ 10 → Zm2.1 211 f = Zm.1 211 f) (m3 : Zm2.2.1 211 13 = Zm.2.1 211 13) : gd X n Zc2 Zm2 p := by
  obtain ⟨⟨⟨a1, a2, a3⟩, a4, a5, a6, a7, a8⟩, ⟨⟨b1, b2⟩, b3, b4, b5, b6, b7⟩, h3, h4, h5⟩ := h
  refine ⟨⟨⟨by rw [c1]; exact a1, by rw [c2]; exact a2, by rw [c3]; exact a3⟩, by rw [c3]; exact a4, by rw [c3]; exact a5, by rw [c3]; exact a6, by rw [c3]; exact a7, by rw [c4]; exact a8⟩, ⟨⟨by rw [m1]; exact b1, by rw [m2 4 (by omega) (by omega)]; exact b2.1, by rw [m2 10 (by omega) (by omega)]; exact b2.2⟩, by rw [m2 5 (by omega) (by omega)]; exact b3, by rw [m2 6 (by omega) (by omega)]; exact b4, by rw [m2 7 (by omega) (by omega)]; exact b5, by rw [m2 8 (by omega) (by omega)]; exact b6, by rw [m3]; exact b7⟩, by rw [c5]; exact h3, by rw [m2 9 (by omega) (by omega)]; exact h4, h5⟩
end TA
