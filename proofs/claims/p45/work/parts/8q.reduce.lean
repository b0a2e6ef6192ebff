/-! CONDITIONS READ: the class reduces, pushes; the model works, ends, waits -/
/-- what reducing leaves of the class -/
def eqRe (b wr m : Nat) (Z Z2 : mjZt) : Prop := eqCc b wr m Z Z2 ∧ Z2.2 = Z.2 ∧ Z2.1 183 = Z.1 183 ∧ ∀ f, f ≠ 1 → f ≠ 6 → Z2.1 185 f = Z.1 185 f
theorem eqRe_tr {b wr m m2 : Nat} {Z Z2 Z3 : mjZt} (h : eqRe b wr m Z Z2) (g : eqRe b wr m2 Z2 Z3) (hm : m ≤ m2) : eqRe b wr m Z Z3 :=
  ⟨eqCc_tr h.1 g.1 hm, g.2.1.trans h.2.1, g.2.2.1.trans h.2.2.1, fun f q1 q2 => (g.2.2.2 f q1 q2).trans (h.2.2.2 f q1 q2)⟩
theorem eqRe_rf {b wr m : Nat} {Z : mjZt} : eqRe b wr m Z Z := ⟨eqCc_rf, rfl, rfl, fun _ _ _ => rfl⟩
theorem eqPt_re {b wr m : Nat} {Z Z2 : mjZt} (hb : b = 2 ∨ b = 92) (h : eqPt b wr m Z Z2) : eqRe b wr m Z Z2 := by
  have e := fun a (q : 182 ≤ a) => h.2.1 a (by omega) (by omega) (by omega) (by omega) (by omega)
  exact ⟨eqPt_c hb h, h.1, e 183 (by omega), fun f _ _ => by rw [e 185 (by omega)]⟩
theorem stg_len {x : Int} {ty : Bool} {L : pL} (h : stg x ty L) (ho : opn L ≤ 6) : L.length ≤ 41 := by
  have r := rk_le L
  rcases h with ⟨_, h⟩ | ⟨_, h⟩
  · have := pN_len L h; omega
  · have := (pT_len L h).1; omega
theorem nuC_o {S : mjS} {fr m : Nat} {c : Int} (hp : prp c) (hc : isCm c = false) : nuC (zuS S 9 m c) fr m = 0 := by
  unfold prp at hp
  unfold nuC
  rw [zuS_e, if_neg (by omega), if_neg (by omega), if_neg (by rw [hc]; decide)]
theorem opW_p {c : Int} (hp : prp c) : opW c = opC c := by
  unfold prp at hp
  unfold opW
  rw [if_neg (by omega), if_neg (by omega)]
theorem opW_bd (c : Int) : 0 ≤ opW c ∧ opW c ≤ 12 := by
  unfold opW opC
  repeat (split <;> try omega)
def kcd (c : Int) : Bool := isT c || (isN c || isX c)
def qT (tg c : Int) : Bool := decide ((c = 21 ∨ c = 22 ∨ c = 23 ∨ c = 30 ∨ c = 31 ∨ c = 32 ∨ c = 40 ∨ c = 41 ∨ c = 42) ∧ tg ≤ opC c)
theorem qT_i {tg c : Int} : qT tg c = true ↔ (prp c ∧ tg ≤ opC c) := by
  unfold qT prp
  rw [decide_eq_true_eq]
theorem qT_p {tg c : Int} (h : qT tg c = true) : prp c := (qT_i.mp h).1
theorem qT_52 (tg : Int) : qT tg 52 = false := decide_eq_false (by omega)
theorem qT_51 (tg : Int) : qT tg 51 = false := decide_eq_false (by omega)
theorem qT_ok {tg c : Int} (htg : 4 ≤ tg) (hk : kcd c = true) (h52 : c ≠ 52) : qT tg c = true ↔ tg ≤ opW c := by
  have hc : prp c ∨ c = 50 ∨ c = 51 := by
    unfold prp
    unfold kcd at hk
    rw [Bool.or_eq_true, Bool.or_eq_true] at hk
    rcases hk with g | g | g
    · have : c = 40 ∨ c = 41 ∨ c = 42 ∨ c = 50 := of_decide_eq_true g
      omega
    · have : c = 21 ∨ c = 22 ∨ c = 23 ∨ c = 51 := of_decide_eq_true g
      omega
    · have : c = 52 ∨ c = 30 ∨ c = 31 ∨ c = 32 := of_decide_eq_true g
      omega
  rcases hc with g | rfl | rfl
  · rw [opW_p g]
    constructor
    · intro k; exact (qT_i.mp k).2
    · intro k; exact qT_i.mpr ⟨g, k⟩
  · constructor
    · intro k; have := qT_p k; unfold prp at this; omega
    · intro k
      have : tg ≤ 2 := k
      omega
  · constructor
    · intro k; have := qT_p k; unfold prp at this; omega
    · intro k
      have : tg ≤ 3 := k
      omega
theorem stg_kc {x c : Int} {a : Nat} {ty : Bool} {L : pL} (h : stg x ty ((c, a) :: L)) : kcd c = true := by
  unfold kcd
  rcases h with ⟨_, h⟩ | ⟨_, h⟩
  · rcases h with ⟨h, _⟩ | ⟨h, _⟩
    · rw [h]; simp
    · rw [h]; simp
  · rw [h.1]; simp
section RE
variable {b : Nat} {fr wr : Nat} {x : Int}
theorem e49 (hb : b = 2 ∨ b = 92) {tg : Int} (htg : 4 ≤ tg ∧ tg ≤ 12) : ∀ (L : pL) (S : mjS) (m e : Nat) (ty : Bool) (N : Nat) (Z : mjZt), (x = 52 → 7 ≤ tg ∨ crl L ≠ 0) → cI S fr m L e → hasI S m e ty → stg x ty L → plK Z (cL L) → trC b Z S fr m wr → m + wtL L ≤ 700 → opn L ≤ 6 → L.length < N → ∃ Z1, f49_reduce_h0 N (b + 1) (i3 tg) Z = some ((), Z1) ∧ plK Z1 (cL (rd (qT tg) L S m).2.2) ∧ trC b Z1 (rd (qT tg) L S m).1 fr (rd (qT tg) L S m).2.1 wr ∧ eqRe b wr m Z Z1
  | L, S, m, e, ty, 0, Z, _, _, _, _, _, _, _, _, hN => by omega
  | [], S, m, e, ty, N + 1, Z, _, _, _, _, hk, ht, _, _, _ => by
    refine ⟨Z, ?_, hk, ht, eqRe_rf⟩
    have : Z.1 185 6 = i3 ((0 : Nat) : Int) := hk.2.1
    rw [f49_reduce_h0, this, if_pos (by decide)]
  | (c, a) :: L, S, m, e, ty, N + 1, Z, h52, h, hh, hs, hk, ht, hw, ho, hN => by
    have len := stg_len hs ho
    rw [List.length_cons] at len hN
    have lc := cL_len L
    have ow := opW_bd c
    by_cases g : qT tg c = true
    · have hp := qT_p g
      have hp2 := hp
      unfold prp at hp2
      have ne52 : c ≠ 52 := by omega
      obtain ⟨t1, t2, t3⟩ := stg_top hs hp
      have ea : e = a := h.2.1.1
      subst ea
      rw [t1] at hh
      obtain ⟨e2, k1, k2, k3, k4⟩ := emit h hh hp t3
      have hk' : cL ((c, e) :: L) = (c, e) :: cL L := by rw [cL, if_neg ne52]
      rw [hk'] at hk
      obtain ⟨p1, p2, p3, p4, p5⟩ := hk
      rw [List.length_cons] at p2
      rw [wtL, if_neg (by omega)] at hw
      rw [opn] at ho
      have op1 : opn ((c, e) :: cL L) = opn (cL L) + (if isOp c = true then 1 else 0) := rfl
      have onn := cL_opn L
      -- the state when the term is put
      have key : ∀ Z1 : mjZt, (∀ a, a ≠ 185 → Z1.1 a = Z.1 a) → Z1.2 = Z.2 → Z1.1 185 6 = i3 (cL L).length → Z1.1 185 1 = i3 (opn (cL L)) → (∀ f, f ≠ 1 → f ≠ 6 → Z1.1 185 f = Z.1 185 f) → ∃ Z2, f49_reduce_j67 (f49_reduce_h0 N) (b + 1) (i3 tg) (i3 (opC c)) Z1 = some ((), Z2) ∧ plK Z2 (cL (rd (qT tg) L (zuS S 9 m c) (m + 1)).2.2) ∧ trC b Z2 (rd (qT tg) L (zuS S 9 m c) (m + 1)).1 fr (rd (qT tg) L (zuS S 9 m c) (m + 1)).2.1 wr ∧ eqRe b wr m Z Z2 := fun Z1 z1 z2 z3 z4 z5 => by
        have t1' : trC b Z1 S fr m wr := trC_of ht (fun a _ _ => z1 a (by omega))
        obtain ⟨Z3, r1, r2, r3⟩ := e48 hb t1' (c := c) (v := 0) (l := (e : Int) - 1) (by omega) (fun g2 => (nuC_o hp g2).symm) (fun _ g2 => by have := k3 g2; omega)
        have kZ3 : plK Z3 (cL L) := by
          have kZ1 : plK Z1 (cL L) := ⟨z4, z3, plC_of (z1 186 (by omega)) (z1 187 (by omega)) _ p5⟩
          exact plK_of kZ1 (r3.2.1 185 (by omega) (by omega) (by omega) (by omega) (by omega)) (r3.2.1 186 (by omega) (by omega) (by omega) (by omega) (by omega)) (r3.2.1 187 (by omega) (by omega) (by omega) (by omega) (by omega))
        have f1 : eqRe b wr m Z Z1 := ⟨⟨by rw [z2], fun a _ => by rw [z2], fun a _ g2 _ _ _ => z1 a g2, fun j k _ _ => by rw [z1 _ (by omega)], fun j k _ _ => by rw [z1 _ (by omega)]⟩, z2, z1 183 (by omega), z5⟩
        obtain ⟨Z4, s1, s2, s3, s4⟩ := e49 hb htg L (zuS S 9 m c) (m + 1) e2 _ N Z3 (fun g2 => by have := h52 g2; rw [crl, if_neg (by omega)] at this; exact this) k1 k2 t2 kZ3 r2 (by omega) (by split at ho <;> omega) (by omega)
        refine ⟨Z4, ?_, s2, s3, eqRe_tr f1 (eqRe_tr (eqPt_re hb r3) s4 (by omega)) (Nat.le_refl _)⟩
        unfold f49_reduce_j67
        rw [z3, if_pos (in_p (by omega)), if_pos (is_b1 hb), ix_nat (by omega), z1 187 (by omega), p4, show (0 : Int32) = i3 0 from rfl, r1, mjBd_some, s1]
      rw [rd, if_pos g, f49_reduce_h0, p2, i3_p, show ((((cL L).length + 1 : Nat) : Int)) - 1 = ((cL L).length : Int) by omega, show (0 : Int32) = i3 0 from rfl, if_neg (by rw [c_le (by omega)]; omega), show (64 : Int32) = i3 64 from rfl, if_neg (by rw [c_gt (by omega)]; omega), if_pos (in_p (by omega)), ix_nat (by omega), p3, if_neg (by rw [c_lt (by omega)]; have := (qT_ok htg.1 (stg_kc hs) ne52).mp g; omega), let_eq, si_same, if_pos (in_p (by omega)), ix_nat (by omega), si_obj _ _ _ _ (by omega), p3, opW_p hp, show (6 : Int32) = i3 6 from rfl]
      by_cases g40 : c = 40
      · have oc : opC c = 6 := by rw [g40]; rfl
        have io : isOp c = true := by rw [g40]; rfl
        rw [oc, if_neg (by decide), let_eq, si_fld _ _ _ _ (by omega), p1, op1, if_pos io, i3_p, show ((opn (cL L) + 1 : Nat) : Int) - 1 = (opn (cL L) : Int) by omega, ← oc]
        exact key _ (fun a ha => by rw [si_obj _ _ _ _ ha, si_obj _ _ _ _ ha]) rfl (by rw [si_fld _ _ _ _ (by omega), si_same]) (si_same _ _ _ _) (fun f g1 g2 => by rw [si_fld _ _ _ _ (by omega), si_fld _ _ _ _ (by omega)])
      · have io : isOp c = false := decide_eq_false (by omega)
        have oc : opC c ≠ 6 := by
          unfold opC
          repeat (split <;> try omega)
        have ob := opW_bd c
        rw [opW_p hp] at ob
        rw [if_pos (by rw [c_ne (by omega)]; omega)]
        exact key _ (fun a ha => by rw [si_obj _ _ _ _ ha]) rfl (si_same _ _ _ _) (by rw [si_fld _ _ _ _ (by omega), p1, op1, io]; rfl) (fun f g1 g2 => by rw [si_fld _ _ _ _ (by omega)])
    · rw [rd, if_neg g]
      refine ⟨Z, ?_, hk, ht, eqRe_rf⟩
      have stop : ∀ (d : Int) (k : Nat) (K : pL), cL ((c, a) :: L) = (d, k) :: K → K.length ≤ 40 → opW d < tg → f49_reduce_h0 (N + 1) (b + 1) (i3 tg) Z = some ((), Z) := fun d k K e1 e2 e3 => by
        rw [e1] at hk
        obtain ⟨p1, p2, p3, _⟩ := hk
        have od := opW_bd d
        rw [List.length_cons] at p2
        rw [f49_reduce_h0, p2, i3_p, show (((K.length + 1 : Nat) : Int)) - 1 = (K.length : Int) by omega, show (0 : Int32) = i3 0 from rfl, if_neg (by rw [c_le (by omega)]; omega), show (64 : Int32) = i3 64 from rfl, if_neg (by rw [c_gt (by omega)]; omega), if_pos (in_p (by omega)), ix_nat (by omega), p3, if_pos (by rw [c_lt (by omega)]; exact e3)]
      by_cases g52 : c = 52
      · subst g52
        have pt : pT L ∧ x = 52 := by
          rcases hs with ⟨_, h1⟩ | ⟨_, h1⟩
          · rcases h1 with ⟨h1, _⟩ | ⟨_, h1, h2⟩
            · have : (52 : Int) = 21 ∨ (52 : Int) = 22 ∨ (52 : Int) = 23 ∨ (52 : Int) = 51 := of_decide_eq_true h1
              omega
            · exact ⟨h2, h1.symm⟩
          · have : (52 : Int) = 40 ∨ (52 : Int) = 41 ∨ (52 : Int) = 42 ∨ (52 : Int) = 50 := of_decide_eq_true h1.1
            omega
        have e1 : cL ((52, a) :: L) = L := by rw [cL, if_pos rfl, pT_cL L pt.1]
        cases L with
        | nil =>
          rw [e1] at hk
          have : Z.1 185 6 = i3 ((0 : Nat) : Int) := hk.2.1
          rw [f49_reduce_h0, this, if_pos (by decide)]
        | cons d K =>
          obtain ⟨d, k⟩ := d
          refine stop d k K e1 (by rw [List.length_cons] at len; omega) ?_
          have hc : d = 40 ∨ d = 41 ∨ d = 42 ∨ d = 50 := of_decide_eq_true pt.1.1
          have := h52 pt.2
          rw [crl, pT_crl _ pt.1, if_neg (by omega)] at this
          rcases hc with rfl | rfl | rfl | rfl
          · show (6 : Int) < tg; omega
          · show (5 : Int) < tg; omega
          · show (4 : Int) < tg; omega
          · show (2 : Int) < tg; omega
      · refine stop c a (cL L) (by rw [cL, if_neg g52]) (by omega) ?_
        have := qT_ok htg.1 (stg_kc hs) g52
        rcases Int.lt_or_le (opW c) tg with g2 | g2
        · exact g2
        · exact absurd (this.mpr g2) g
/-- the class pushes -/
theorem e55 (hb : b = 2 ∨ b = 92) {Z : mjZt} {S : mjS} {m : Nat} {K : pL} (h6 : Z.1 185 6 = i3 K.length) (hk : plC Z K) (ht : trC b Z S fr m wr) (hl : K.length < 64) {c : Int} (h1 : Z.1 185 1 = i3 (opn ((c, m) :: K))) : ∃ Z1, f55_push (b + 1) (i3 (opW c)) Z = some ((), Z1) ∧ plK Z1 ((c, m) :: K) ∧ trC b Z1 S fr m wr ∧ eqRe b wr m Z Z1 := by
  have keep : ∀ (J : pL) (Y : mjZt) (v w : Int32) (n : Nat), J.length ≤ n → plC Y J → plC (zSi (zSi Y 186 n v) 187 n w) J := fun J => by
    induction J with
    | nil => intro Y v w n _ _; trivial
    | cons d J ih =>
      obtain ⟨d, k⟩ := d
      intro Y v w n hn ⟨g1, g2, g3⟩
      rw [List.length_cons] at hn
      refine ⟨?_, ?_, ih Y v w n (by omega) g3⟩
      · rw [si_obj _ _ _ _ (by omega), si_fld _ _ _ _ (by omega)]; exact g1
      · rw [si_fld _ _ _ _ (by omega), si_obj _ _ _ _ (by omega)]; exact g2
  have t7 := ht.1
  refine ⟨zSi (zSi (zSi Z 186 K.length (i3 (opW c))) 187 K.length (i3 ((m : Int) - 1))) 185 6 (i3 ((K.length + 1 : Nat) : Int)), ?_, ⟨?_, ?_, ?_, ?_, ?_⟩, ?_, ?_⟩
  · unfold f55_push
    rw [h6, show (0 : Int32) = i3 0 from rfl, if_neg (by rw [c_lt (by omega)]; omega), show (64 : Int32) = i3 64 from rfl, if_neg (by rw [c_ge (by omega)]; omega), if_pos (in_p (by omega)), ix_nat (by omega), let_eq, if_pos (is_b1 hb), si_obj _ _ _ _ (by omega), h6, if_pos (in_p (by omega)), ix_nat (by omega), si_obj _ _ _ _ (by omega), t7, i3_p, let_eq, si_obj _ _ _ _ (by omega), si_obj _ _ _ _ (by omega), h6, i3_s, let_eq]
  · rw [si_fld _ _ _ _ (by omega), si_obj _ _ _ _ (by omega), si_obj _ _ _ _ (by omega)]; exact h1
  · rw [si_same]; rfl
  · rw [si_obj _ _ _ _ (by omega), si_obj _ _ _ _ (by omega), si_same]
  · rw [si_obj _ _ _ _ (by omega), si_same]
  · exact plC_of (Z := zSi (zSi Z 186 K.length (i3 (opW c))) 187 K.length (i3 ((m : Int) - 1))) (si_obj _ _ _ _ (by omega)) (si_obj _ _ _ _ (by omega)) K (keep K Z _ _ _ (Nat.le_refl _) hk)
  · exact trC_of ht (fun a _ _ => by rw [si_obj _ _ _ _ (by omega), si_obj _ _ _ _ (by omega), si_obj _ _ _ _ (by omega)])
  · exact ⟨eqCc_tr (eqCc_si hb (by omega)) (eqCc_tr (eqCc_si hb (by omega)) (eqCc_si hb (by omega)) (Nat.le_refl _)) (Nat.le_refl _), rfl, by rw [si_obj _ _ _ _ (by omega), si_obj _ _ _ _ (by omega), si_obj _ _ _ _ (by omega)], fun f g1 g2 => by rw [si_fld _ _ _ _ (by omega), si_obj _ _ _ _ (by omega), si_obj _ _ _ _ (by omega)]⟩
end RE
/-! the model's pile -/
def plM (Z : mjZt) : pL → Prop
  | [] => True
  | (c, _) :: L => Z.1 217 L.length = i3 (qM c) ∧ plM Z L
def mdM (Z : mjZt) (S : mjS) (m : Nat) (L : pL) : Prop := (∀ k, Z.1 215 k = i3 (S 9 k)) ∧ Z.1 211 17 = i3 m ∧ Z.1 211 18 = i3 L.length ∧ Z.1 211 20 = i3 (opn L) ∧ plM Z L
def tpL : pL → Int
  | [] => -1
  | (c, _) :: _ => if isX c = true then -1 else c
def bsL : pL → Nat
  | [] => 0
  | (c, _) :: L => if isX c = true then L.length + 1 else bsL L
/-- what reading a condition leaves of the model; working alone -/
def eqCd (Z Z2 : mjZt) : Prop := Z2.2.2 = Z.2.2 ∧ (∀ a, a ≠ 211 → Z2.2.1 a = Z.2.1 a) ∧ (∀ a, a ≠ 211 → a ≠ 215 → a ≠ 217 → Z2.1 a = Z.1 a) ∧ ∀ f, (f < 5 ∨ (10 < f ∧ f < 17) ∨ 20 < f) → Z2.1 211 f = Z.1 211 f
def eqWk (Z Z2 : mjZt) : Prop := Z2.2 = Z.2 ∧ (∀ a, a ≠ 211 → a ≠ 215 → a ≠ 217 → Z2.1 a = Z.1 a) ∧ ∀ f, f ≠ 17 → f ≠ 18 → f ≠ 20 → Z2.1 211 f = Z.1 211 f
theorem eqCd_tr {Z Z2 Z3 : mjZt} (h : eqCd Z Z2) (g : eqCd Z2 Z3) : eqCd Z Z3 := ⟨g.1.trans h.1, fun a q => (g.2.1 a q).trans (h.2.1 a q), fun a q1 q2 q3 => (g.2.2.1 a q1 q2 q3).trans (h.2.2.1 a q1 q2 q3), fun f q => (g.2.2.2 f q).trans (h.2.2.2 f q)⟩
theorem eqCd_rf {Z : mjZt} : eqCd Z Z := ⟨rfl, fun _ _ => rfl, fun _ _ _ _ => rfl, fun _ _ => rfl⟩
theorem eqWk_tr {Z Z2 Z3 : mjZt} (h : eqWk Z Z2) (g : eqWk Z2 Z3) : eqWk Z Z3 := ⟨g.1.trans h.1, fun a q1 q2 q3 => (g.2.1 a q1 q2 q3).trans (h.2.1 a q1 q2 q3), fun f q1 q2 q3 => (g.2.2 f q1 q2 q3).trans (h.2.2 f q1 q2 q3)⟩
theorem eqWk_rf {Z : mjZt} : eqWk Z Z := ⟨rfl, fun _ _ _ _ => rfl, fun _ _ _ _ => rfl⟩
theorem eqWk_d {Z Z2 : mjZt} (h : eqWk Z Z2) : eqCd Z Z2 := ⟨by rw [h.1], fun a _ => by rw [h.1], h.2.1, fun f q => h.2.2 f (by omega) (by omega) (by omega)⟩
theorem eqGo_d {Z Z2 : mjZt} (h : eqGo Z Z2) : eqCd Z Z2 := ⟨h.1, fun a q => (h.2.1 a q).2, fun a q _ _ => (h.2.1 a q).1, fun f q => h.2.2 f (by omega)⟩
theorem eqGw_d {Z Z2 : mjZt} (h : eqGw Z Z2) : eqCd Z Z2 := ⟨h.1, fun a q => (h.2.1 a q).2, fun a q _ _ => (h.2.1 a q).1, fun f q => h.2.2 f (by omega)⟩
theorem eqCd_si {Z : mjZt} {k : Nat} {v : Int32} (h : (5 ≤ k ∧ k ≤ 10) ∨ (17 ≤ k ∧ k ≤ 20)) : eqCd Z (zSi Z 211 k v) := ⟨rfl, fun _ _ => rfl, fun a g _ _ => si_obj _ _ _ _ g, fun f g => si_fld _ _ _ _ (by omega)⟩
theorem eqWk_si {Z : mjZt} {a k : Nat} {v : Int32} (h : a = 215 ∨ a = 217 ∨ (a = 211 ∧ (k = 17 ∨ k = 18 ∨ k = 20))) : eqWk Z (zSi Z a k v) := ⟨rfl, fun c g1 g2 g3 => si_obj _ _ _ _ (by omega), fun f g1 g2 g3 => si_fld _ _ _ _ (by omega)⟩
section MP
variable {Z : mjZt} {S : mjS} {m : Nat} {L : pL}
theorem plM_of {Z2 : mjZt} (e : Z2.1 217 = Z.1 217) : ∀ L, plM Z L → plM Z2 L
  | [], _ => trivial
  | (c, a) :: L, ⟨h1, h2⟩ => ⟨by rw [e]; exact h1, plM_of e L h2⟩
theorem mdM_of {Z2 : mjZt} (h : mdM Z S m L) (e5 : Z2.1 215 = Z.1 215) (e7 : Z2.1 217 = Z.1 217) (e : ∀ f, 17 ≤ f → f ≤ 20 → f ≠ 19 → Z2.1 211 f = Z.1 211 f) : mdM Z2 S m L :=
  ⟨by rw [e5]; exact h.1, by rw [e 17 (by omega) (by omega) (by omega)]; exact h.2.1, by rw [e 18 (by omega) (by omega) (by omega)]; exact h.2.2.1, by rw [e 20 (by omega) (by omega) (by omega)]; exact h.2.2.2.1, plM_of e7 L h.2.2.2.2⟩
theorem mdM_go {Z2 : mjZt} (h : mdM Z S m L) (e : eqGo Z Z2) : mdM Z2 S m L := mdM_of h (e.2.1 215 (by omega)).1 (e.2.1 217 (by omega)).1 (fun f g1 g2 _ => e.2.2 f (by omega))
theorem bsL_le : ∀ L, bsL L ≤ L.length
  | [] => Nat.le_refl _
  | (c, a) :: L => by
    have := bsL_le L
    rw [bsL, List.length_cons]
    split <;> omega
theorem bsL_T : ∀ L, pT L → bsL L = 0
  | [], _ => rfl
  | (c, a) :: L, ⟨h1, _, h3⟩ => by
    have hc : c = 40 ∨ c = 41 ∨ c = 42 ∨ c = 50 := of_decide_eq_true h1
    rw [bsL, if_neg (by rw [show isX c = false from decide_eq_false (by omega)]; decide), bsL_T L h3]
/-- a code is made -/
theorem m214 {c : Int} (h : mdM Z S m L) (hm : m < 1500) : ∃ Z1, f214_emits (i3 c) Z = some ((), Z1) ∧ mdM Z1 (zuS S 9 m c) (m + 1) L ∧ eqWk Z Z1 := by
  obtain ⟨h1, h2, h3, h4, h5⟩ := h
  refine ⟨zSi (zSi Z 215 m (i3 c)) 211 17 (i3 ((m + 1 : Nat) : Int)), ?_, ⟨fun k => ?_, si_same _ _ _ _, ?_, ?_, ?_⟩, eqWk_tr (eqWk_si (by omega)) (eqWk_si (by omega))⟩
  · unfold f214_emits
    rw [h2, if_pos (in_p (by omega)), ix_nat (by omega), let_eq, si_obj _ _ _ _ (by omega), h2, i3_s, let_eq]
  · rw [si_obj _ _ _ _ (by omega)]
    by_cases q : k = m
    · subst q; rw [si_same, zuS_e]
    · rw [si_fld _ _ _ _ (by omega), zuS_n q]; exact h1 k
  · rw [si_fld _ _ _ _ (by omega), si_obj _ _ _ _ (by omega)]; exact h3
  · rw [si_fld _ _ _ _ (by omega), si_obj _ _ _ _ (by omega)]; exact h4
  · exact plM_of (by rw [si_obj _ _ _ _ (by omega), si_obj _ _ _ _ (by omega)]) L h5
/-- one waits -/
theorem m215 {c : Int} {a : Nat} (h : (∀ k, Z.1 215 k = i3 (S 9 k)) ∧ Z.1 211 17 = i3 m ∧ Z.1 211 18 = i3 L.length ∧ plM Z L) (h20 : Z.1 211 20 = i3 (opn ((c, a) :: L))) (hl : L.length < 800) : ∃ Z1, f215_waitsFor (i3 (qM c)) Z = some ((), Z1) ∧ mdM Z1 S m ((c, a) :: L) ∧ eqWk Z Z1 := by
  obtain ⟨h1, h2, h3, h5⟩ := h
  have keep : ∀ (J : pL) (Y : mjZt) (v : Int32) (n : Nat), J.length ≤ n → plM Y J → plM (zSi Y 217 n v) J := fun J => by
    induction J with
    | nil => intro Y v n _ _; trivial
    | cons d J ih =>
      obtain ⟨d, k⟩ := d
      intro Y v n hn ⟨g1, g2⟩
      rw [List.length_cons] at hn
      exact ⟨by rw [si_fld _ _ _ _ (by omega)]; exact g1, ih Y v n (by omega) g2⟩
  refine ⟨zSi (zSi Z 217 L.length (i3 (qM c))) 211 18 (i3 ((L.length + 1 : Nat) : Int)), ?_, ⟨fun k => ?_, ?_, ?_, ?_, ?_, ?_⟩, eqWk_tr (eqWk_si (by omega)) (eqWk_si (by omega))⟩
  · unfold f215_waitsFor
    rw [h3, if_pos (in_p (by omega)), ix_nat (by omega), let_eq, si_obj _ _ _ _ (by omega), h3, i3_s, let_eq]
  · rw [si_obj _ _ _ _ (by omega), si_obj _ _ _ _ (by omega)]; exact h1 k
  · rw [si_fld _ _ _ _ (by omega), si_obj _ _ _ _ (by omega)]; exact h2
  · rw [si_same]; rfl
  · rw [si_fld _ _ _ _ (by omega), si_obj _ _ _ _ (by omega)]; exact h20
  · rw [si_obj _ _ _ _ (by omega), si_same]
  · exact plM_of (Z := zSi Z 217 L.length (i3 (qM c))) (si_obj _ _ _ _ (by omega)) L (keep L Z _ _ (Nat.le_refl _) h5)
/-- the top above the base -/
theorem m216 (h : mdM Z S m L) (hb : Z.1 211 19 = i3 (bsL L)) (hl : L.length ≤ 800) : f216_top Z = some (i3 (tpL L)) := by
  obtain ⟨h1, h2, h3, h4, h5⟩ := h
  have bl := bsL_le L
  unfold f216_top
  rw [h3, hb]
  cases L with
  | nil => rw [if_pos (by decide)]; rfl
  | cons d L =>
    obtain ⟨c, a⟩ := d
    rw [List.length_cons] at hl
    have bl := bsL_le L
    cases q : isX c with
    | true =>
      rw [bsL, if_pos q, List.length_cons, if_pos (by rw [c_le (by omega)]; omega), tpL, if_pos q]; rfl
    | false =>
      have nc : isCm c = false := by
        cases e : isCm c with
        | false => rfl
        | true =>
          have : 30 ≤ c ∧ c ≤ 32 := of_decide_eq_true e
          have q2 : ¬ (c = 52 ∨ c = 30 ∨ c = 31 ∨ c = 32) := of_decide_eq_false q
          omega
      rw [show bsL ((c, a) :: L) = bsL L by rw [bsL, q]; rfl, List.length_cons, if_neg (by rw [c_le (by omega)]; omega), i3_p, show (((L.length + 1 : Nat) : Int)) - 1 = (L.length : Int) by omega, if_pos (in_p (by omega)), ix_nat (by omega), h5.1, tpL, q]
      unfold qM
      rw [nc]; rfl
/-- the model works -/
theorem m218 {lo hi : Int} {q : Int → Bool} (hq : ∀ c, q c = true ↔ lo ≤ c ∧ c ≤ hi) (hr : (lo = 21 ∧ hi = 23) ∨ (lo = 23 ∧ hi = 23) ∨ (lo = 41 ∧ hi = 42) ∨ (lo = 41 ∧ hi = 41)) : ∀ (L : pL) (S : mjS) (m N : Nat) (Z : mjZt), mdM Z S m L → Z.1 211 19 = i3 (bsL L) → (∀ c a, (c, a) ∈ L → 0 ≤ c ∧ c ≤ 60) → L.length ≤ 700 → m + wtL L ≤ 700 → L.length < N → ∃ Z1, f218_works_h0 N (i3 lo) (i3 hi) Z = some ((), Z1) ∧ mdM Z1 (rd q L S m).1 (rd q L S m).2.1 (rd q L S m).2.2 ∧ bsL (rd q L S m).2.2 = bsL L ∧ eqWk Z Z1
  | L, S, m, 0, Z, _, _, _, _, _, hN => by omega
  | [], S, m, N + 1, Z, h, hb, _, _, _, _ => by
    refine ⟨Z, ?_, h, rfl, eqWk_rf⟩
    rw [f218_works_h0, m216 h hb (by simp), mjBp_some, tpL, i36 (by omega), i36 (by omega), i36 (by omega), m195f (by omega), mjBp_some, if_pos (by decide)]
  | (c, a) :: L, S, m, N + 1, Z, h, hb, hc, hl, hw, hN => by
    have h0 := h
    obtain ⟨h1, h2, h3, h4, h5⟩ := h0
    have c60 := hc c a List.mem_cons_self
    rw [List.length_cons] at hl hN h3
    rw [rd]
    by_cases g : q c = true
    · have g2 := (hq c).mp g
      have nx : isX c = false := decide_eq_false (by omega)
      have nc : isCm c = false := decide_eq_false (by omega)
      have qc : qM c = c := by unfold qM; rw [nc]; rfl
      have no : isOp c = false := decide_eq_false (by omega)
      have eb : bsL ((c, a) :: L) = bsL L := by rw [bsL, if_neg (by rw [nx]; decide)]
      rw [wtL, if_neg (by omega)] at hw
      have z1 : mdM (zSi Z 211 18 (i3 L.length)) S m L := ⟨fun k => by rw [si_obj _ _ _ _ (by omega)]; exact h1 k, by rw [si_fld _ _ _ _ (by omega)]; exact h2, si_same _ _ _ _, by rw [si_fld _ _ _ _ (by omega), h4, opn, no]; rfl, plM_of (si_obj _ _ _ _ (by omega)) L h5.2⟩
      obtain ⟨Z2, r1, r2, r3⟩ := m214 (c := c) z1 (by omega)
      obtain ⟨Z3, s1, s2, s3, s4⟩ := m218 hq hr L (zuS S 9 m c) (m + 1) N Z2 r2 (by rw [r3.2.2 19 (by omega) (by omega) (by omega), si_fld _ _ _ _ (by omega), hb, eb]) (fun d k hd => hc d k (List.mem_cons_of_mem _ hd)) (by omega) (by omega) (by omega)
      rw [if_pos g]
      refine ⟨Z3, ?_, s2, by rw [s3, eb], eqWk_tr (eqWk_si (by omega)) (eqWk_tr r3 s4)⟩
      rw [f218_works_h0, m216 h hb (by rw [List.length_cons]; omega), mjBp_some]
      rw [show tpL ((c, a) :: L) = c by rw [tpL, nx]; rfl, i36 (by omega), i36 (by omega), i36 (by omega), m195t (by omega), mjBp_some, if_neg (by decide), h3, i3_p, show (((L.length + 1 : Nat) : Int)) - 1 = (L.length : Int) by omega, let_eq, si_same, if_pos (in_p (by omega)), ix_nat (by omega), si_obj _ _ _ _ (by omega), h5.1, qc, r1, mjBd_some, s1]
    · rw [if_neg g]
      refine ⟨Z, ?_, h, rfl, eqWk_rf⟩
      have g2 : ¬ (lo ≤ c ∧ c ≤ hi) := fun k => g ((hq c).mpr k)
      rw [f218_works_h0, m216 h hb (by rw [List.length_cons]; omega), mjBp_some]
      cases nx : isX c with
      | true =>
        rw [show tpL ((c, a) :: L) = -1 by rw [tpL, nx]; rfl, i36 (by omega), i36 (by omega), i36 (by omega), m195f (by omega), mjBp_some, if_pos (by decide)]
      | false =>
        rw [show tpL ((c, a) :: L) = c by rw [tpL, nx]; rfl, i36 (by omega), i36 (by omega), i36 (by omega), m195f (by omega), mjBp_some, if_pos (by decide)]
/-- nots end -/
theorem m222 : ∀ (L : pL) (S : mjS) (m N : Nat) (Z : mjZt), mdM Z S m L → Z.1 211 9 = 0 → Z.1 211 19 = i3 (bsL L) → (∀ c a, (c, a) ∈ L → 0 ≤ c ∧ c ≤ 60) → L.length ≤ 700 → m + wtL L ≤ 700 → L.length < N → ∃ Z1, f222_ends_h0 N Z = some ((), Z1) ∧ mdM Z1 (rd (fun c => decide (c = 40)) L S m).1 (rd (fun c => decide (c = 40)) L S m).2.1 (rd (fun c => decide (c = 40)) L S m).2.2 ∧ bsL (rd (fun c => decide (c = 40)) L S m).2.2 = bsL L ∧ eqWk Z Z1
  | L, S, m, 0, Z, _, _, _, _, _, _, hN => by omega
  | [], S, m, N + 1, Z, h, hg, hb, _, _, _, _ => by
    refine ⟨Z, ?_, h, rfl, eqWk_rf⟩
    rw [f222_ends_h0, gdM hg, mjBp_some, if_neg (by decide), m216 h hb (by simp), mjBp_some, tpL, if_pos (by decide)]
  | (c, a) :: L, S, m, N + 1, Z, h, hg, hb, hc, hl, hw, hN => by
    have h0 := h
    obtain ⟨h1, h2, h3, h4, h5⟩ := h0
    have c60 := hc c a List.mem_cons_self
    rw [List.length_cons] at hl hN h3
    rw [rd]
    by_cases g : c = 40
    · subst g
      have eb : bsL ((40, a) :: L) = bsL L := rfl
      rw [wtL, if_neg (by omega)] at hw
      have ol : opn ((40, a) :: L) = opn L + 1 := rfl
      have z1 : mdM (zSi (zSi Z 211 18 (i3 L.length)) 211 20 (i3 (opn L))) S m L := ⟨fun k => by rw [si_obj _ _ _ _ (by omega), si_obj _ _ _ _ (by omega)]; exact h1 k, by rw [si_fld _ _ _ _ (by omega), si_fld _ _ _ _ (by omega)]; exact h2, by rw [si_fld _ _ _ _ (by omega), si_same], si_same _ _ _ _, plM_of (by rw [si_obj _ _ _ _ (by omega), si_obj _ _ _ _ (by omega)]) L h5.2⟩
      -- the code is made before the open ones are counted
      have z1' : (∀ k, (zSi Z 211 18 (i3 L.length)).1 215 k = i3 (S 9 k)) ∧ (zSi Z 211 18 (i3 L.length)).1 211 17 = i3 m := ⟨fun k => by rw [si_obj _ _ _ _ (by omega)]; exact h1 k, by rw [si_fld _ _ _ _ (by omega)]; exact h2⟩
      have em : f214_emits 40 (zSi Z 211 18 (i3 L.length)) = some ((), zSi (zSi (zSi Z 211 18 (i3 L.length)) 215 m (i3 40)) 211 17 (i3 ((m + 1 : Nat) : Int))) := by
        unfold f214_emits
        rw [z1'.2, if_pos (in_p (by omega)), ix_nat (by omega), let_eq, si_obj _ _ _ _ (by omega), z1'.2, i3_s, let_eq]; rfl
      generalize hZ2 : zSi (zSi (zSi (zSi Z 211 18 (i3 L.length)) 215 m (i3 40)) 211 17 (i3 ((m + 1 : Nat) : Int))) 211 20 (i3 (opn L)) = Z2
      have r3 : eqWk Z Z2 := by rw [← hZ2]; exact eqWk_tr (eqWk_si (by omega)) (eqWk_tr (eqWk_si (by omega)) (eqWk_tr (eqWk_si (by omega)) (eqWk_si (by omega))))
      have r2 : mdM Z2 (zuS S 9 m 40) (m + 1) L := by
        refine ⟨fun k => ?_, ?_, ?_, ?_, ?_⟩
        · rw [← hZ2, si_obj _ _ _ _ (by omega), si_obj _ _ _ _ (by omega)]
          by_cases q : k = m
          · subst q; rw [si_same, zuS_e]
          · rw [si_fld _ _ _ _ (by omega), si_obj _ _ _ _ (by omega), zuS_n q]; exact h1 k
        · rw [← hZ2, si_fld _ _ _ _ (by omega), si_same]
        · rw [← hZ2, si_fld _ _ _ _ (by omega), si_fld _ _ _ _ (by omega), si_obj _ _ _ _ (by omega), si_same]
        · rw [← hZ2, si_same]
        · exact plM_of (by rw [← hZ2, si_obj _ _ _ _ (by omega), si_obj _ _ _ _ (by omega), si_obj _ _ _ _ (by omega), si_obj _ _ _ _ (by omega)]) L h5.2
      obtain ⟨Z3, s1, s2, s3, s4⟩ := m222 L (zuS S 9 m 40) (m + 1) N Z2 r2 (by rw [r3.2.2 9 (by omega) (by omega) (by omega)]; exact hg) (by rw [r3.2.2 19 (by omega) (by omega) (by omega), hb, eb]) (fun d k hd => hc d k (List.mem_cons_of_mem _ hd)) (by omega) (by omega) (by omega)
      rw [if_pos (by decide)]
      refine ⟨Z3, ?_, s2, by rw [s3, eb], eqWk_tr r3 s4⟩
      have t20 : (zSi (zSi (zSi Z 211 18 (i3 L.length)) 215 m (i3 40)) 211 17 (i3 ((m + 1 : Nat) : Int))).1 211 20 = i3 ((opn L + 1 : Nat) : Int) := by rw [si_fld _ _ _ _ (by omega), si_obj _ _ _ _ (by omega), si_fld _ _ _ _ (by omega), h4, ol]
      rw [f222_ends_h0, gdM hg, mjBp_some, if_neg (by decide), m216 h hb (by rw [List.length_cons]; omega), mjBp_some, show tpL ((40, a) :: L) = 40 from rfl, if_neg (by decide), h3, i3_p, show (((L.length + 1 : Nat) : Int)) - 1 = (L.length : Int) by omega, let_eq, em, mjBd_some, t20, i3_p, show (((opn L + 1 : Nat) : Int)) - 1 = (opn L : Int) by omega, hZ2, let_eq, s1]
    · rw [if_neg (by simpa using g)]
      refine ⟨Z, ?_, h, rfl, eqWk_rf⟩
      rw [f222_ends_h0, gdM hg, mjBp_some, if_neg (by decide), m216 h hb (by rw [List.length_cons]; omega), mjBp_some]
      cases nx : isX c with
      | true => rw [show tpL ((c, a) :: L) = -1 by rw [tpL, nx]; rfl, if_pos (by decide)]
      | false =>
        rw [show tpL ((c, a) :: L) = c by rw [tpL, nx]; rfl, show (40 : Int32) = i3 40 from rfl, if_pos (by rw [c_ne (by omega)]; exact g)]
end MP
