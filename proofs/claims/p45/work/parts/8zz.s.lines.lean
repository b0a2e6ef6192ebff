/-! the lines of a grown text; a = (lanes, legs told of each, acts, rules, through told, within told) -/
abbrev mjK : Type := List Nat × (Nat → Nat) × Nat × Nat × Bool × Bool
def chW (k : Nat) : List Int32 := [i3 ((97 + k : Nat) : Int)]
def lnTm (a a2 : mjK) (u : List Int32) : Prop := ∃ l, 1 ≤ l ∧ l ≤ 9 ∧ (∀ j, j < a.1.length → a.1.getD j 0 ≠ l) ∧ a.1.length < 3 ∧ u = txS 1000044 ++ (chW a.1.length ++ (txS 1000042 ++ (decZ ((l : Nat) : Int) ++ txS 1000043))) ∧ a2 = (a.1 ++ [l], (fun j => if j = a.1.length then 0 else a.2.1 j), a.2.2)
def lnRu (Lg : Nat) (a a2 : mjK) (u : List Int32) : Prop := ∃ (k te : Nat) (m : Int), k < a.1.length ∧ a.2.1 k < Lg ∧ 20 ≤ te ∧ te ≤ 999 ∧ -20 ≤ m ∧ m ≤ 20 ∧ (a.2.1 k + 1 = Lg → m = 0) ∧ u = txS 1000045 ++ (chW k ++ (txS 1000042 ++ (decZ ((te : Nat) : Int) ++ (txS 1000042 ++ (decZ m ++ txS 1000043))))) ∧ a2 = (a.1, (fun j => if j = k then a.2.1 k + 1 else a.2.1 j), a.2.2)
def lnAc (a a2 : mjK) (u : List Int32) : Prop := ∃ (kd tm ot te sz : Nat), kd ≤ 3 ∧ tm < a.1.length ∧ (kd = 3 → ot < a.1.length ∧ ot ≠ tm) ∧ te ≤ 9999 ∧ sz ≤ 99 ∧ a.2.2.1 < 12 ∧ u = txS 1000051 ++ (txS (1000046 + kd) ++ (txS 1000052 ++ (chW tm ++ ((if kd = 3 then txS 1000052 ++ chW ot else []) ++ (txS 1000042 ++ (decZ ((te : Nat) : Int) ++ (txS 1000042 ++ (decZ ((sz : Nat) : Int) ++ txS 1000043)))))))) ∧ a2 = (a.1, a.2.1, a.2.2.1 + 1, a.2.2.2)
def lnRl (a a2 : mjK) (u : List Int32) : Prop := ∃ (kd : Nat) (w e : List Int32), kd ≤ 4 ∧ grT (grB 2) w ∧ (e = [] ∨ ∃ w2, grT (grB 2) w2 ∧ e = txS 1000055 ++ w2) ∧ a.2.2.2.1 < 2 ∧ u = txS 1000053 ++ (chW a.2.2.2.1 ++ (txS 1000042 ++ (txS (1000046 + kd) ++ (txS 1000054 ++ (w ++ (e ++ txS 1000043)))))) ∧ a2 = (a.1, a.2.1, a.2.2.1, a.2.2.2.1 + 1, a.2.2.2.2)
def lnTh (a a2 : mjK) (u : List Int32) : Prop := ∃ k : Nat, 1 ≤ k ∧ k ≤ 6 ∧ a.2.2.2.2.1 = false ∧ u = txS 1000056 ++ (decZ ((k : Nat) : Int) ++ txS 1000043) ∧ a2 = (a.1, a.2.1, a.2.2.1, a.2.2.2.1, true, a.2.2.2.2.2)
def lnWi (a a2 : mjK) (u : List Int32) : Prop := ∃ k : Nat, k ≤ 99 ∧ a.2.2.2.2.2 = false ∧ u = txS 1000057 ++ (decZ ((k : Nat) : Int) ++ txS 1000043) ∧ a2 = (a.1, a.2.1, a.2.2.1, a.2.2.2.1, a.2.2.2.2.1, true)
def lnW (Lg : Nat) (a a2 : mjK) (u : List Int32) : Prop := lnTm a a2 u ∨ lnRu Lg a a2 u ∨ lnAc a a2 u ∨ lnRl a a2 u ∨ lnTh a a2 u ∨ lnWi a a2 u
def hdW (Lg : Nat) (t : List Int32) : Prop := 2 ≤ Lg ∧ Lg ≤ 4 ∧ ∃ le be af cu : Nat, 50 ≤ le ∧ le ≤ 400 ∧ be ≤ 20 ∧ af ≤ 20 ∧ cu ≤ le ∧ t = txS 1000041 ++ (decZ ((Lg : Nat) : Int) ++ (txS 1000042 ++ (decZ ((le : Nat) : Int) ++ (txS 1000042 ++ (decZ ((be : Nat) : Int) ++ (txS 1000042 ++ (decZ ((af : Nat) : Int) ++ (txS 1000042 ++ (decZ ((cu : Nat) : Int) ++ txS 1000043)))))))))
def lnsW (Lg : Nat) : Nat → mjK → List Int32 → Prop
  | 0, a, t => a = ([], (fun _ => 0), 0, 0, false, false) ∧ hdW Lg t
  | c + 1, a, t => ∃ a1 t1 u, lnsW Lg c a1 t1 ∧ lnW Lg a1 a u ∧ t = t1 ++ u
/-- the World with its lists and the text so far: c lines -/
def wI (x sb L : Nat) (xs : Nat → Int32) (Lg c : Nat) (a : mjK) (n : Nat) (Z : mjQ) (b : mjBb) (q : mjV) : Prop := wS x sb L xs n Z b q ∧ lnsW Lg c a b.2.2 ∧ n = 4 + a.1.length ∧ (q.2.1 0 = i3 Lg ∧ q.2.1 7 = i3 c) ∧ (q.2.2.1 8 = some (q.2.2.2 0).1 ∧ q.2.2.1 9 = some (q.2.2.2 1).1 ∧ q.2.2.1 10 = some (q.2.2.2 2).1 ∧ q.2.2.1 11 = some (q.2.2.2 3).1) ∧ ((q.2.2.2 0).2.2 = a.1.map icI ∧ ∀ j, j < a.1.length → 1 ≤ a.1.getD j 0 ∧ a.1.getD j 0 ≤ 9) ∧ ((q.2.2.2 1).2.2.length = a.1.length ∧ ∀ k, k < a.1.length → (q.2.2.2 1).2.2.getD k 0 = (q.2.2.2 (4 + k)).1 ∧ (q.2.2.2 (4 + k)).2.2.length = a.2.1 k) ∧ (q.2.2.2 2).2.2.length = a.2.2.1 ∧ (q.2.2.2 3).2.2.length = a.2.2.2.1
theorem ch_i : ∀ k, k < 30 → (((97 + i3 (k : Nat)).toUInt32 % 65536).toInt32) = i3 ((97 + k : Nat) : Int) := by decide
theorem gd_l {α : Type} (l : List α) (e d : α) {i : Nat} (h : i < l.length) : (l ++ [e]).getD i d = l.getD i d := by
  rw [List.getD_eq_getElem?_getD, List.getD_eq_getElem?_getD, List.getElem?_append_left h]
theorem gd_r {α : Type} (l : List α) (e d : α) : (l ++ [e]).getD l.length d = e := by
  rw [List.getD_eq_getElem?_getD, List.getElem?_append_right (Nat.le_refl _), Nat.sub_self]
  rfl
theorem dZ_len {z : Int} (h : 0 ≤ z ∧ z < 10000) : (decZ z).length ≤ 4 := by
  have := decN_len z.toNat
  unfold decZ
  rw [if_neg (by omega)]
  omega
theorem dZ_len5 {z : Int} : (decZ z).length ≤ 5 := by
  unfold decZ
  split
  · rw [List.length_cons]
    have := decN_len (-z).toNat
    omega
  · have := decN_len z.toNat
    omega
theorem kd_tx : ∀ k, k < 5 → (txS (1000046 + k)).length ≤ 6 := by decide
section WL
variable {x sb L n N Lg c : Nat} {xs : Nat → Int32} {Z Z2 : mjQ} {b b2 : mjBb} {q q2 : mjV} {a : mjK} {t u : List Int32}
theorem wS_ro (h : wS x sb L xs n Z b q) : mjRo Z.2 sb 19 = true ∧ mjRo Z.2 x 16 = true := ⟨ro_of h.1.1, ro_of h.2.1.1⟩
theorem wT_ro (h : wS x sb L xs n Z b q) {i : Nat} (hi : i < n) : mjRo Z.2 (q.2.2.2 i).1 20 = true := ro_of (h.2.2.2.2.1 i hi).1
theorem wS_F (h : wS x sb L xs n Z b q) {f : Nat} (hf : f ≠ 15) (hk : ¬ (mjFk 16 f = 1 ∨ mjFk 16 f = 2)) {v : Int32} (hv : q.2.1 f = v) : qI Z.2 x 16 f = some v := by rw [w_F h.2 hf hk, hv]
theorem wS_R (h : wS x sb L xs n Z b q) {f r : Nat} (hk : mjFk 16 f = 2) (hb : q.2.2.1 f = some r) : qR Z.2 x 16 f = some r := w_R h.2 hk hb
theorem wS_sz (h : wS x sb L xs n Z b q) {i : Nat} (hi : i < n) : g249_size (q.2.2.2 i).1 Z = some (i3 (q.2.2.2 i).2.2.length) := q_lsz (h.2.2.2.2.1 i hi)
theorem lns_5 : ∀ c a t, lnsW Lg c a t → 5 ≤ t.length
  | 0, a, t, h => by
    obtain ⟨-, -, -, le, be, af, cu, -, -, -, -, -, e⟩ := h
    rw [e, List.length_append]
    have : (txS 1000041).length = 6 := by decide
    omega
  | c + 1, a, t, h => by
    obtain ⟨a1, t1, u, h1, -, e⟩ := h
    have := lns_5 c a1 t1 h1
    rw [e, List.length_append]
    omega
theorem w_tm (h : wI x sb L xs Lg c a n Z b q) : g196_teams x Z = some (i3 a.1.length) := by
  obtain ⟨h1, h2, h3, h4, h5, h6, h7, h8⟩ := h
  unfold g196_teams
  rw [wS_R h1 rfl h5.1, mjBp_some, if_pos (wT_ro h1 (i := 0) (by omega)), wS_sz h1 (by omega), h6.1, List.length_map, mjBp_some]
/-- a lane that none has -/
theorem w_l1 (h : wI x sb L xs Lg c a n Z b q) (hn : Z.1.1 ≤ 80000) (h3 : a.1.length ≤ 2) (K : Nat → Nat → Nat → Int32 → Int32 → mjQ → Option (Unit × mjQ)) (p y : Nat) (w : Int32) (l M : Nat) (hl : 1 ≤ l ∧ l ≤ 9) : ((∀ j, j < a.1.length → a.1.getD j 0 ≠ l) ∧ g197_init_h243 sg0 K (M + 1) x p y w (i3 (l : Nat)) Z = K x p y w (i3 (l : Nat)) Z) ∨ ((∃ j, j < a.1.length ∧ a.1.getD j 0 = l) ∧ g197_init_h243 sg0 K (M + 1) x p y w (i3 (l : Nat)) Z = g197_init_h243 sg0 K M x p y w (i3 ((l % 9 + 1 : Nat) : Int)) Z) := by
  obtain ⟨h1, h2, h3', h4, h5, h6, h7, h8⟩ := h
  have hA := h1.2.2.2.2.1 0 (by omega)
  rw [h6.1] at hA
  obtain ⟨bb, e1, e2⟩ := q_cont (m := l) hA h1.2.2.1 (fun v hv => by
    obtain ⟨j, hj, e⟩ := List.getElem_of_mem hv
    have := h6.2 j hj
    rw [List.getD_eq_getElem?_getD, List.getElem?_eq_getElem hj, e] at this
    have : v ≤ 9 := this.2
    omega) (by omega) (by omega) (by omega)
  have e3 : g223_valueOf sg0 (i3 (l : Nat)) Z = some (icI l, Z) := q_valueOf (by omega)
  rw [g197_init_h243, wS_R h1 rfl h5.1, mjBp_some, e3, mjBq_some, if_pos (wT_ro h1 (i := 0) (by omega)), e1, mjBp_some]
  cases bb with
  | false =>
    left
    refine ⟨fun j hj w => absurd (e2.2 ⟨j, hj, w⟩) (by decide), ?_⟩
    rw [if_pos (by decide)]
  | true =>
    right
    refine ⟨e2.1 rfl, ?_⟩
    rw [if_neg (by decide), show (9 : Int32) = i3 9 from rfl, show (1 : Int32) = i3 1 from rfl, i3_div (by omega), i3_mul, i3_sub, i3_add]
    congr 2
    omega
theorem w_lane (h : wI x sb L xs Lg c a n Z b q) (hn : Z.1.1 ≤ 80000) (h3 : a.1.length ≤ 2) (K : Nat → Nat → Nat → Int32 → Int32 → mjQ → Option (Unit × mjQ)) (p y : Nat) (w : Int32) (l M : Nat) (hl : 1 ≤ l ∧ l ≤ 9) : ∃ l2, 1 ≤ l2 ∧ l2 ≤ 9 ∧ (∀ j, j < a.1.length → a.1.getD j 0 ≠ l2) ∧ g197_init_h243 sg0 K (M + 3) x p y w (i3 (l : Nat)) Z = K x p y w (i3 (l2 : Nat)) Z := by
  rcases w_l1 h hn h3 K p y w l (M + 2) hl with ⟨g1, g2⟩ | ⟨⟨j1, j1a, j1b⟩, g2⟩
  · exact ⟨l, hl.1, hl.2, g1, g2⟩
  · rcases w_l1 h hn h3 K p y w (l % 9 + 1) (M + 1) (by omega) with ⟨k1, k2⟩ | ⟨⟨j2, j2a, j2b⟩, k2⟩
    · exact ⟨_, by omega, by omega, k1, g2.trans k2⟩
    · rcases w_l1 h hn h3 K p y w ((l % 9 + 1) % 9 + 1) M (by omega) with ⟨m1, m2⟩ | ⟨⟨j3, j3a, j3b⟩, m2⟩
      · exact ⟨_, by omega, by omega, m1, g2.trans (k2.trans m2)⟩
      · have : j1 = j2 ∨ j1 = j3 ∨ j2 = j3 := by omega
        rcases this with e | e | e
        · rw [e, j2b] at j1b; omega
        · rw [e, j3b] at j1b; omega
        · rw [e, j3b] at j2b; omega
end WL
