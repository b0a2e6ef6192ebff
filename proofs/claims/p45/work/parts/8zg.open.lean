/-! THE BOOK READ: its begin -/
section OP
variable {X : Nat → Nat} {n b : Nat} {Z Z2 Z3 Zc Zm : mjZt} {S : mjS}
def eqRo (b : Nat) (Z Z2 : mjZt) : Prop := Z2.2.2.1 = Z.2.2.1 ∧ ∀ a, ¬ rdw b a → Z2.1 a = Z.1 a ∧ Z2.2.1 a = Z.2.1 a
theorem eqRo_tr (h : eqRo b Z Z2) (g : eqRo b Z2 Z3) : eqRo b Z Z3 := ⟨g.1.trans h.1, fun a q => ⟨(g.2 a q).1.trans (h.2 a q).1, (g.2 a q).2.trans (h.2 a q).2⟩⟩
theorem eqRc_o (h : eqRc b Z Z2) : eqRo b Z Z2 := ⟨by rw [h.1], h.2⟩
theorem eqRo_si {a k : Nat} {v : Int32} (h : rdw b a) : eqRo b Z (zSi Z a k v) := eqRc_o (eqRc_si h)
theorem eqRo_sl {a k : Nat} {v : Int64} (h : rdw b a) : eqRo b Z (zSl Z a k v) := eqRc_o (eqRc_sl h)
theorem e325h {x0 M : Nat} (h1 : mjIs x0 211 13 = true) (h2 : (mjLay x0).2 = M) (hM : M ≤ 1500) : ∀ f i N (Z : mjZt), i + f = M → f < N → ∃ Z1, f325_fill_h5 N x0 0 (i3 i) (i3 M) Z = some ((), Z1) ∧ (∀ k, i ≤ k → k < M → Z1.1 x0 k = 0) ∧ (∀ k, k < i → Z1.1 x0 k = Z.1 x0 k) ∧ (∀ a, a ≠ x0 → Z1.1 a = Z.1 a) ∧ Z1.2 = Z.2
  | f, i, 0, _, _, hN => by omega
  | 0, i, N + 1, Z, hf, _ => by
    refine ⟨Z, ?_, fun k g1 g2 => by omega, fun _ _ => rfl, fun _ _ => rfl, rfl⟩
    rw [f325_fill_h5, if_pos (by rw [c_ge (by omega)]; omega)]
  | f + 1, i, N + 1, Z, hf, hN => by
    obtain ⟨Z1, a1, a2, a3, a4, a5⟩ := e325h h1 h2 hM f (i + 1) N (zSi Z x0 i 0) (by omega) (by omega)
    refine ⟨Z1, ?_, fun k g1 g2 => ?_, fun k g => ?_, fun a g => ?_, by rw [a5]; rfl⟩
    · rw [f325_fill_h5, if_neg (by rw [c_ge (by omega)]; omega), if_pos h1, h2, if_pos (in_p (by omega)), ix_nat (by omega), let_eq, i3_s, a1]
    · by_cases q : k = i
      · subst q; rw [a3 k (by omega), si_same]
      · exact a2 k (by omega) g2
    · rw [a3 k (by omega), si_fld _ _ _ _ (by omega)]
    · rw [a4 a g, si_obj _ _ _ _ g]
theorem e325 {x0 M : Nat} (h1 : mjIs x0 211 13 = true) (h2 : (mjLay x0).2 = M) (hM : M ≤ 1500) (Z : mjZt) : ∃ Z1, f325_fill x0 0 Z = some ((), Z1) ∧ (∀ k, k < M → Z1.1 x0 k = 0) ∧ (∀ a, a ≠ x0 → Z1.1 a = Z.1 a) ∧ Z1.2 = Z.2 := by
  obtain ⟨Z1, a1, a2, a3, a4, a5⟩ := e325h h1 h2 hM M 0 mjF Z (by omega) (by unfold mjF; omega)
  refine ⟨Z1, ?_, fun k g => a2 k (by omega) g, a4, a5⟩
  unfold f325_fill
  rw [if_pos h1, h2, i3_ofNat]
  exact a1
theorem is_t8 (hb : b = 2 ∨ b = 92) : mjIs (b + 1) 211 8 = true := by rcases hb with rfl | rfl <;> decide
theorem e14 (hb : b = 2 ∨ b = 92) (Z : mjZt) : ∃ Z1, f14_clear (b + 1) Z = some ((), Z1) ∧ Z1.1 (b + 1) 7 = 0 ∧ (∀ k, k < 16 → Z1.1 (b + 1 + 4) k = 0 ∧ Z1.1 (b + 1 + 5) k = 0) ∧ (∀ a, a ≠ b + 1 → a ≠ b + 1 + 4 → a ≠ b + 1 + 5 → a ≠ b + 1 + 6 → Z1.1 a = Z.1 a) ∧ Z1.2 = Z.2 := by
  have i4 : mjIs (b + 1 + 4) 211 13 = true := is_b2 hb 3 (by omega)
  have i5 : mjIs (b + 1 + 5) 211 13 = true := is_b2 hb 4 (by omega)
  have i6' : mjIs (b + 1 + 6) 211 13 = true := is_b2 hb 5 (by omega)
  have l4 : (mjLay (b + 1 + 4)).2 = 16 := (is_trm hb).2 0 (by omega)
  have l5 : (mjLay (b + 1 + 5)).2 = 16 := (is_trm hb).2 1 (by omega)
  have l6 : (mjLay (b + 1 + 6)).2 = 16 := (is_trm hb).2 2 (by omega)
  obtain ⟨Z1, a1, a2, a3, a4⟩ := e325 i4 l4 (by omega) (zSi Z (b + 1) 7 0)
  obtain ⟨Z2, b1, b2, b3, b4⟩ := e325 i5 l5 (by omega) Z1
  obtain ⟨Z3, c1, c2, c3, c4⟩ := e325 i6' l6 (by omega) Z2
  refine ⟨Z3, ?_, ?_, fun k hk => ⟨?_, ?_⟩, fun a g1 g2 g3 g4 => ?_, by rw [c4, b4, a4]; rfl⟩
  · unfold f14_clear
    rw [if_pos (is_t8 hb), let_eq, a1, mjBd_some, b1, mjBd_some, c1, mjBd_some]
  · rw [c3 _ (by omega), b3 _ (by omega), a3 _ (by omega), si_same]
  · rw [c3 _ (by omega), b3 _ (by omega)]; exact a2 k hk
  · rw [c3 _ (by omega)]; exact b2 k hk
  · rw [c3 a g4, b3 a g3, a3 a g2, si_obj _ _ _ _ g1]
theorem is_a1 : mjIs 1 211 13 = true ∧ (mjLay 1).2 = 700 := ⟨by decide, rfl⟩
/-- the class, up to the track's line -/
theorem p_openC (hb : b = 2 ∨ b = 92) (hn : n ≤ 700) (hX : ∀ k, X k ≤ 255) (Z : mjZt) (ht : ∀ k, Z.1 1 k = i3 (X k)) : ∃ Z1, f128_read 1 (i3 n) b Z = (mjBd (f118_readTrack b Z1) fun v113 Z114 => if mjCmp .ne v113 0 = true then f128_read_h46 mjF b 0 Z114 else some (-1, Z114)) ∧
    tkC X n Z1 0 ∧ (Z1.1 b 5 = 0 ∧ Z1.1 b 6 = 0 ∧ Z1.1 b 8 = 0 ∧ Z1.1 b 9 = 2 ∧ Z1.1 b 10 = 5 ∧ Z1.2.1 b 11 = 0) ∧ Z1.1 (b + 1) 7 = 0 ∧ (∀ k, k < 16 → Z1.1 (b + 1 + 4) k = 0 ∧ Z1.1 (b + 1 + 5) k = 0) ∧ (Z1.1 182 2 = 0 ∧ Z1.1 182 3 = 0 ∧ Z1.1 182 5 = 0 ∧ Z1.1 182 6 = -1) ∧ (∀ a, b + 7 < a → a ≠ 182 → a ≠ 183 → Z1.1 a = Z.1 a ∧ Z1.2.1 a = Z.2.1 a) ∧ eqRo b Z Z1 := by
  generalize hY : zSl (zSi (zSi (zSi (zSi (zSi (zSi (zSi (zSi (zSi (zSi (zSi Z b 0 0) b 1 0) b 2 0) b 3 0) b 4 0) b 5 0) b 6 0) b 7 0) b 8 0) b 9 2) b 10 5) b 11 0 = Y
  have y5 : Y.1 b 5 = 0 ∧ Y.1 b 6 = 0 ∧ Y.1 b 8 = 0 ∧ Y.1 b 9 = 2 ∧ Y.1 b 10 = 5 ∧ Y.2.1 b 11 = 0 := by
    rw [← hY]
    refine ⟨?_, ?_, ?_, ?_, ?_, sl_same _ _ _ _⟩
    · rw [sl_int, si_fld _ _ _ _ (by omega), si_fld _ _ _ _ (by omega), si_fld _ _ _ _ (by omega), si_fld _ _ _ _ (by omega), si_fld _ _ _ _ (by omega), si_same]
    · rw [sl_int, si_fld _ _ _ _ (by omega), si_fld _ _ _ _ (by omega), si_fld _ _ _ _ (by omega), si_fld _ _ _ _ (by omega), si_same]
    · rw [sl_int, si_fld _ _ _ _ (by omega), si_fld _ _ _ _ (by omega), si_same]
    · rw [sl_int, si_fld _ _ _ _ (by omega), si_same]
    · rw [sl_int, si_same]
  have yo : ∀ a, a ≠ b → Y.1 a = Z.1 a ∧ Y.2.1 a = Z.2.1 a := fun a g => by
    rw [← hY]
    refine ⟨?_, by rw [sl_obj _ _ _ _ g]; rfl⟩
    rw [sl_int, si_obj _ _ _ _ g, si_obj _ _ _ _ g, si_obj _ _ _ _ g, si_obj _ _ _ _ g, si_obj _ _ _ _ g, si_obj _ _ _ _ g, si_obj _ _ _ _ g, si_obj _ _ _ _ g, si_obj _ _ _ _ g, si_obj _ _ _ _ g, si_obj _ _ _ _ g]
  have yt : Y.2.2 = Z.2.2 := by rw [← hY]; rfl
  obtain ⟨Y2, a1, a2, a3, a4, a5⟩ := e14 hb Y
  have e15 : f15_clear b Z = some ((), Y2) := by
    unfold f15_clear
    rw [if_pos (is_b hb), let_eq, let_eq, let_eq, let_eq, let_eq, let_eq, let_eq, let_eq, let_eq, let_eq, let_eq, let_eq, hY, if_pos (is_t8 hb), a1, mjBd_some]
  generalize hW : zSi (zSi (zSi (zSi Y2 182 2 0) 182 3 0) 182 5 0) 182 6 (-1) = W
  have w2 : W.1 182 2 = 0 ∧ W.1 182 3 = 0 ∧ W.1 182 5 = 0 ∧ W.1 182 6 = -1 := by
    rw [← hW]
    refine ⟨?_, ?_, ?_, si_same _ _ _ _⟩
    · rw [si_fld _ _ _ _ (by omega), si_fld _ _ _ _ (by omega), si_fld _ _ _ _ (by omega), si_same]
    · rw [si_fld _ _ _ _ (by omega), si_fld _ _ _ _ (by omega), si_same]
    · rw [si_fld _ _ _ _ (by omega), si_same]
  have wo : ∀ a, a ≠ 182 → W.1 a = Y2.1 a := fun a g => by rw [← hW, si_obj _ _ _ _ g, si_obj _ _ _ _ g, si_obj _ _ _ _ g, si_obj _ _ _ _ g]
  have wt : W.2 = Y2.2 := by rw [← hW]; rfl
  generalize hV : zSi (zSi (zTx W 1) 183 1 (i3 n)) 183 2 0 = V
  have vo : ∀ a, a ≠ 183 → V.1 a = W.1 a := fun a g => by rw [← hV, si_obj _ _ _ _ g, si_obj _ _ _ _ g]; rfl
  have vl : V.2.1 = W.2.1 := by rw [← hV]; rfl
  have v3 : V.2.2.1 = W.2.2.1 ∧ V.2.2.2 = 1 := by rw [← hV]; exact ⟨rfl, rfl⟩
  have Y1 : W.1 1 = Z.1 1 := by rw [wo 1 (by omega), a4 1 (by omega) (by omega) (by omega) (by omega), (yo 1 (by omega)).1]
  have bs : bsC X n V := ⟨v3.2, fun k => by rw [vo 1 (by omega), Y1]; exact ht k, by rw [← hV, si_fld _ _ _ _ (by omega), si_same]⟩
  obtain ⟨U, u1, u2, u3⟩ := e68 bs hn hX (p := 0) (by omega) (by rw [← hV, si_same]; rfl)
  have e113 : f113_open 1 (i3 n) W = some ((), U) := by
    unfold f113_open
    rw [let_eq]
    have t1 : (zTx W 1).2.2.2 = 1 := rfl
    rw [t1, if_pos is_a1.1, is_a1.2, i3_ofNat, min_i3 (by omega), show min (n : Int) ((700 : Nat) : Int) = (n : Int) by omega, let_eq, let_eq, hV, u1, mjBd_some]
  have UZ : ∀ a, a ≠ 183 → U.1 a = W.1 a ∧ U.2.1 a = W.2.1 a := fun a g => by rw [(u3.2 a g).1, (u3.2 a g).2, vo a g, vl]; exact ⟨rfl, rfl⟩
  have UY : ∀ a, a ≠ 183 → a ≠ 182 → U.1 a = Y2.1 a ∧ U.2.1 a = Y2.2.1 a := fun a g g2 => by rw [(UZ a g).1, (UZ a g).2, wo a g2, wt]; exact ⟨rfl, rfl⟩
  have all : ∀ a, a ≠ b → a ≠ b + 1 → a ≠ b + 1 + 4 → a ≠ b + 1 + 5 → a ≠ b + 1 + 6 → a ≠ 182 → a ≠ 183 → U.1 a = Z.1 a ∧ U.2.1 a = Z.2.1 a := fun a g1 g2 g3 g4 g5 g6 g7 => by
    rw [(UY a g7 g6).1, (UY a g7 g6).2, a4 a g2 g3 g4 g5, a5]; exact yo a g1
  refine ⟨U, ?_, u2, ?_, ?_, fun k hk => ⟨?_, ?_⟩, ⟨?_, ?_, ?_, ?_⟩, fun a g1 g2 g3 => all a (by omega) (by omega) (by omega) (by omega) (by omega) g2 g3, ?_, fun a q => all a (by unfold rdw at q; omega) (by unfold rdw at q; omega) (by unfold rdw at q; omega) (by unfold rdw at q; omega) (by unfold rdw at q; omega) (by unfold rdw at q; omega) (by unfold rdw at q; omega)⟩
  · unfold f128_read
    rw [if_pos (is_b hb), e15, mjBd_some, let_eq, let_eq, let_eq, let_eq, hW, e113, mjBd_some]
  · rw [(UY b (by omega) (by omega)).1, (UY b (by omega) (by omega)).2, a4 b (by omega) (by omega) (by omega) (by omega), a5]; exact y5
  · rw [(UY (b + 1) (by omega) (by omega)).1]; exact a2
  · rw [(UY (b + 1 + 4) (by omega) (by omega)).1]; exact (a3 k hk).1
  · rw [(UY (b + 1 + 5) (by omega) (by omega)).1]; exact (a3 k hk).2
  · rw [(UZ 182 (by omega)).1]; exact w2.1
  · rw [(UZ 182 (by omega)).1]; exact w2.2.1
  · rw [(UZ 182 (by omega)).1]; exact w2.2.2.1
  · rw [(UZ 182 (by omega)).1]; exact w2.2.2.2
  · rw [u3.1, v3.1, wt, a5, yt]
def eqRq (Z Z2 : mjZt) : Prop := Z2.2.2 = Z.2.2 ∧ (∀ a, a ≠ 211 → a ≠ 215 → a ≠ 217 → (a < 218 ∨ 228 < a) → Z2.1 a = Z.1 a ∧ Z2.2.1 a = Z.2.1 a) ∧ ∀ f, (f < 4 ∨ (10 < f ∧ f < 17) ∨ 27 < f) → f ≠ 1 → Z2.1 211 f = Z.1 211 f
theorem eqRf_q (h : eqRf Z Z2) : eqRq Z Z2 := ⟨h.1, h.2.1, fun f q _ => h.2.2 f (by omega)⟩
theorem eqRq_tr (h : eqRq Z Z2) (g : eqRq Z2 Z3) : eqRq Z Z3 := ⟨g.1.trans h.1, fun a q1 q2 q3 q4 => ⟨(g.2.1 a q1 q2 q3 q4).1.trans (h.2.1 a q1 q2 q3 q4).1, (g.2.1 a q1 q2 q3 q4).2.trans (h.2.1 a q1 q2 q3 q4).2⟩, fun f q r => (g.2.2 f q r).trans (h.2.2 f q r)⟩
/-- the model, up to the track's line -/
theorem p_openM (hn : n ≤ 700) (hX : ∀ k, X k ≤ 255) (Z : mjZt) (ht : ∀ k, Z.1 212 k = i3 (X k)) (h1 : Z.1 211 1 = i3 n) : ∃ Z1, f236_book Z = (mjBd (f234_trackLine Z1) fun _ Z119 => f236_book_h76 mjF Z119) ∧ tkM X n Z1 0 ∧ Z1.1 211 9 = 0 ∧ (Z1.1 211 21 = 0 ∧ Z1.1 211 22 = 0 ∧ Z1.1 211 23 = 0 ∧ Z1.1 211 24 = 0 ∧ Z1.1 211 25 = 2 ∧ Z1.1 211 26 = 5 ∧ Z1.1 211 17 = 0) ∧ Z1.1 211 27 = 0 ∧ Z1.1 211 1 = 0 ∧ eqRq Z Z1 := by
  generalize hY : zSi (zSi (zSi (zSi (zSi (zSi (zSi (zSi (zSi (zSi (zSi (zSi (zSi Z 211 4 (Z.1 211 1)) 211 1 0) 211 5 0) 211 9 0) 211 10 (-1)) 211 21 0) 211 22 0) 211 23 0) 211 24 0) 211 25 2) 211 26 5) 211 17 0) 211 27 0 = Y
  have yo : ∀ a, a ≠ 211 → Y.1 a = Z.1 a := fun a g => by
    rw [← hY, si_obj _ _ _ _ g, si_obj _ _ _ _ g, si_obj _ _ _ _ g, si_obj _ _ _ _ g, si_obj _ _ _ _ g, si_obj _ _ _ _ g, si_obj _ _ _ _ g, si_obj _ _ _ _ g, si_obj _ _ _ _ g, si_obj _ _ _ _ g, si_obj _ _ _ _ g, si_obj _ _ _ _ g, si_obj _ _ _ _ g]
  have yf : ∀ f, Y.1 211 f = if f = 27 then 0 else if f = 17 then 0 else if f = 26 then 5 else if f = 25 then 2 else if f = 24 then 0 else if f = 23 then 0 else if f = 22 then 0 else if f = 21 then 0 else if f = 10 then -1 else if f = 9 then 0 else if f = 5 then 0 else if f = 1 then 0 else if f = 4 then i3 n else Z.1 211 f := fun f => by
    have s : ∀ (Z : mjZt) (k : Nat) (v : Int32), (zSi Z 211 k v).1 211 f = if f = k then v else Z.1 211 f := fun Z k v => by
      by_cases q : f = k
      · subst q; rw [if_pos rfl, si_same]
      · rw [if_neg q, si_fld _ _ _ _ (by omega)]
    rw [← hY, s, s, s, s, s, s, s, s, s, s, s, s, s, h1]
  have bs : bsM X n Y := ⟨fun k => by rw [yo 212 (by omega)]; exact ht k, by rw [yf]; rfl, by rw [yf]; rfl⟩
  obtain ⟨U, u1, u2, u3⟩ := m205 bs hn hX (p := 0) (by omega) (by rw [yf]; rfl)
  have g : ∀ f, (f < 5 ∨ 8 < f) → U.1 211 f = Y.1 211 f := u3.2.2
  refine ⟨U, ?_, u2, ?_, ⟨?_, ?_, ?_, ?_, ?_, ?_, ?_⟩, ?_, ?_, ?_, fun a q1 q2 q3 q4 => ⟨?_, ?_⟩, fun f q r => ?_⟩
  · unfold f236_book
    rw [let_eq, let_eq, let_eq, let_eq, let_eq, let_eq, let_eq, let_eq, let_eq, let_eq, let_eq, let_eq, let_eq, hY, u1, mjBd_some]
  · rw [g 9 (by omega), yf]; rfl
  · rw [g 21 (by omega), yf]; rfl
  · rw [g 22 (by omega), yf]; rfl
  · rw [g 23 (by omega), yf]; rfl
  · rw [g 24 (by omega), yf]; rfl
  · rw [g 25 (by omega), yf]; rfl
  · rw [g 26 (by omega), yf]; rfl
  · rw [g 17 (by omega), yf]; rfl
  · rw [g 27 (by omega), yf]; rfl
  · rw [g 1 (by omega), yf]; rfl
  · rw [u3.1, ← hY]; rfl
  · rw [(u3.2.1 a q1).1, yo a q1]
  · rw [(u3.2.1 a q1).2, ← hY]; rfl
  · rw [g f (by omega), yf, if_neg (by omega), if_neg (by omega), if_neg (by omega), if_neg (by omega), if_neg (by omega), if_neg (by omega), if_neg (by omega), if_neg (by omega), if_neg (by omega), if_neg (by omega), if_neg (by omega), if_neg (by omega), if_neg (by omega)]
end OP
