/-! THE BOOK READ, in class and model -/
section RD3
variable {X : Nat → Nat} {n b : Nat} {Z Z2 Zm : mjZt} {S : mjS}
/-- what no reading writes of a book -/
def spZ (b : Nat) (Z : mjZt) : Prop := (∀ t, t < 6 → Z.1 (tmB b t + 3) 0 = 0 ∧ Z.1 (tmB b t + 4) 0 = 0) ∧ (∀ j k, j ≤ 4 → Z.1 (b + 12 + j) k = 0) ∧ Z.2.1 (b + 12) 4 = 0
theorem cBk_spZ (h : cBk Z b S) : spZ b Z := by
  obtain ⟨_, _, _, _, _, _, _, _, _, _, _, h12, h13, h14⟩ := h
  exact ⟨h12, h13, h14⟩
theorem spZ_o (h : spZ b Z) (hb : b = 2 ∨ b = 92) (e : eqRo b Z Z2) : spZ b Z2 := by
  obtain ⟨h1, h2, h3⟩ := h
  have tB : ∀ t, tmB b t = b + 18 + 5 * t := fun t => rfl
  refine ⟨fun t ht => ?_, fun j k hj => ?_, ?_⟩
  · have := tB t
    rw [(e.2 (tmB b t + 3) (by unfold rdw; omega)).1, (e.2 (tmB b t + 4) (by unfold rdw; omega)).1]; exact h1 t ht
  · rw [(e.2 (b + 12 + j) (by unfold rdw; omega)).1]; exact h2 j k hj
  · rw [(e.2 (b + 12) (by unfold rdw; omega)).2]; exact h3
theorem eqRf_M (h : eqRq Z Z2) : eqM Z Z2 := ⟨fun a g => h.2.1 a (by omega) (by omega) (by omega) (by omega), fun f g1 g2 => h.2.2 f (by omega) (by omega)⟩
/-- frame of the model's book, when it reads to the end -/
def eqRg (Z Z2 : mjZt) : Prop := Z2.2.2 = Z.2.2 ∧ (∀ a, a ≠ 211 → (a < 215 ∨ 239 < a) → Z2.1 a = Z.1 a ∧ Z2.2.1 a = Z.2.1 a) ∧ ∀ f, (f < 4 ∨ (12 < f ∧ f < 17) ∨ (27 < f ∧ f < 39) ∨ 43 < f) → f ≠ 1 → f ≠ 56 → Z2.1 211 f = Z.1 211 f
theorem eqRf_g (h : eqRq Z Z2) : eqRg Z Z2 := ⟨h.1, fun a q1 q2 => h.2.1 a q1 (by omega) (by omega) (by omega), fun f q1 q2 _ => h.2.2 f (by omega) q2⟩
theorem j97f {k : Int} {q : Nat} (h : fltM Z k q) (hk : 1 ≤ k ∧ k ≤ 7) : f236_book_j97 Z = some (-1, zSi (zSi Z 211 11 (i3 k)) 211 12 (i3 q)) := by
  have e : ∀ (Y : mjZt) (v : Int32) (j f : Nat), f ≠ j → (zSi Y 211 j v).1 211 f = Y.1 211 f := fun Y v j f g => si_fld _ _ _ _ (by omega)
  unfold f236_book_j97
  rw [let_eq, let_eq, e _ _ _ _ (by omega), e _ _ _ _ (by omega), e _ _ _ _ (by omega), if_neg (bdL h hk), h.1, h.2]
/-- both read -/
def bkGood (X : Nat → Nat) (n b : Nat) (Z Zm : mjZt) (rc rm : Option (Int32 × mjZt)) : Prop :=
  ∃ Zc1 Zm1 S, ∃ x : Nat, rc = some (i3 x, Zc1) ∧ rm = some (i3 x, Zm1) ∧ x ≤ 350 ∧ cBk Zc1 b S ∧ cTr Zc1 b S ∧ okS S ∧ okC S ∧ okN S ∧ mRep Zm1 S ∧ (Zc1.1 182 5 = 0 ∧ Zc1.1 182 6 = -1) ∧ (Zm1.1 211 11 = 0 ∧ Zm1.1 211 12 = -1 ∧ Zm1.1 211 1 = 0 ∧ Zm1.1 211 56 = 0) ∧ eqRo b Z Zc1 ∧ eqRg Zm Zm1
def bkBad (b : Nat) (Z Zm : mjZt) (rc rm : Option (Int32 × mjZt)) : Prop :=
  ∃ Zc1 Zm1, rc = some (-1, Zc1) ∧ rm = some (-1, Zm1) ∧ (Zc1.1 182 5 = Zm1.1 211 11 ∧ Zc1.1 182 6 = Zm1.1 211 12) ∧ Zm1.1 211 1 = 0 ∧ Zm1.1 211 56 = Zm.1 211 56 ∧ eqM Zm Zm1 ∧ eqRo b Z Zc1 ∧ eqRg Zm Zm1
theorem bk_bad {Zc1 Zm1 : mjZt} {rc rm : Option (Int32 × mjZt)} (h1 : rc = some (-1, Zc1)) (h2 : rm = f236_book_j97 Zm1) (hd : bd Zc1 Zm1) (e1 : eqRo b Z Zc1) (e2 : eqRq Zm Zm1) (h0 : Zm1.1 211 1 = 0) : bkBad b Z Zm rc rm := by
  obtain ⟨k, q, k1, k2, k3, k4⟩ := hd
  have e : ∀ (Y : mjZt) (v : Int32) (j f : Nat), f ≠ j → (zSi Y 211 j v).1 211 f = Y.1 211 f := fun Y v j f g => si_fld _ _ _ _ (by omega)
  have o : ∀ (Y : mjZt) (v : Int32) (j a : Nat), a ≠ 211 → (zSi Y 211 j v).1 a = Y.1 a := fun Y v j a g => si_obj _ _ _ _ g
  refine ⟨Zc1, zSi (zSi Zm1 211 11 (i3 k)) 211 12 (i3 q), h1, by rw [h2, j97f k4 ⟨k1, k2⟩], ⟨?_, ?_⟩, ?_, ?_, eqM_tr (eqRf_M e2) ⟨fun a g => ⟨by rw [o _ _ _ _ (by omega), o _ _ _ _ (by omega)], rfl⟩, fun f g1 g2 => by rw [e _ _ _ _ (by omega), e _ _ _ _ (by omega)]⟩, e1, ⟨e2.1, fun a q1 q2 => ⟨?_, (e2.2.1 a q1 (by omega) (by omega) (by omega)).2⟩, fun f q1 q2 q3 => ?_⟩⟩
  · rw [e _ _ _ _ (by omega), si_same]; exact k3.1
  · rw [si_same]; exact k3.2
  · rw [e _ _ _ _ (by omega), e _ _ _ _ (by omega)]; exact h0
  · rw [e _ _ _ _ (by omega), e _ _ _ _ (by omega)]; exact e2.2.2 56 (by omega) (by omega)
  · rw [o _ _ _ _ q1, o _ _ _ _ q1]; exact (e2.2.1 a q1 (by omega) (by omega) (by omega)).1
  · rw [e _ _ _ _ (by omega), e _ _ _ _ (by omega)]; exact e2.2.2 f (by omega) q2
theorem bk_good {Zc1 Zm1 : mjZt} {S : mjS} {m p x : Nat} {t w : Bool} {rc rm : Option (Int32 × mjZt)} (h1 : rc = some (i3 x, Zc1)) (h2 : rm = f236_book_j97 Zm1) (hj : jR X n b Zc1 Zm1 S m p t w) (hn : n ≤ 700) (hx : Zm1.1 211 27 = i3 x) (hx2 : x ≤ 350) (e1 : eqRo b Z Zc1) (e2 : eqRq Zm Zm1) (h0 : Zm1.1 211 1 = 0) : bkGood X n b Z Zm rc rm := by
  obtain ⟨hg, ⟨k1, k2, k3, k4⟩, hm, ⟨ho, hoc, hon, hmp, hto, hwv, hlg⟩, hf⟩ := hj
  have hp := hg.2.2.2.2
  have h10 : Zm1.1 211 10 = -1 := hg.2.1.1.2.2
  have e : ∀ (Y : mjZt) (v : Int32) (j f : Nat), f ≠ j → (zSi Y 211 j v).1 211 f = Y.1 211 f := fun Y v j f g => si_fld _ _ _ _ (by omega)
  have o : ∀ (Y : mjZt) (v : Int32) (j a : Nat), a ≠ 211 → (zSi Y 211 j v).1 a = Y.1 a := fun Y v j a g => si_obj _ _ _ _ g
  obtain ⟨Y, hY⟩ : ∃ Y, Y = zSi (zSi Zm1 211 11 0) 211 12 (-1) := ⟨_, rfl⟩
  have yf : ∀ f, f ≠ 11 → f ≠ 12 → Y.1 211 f = Zm1.1 211 f := fun f g1 g2 => by rw [hY, e _ _ _ _ g2, e _ _ _ _ g1]
  have yo : ∀ a, a ≠ 211 → Y.1 a = Zm1.1 a := fun a g => by rw [hY, o _ _ _ _ g, o _ _ _ _ g]
  have yl : Y.2 = Zm1.2 := by rw [hY]; rfl
  have hm2 : rM Y S m := rM_of hm (fun a g1 g2 _ => ⟨yo a (by omega), by rw [yl]⟩) (fun f g => yf f (by omega) (by omega))
  obtain ⟨Zf, a1, a2, a3, a4⟩ := takes (m := m) (by omega) hm2
  have ag : agS m S (sTk m S Zf) := sTk_ag
  have ff : ∀ f, f < 39 → Zf.1 211 f = Y.1 211 f := fun f g => a4.2.2.1 f (by omega) (by omega)
  refine ⟨Zc1, Zf, sTk m S Zf, x, h1, ?_, hx2, cBk_ag ag ho k1, cTr_ag ag ho hoc hto k2, okS_ag ag ho, okC_ag ag ho hoc hto, okN_ag ag ho hon, a2, ⟨hg.2.2.1, hf.1.2⟩, ⟨?_, ?_, ?_, a3⟩, e1, ⟨?_, fun a q1 q2 => ?_, fun f q1 q2 q3 => ?_⟩⟩
  · rw [h2]
    unfold f236_book_j97
    rw [hg.2.2.2.1, let_eq, e _ _ _ _ (by omega), h10, let_eq, ← hY, yf 9 (by omega) (by omega), if_pos (gdL hg.2.2.2.1), a1, mjBd_some, ff 27 (by omega), yf 27 (by omega) (by omega), hx]
  · rw [ff 11 (by omega), hY, e _ _ _ _ (by omega), si_same]
  · rw [ff 12 (by omega), hY, si_same]
  · rw [ff 1 (by omega), yf 1 (by omega) (by omega)]; exact h0
  · rw [a4.1, yl]; exact e2.1
  · have g := e2.2.1 a q1 (by omega) (by omega) (by omega)
    rw [(a4.2.1 a q1 (by omega) (by omega)).1, (a4.2.1 a q1 (by omega) (by omega)).2, yo a q1, yl]
    exact g
  · rw [a4.2.2.1 f (by omega) q3, yf f (by omega) (by omega)]; exact e2.2.2 f (by omega) q2
theorem p_read (hb : b = 2 ∨ b = 92) (hn : n ≤ 700) (hX : ∀ k, X k ≤ 255) (t1 : ∀ k, Z.1 1 k = i3 (X k)) (hz : spZ b Z) (t2 : ∀ k, Zm.1 212 k = i3 (X k)) (f1 : Zm.1 211 1 = i3 n) (hk : kfM Zm) : bkGood X n b Z Zm (f128_read 1 (i3 n) b Z) (f236_book Zm) ∨ bkBad b Z Zm (f128_read 1 (i3 n) b Z) (f236_book Zm) := by
  obtain ⟨U, u1, u2, u3, u4, u5, ⟨u61, u62, u63, u64⟩, u7, u8⟩ := p_openC hb hn hX Z t1
  obtain ⟨V, v1, v2, v3, v4, v5, v6, v7⟩ := p_openM hn hX Zm t2 f1
  have g0 : gd X n U V 0 := ⟨u2, v2, u63, v3, by omega⟩
  have tB : ∀ t, tmB b t = b + 18 + 5 * t := fun t => rfl
  have kfV : kfM V := ⟨fun j hj => by rw [(v7.2.1 213 (by omega) (by omega) (by omega) (by omega)).2]; exact hk.1 j hj, fun j hj => by rw [(v7.2.1 214 (by omega) (by omega) (by omega) (by omega)).2]; exact hk.2 j hj⟩
  rw [u1, v1]
  rcases p_track hb g0 hn hX u3 u4 u5 (fun t ht => by
      have := tB t
      rw [(u7 (tmB b t + 3) (by omega) (by omega) (by omega)).1, (u7 (tmB b t + 4) (by omega) (by omega) (by omega)).1]; exact hz.1 t ht)
    (fun j k hj => by rw [(u7 (b + 12 + j) (by omega) (by omega) (by omega)).1]; exact hz.2.1 j k hj) (by rw [(u7 (b + 12) (by omega) (by omega) (by omega)).2]; exact hz.2.2) ⟨u61, u62, u64⟩ v4 kfV with ⟨Zc1, Zm1, S, p1, a1, a2, a3, a4, a5, a6⟩ | ⟨Zc1, Zm1, a1, a2, a3, a5, a6⟩
  · rw [a1, mjBd_some, if_pos (by decide), a2, mjBd_some]
    have hp1 := a3.1.2.2.2.2
    rcases p_lines hn hX (n - p1 + 1) (x := 0) (N := mjF) (M := mjF) (by omega) (by unfold mjF; omega) (by unfold mjF; omega) a3 (by rw [a6.2.2 27 (by omega), v5]; rfl) (by omega) with ⟨Zc2, Zm2, S1, m1, p2, t1, w1, x1, b1, b2, b3, b4, b5, b6, b7⟩ | ⟨Zc2, Zm2, b1, b2, b3, b4, b5⟩
    · left
      have b1' : f128_read_h46 mjF b 0 Zc1 = some (i3 x1, Zc2) := b1
      have e2 : eqRq Zm Zm2 := eqRq_tr v7 (eqRf_q (eqRf_tr (eqRd_f a6) b7))
      exact bk_good b1' b2 b3 hn b4 b5 (eqRo_tr u8 (eqRc_o (eqRc_tr a5 b6))) e2 (by rw [b7.2.2 1 (by omega), a6.2.2 1 (by omega)]; exact v6)
    · right
      have b1' : f128_read_h46 mjF b 0 Zc1 = some (-1, Zc2) := b1
      exact bk_bad b1' b2 b3 (eqRo_tr u8 (eqRc_o (eqRc_tr a5 b4))) (eqRq_tr v7 (eqRf_q (eqRf_tr (eqRd_f a6) b5))) (by rw [b5.2.2 1 (by omega), a6.2.2 1 (by omega)]; exact v6)
  · right
    rw [a1, mjBd_some, if_neg (by decide), a2, mjBd_some]
    have a3' := a3
    obtain ⟨k, q, k1, k2, k3, k4⟩ := a3'
    have bk : f236_book_h76 mjF Zm1 = f236_book_j97 Zm1 := by
      show f236_book_h76 (19999 + 1) Zm1 = f236_book_j97 Zm1
      rw [f236_book_h76, bdM k4 ⟨k1, k2⟩, mjBp_some, if_pos (by decide)]
    exact bk_bad rfl bk a3 (eqRo_tr u8 (eqRc_o a5)) (eqRq_tr v7 (eqRf_q (eqRd_f a6))) (by rw [a6.2.2 1 (by omega)]; exact v6)
end RD3
