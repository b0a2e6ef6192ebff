/-! the contracts of StringBuilder's methods -/
theorem q_ens {Z : mjQ} {sb v cap need : Nat} {t : List Int32} (h : bS Z sb v cap t) (hn : Z.1.1 < 90000) (hN : need ≤ 19000) : ∃ Z2 v2 cap2, g209_ensureCapacityInternal sg0 sb (i3 need) Z = some ((), Z2) ∧ bS Z2 sb v2 cap2 t ∧ need ≤ cap2 ∧ cap ≤ cap2 ∧ frm Z Z2 (fun a => a = sb) ∧ (v2 = v ∨ v2 = 1000 + Z.1.1) ∧ Z2.1.1 ≤ Z.1.1 + 1 ∧ Z2.1.2 + 2 * cap ≤ Z.1.2 + 2 * cap2 ∧ (cap2 = cap ∨ cap2 ≤ 2 * need + 2) := by
  have h9 := h
  obtain ⟨hk, hr, hc1, h3, hv, hl, hc, ht, hf, hs1, hs2, hm2⟩ := h
  have a1 : qR Z.2 sb 19 0 = some v := qR_of hk rfl hr
  have a2 : qLn Z.2 v = some (i3 cap) := qLn_of hv (by omega) (by omega)
  have a3 : qI Z.2 sb 19 1 = some (i3 0) := qI_of hk (by decide) hc1
  unfold g209_ensureCapacityInternal
  rw [a1, mjBp_some, a2, mjBp_some, a3, mjBp_some, shr_0, i3_sub, show (0 : Int32) = i3 0 from rfl]
  by_cases hq : need ≤ cap
  · rw [if_pos (by rw [c_le (by omega)]; omega)]
    exact ⟨Z, v, cap, rfl, h9, hq, Nat.le_refl _, frm_rf, Or.inl rfl, by omega, by omega, Or.inl rfl⟩
  · rw [if_neg (by rw [c_le (by omega)]; omega), if_pos (ro_of hk)]
    have b1 : g217_newCapacity sg0 sb (i3 need) Z = some (i3 ((cap + max (need - cap) (cap + 2) : Nat) : Int), Z) := by
      unfold g217_newCapacity
      rw [a1, mjBp_some, a2, mjBp_some, a3, mjBp_some, sh_0, sh_0, i3_sub, show (2 : Int32) = i3 2 from rfl, i3_add, show (need : Int) - (cap : Int) = ((need - cap : Nat) : Int) from by omega, show (cap : Int) + 2 = ((cap + 2 : Nat) : Int) from by omega, newLength_0 (by omega) (by omega), mjBp_some, show (2147483647 : Int32) = i3 2147483647 from rfl, if_pos (by rw [c_ne (by omega)]; omega), shr_0]
    have e9 : cap + max (need - cap) (cap + 2) = max need (2 * cap + 2) := by omega
    rw [e9] at b1
    have hcap : max need (2 * cap + 2) ≤ 40000 := by omega
    generalize hC : max need (2 * cap + 2) = C at *
    have hvn : ¬ v = 1000 + Z.1.1 := by omega
    have hsn : ¬ sb = 1000 + Z.1.1 := by omega
    have hsv : ¬ sb = v := fun q => by rw [q, hv] at hk; exact absurd (show (118 : Nat) = 19 from congrArg Prod.fst hk) (by decide)
    rw [b1, mjBq_some, a3, mjBp_some, sh_0]
    -- the copy
    have c0 : qNewA sg0 Z 118 (i3 C) = _ := qNewA_0 (t := 118) (n := C) (by omega) (by omega)
    have hz : ∀ a, ¬ a = 1000 + Z.1.1 → (mjZr Z.2 (1000 + Z.1.1) (118, C)).2.2.2 a = Z.2.2.2.2 a ∧ (mjZr Z.2 (1000 + Z.1.1) (118, C)).1 a = Z.2.1 a ∧ (mjZr Z.2 (1000 + Z.1.1) (118, C)).2.2.1 a = Z.2.2.2.1 a := by
      intro a ha
      exact ⟨if_neg ha, funext fun j => if_neg ha, funext fun j => if_neg ha⟩
    have hzn : (mjZr Z.2 (1000 + Z.1.1) (118, C)).2.2.2 (1000 + Z.1.1) = (118, C) := if_pos rfl
    have c1 : g251_copyOf sg0 v (i3 C) Z = some (1000 + Z.1.1, ((Z.1.1 + 1, Z.1.2 + C), mjCp (mjZr Z.2 (1000 + Z.1.1) (118, C)) (Z.2.1 v) (1000 + Z.1.1) 0 0 cap)) := by
      unfold g251_copyOf
      rw [a2, mjBp_some, if_pos (by rw [c_ne (by omega)]; omega), c0, mjBq_some]
      have d1 : qLn (mjZr Z.2 (1000 + Z.1.1) (118, C)) v = some (i3 cap) := qLn_of (n := cap) (c := 118) (by rw [(hz v hvn).1]; exact hv) (by omega) (by omega)
      show mjBp (qLn (mjZr Z.2 (1000 + Z.1.1) (118, C)) v) _ = _
      rw [d1, mjBp_some, min_i3 (by omega), show min (cap : Int) (C : Int) = (cap : Int) from by omega]
      have d2 := qCp_0 (Z := ((Z.1.1 + 1, Z.1.2 + mjSzK (118, C)), mjZr Z.2 (1000 + Z.1.1) (118, C))) (k := 251) (s := v) (d := 1000 + Z.1.1) (cap := cap) (capd := C) (sp := 0) (dp := 0) (w := cap) (by decide) (by show (mjZr Z.2 (1000 + Z.1.1) (118, C)).2.2.2 v = _; rw [(hz v hvn).1]; exact hv) (by omega) hzn (by omega) (by omega) (by omega) (by show fitB ((mjZr Z.2 (1000 + Z.1.1) (118, C)).1 v); rw [(hz v hvn).2.1]; exact hf)
      show mjBp (qCp 251 [.ref v, .int (i3 ((0 : Nat) : Int)), .ref (1000 + Z.1.1), .int (i3 ((0 : Nat) : Int)), .int (i3 cap)] _) _ = _
      rw [d2, mjBp_some]
      show some (1000 + Z.1.1, ((Z.1.1 + 1, Z.1.2 + C), mjCp (mjZr Z.2 (1000 + Z.1.1) (118, C)) ((mjZr Z.2 (1000 + Z.1.1) (118, C)).1 v) (1000 + Z.1.1) 0 0 cap)) = _
      rw [(hz v hvn).2.1]
    rw [c1, mjBq_some]
    have ek : ∀ a, (mjCp (mjZr Z.2 (1000 + Z.1.1) (118, C)) (Z.2.1 v) (1000 + Z.1.1) 0 0 cap).2.2.2 a = (mjZr Z.2 (1000 + Z.1.1) (118, C)).2.2.2 a := fun a => rfl
    have e1 : qSr ((Z.1.1 + 1, Z.1.2 + C), mjCp (mjZr Z.2 (1000 + Z.1.1) (118, C)) (Z.2.1 v) (1000 + Z.1.1) 0 0 cap) sb 19 0 (some (1000 + Z.1.1)) = _ := qSr_of (n := 0) (by show (mjZr Z.2 (1000 + Z.1.1) (118, C)).2.2.2 sb = _; rw [(hz sb hsn).1]; exact hk) rfl
    rw [e1, mjBp_some]
    refine ⟨_, 1000 + Z.1.1, C, rfl, ?_, by omega, by omega, ?_, Or.inr rfl, Nat.le_refl _, ?_, Or.inr (by omega)⟩
    · have i1 : ∀ a, ¬ a = 1000 + Z.1.1 → (mjCp (mjZr Z.2 (1000 + Z.1.1) (118, C)) (Z.2.1 v) (1000 + Z.1.1) 0 0 cap).1 a = Z.2.1 a := by
        intro a ha
        refine (funext fun j => if_neg ha : _ = (mjZr Z.2 (1000 + Z.1.1) (118, C)).1 a).trans (hz a ha).2.1
      have i2 : (mjCp (mjZr Z.2 (1000 + Z.1.1) (118, C)) (Z.2.1 v) (1000 + Z.1.1) 0 0 cap).1 (1000 + Z.1.1) = va_cpy (Z.2.1 v) (fun _ => 0) 0 0 cap := by
        funext j
        show (if 1000 + Z.1.1 = 1000 + Z.1.1 then va_cpy (Z.2.1 v) ((mjZr Z.2 (1000 + Z.1.1) (118, C)).1 (1000 + Z.1.1)) 0 0 cap j else _) = _
        rw [if_pos rfl]
        have : (mjZr Z.2 (1000 + Z.1.1) (118, C)).1 (1000 + Z.1.1) = fun _ => 0 := funext fun j => if_pos rfl
        rw [this]
      refine ⟨?_, ?_, ?_, ?_, hzn, by omega, by omega, ?_, ?_, by show sb < 1000 + (Z.1.1 + 1); omega, by show 1000 + Z.1.1 < 1000 + (Z.1.1 + 1); omega, (congrFun (i1 sb hsn) 2).trans hm2⟩
      · show (mjZr Z.2 (1000 + Z.1.1) (118, C)).2.2.2 sb = _; rw [(hz sb hsn).1]; exact hk
      · show (if sb = sb then (if 0 = 0 then some (1000 + Z.1.1) else _) else _) = _
        rw [if_pos rfl, if_pos rfl]
      · show (mjCp _ _ _ _ _ _).1 sb 1 = _; rw [i1 sb hsn]; exact hc1
      · show (mjCp _ _ _ _ _ _).1 sb 3 = _; rw [i1 sb hsn]; exact h3
      · intro i hi
        show (mjCp (mjZr Z.2 (1000 + Z.1.1) (118, C)) (Z.2.1 v) (1000 + Z.1.1) 0 0 cap).1 (1000 + Z.1.1) i = _
        rw [i2]
        show (if 0 ≤ i ∧ i < 0 + cap then Z.2.1 v (0 + (i - 0)) else _) = _
        rw [if_pos (by omega), show 0 + (i - 0) = i from by omega]
        exact ht i hi
      · intro j
        show fits .byte (.int ((mjCp (mjZr Z.2 (1000 + Z.1.1) (118, C)) (Z.2.1 v) (1000 + Z.1.1) 0 0 cap).1 (1000 + Z.1.1) j)) = true
        rw [i2]
        show fits .byte (.int (if 0 ≤ j ∧ j < 0 + cap then Z.2.1 v (0 + (j - 0)) else 0)) = true
        split
        · exact hf _
        · rfl
    · refine frm_tr2 (frm_tr2 (frm_zr (m := Z.1.2 + C) (q := (118, C)) (by omega)) (frm_cp (Z := ((Z.1.1 + 1, Z.1.2 + C), mjZr Z.2 (1000 + Z.1.1) (118, C))) (P := fun a => a = 1000 + Z.1.1) rfl) (fun a ha q => absurd q (old_new hn ha))) (frm_sr (Z := ((Z.1.1 + 1, Z.1.2 + C), mjCp (mjZr Z.2 (1000 + Z.1.1) (118, C)) (Z.2.1 v) (1000 + Z.1.1) 0 0 cap)) (P := fun a => a = sb) rfl) (fun a _ q => q)
    · show Z.1.2 + C + 2 * cap ≤ Z.1.2 + 2 * C
      omega
/-- what was there before is none of ours -/
def wokQ (Z : mjQ) : Prop := ∀ a, 1000000 ≤ a → (Z.2.2.2.2 a).1 = 99
theorem wok_frm {Z Z2 : mjQ} {P : Nat → Prop} (h : wokQ Z) (g : frm Z Z2 P) : wokQ Z2 := by
  intro a ha
  rw [(g.2 a (Or.inr ha)).1]
  exact h a ha
/-- the text of a string constant -/
def txS (s : Nat) : List Int32 := mjTx0 (s - 1000000)
theorem txL_fit : ∀ i, i < 59 → (mjTxL.getD i []).all (fun c => fits .byte (.int c)) = true ∧ (mjTxL.getD i []).length ≤ 100 := by decide +kernel
theorem txS_fit {s : Nat} (hs : 1000000 ≤ s ∧ s < 1000059) : fitB (fun j => (txS s).getD j 0) ∧ (txS s).length ≤ 100 := by
  have h1 : txS s = mjTxL.getD (s - 1000000) [] := by
    unfold txS mjTx0
    rw [if_neg (by omega), if_neg (by omega)]
  obtain ⟨h2, h3⟩ := txL_fit (s - 1000000) (by omega)
  rw [h1]
  refine ⟨fun j => ?_, h3⟩
  show fits .byte (.int ((mjTxL.getD (s - 1000000) []).getD j 0)) = true
  rw [List.getD_eq_getElem?_getD (l := mjTxL.getD (s - 1000000) [])]
  cases hq : (mjTxL.getD (s - 1000000) [])[j]? with
  | none => rfl
  | some c => exact List.all_eq_true.1 h2 c (List.mem_of_getElem? hq)
theorem qCp_c {Z : mjQ} {k s d capd dp w : Nat} (hk : mjKC ≤ k) (hs : 1000000 ≤ s ∧ s < 1000059) (h2 : Z.2.2.2.2 d = (118, capd)) (hw : w = (txS s).length) (hd : dp + w ≤ capd) (hc : capd ≤ 100000) :
    qCp k [.ref (s + 100000), .int (i3 (0 : Nat)), .ref d, .int (i3 dp), .int (i3 w)] Z = some (Z.1, mjCp Z.2 (fun j => (txS s).getD j 0) d 0 dp w) := by
  have ht : mjTx0 (s + 100000 - 1100000) = txS s := by
    exact congrArg mjTx0 (by omega)
  have hb : mjByt Z.2 (s + 100000) = some ((txS s).length, fun j => (txS s).getD j 0) := by
    unfold mjByt
    have h3 : mjSbd (s + 100000) = true := decide_eq_true (by omega)
    rw [if_pos h3, ht]
  have hks : mjKs Z.2 d 118 = true := ks_of h2
  have hal : mjAl Z.2 d = capd := by rw [mjAl, h2]
  have hwr : mjWr k d = true := decide_eq_true (Or.inl hk)
  have hc9 : mjCopy k [.ref (s + 100000), .int (i3 (0 : Nat)), .ref d, .int (i3 dp), .int (i3 w)] Z.2 = some (mjCp Z.2 (fun j => (txS s).getD j 0) d 0 dp w) := by
    unfold mjCopy
    dsimp only
    rw [hb]
    dsimp only
    rw [i3_int (by omega), i3_int (by omega), i3_int (by omega), Int.toNat_natCast, Int.toNat_natCast, Int.toNat_natCast, hal]
    rw [if_pos ⟨hks, hwr, ⟨by omega, by omega, by omega⟩, by omega, hd, mjFit_of (txS_fit hs).1 _ _⟩]
  rw [qCp, hc9]
/-- what an append comes to -/
def apR (Z : mjQ) (sb v cap : Nat) (Z2 : mjQ) (v2 cap2 : Nat) (t2 : List Int32) : Prop := bS Z2 sb v2 cap2 t2 ∧ cap ≤ cap2 ∧ frm Z Z2 (fun a => a = sb ∨ a = v) ∧ (v2 = v ∨ v2 = 1000 + Z.1.1) ∧ Z2.1.1 ≤ Z.1.1 + 1 ∧ Z2.1.2 + 2 * cap ≤ Z.1.2 + 2 * cap2 ∧ (cap2 = cap ∨ cap2 ≤ 2 * t2.length + 2)
/-- the bytes u put behind the text, and the count -/
theorem bS_put {Z : mjQ} {sb v cap : Nat} {t u : List Int32} {Z2 : mjQ} (h : bS Z sb v cap t) (hl : t.length + u.length ≤ cap) (hn : Z2.1 = Z.1) (hr : Z2.2.2.2 = Z.2.2.2) (h1 : ∀ k, ¬ k = 3 → Z2.2.1 sb k = Z.2.1 sb k) (h3 : Z2.2.1 sb 3 = i3 ((t.length + u.length : Nat) : Int)) (hv : ∀ j, Z2.2.1 v j = if t.length ≤ j ∧ j < t.length + u.length then u.getD (j - t.length) 0 else Z.2.1 v j) (hu : fitB (fun j => u.getD j 0)) : bS Z2 sb v cap (t ++ u) := by
  obtain ⟨hk, hr0, hc1, h30, hv0, hl0, hc, ht, hf, hs1, hs2, hm2⟩ := h
  refine ⟨by rw [hr]; exact hk, by rw [hr]; exact hr0, by rw [h1 1 (by decide)]; exact hc1, by rw [h3, List.length_append], by rw [hr]; exact hv0, by rw [List.length_append]; exact hl, hc, ?_, ?_, by rw [hn]; exact hs1, by rw [hn]; exact hs2, by rw [h1 2 (by decide)]; exact hm2⟩
  · intro i hi
    rw [List.length_append] at hi
    rw [hv]
    by_cases q : t.length ≤ i
    · rw [if_pos ⟨q, hi⟩, List.getD_eq_getElem?_getD (l := t ++ u), List.getElem?_append_right q, ← List.getD_eq_getElem?_getD]
    · rw [if_neg (by omega), ht i (by omega), List.getD_eq_getElem?_getD (l := t ++ u), List.getElem?_append_left (by omega), ← List.getD_eq_getElem?_getD]
  · intro j
    rw [hv]
    split
    · exact hu _
    · exact hf j
theorem ro_sid {M : mjMem} {s : Nat} (hs : 1000000 ≤ s ∧ s < 1000059) : mjRo M s 18 = true := by
  have h : mjSid s = true := decide_eq_true hs
  rw [mjRo, h]
  simp
theorem qR_sid {Z : mjQ} {s : Nat} (hw : wokQ Z) (hs : 1000000 ≤ s ∧ s < 1000059) : qR Z.2 s 18 0 = some (s + 100000) := by
  have h : mjSid s = true := decide_eq_true hs
  have h2 : mjKs Z.2 s 18 = false := by rw [mjKs, hw s hs.1]; rfl
  rw [qR, h2, if_neg (by decide), if_pos ⟨rfl, h, rfl⟩]
theorem qI_sid {Z : mjQ} {s : Nat} (hw : wokQ Z) (hs : 1000000 ≤ s ∧ s < 1000059) : qI Z.2 s 18 1 = some 0 := by
  have h : mjSid s = true := decide_eq_true hs
  have h2 : mjKs Z.2 s 18 = false := by rw [mjKs, hw s hs.1]; rfl
  rw [qI, h2, if_neg (by decide), if_pos ⟨rfl, h⟩, if_pos rfl]
theorem qLn_sbd {M : mjMem} {s : Nat} (hs : 1000000 ≤ s ∧ s < 1000059) : qLn M (s + 100000) = some (i3 (txS s).length) := by
  have ht : mjTx0 (s + 100000 - 1100000) = txS s := by
    exact congrArg mjTx0 (by omega)
  have h3 : mjSbd (s + 100000) = true := decide_eq_true (by omega)
  rw [qLn, if_neg (by omega), if_pos h3, ht, i3_ofNat]
theorem q_coder {Z : mjQ} {s : Nat} (hw : wokQ Z) (hs : 1000000 ≤ s ∧ s < 1000059) : g171_coder s Z = some (i3 0) := by
  unfold g171_coder
  rw [if_neg (by decide), qI_sid hw hs, mjBp_some, if_pos (by decide)]
  rfl
theorem q_slen {Z : mjQ} {s : Nat} (hw : wokQ Z) (hs : 1000000 ≤ s ∧ s < 1000059) : g170_length s Z = some (i3 (txS s).length) := by
  unfold g170_length
  rw [qR_sid hw hs, mjBp_some, qLn_sbd hs, mjBp_some, if_pos (ro_sid hs), q_coder hw hs, mjBp_some, shr_0]
theorem q_apS {Z : mjQ} {sb v cap s : Nat} {t : List Int32} (h : bS Z sb v cap t) (hw : wokQ Z) (hn : Z.1.1 < 90000) (hs : 1000000 ≤ s ∧ s < 1000059) (hl : t.length + (txS s).length ≤ 19000) : ∃ Z2 v2 cap2, g233_append sg0 sb s Z = some (sb, Z2) ∧ apR Z sb v cap Z2 v2 cap2 (t ++ txS s) := by
  obtain ⟨Z1, v1, cap1, e1, hB, h2, h3, h4, h5, h6, h7, h8⟩ := q_ens (need := t.length + (txS s).length) h hn hl
  have hw1 := wok_frm hw h4
  have hk := h.1
  have hk1 := hB.1
  have hsv : ¬ sb = v1 := fun q => by have h9 := hB.2.2.2.2.1; rw [← q, hk1] at h9; exact absurd (show (19 : Nat) = 118 from congrArg Prod.fst h9) (by decide)
  have p1 : g218_putStringAt sg0 sb (i3 t.length) s Z1 = some ((), (Z1.1, mjCp Z1.2 (fun j => (txS s).getD j 0) v1 0 t.length (txS s).length)) := by
    unfold g218_putStringAt
    have q1 : g214_inflateIfNeededFor sg0 sb s Z1 = some ((), Z1) := by
      unfold g214_inflateIfNeededFor
      rw [if_neg (by decide), qI_of (x := i3 0) hk1 (by decide) hB.2.2.1, mjBp_some, if_pos (ro_sid hs), q_coder hw1 hs, mjBp_some, if_pos (by decide)]
    have q2 : g226_getBytes sg0 s v1 (i3 t.length) (i3 0) Z1 = some ((), (Z1.1, mjCp Z1.2 (fun j => (txS s).getD j 0) v1 0 t.length (txS s).length)) := by
      unfold g226_getBytes
      have q3 := qCp_c (Z := Z1) (k := 226) (s := s) (d := v1) (capd := cap1) (dp := t.length) (w := (txS s).length) (by decide) hs hB.2.2.2.2.1 rfl h2 (by have := hB.2.2.2.2.2.2.1; omega)
      rw [if_pos (ro_sid hs), q_coder hw1 hs, mjBp_some, if_neg (by decide), qR_sid hw1 hs, mjBp_some, qLn_sbd hs, mjBp_some, sh_0]
      show mjBp (qCp 226 [.ref (s + 100000), .int (i3 ((0 : Nat) : Int)), .ref v1, .int (i3 t.length), .int (i3 (txS s).length)] Z1) _ = _
      rw [q3, mjBp_some]
    rw [if_pos (ro_of hk1), q1, mjBq_some, qR_of hk1 rfl hB.2.1, mjBp_some, qI_of (x := i3 0) hk1 (by decide) hB.2.2.1, mjBp_some, if_pos (ro_sid hs), q2, mjBq_some]
  have p2 : g208_append sg0 sb s Z = some (sb, (Z1.1, mjSi (mjCp Z1.2 (fun j => (txS s).getD j 0) v1 0 t.length (txS s).length) sb 3 (i3 ((t.length + (txS s).length : Nat) : Int)))) := by
    unfold g208_append
    rw [if_pos (ro_sid hs), q_slen hw hs, mjBp_some, qI_of (x := i3 t.length) hk (by decide) h.2.2.2.1, mjBp_some, if_pos (ro_of hk), i3_add, ← Int.natCast_add, e1, mjBq_some, qI_of (x := i3 t.length) hk1 (by decide) hB.2.2.2.1, mjBp_some, if_pos (ro_of hk1), p1, mjBq_some]
    have hk2 : (mjCp Z1.2 (fun j => (txS s).getD j 0) v1 0 t.length (txS s).length).2.2.2 sb = (19, 0) := hk1
    have hc2 : (mjCp Z1.2 (fun j => (txS s).getD j 0) v1 0 t.length (txS s).length).1 sb 3 = i3 t.length := (if_neg hsv).trans hB.2.2.2.1
    rw [qI_of (x := i3 t.length) hk2 (by decide) hc2, mjBp_some, i3_add, ← Int.natCast_add, qSi_of (Z := (Z1.1, mjCp Z1.2 (fun j => (txS s).getD j 0) v1 0 t.length (txS s).length)) hk2 rfl, mjBp_some]
  refine ⟨(Z1.1, mjSi (mjCp Z1.2 (fun j => (txS s).getD j 0) v1 0 t.length (txS s).length) sb 3 (i3 ((t.length + (txS s).length : Nat) : Int))), v1, cap1, by unfold g233_append; rw [if_pos (ro_of hk), p2, mjBq_some], ?_, h3, ?_, h5, h6, h7, ?_⟩
  · refine bS_put (Z := Z1) hB h2 rfl rfl ?_ ?_ ?_ (txS_fit hs).1
    · intro k hk3
      exact (if_pos rfl).trans ((if_neg hk3).trans (if_neg hsv))
    · exact (if_pos rfl).trans (if_pos rfl)
    · intro j
      refine (if_neg (fun q => hsv q.symm)).trans ((if_pos rfl).trans ?_)
      show (if t.length ≤ j ∧ j < t.length + (txS s).length then (txS s).getD (0 + (j - t.length)) 0 else Z1.2.1 v1 j) = _
      rw [Nat.zero_add]
  · refine frm_tr2 (frm_tr2 (frm_wk h4 (fun a _ q => Or.inl q)) (frm_cp (P := fun a => a = v1) rfl) ?_) (frm_si (P := fun a => a = sb) rfl) (fun a _ q => Or.inl q)
    intro a ha q
    rcases h5 with g | g
    · exact Or.inr (q.trans g)
    · exact absurd (q.trans g) (old_new hn ha)
  · rcases h8 with g | g
    · exact Or.inl g
    · right; rw [List.length_append]; exact g
