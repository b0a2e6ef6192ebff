/-! the law's five words-/
def pW9 (a : Nat → Nat) (o : Nat) : Nat → Int32
  | 0 => 0
  | m + 1 => (pW9 a o m <<< ((8 : Int32) &&& 31)) ||| i3 (a (o + m) : Nat)
theorem pW9_4 {a : Nat → Nat} {o : Nat} : pW9 a o 4 = pk4 (i3 (a o : Nat)) (i3 (a (o + 1) : Nat)) (i3 (a (o + 2) : Nat)) (i3 (a (o + 3) : Nat)) := rfl
def fB9 (t : List Int32) (k m : Nat) : Nat := if k + m < t.length then nc (t.getD (k + m) 0) else 32
def fdJ (Zc Y : mjZt) (v : Nat) (a : Nat → Nat) (m : Nat) : Prop := Y.2.2 = Zc.2.2 ∧ (∀ b, b ≠ v → Y.1 b = Zc.1 b ∧ Y.2.1 b = Zc.2.1 b) ∧ ∀ k, k < 5 → Y.1 v k = pW9 a (4 * k) (min 4 (m - 4 * k))
def ch9 (t : List Int32) : Prop := ∀ i, i < t.length → nc (t.getD i 0) < 128 ∧ t.getD i 0 = i3 (nc (t.getD i 0) : Nat)
section WD9
variable {sg : Nat → Nat} {W : mjWt} {Zc Y : mjZt} {n : Nat × Nat} {v s r k : Nat} {t : List Int32}
theorem sS_vw (h : sS (n, mjVw W Zc) s r t) (h1 : 251 ≤ s) (h2 : 251 ≤ r) (e1 : Y.1 s = Zc.1 s) (e2 : Y.1 r = Zc.1 r) : sS (n, mjVw W Y) s r t := by
  obtain ⟨a1, a2, a3, a4, a5, a6, a7, a8⟩ := h
  have q1 := vw_k (W := W) (Zc := Zc) h1
  have q2 := vw_k (W := W) (Zc := Zc) h2
  have p1 := vw_k (W := W) (Zc := Y) h1
  have p2 := vw_k (W := W) (Zc := Y) h2
  have g1 : (mjVw W Y).1 s = (mjVw W Zc).1 s := by rw [q1.2, p1.2, e1]
  have g2 : (mjVw W Y).1 r = (mjVw W Zc).1 r := by rw [q2.2, p2.2, e2]
  have g3 : (mjVw W Y).2.2.1 s 0 = (mjVw W Zc).2.2.1 s 0 := by
    show (if s < 211 then mjRv Y.2.2.1 Y.2.2.2 s 0 else W.1 s 0) = (if s < 211 then mjRv Zc.2.2.1 Zc.2.2.2 s 0 else W.1 s 0)
    rw [if_neg (by omega), if_neg (by omega)]
  refine ⟨(p1.1.trans q1.1.symm).trans a1, g3.trans a2, ?_, (p2.1.trans q2.1.symm).trans a4, a5, ?_, ?_, a8⟩
  · show (mjVw W Y).1 s 1 = _
    rw [g1]; exact a3
  · intro i hi
    show (mjVw W Y).1 r i = _
    rw [g2]; exact a6 i hi
  · show fitB ((mjVw W Y).1 r)
    rw [g2]; exact a7
theorem fd_h20 {K : Nat → Nat → Int32 → Nat → mjQ → Option (Int32 × mjQ)} {x0 : Nat} (hn : n.1 < 89000) (ht : ch9 t) (hk : k ≤ 700) (hv : 251 ≤ v ∧ v < 1000000) (kv : W.2 v = (113, 5)) (hs : sS (n, mjVw W Zc) s r t) (h1 : 251 ≤ s) (h2 : 251 ≤ r) (d1 : s ≠ v) (d2 : r ≠ v) : ∀ f m M (Y : mjZt), m + f = 20 → f < M → fdJ Zc Y v (fB9 t k) m → ∃ Y2, g198_feeds_h20 sg K M x0 s (i3 (k : Nat)) v (i3 (m : Nat)) (n, mjVw W Y) = K x0 s (i3 (k : Nat)) v (n, mjVw W Y2) ∧ fdJ Zc Y2 v (fB9 t k) 20
  | 0, m, M, Y, hm, hM, hj => by
    obtain ⟨M, rfl⟩ : ∃ N0, M = N0 + 1 := ⟨M - 1, by omega⟩
    have e : m = 20 := by omega
    refine ⟨Y, ?_, e ▸ hj⟩
    rw [g198_feeds_h20, if_pos (by rw [show (20 : Int32) = i3 20 from rfl, c_ge (by omega)]; omega)]
  | f + 1, m, M, Y, hm, hM, hj => by
    obtain ⟨M, rfl⟩ : ∃ N0, M = N0 + 1 := ⟨M - 1, by omega⟩
    obtain ⟨j1, j2, j3⟩ := hj
    have hs2 := sS_vw (Y := Y) hs h1 h2 (j2 s d1).1 (j2 r d2).1
    have hl := hs2.2.2.2.2.1
    have dv : i3 (m : Nat) / 4 = i3 ((m / 4 : Nat) : Int) := by
      rw [show (4 : Int32) = i3 4 from rfl, i3_div (by omega)]
      congr 1
    have ia := r_ia (Zc := Y) (i := m / 4) hv.1 (by omega) kv (by omega) (by omega)
    have wv := j3 (m / 4) (by omega)
    have mn : min 4 (m - 4 * (m / 4)) = m % 4 := by omega
    rw [mn] at wv
    have cv : (if mjCmp .ge (i3 (k : Nat) + i3 (m : Nat)) (i3 (t.length : Nat)) = true then some (32 : Int32) else g172_charAt s (i3 (k : Nat) + i3 (m : Nat)) (n, mjVw W Y)) = some (i3 (fB9 t k m : Nat)) := by
      rw [i3_add]
      unfold fB9
      by_cases q : k + m < t.length
      · obtain ⟨c1, c2⟩ := ht (k + m) q
        rw [if_neg (by rw [c_ge (by omega)]; omega), if_pos q]
        have := q_chr (i := k + m) hs2 (by show n.1 < 900000; omega) q c1 c2
        exact this
      · rw [if_pos (by rw [c_ge (by omega)]; omega), if_neg q]; rfl
    have nx : fdJ Zc (zSi Y v (m / 4) ((pW9 (fB9 t k) (4 * (m / 4)) (m % 4) <<< ((8 : Int32) &&& 31)) ||| i3 (fB9 t k m : Nat))) v (fB9 t k) (m + 1) := by
      refine ⟨j1, fun b hb => ⟨by rw [si_obj _ _ _ _ hb]; exact (j2 b hb).1, (j2 b hb).2⟩, fun q hq => ?_⟩
      by_cases e : q = m / 4
      · have e3 : min 4 (m + 1 - 4 * (m / 4)) = m % 4 + 1 := by omega
        have e4 : 4 * (m / 4) + m % 4 = m := by omega
        rw [e, si_same, e3, pW9, e4]
      · rw [si_fld _ _ _ _ (by omega), j3 q hq]
        congr 1
        omega
    obtain ⟨Y2, r1, r2⟩ := fd_h20 (K := K) (x0 := x0) hn ht hk hv kv hs h1 h2 d1 d2 f (m + 1) M _ (by omega) (by omega) nx
    refine ⟨Y2, ?_, r2⟩
    have sa := r_sia (n := n) (Zc := Y) (i := m / 4) (x := (pW9 (fB9 t k) (4 * (m / 4)) (m % 4) <<< ((8 : Int32) &&& 31)) ||| i3 (fB9 t k m : Nat)) hv.1 kv (by omega) (by omega)
    rw [g198_feeds_h20, if_neg (by rw [show (20 : Int32) = i3 20 from rfl, c_ge (by omega)]; omega), dv]
    show (mjBp (qIa (mjVw W Y) v (i3 ((m / 4 : Nat) : Int))) fun v127 => _) = _
    rw [ia, mjBp_some, wv, if_pos (ro_of hs2.1), q_mlen hs2 (by show n.1 < 90000; omega), mjBp_some]
    by_cases q : mjCmp .ge (i3 (k : Nat) + i3 (m : Nat)) (i3 (t.length : Nat)) = true
    · rw [if_pos q] at cv
      rw [if_pos q, Option.some.inj cv, sa, mjBp_some, i3_s]
      exact r1
    · rw [if_neg q] at cv
      rw [if_neg q, cv, mjBp_some, sa, mjBp_some, i3_s]
      exact r1
end WD9
