/-! the law's feeds, all-/
section FG9
variable {sg : Nat → Nat} {s r : Nat} {t : List Int32} {Q : Nat → Prop}
theorem fB_255 (ht : ch9 t) (k m : Nat) : fB9 t k m ≤ 255 := by
  unfold fB9
  by_cases q : k + m < t.length
  · rw [if_pos q]
    have := (ht (k + m) q).1
    omega
  · rw [if_neg q]; omega
theorem fB_seq {k : Nat} : (List.range k).map (fB9 t 0) ++ (List.range 20).map (fB9 t k) = (List.range (k + 20)).map (fB9 t 0) := by
  have e : fB9 t k = fB9 t 0 ∘ fun x => k + x := by
    funext m
    show fB9 t k m = fB9 t 0 (k + m)
    unfold fB9
    rw [Nat.zero_add]
  rw [List.range_add, List.map_append, List.map_map, ← e]
theorem fd_h4 (ht : ch9 t) (hl : t.length ≤ 681) (h1 : 251 ≤ s) (h2 : 251 ≤ r) (q1 : ¬ Q s) (q2 : ¬ Q r) : ∀ f i M (n : Nat × Nat) (W : mjWt) (Zc : mjZt), i + f = 35 → f < M → n.1 + f < 88000 → (∀ j, n.1 ≤ j → j < n.1 + f → Q (sg j) ∧ 251 ≤ sg j ∧ sg j < 1000000) → mjWok W → sS (n, mjVw W Zc) s r t → tpC Zc ((List.range (20 * i)).map (fB9 t 0)) → ∃ (n2 : Nat × Nat) (W2 : mjWt) (K : Nat) (Y : mjZt), n.1 ≤ n2.1 ∧ n2.1 ≤ n.1 + f ∧ n2.2 ≤ n.2 + 5 * f ∧ mjWok W2 ∧ fF9 Q W W2 Zc Y ∧ K ≤ 35 ∧ t.length ≤ 20 * K ∧ Y.1 0 1 = i3 (t.length : Nat) ∧ (∀ k, Y.1 1 k = i3 (((List.range (20 * K)).map (fB9 t 0)).getD k 0 : Nat)) ∧ g198_feeds_h4 sg M 0 s (i3 ((20 * i : Nat) : Int)) (i3 ((20 * i : Nat) : Int)) (n, mjVw W Zc) = some (1, (n2, mjVw W2 Y)) := by
  intro f
  induction f with
  | zero =>
    intro i M n W Zc he hM hn hQ hW hs hu
    obtain ⟨M, rfl⟩ : ∃ N0, M = N0 + 1 := ⟨M - 1, by omega⟩
    have ll : ((List.range (20 * i)).map (fB9 t 0)).length = 20 * i := by rw [List.length_map, List.length_range]
    refine ⟨n, W, i, zSi (hid9 Zc) 0 1 (i3 (t.length : Nat)), by omega, by omega, by omega, hW, ⟨rfl, fun a a1 a2 a3 a4 => (si_obj _ _ _ _ a1).trans (if_neg a3), fun a a3 a4 => if_neg a3, fun a _ => ⟨rfl, rfl⟩⟩, by omega, by omega, si_same _ _ _ _, fun k => ?_, fd_end h1 h2 hW (by omega) (by omega) hs hu ll (by omega)⟩
    exact hu.2.2.2 k
  | succ f ih =>
    intro i M n W Zc he hM hn hQ hW hs hu
    obtain ⟨M, rfl⟩ : ∃ N0, M = N0 + 1 := ⟨M - 1, by omega⟩
    have ll : ((List.range (20 * i)).map (fB9 t 0)).length = 20 * i := by rw [List.length_map, List.length_range]
    by_cases hc : t.length ≤ 20 * i
    · refine ⟨n, W, i, zSi (hid9 Zc) 0 1 (i3 (t.length : Nat)), by omega, by omega, by omega, hW, ⟨rfl, fun a a1 a2 a3 a4 => (si_obj _ _ _ _ a1).trans (if_neg a3), fun a a3 a4 => if_neg a3, fun a _ => ⟨rfl, rfl⟩⟩, by omega, by omega, si_same _ _ _ _, fun k => ?_, fd_end h1 h2 hW (by omega) (by omega) hs hu ll (by omega)⟩
      exact hu.2.2.2 k
    · obtain ⟨hq, hv1, hv2⟩ := hQ n.1 (by omega) (by omega)
      have d1 : s ≠ sg n.1 := fun e => q1 (e ▸ hq)
      have d2 : r ≠ sg n.1 := fun e => q2 (e ▸ hq)
      have nw := r_new (Zc := Zc) (W := W) (n := n) (len := 5) (v := sg n.1) (by omega) rfl hv1 (by omega)
      have hs1 := sS_nw (v := sg n.1) (q := (113, 5)) (m := n.2 + 5) hs h1 h2 d1 d2
      have hW1 : mjWok (nwW W (sg n.1) (113, 5)) := fun a ha => by
        show (if a = sg n.1 then ((113, 5) : Nat × Nat) else W.2 a).1 = 99
        rw [if_neg (by omega)]
        exact hW a ha
      have kv : (nwW W (sg n.1) (113, 5)).2 (sg n.1) = (113, 5) := if_pos rfl
      obtain ⟨Y2, e2, j1, j2, j3⟩ := fd_h20 (n := (n.1 + 1, n.2 + 5)) (x0 := 0) (k := 20 * i) (K := fun x0_Z141 x1_Z141 x3_Z141 x4_Z141 Z141 =>
        mjBp (qIa Z141.2 x4_Z141 0) fun v142 =>
        mjBp (qIa Z141.2 x4_Z141 1) fun v144 =>
        mjBp (qIa Z141.2 x4_Z141 2) fun v146 =>
        mjBp (qIa Z141.2 x4_Z141 3) fun v148 =>
        mjBp (qIa Z141.2 x4_Z141 4) fun v150 =>
        if x0_Z141 = 0 then
        if mjRo Z141.2 x0_Z141 11 = true then
        mjBq (qCl (fun Zc => f149_feed v142 v144 v146 v148 v150 Zc) Z141) fun v154 Z153 =>
        g198_feeds_h4 sg M x0_Z141 x1_Z141 v154 (x3_Z141 + 20) Z153
        else none
        else none) (by show n.1 + 1 < 89000; omega) ht (by omega) ⟨hv1, hv2⟩ kv hs1 h1 h2 d1 d2 20 0 mjF (nwZ Zc (sg n.1)) (by omega) (by unfold mjF; omega) ⟨rfl, fun _ _ => ⟨rfl, rfl⟩, fun k hk => by
          rw [show min 4 (0 - 4 * k) = 0 from by omega]
          exact if_pos rfl⟩
      have ra : ∀ x, x < 5 → qIa (mjVw (nwW W (sg n.1) (113, 5)) Y2) (sg n.1) (i3 (x : Nat)) = some (pW9 (fB9 t (20 * i)) (4 * x) 4) := fun x hx => by
        have := r_ia (Zc := Y2) (i := x) hv1 (by omega) kv hx (by omega)
        rw [this, j3 x hx, show min 4 (20 - 4 * x) = 4 from by omega]
      have hu2 : tpC (hid9 Y2) ((List.range (20 * i)).map (fB9 t 0)) := by
        refine tp_hid ⟨hu.1, hu.2.1, ?_, fun k => ?_⟩
        · rw [(j2 0 (by omega)).1]
          exact (if_neg (by omega)).trans hu.2.2.1
        · rw [(j2 1 (by omega)).1]
          exact (if_neg (by omega)).trans (hu.2.2.2 k)
      obtain ⟨Y3, y1, y2, y3⟩ := y_feed (a := fB9 t (20 * i)) (fun m => fB_255 ht _ m) hu2 (by rw [ll]; omega)
      have cc := cl_vw (n := (n.1 + 1, n.2 + 5)) hW1 (f := fun Zc => f149_feed _ _ _ _ _ Zc) y1
      rw [fB_seq, show 20 * i + 20 = 20 * (i + 1) from by omega] at y2
      have hs3 : sS ((n.1 + 1, n.2 + 5), mjVw (nwW W (sg n.1) (113, 5)) Y3) s r t := sS_vw hs1 h1 h2 (((y3.2 s (by omega) (by omega)).trans (if_neg (by omega))).trans (j2 s d1).1) (((y3.2 r (by omega) (by omega)).trans (if_neg (by omega))).trans (j2 r d2).1)
      obtain ⟨n2, W2, K, Y, u1, u2, u3, u4, u5, u6, u7, u8, u9, u10⟩ := ih (i + 1) M (n.1 + 1, n.2 + 5) (nwW W (sg n.1) (113, 5)) Y3 (by omega) (by omega) (by show n.1 + 1 + f < 88000; omega) (fun j ja jb => hQ j (by have : n.1 + 1 ≤ j := ja; omega) (by have : j < n.1 + 1 + f := jb; omega)) hW1 hs3 y2
      have f1 : fF9 Q W (nwW W (sg n.1) (113, 5)) Zc Y3 := by
        refine ⟨?_, fun a a1 a2 a3 a4 => ?_, fun a a3 a4 => ?_, fun a a4 => ?_⟩
        · rw [y3.1]; exact j1
        · have dd : a ≠ sg n.1 := fun e => a4 (e ▸ hq)
          rw [y3.2 a a1 a2]
          refine (if_neg a3).trans ((j2 a dd).1.trans ?_)
          funext j; exact if_neg dd
        · have dd : a ≠ sg n.1 := fun e => a4 (e ▸ hq)
          rw [y3.1]
          refine (if_neg a3).trans ((j2 a dd).2.trans ?_)
          funext j; exact if_neg dd
        · have dd : a ≠ sg n.1 := fun e => a4 (e ▸ hq)
          refine ⟨if_neg dd, ?_⟩
          funext j; exact if_neg dd
      refine ⟨n2, W2, K, Y, by have : n.1 + 1 ≤ n2.1 := u1; omega, by have : n2.1 ≤ n.1 + 1 + f := u2; omega, by have : n2.2 ≤ n.2 + 5 + 5 * f := u3; omega, u4, fF_tr f1 u5, u6, u7, u8, u9, ?_⟩
      rw [g198_feeds_h4, if_pos (ro_of hs.1), q_mlen hs (by show n.1 < 90000; omega), mjBp_some, if_neg (by rw [c_ge (by omega)]; omega)]
      have nw' : qNewA sg (n, mjVw W Zc) 113 5 = _ := nw
      rw [nw', mjBq_some]
      refine e2.trans ?_
      have a0 : qIa (mjVw (nwW W (sg n.1) (113, 5)) Y2) (sg n.1) 0 = _ := ra 0 (by omega)
      have a1 : qIa (mjVw (nwW W (sg n.1) (113, 5)) Y2) (sg n.1) 1 = _ := ra 1 (by omega)
      have a2 : qIa (mjVw (nwW W (sg n.1) (113, 5)) Y2) (sg n.1) 2 = _ := ra 2 (by omega)
      have a3 : qIa (mjVw (nwW W (sg n.1) (113, 5)) Y2) (sg n.1) 3 = _ := ra 3 (by omega)
      have a4 : qIa (mjVw (nwW W (sg n.1) (113, 5)) Y2) (sg n.1) 4 = _ := ra 4 (by omega)
      dsimp only
      rw [a0, mjBp_some, a1, mjBp_some, a2, mjBp_some, a3, mjBp_some, a4, mjBp_some, if_pos rfl, if_pos ro_0]
      have cc' : qCl (fun Zc => f149_feed (pW9 (fB9 t (20 * i)) (4 * 0) 4) (pW9 (fB9 t (20 * i)) (4 * 1) 4) (pW9 (fB9 t (20 * i)) (4 * 2) 4) (pW9 (fB9 t (20 * i)) (4 * 3) 4) (pW9 (fB9 t (20 * i)) (4 * 4) 4) Zc) ((n.1 + 1, n.2 + 5), mjVw (nwW W (sg n.1) (113, 5)) Y2) = _ := cc
      rw [cc', mjBq_some, ll, show (20 : Int32) = i3 20 from rfl, i3_add, show ((20 * i : Nat) : Int) + 20 = ((20 * (i + 1) : Nat) : Int) from by omega, show 20 * i + 20 = 20 * (i + 1) from by omega]
      exact u10
end FG9
