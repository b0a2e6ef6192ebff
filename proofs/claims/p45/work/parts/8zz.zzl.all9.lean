/-! the law asks for all-/
def avF (Z : mjZt) (k : Nat) : Option Int32 := if k < 5 then f182_who (i3 (k : Nat)) Z else if k < 29 then (if (k - 5) % 4 = 0 then f180_rank (i3 (((k - 5) / 4 : Nat) : Int)) Z else if (k - 5) % 4 = 1 then f183_would (i3 (((k - 5) / 4 : Nat) : Int)) Z else if (k - 5) % 4 = 2 then f179_struck (i3 (((k - 5) / 4 : Nat) : Int)) 2 Z else f156_team (i3 (((k - 5) / 4 : Nat) : Int)) 2 Z) else if k < 53 then (if (k - 29) % 2 = 0 then f170_act (i3 (((k - 29) / 2 : Nat) : Int)) 3 Z else f170_act (i3 (((k - 29) / 2 : Nat) : Int)) 5 Z) else f187_again Z
section AL9
variable {sg : Nat → Nat} {W : mjWt} {Zc Zc2 Y : mjZt} {n : Nat × Nat} {v b N U N2 U2 : Nat} {S : mjS} {E E2 : Nat → Nat → Int}
theorem av_same (h : cI9 Zc b S N U E) (g : cI9 Zc2 b S N2 U2 E2) (k : Nat) : ∃ x, avF Zc k = some x ∧ avF Zc2 k = some x := by
  unfold avF
  by_cases q1 : k < 5
  · rw [if_pos q1, if_pos q1]; exact s_who h g _
  · rw [if_neg q1, if_neg q1]
    by_cases q2 : k < 29
    · rw [if_pos q2, if_pos q2]
      by_cases r0 : (k - 5) % 4 = 0
      · rw [if_pos r0, if_pos r0]; exact s_rank h g _
      · rw [if_neg r0, if_neg r0]
        by_cases r1 : (k - 5) % 4 = 1
        · rw [if_pos r1, if_pos r1]; exact s_would h g _
        · rw [if_neg r1, if_neg r1]
          by_cases r2 : (k - 5) % 4 = 2
          · rw [if_pos r2, if_pos r2]; exact s_struck h g _ _
          · rw [if_neg r2, if_neg r2]; exact s_team h g _ _
    · rw [if_neg q2, if_neg q2]
      by_cases q3 : k < 53
      · rw [if_pos q3, if_pos q3]
        by_cases r0 : (k - 29) % 2 = 0
        · rw [if_pos r0, if_pos r0]; exact s_act h g _ _
        · rw [if_neg r0, if_neg r0]; exact s_act h g _ _
      · rw [if_neg q3, if_neg q3]; exact s_again h g
/-- the first m cells told-/
def avI (Zc Y : mjZt) (v m : Nat) : Prop := Y.2.2 = Zc.2.2 ∧ (∀ a, a ≠ v → Y.1 a = Zc.1 a ∧ Y.2.1 a = Zc.2.1 a) ∧ ∀ k, k < m → avF (hid9 Zc) k = some (Y.1 v k)
theorem av_cI (hi : cI9 Zc b S N U E) (hv : 251 ≤ v) {m : Nat} (h : avI Zc Y v m) : cI9 (hid9 Y) b S N U E := cI_hid (cI_lo hi (fun a ha => h.2.1 a (by omega)) h.1)
theorem av_st (hi : cI9 Zc b S N U E) (hW : mjWok W) (hk : W.2 v = (113, 54)) (hv : 251 ≤ v) {m : Nat} (hm : m < 54) (h : avI Zc Y v m) {f : mjZt → Option Int32} (hf : ∀ Z, f Z = avF Z m) : ∃ x, qClp f (n, mjVw W Y) = some x ∧ qSia (n, mjVw W Y) v (i3 (m : Nat)) x = some (n, mjVw W (zSi Y v m x)) ∧ avI Zc (zSi Y v m x) v (m + 1) := by
  obtain ⟨x, x1, x2⟩ := av_same (cI_hid hi) (av_cI hi hv h) m
  refine ⟨x, clp_vw hW (by rw [hf]; exact x2), r_sia hv hk hm (by omega), h.1, fun a ha => ⟨by rw [si_obj _ _ _ _ ha]; exact (h.2.1 a ha).1, (h.2.1 a ha).2⟩, fun k hk9 => ?_⟩
  by_cases e : k = m
  · rw [e, si_same]; exact x1
  · rw [si_fld _ _ _ _ (by omega)]; exact h.2.2 k (by omega)
theorem av_ac (hi : cI9 Zc b S N U E) (hW : mjWok W) (hk : W.2 v = (113, 54)) (hv : 251 ≤ v) : ∀ f i M (Y : mjZt), i + f = 12 → f < M → avI Zc Y v (29 + 2 * i) → ∃ Y2, g199_all_h93 sg M 0 v (i3 ((29 + 2 * i : Nat) : Int)) (i3 (i : Nat)) (n, mjVw W Y) = some (v, (n, mjVw W Y2)) ∧ avI Zc Y2 v 54
  | 0, i, M, Y, he, hM, h => by
    obtain ⟨M, rfl⟩ : ∃ N0, M = N0 + 1 := ⟨M - 1, by omega⟩
    have ei : i = 12 := by omega
    rw [ei] at h ⊢
    obtain ⟨x, x1, x2, x3⟩ := av_st (n := n) hi hW hk hv (m := 53) (by omega) h (f := fun Zc => f187_again Zc) (fun Z => rfl)
    refine ⟨_, ?_, x3⟩
    have x2' : qSia (n, mjVw W Y) v (i3 ((29 + 2 * 12 : Nat) : Int)) x = some (n, mjVw W (zSi Y v 53 x)) := x2
    rw [g199_all_h93, if_pos (by decide), if_pos rfl, if_pos ro_0, x1, mjBp_some, x2', mjBp_some]
  | f + 1, i, M, Y, he, hM, h => by
    obtain ⟨M, rfl⟩ : ∃ N0, M = N0 + 1 := ⟨M - 1, by omega⟩
    have e0 : (29 + 2 * i - 29) % 2 = 0 := by omega
    have e1 : (29 + 2 * i - 29) / 2 = i := by omega
    have e2 : (29 + 2 * i + 1 - 29) % 2 = 1 := by omega
    have e3 : (29 + 2 * i + 1 - 29) / 2 = i := by omega
    obtain ⟨x, x1, x2, x3⟩ := av_st (n := n) hi hW hk hv (m := 29 + 2 * i) (by omega) h (f := fun Zc => f170_act (i3 (i : Nat)) 3 Zc) (fun Z => by unfold avF; rw [if_neg (by omega), if_neg (by omega), if_pos (by omega), if_pos e0, e1])
    obtain ⟨y, y1, y2, y3⟩ := av_st (n := n) hi hW hk hv (m := 29 + 2 * i + 1) (by omega) x3 (f := fun Zc => f170_act (i3 (i : Nat)) 5 Zc) (fun Z => by unfold avF; rw [if_neg (by omega), if_neg (by omega), if_pos (by omega), if_neg (by omega), e3])
    obtain ⟨Y2, r1, r2⟩ := av_ac hi hW hk hv f (i + 1) M (zSi (zSi Y v (29 + 2 * i) x) v (29 + 2 * i + 1) y) (by omega) (by omega) y3
    refine ⟨Y2, ?_, r2⟩
    rw [g199_all_h93, if_neg (by rw [show (12 : Int32) = i3 12 from rfl, c_ge (by omega)]; omega), if_pos rfl, if_pos ro_0, x1, mjBp_some, x2, mjBp_some, if_pos ro_0, y1, mjBp_some, i3_s, y2, mjBp_some, i3_s, i3_s]
    exact r1
theorem av_tm (hi : cI9 Zc b S N U E) (hW : mjWok W) (hk : W.2 v = (113, 54)) (hv : 251 ≤ v) : ∀ f t M (Y : mjZt), t + f = 6 → f < M → avI Zc Y v (5 + 4 * t) → ∃ Y2, g199_all_h33 sg M 0 v (i3 ((5 + 4 * t : Nat) : Int)) (i3 (t : Nat)) (n, mjVw W Y) = some (v, (n, mjVw W Y2)) ∧ avI Zc Y2 v 54
  | 0, t, M, Y, he, hM, h => by
    obtain ⟨M, rfl⟩ : ∃ N0, M = N0 + 1 := ⟨M - 1, by omega⟩
    have ei : t = 6 := by omega
    rw [ei] at h ⊢
    obtain ⟨Y2, r1, r2⟩ := av_ac (sg := sg) (n := n) hi hW hk hv 12 0 mjF Y (by omega) (by unfold mjF; omega) h
    refine ⟨Y2, ?_, r2⟩
    rw [g199_all_h33, if_pos (by decide)]
    exact r1
  | f + 1, t, M, Y, he, hM, h => by
    obtain ⟨M, rfl⟩ : ∃ N0, M = N0 + 1 := ⟨M - 1, by omega⟩
    obtain ⟨x, x1, x2, x3⟩ := av_st (n := n) hi hW hk hv (m := 5 + 4 * t) (by omega) h (f := fun Zc => f180_rank (i3 (t : Nat)) Zc) (fun Z => by unfold avF; rw [if_neg (by omega), if_pos (by omega), if_pos (by omega), show (5 + 4 * t - 5) / 4 = t by omega])
    obtain ⟨y, y1, y2, y3⟩ := av_st (n := n) hi hW hk hv (m := 5 + 4 * t + 1) (by omega) x3 (f := fun Zc => f183_would (i3 (t : Nat)) Zc) (fun Z => by unfold avF; rw [if_neg (by omega), if_pos (by omega), if_neg (by omega), if_pos (by omega), show (5 + 4 * t + 1 - 5) / 4 = t by omega])
    obtain ⟨z, z1, z2, z3⟩ := av_st (n := n) hi hW hk hv (m := 5 + 4 * t + 1 + 1) (by omega) y3 (f := fun Zc => f179_struck (i3 (t : Nat)) 2 Zc) (fun Z => by unfold avF; rw [if_neg (by omega), if_pos (by omega), if_neg (by omega), if_neg (by omega), if_pos (by omega), show (5 + 4 * t + 1 + 1 - 5) / 4 = t by omega])
    obtain ⟨w, w1, w2, w3⟩ := av_st (n := n) hi hW hk hv (m := 5 + 4 * t + 1 + 1 + 1) (by omega) z3 (f := fun Zc => f156_team (i3 (t : Nat)) 2 Zc) (fun Z => by unfold avF; rw [if_neg (by omega), if_pos (by omega), if_neg (by omega), if_neg (by omega), if_neg (by omega), show (5 + 4 * t + 1 + 1 + 1 - 5) / 4 = t by omega])
    obtain ⟨Y2, r1, r2⟩ := av_tm hi hW hk hv f (t + 1) M _ (by omega) (by omega) w3
    refine ⟨Y2, ?_, r2⟩
    rw [g199_all_h33, if_neg (by rw [show (6 : Int32) = i3 6 from rfl, c_ge (by omega)]; omega), if_pos rfl, if_pos ro_0, x1, mjBp_some, x2, mjBp_some, if_pos ro_0, y1, mjBp_some, i3_s, y2, mjBp_some, if_pos ro_0, z1, mjBp_some, i3_s, z2, mjBp_some, if_pos ro_0, w1, mjBp_some, i3_s, w2, mjBp_some, i3_s, i3_s]
    exact r1
theorem av_wh (hi : cI9 Zc b S N U E) (hW : mjWok W) (hk : W.2 v = (113, 54)) (hv : 251 ≤ v) : ∀ f t M (Y : mjZt), t + f = 5 → f < M → avI Zc Y v t → ∃ Y2, g199_all_h9 sg M 0 v (i3 (t : Nat)) (i3 (t : Nat)) (n, mjVw W Y) = some (v, (n, mjVw W Y2)) ∧ avI Zc Y2 v 54
  | 0, t, M, Y, he, hM, h => by
    obtain ⟨M, rfl⟩ : ∃ N0, M = N0 + 1 := ⟨M - 1, by omega⟩
    have ei : t = 5 := by omega
    rw [ei] at h ⊢
    obtain ⟨Y2, r1, r2⟩ := av_tm (sg := sg) (n := n) hi hW hk hv 6 0 mjF Y (by omega) (by unfold mjF; omega) h
    refine ⟨Y2, ?_, r2⟩
    rw [g199_all_h9, if_pos (by decide)]
    exact r1
  | f + 1, t, M, Y, he, hM, h => by
    obtain ⟨M, rfl⟩ : ∃ N0, M = N0 + 1 := ⟨M - 1, by omega⟩
    obtain ⟨x, x1, x2, x3⟩ := av_st (n := n) hi hW hk hv (m := t) (by omega) h (f := fun Zc => f182_who (i3 (t : Nat)) Zc) (fun Z => by unfold avF; rw [if_pos (by omega)])
    obtain ⟨Y2, r1, r2⟩ := av_wh hi hW hk hv f (t + 1) M _ (by omega) (by omega) x3
    refine ⟨Y2, ?_, r2⟩
    rw [g199_all_h9, if_neg (by rw [show (5 : Int32) = i3 5 from rfl, c_ge (by omega)]; omega), if_pos rfl, if_pos ro_0, x1, mjBp_some, x2, mjBp_some, i3_s]
    exact r1
/-- all, in a row of its own-/
theorem r_all (hi : cI9 Zc b S N U E) (hW : mjWok W) (hv : 251 ≤ v) (hv2 : v < 1000000) (hn : n.1 < 100000) (hs : sg n.1 = v) : ∃ Y, g199_all sg 0 (n, mjVw W Zc) = some (v, ((n.1 + 1, n.2 + 54), mjVw (nwW W v (113, 54)) Y)) ∧ avI (nwZ Zc v) Y v 54 ∧ cI9 (nwZ Zc v) b S N U E ∧ mjWok (nwW W v (113, 54)) := by
  have hi2 : cI9 (nwZ Zc v) b S N U E := cI_lo hi (fun a ha => by
    refine ⟨?_, ?_⟩
    · funext j; exact if_neg (by omega)
    · funext j; exact if_neg (by omega)) rfl
  have hW2 : mjWok (nwW W v (113, 54)) := fun a ha => by
    show (if a = v then ((113, 54) : Nat × Nat) else W.2 a).1 = 99
    rw [if_neg (by omega)]
    exact hW a ha
  have hk : (nwW W v (113, 54)).2 v = (113, 54) := if_pos rfl
  obtain ⟨Y, r1, r2⟩ := av_wh (sg := sg) (n := (n.1 + 1, n.2 + 54)) hi2 hW2 hk hv 5 0 mjF (nwZ Zc v) (by omega) (by unfold mjF; omega) ⟨rfl, fun _ _ => ⟨rfl, rfl⟩, fun k hk => by omega⟩
  refine ⟨Y, ?_, r2, hi2, hW2⟩
  have e := r_new (Zc := Zc) (W := W) (len := 54) hn hs hv (by omega)
  have e' : qNewA sg (n, mjVw W Zc) 113 54 = some (v, ((n.1 + 1, n.2 + 54), mjVw (nwW W v (113, 54)) (nwZ Zc v))) := e
  unfold g199_all
  rw [e', mjBq_some]
  exact r1
end AL9
