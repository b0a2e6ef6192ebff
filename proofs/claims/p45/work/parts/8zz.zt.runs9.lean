/-! the law's runs are so-/
section RN9
variable {b : Nat} {S : mjS} {Z Z2 : mjZt} {L : Nat} {xs : Nat → Int32}
theorem rn_leg (hb : Z.2.2.1 = b) (h : cBk Z b S) (hd : cDr Z b S) (ho : okS S) {t : Nat} (ht : t < sT S) (K : Int32 → Int32 → Int32 → Int32 → Int32 → mjZt → Option Int32) (x2 x4 x6 : Int32) : ∀ f l N, l + f = sTd S t → f < N → f700_runs_h94 K N x2 (i3 t) x4 (i3 (sTd S t)) x6 (i3 (sEn S t l)) (i3 ((l : Int) + 1)) Z = K x2 (i3 t) x4 x6 (i3 (sTm S t)) Z
  | 0, l, N, he, hN => by
    obtain ⟨N, rfl⟩ : ∃ N0, N = N0 + 1 := ⟨N - 1, by omega⟩
    have o1 := ok_sc ho
    have o2 := ok_tm ho ht
    have el : l = sTd S t := by omega
    rw [f700_runs_h94, if_pos (by rw [c_gt (by omega)]; omega), el]
    rfl
  | f + 1, l, N, he, hN => by
    obtain ⟨N, rfl⟩ : ∃ N0, N = N0 + 1 := ⟨N - 1, by omega⟩
    have o1 := ok_sc ho
    have o2 := ok_tm ho ht
    have hl : l < sTd S t := by omega
    have b2 := ok_leg ho ht hl
    have b4 := ok_tr ho
    have b5 := en_bd ho ht (l + 1) (by omega)
    have b6 := ps_bd ho ht (l + 1) (by omega)
    have lg := ok_lg ho
    have eA : i3 (sEn S t l) + i3 (sTn S t l) = i3 (sEn S t (l + 1)) := by rw [i3_add]; rfl
    have eP : (10 : Int32) * ((i3 ((l : Int) + 1) * i3 (S 0 1)) + i3 (sMt S t l)) = i3 (sPs S t (l + 1)) := by
      rw [i3_mul, i3_add, show (10 : Int32) = i3 10 from rfl, i3_mul]; rfl
    have eS : i3 ((l : Int) + 1) + 1 = i3 (((l + 1 : Nat) : Int) + 1) := by
      rw [show (1 : Int32) = i3 1 from rfl, i3_add]; rfl
    have ih := rn_leg hb h hd ho ht K x2 x4 x6 f (l + 1) N (by omega) (by omega)
    rw [f700_runs_h94, if_neg (by rw [c_gt (by omega)]; omega), x_leg0 hb h ho ht hl, mjBp_some, x_ab1 hb h, mjBp_some, x_leg2 hb h ho ht hl, mjBp_some, x_leg1 hb h hd ho ht hl, mjBp_some, eA, if_neg (by rw [c_ne (by omega)]; omega), x_place hb h hd ho ht (by omega), mjBp_some, pl_at ho ht hl, eP, if_neg (by rw [c_ne (by omega)]; omega), x_comes hb h hd ho ht (by omega), mjBp_some, ar_at ho ht hl, if_pos (by rw [c_eq (by omega)]), x_ab0 hb h, mjBp_some, eS, lg]
    by_cases q : sLg S ≤ l + 1
    · rw [if_pos (by rw [c_ge (by omega)]; omega)]
      exact ih
    · have bx := box_at ho ht hl (by omega)
      have eN : -(i3 (S 0 2)) = i3 (-(S 0 2)) := by rw [i3_neg]
      rw [if_neg (by rw [c_ge (by omega)]; omega), x_inBox hb h hd ho ht (by omega), mjBp_some, pl_at ho ht hl, x_ab2 hb h, mjBp_some, eN]
      by_cases q1 : sMt S t l < -(S 0 2)
      · rw [if_pos (by rw [c_lt (by omega)]; exact q1), show (if inB S (sPs S t (l + 1)) (max 1 (sLg S) - 1) 1 = true then (1 : Int32) else 0) = 0 from if_neg (fun g => by have := bx.1 g; omega), if_pos (by decide)]
        exact ih
      · rw [if_neg (by rw [c_lt (by omega)]; exact q1), x_ab3 hb h, mjBp_some]
        by_cases q2 : S 0 3 < sMt S t l
        · rw [if_pos (by rw [c_gt (by omega)]; exact q2), show (if inB S (sPs S t (l + 1)) (max 1 (sLg S) - 1) 1 = true then (1 : Int32) else 0) = 0 from if_neg (fun g => by have := bx.1 g; omega), if_pos (by decide)]
          exact ih
        · rw [if_neg (by rw [c_gt (by omega)]; exact q2), show (if inB S (sPs S t (l + 1)) (max 1 (sLg S) - 1) 1 = true then (1 : Int32) else 0) = 1 from if_pos (bx.2 (by omega)), if_pos (by decide)]
          exact ih
theorem rn_ch (hb : Z.2.2.1 = b) (h : cBk Z b S) (hd : cDr Z b S) (ho : okS S) {t : Nat} (ht : t < sT S) (K : Int32 → Int32 → mjZt → Option Int32) (x2 : Int32) : ∀ f u N, u + f = sT S → f < N → f700_runs_h299 K N x2 (i3 t) (i3 (u : Nat)) Z = K x2 (i3 t) Z
  | 0, u, N, he, hN => by
    obtain ⟨N, rfl⟩ : ∃ N0, N = N0 + 1 := ⟨N - 1, by omega⟩
    have o1 := ok_sc ho
    rw [f700_runs_h299, x_ab5 hb h, mjBp_some, if_pos (by rw [c_ge (by omega)]; omega)]
  | f + 1, u, N, he, hN => by
    obtain ⟨N, rfl⟩ : ∃ N0, N = N0 + 1 := ⟨N - 1, by omega⟩
    have o1 := ok_sc ho
    have ih := rn_ch hb h hd ho ht K x2 f (u + 1) N (by omega) (by omega)
    rw [f700_runs_h299, x_ab5 hb h, mjBp_some, if_neg (by rw [c_ge (by omega)]; omega), i3_s]
    by_cases e : u = t
    · rw [if_pos (by rw [c_eq (by omega)]; omega)]
      exact ih
    · have bd := chN_bd (fun k => sPl S t (k : Nat) - sPl S u (k : Nat)) (lasN S + 1)
      have o5 := las_bd ho
      rw [if_neg (by rw [c_eq (by omega)]; omega), x_changes hb h hd ho ht (by omega) (by omega), mjBp_some, x_changes hb h hd ho (by omega) ht e, mjBp_some, ch_sw (t := u) (u := t), if_pos (by rw [c_eq (by omega)])]
      exact ih
theorem rn_all (hb : Z.2.2.1 = b) (h : cBk Z b S) (hd : cDr Z b S) (ho : okS S) (hs : scZ Z L xs) {at9 : Nat} (ha : at9 ≤ 1000) : ∀ f t N, t + f = sT S → f < N → f700_runs_h2 N (i3 (at9 : Nat)) (i3 (t : Nat)) Z = some 1
  | 0, t, N, he, hN => by
    obtain ⟨N, rfl⟩ : ∃ N0, N = N0 + 1 := ⟨N - 1, by omega⟩
    have o1 := ok_sc ho
    rw [f700_runs_h2, x_ab5 hb h, mjBp_some, if_pos (by rw [c_ge (by omega)]; omega)]
  | f + 1, t, N, he, hN => by
    obtain ⟨N, rfl⟩ : ∃ N0, N = N0 + 1 := ⟨N - 1, by omega⟩
    have o1 := ok_sc ho
    have ht : t < sT S := by omega
    have o2 := ok_tm ho ht
    have tb := tm_bd ho ht
    have ih := rn_all hb h hd ho hs ha f (t + 1) N (by omega) (by omega)
    have eK : i3 (at9 : Nat) + i3 (t : Nat) = i3 ((at9 + t : Nat) : Int) := by rw [i3_add]; rfl
    have pk := x_pick (k := at9 + t) (n := 500) hs (by omega) (by omega)
    have pk' : f685_pick (i3 ((at9 + t : Nat) : Int)) 500 Z = some (i3 (pkN L xs (at9 + t) 500 : Nat)) := pk
    have pl := pkN_lt (L := L) (xs := xs) (k := at9 + t) (n := 500) (by omega)
    generalize pkN L xs (at9 + t) 500 = v at pk' pl
    have p0 : f159_place (i3 (t : Nat)) 0 Z = some (i3 (sPl S t 0)) := x_place hb h hd ho ht (k := 0) (by omega)
    have z0 : sPl S t 0 = 0 := pl_zero (Or.inr (Int.le_refl _))
    have eT : i3 (sTm S t) + 5 = i3 (sTm S t + 5) := by rw [show (5 : Int32) = i3 5 from rfl, i3_add]
    have up := pl_up ho ht (k := (v : Int)) (k2 := ((v + 1 : Nat) : Int)) (by omega)
    have pb1 := pl_bd ho ht (v : Int)
    have pb2 := pl_bd ho ht ((v + 1 : Nat) : Int)
    have pb3 := pl_bd ho ht (sTm S t)
    have same : sPl S t (sTm S t + 5) = sPl S t (sTm S t) := by
      by_cases e : sTd S t = 0
      · rw [pl_zero (Or.inl e), pl_zero (Or.inl e)]
      · have et : sTm S t = sEn S t (sTd S t) := rfl
        rw [pl_end ho ht (by omega) (by omega), pl_end ho ht (by omega) (by omega)]
    obtain ⟨a1, a2, a3⟩ := ar_le ho ht (k := (v : Int)) (by omega)
    have j296 : f700_runs_j296 (f700_runs_h2 N) (i3 (at9 : Nat)) (i3 (t : Nat)) Z = some 1 := by
      unfold f700_runs_j296
      have hc := rn_ch hb h hd ho ht (fun x2_Z200 x3_Z200 Z200 => f700_runs_h2 N x2_Z200 (x3_Z200 + 1) Z200) (i3 (at9 : Nat)) (sT S) 0 mjF (by omega) (by unfold mjF; omega)
      have hc' : f700_runs_h299 (fun x2_Z200 x3_Z200 Z200 => f700_runs_h2 N x2_Z200 (x3_Z200 + 1) Z200) mjF (i3 (at9 : Nat)) (i3 (t : Nat)) 0 Z = f700_runs_h2 N (i3 (at9 : Nat)) (i3 (t : Nat) + 1) Z := hc
      rw [hc', i3_s]
      exact ih
    have last : mjBp (f159_place (i3 (t : Nat)) (i3 (v : Nat)) Z) (fun v181 => mjBp (f160_comes (i3 (t : Nat)) v181 Z) fun v184 => if mjCmp .gt v184 (i3 (v : Nat)) = true then some 0 else if mjCmp .le v184 0 = true then f700_runs_j296 (f700_runs_h2 N) (i3 (at9 : Nat)) (i3 (t : Nat)) Z else mjBp (f159_place (i3 (t : Nat)) (v184 - 1) Z) fun v202 => if mjCmp .lt v202 v181 = true then f700_runs_j296 (f700_runs_h2 N) (i3 (at9 : Nat)) (i3 (t : Nat)) Z else some 0) = some 1 := by
      rw [x_place hb h hd ho ht (by omega), mjBp_some, x_comes hb h hd ho ht (by omega), mjBp_some, if_neg (by rw [c_gt (by omega)]; omega)]
      by_cases q : sAr S t (sPl S t (v : Int)) ≤ 0
      · rw [if_pos (by rw [show (0 : Int32) = i3 0 from rfl, c_le (by omega)]; exact q)]
        exact j296
      · have pb4 := pl_bd ho ht (sAr S t (sPl S t (v : Int)) - 1)
        rw [if_neg (by rw [show (0 : Int32) = i3 0 from rfl, c_le (by omega)]; exact q), show (1 : Int32) = i3 1 from rfl, i3_sub, x_place hb h hd ho ht (by omega), mjBp_some, if_pos (by rw [c_lt (by omega)]; exact a3 (by omega))]
        exact j296
    have hl := fun K => rn_leg hb h hd ho ht K (i3 (at9 : Nat)) (i3 (sTm S t)) (i3 (v : Nat)) (sTd S t) 0 mjF (by omega) (by unfold mjF; omega)
    have hl' : ∀ K, f700_runs_h94 K mjF (i3 (at9 : Nat)) (i3 (t : Nat)) (i3 (sTm S t)) (i3 (sTd S t)) (i3 (v : Nat)) 0 1 Z = K (i3 (at9 : Nat)) (i3 (t : Nat)) (i3 (sTm S t)) (i3 (v : Nat)) (i3 (sTm S t)) Z := hl
    rw [f700_runs_h2, x_ab5 hb h, mjBp_some, if_neg (by rw [c_ge (by omega)]; omega), x_team2 hb h hd ho ht, mjBp_some, x_team1 hb h ho ht, mjBp_some, eK, pk', mjBp_some, i3_s, x_place hb h hd ho ht (by omega), mjBp_some, x_place hb h hd ho ht (by omega), mjBp_some, if_neg (by rw [c_lt (by omega)]; omega), p0, mjBp_some, z0, if_neg (by decide), eT, x_place hb h hd ho ht (by omega), mjBp_some, x_place hb h hd ho ht (by omega), mjBp_some, same, if_pos (by rw [c_eq (by omega)]), hl']
    show (if mjCmp .eq (i3 (sTm S t)) (i3 (sTm S t)) = true then _ else _) = some 1
    rw [if_pos (by rw [c_eq (by omega)])]
    exact last
theorem runs_ok (hb : Z.2.2.1 = b) (h : cBk Z b S) (hd : cDr Z b S) (ho : okS S) (hs : scZ Z L xs) {at9 : Nat} (ha : at9 ≤ 1000) : f700_runs (i3 (at9 : Nat)) Z = some 1 := rn_all hb h hd ho hs ha (sT S) 0 mjF (by omega) (by have := ok_sc ho; unfold mjF; omega)
end RN9
