/-! the lines that are grown, as tokens-/
theorem wd_T9 : ∀ k, k < 4 → isW ([116] ++ nt (chW k)) = true ∧ wdL ([116] ++ nt (chW k)) = 29793 + k := by decide
theorem wd_R9 : ∀ k, k < 3 → isW ([114] ++ nt (chW k)) = true ∧ wdL ([114] ++ nt (chW k)) = 29281 + k := by decide
theorem wd_K9 : ∀ k, k < 5 → isW (nt (txS (1000046 + k))) = true ∧ wdL (nt (txS (1000046 + k))) = LK.getD k 0 := by decide
theorem gx_L9 : ∀ k, k < 7 → gX LL 7 (LL.getD k 0) = ((k : Nat) : Int) := by decide
section LT
variable {u v : List Nat} {a b ts : List (Nat × Nat)} {w : Bool}
theorem R_T9 {k : Nat} (hk : k < 4) : Rd true ([116] ++ nt (chW k)) [(1, 29793 + k)] := by
  obtain ⟨h1, h2⟩ := wd_T9 k hk
  have := Rd_w h1
  rw [h2] at this; exact this
theorem R_R9 {k : Nat} (hk : k < 3) : Rd true ([114] ++ nt (chW k)) [(1, 29281 + k)] := by
  obtain ⟨h1, h2⟩ := wd_R9 k hk
  have := Rd_w h1
  rw [h2] at this; exact this
theorem R_K9 {k : Nat} (hk : k < 5) : Rd true (nt (txS (1000046 + k))) [(1, LK.getD k 0)] := by
  obtain ⟨h1, h2⟩ := wd_K9 k hk
  have := Rd_w h1
  rw [h2] at this; exact this
theorem Rd_wb (h : Rd true u a) (g : Rd w v b) : Rd w (u ++ ([32] ++ v)) (a ++ b) := Rd_ap2 h (Rd_ap (a := []) Rd_b g) ⟨by rw [List.length_append]; show 1 ≤ 1 + _; omega, rfl, rfl⟩
theorem Rd_end (h : Rd true u a) : Rd false (u ++ [59]) (a ++ [(3, 59)]) := Rd_ap2 h (Rd_sg (by decide)) ⟨Nat.le_refl _, rfl, rfl⟩
theorem R_m9 {m : Int} (h : -20 ≤ m ∧ m ≤ 20) : Rd true (nt (decZ m)) (if m < 0 then [(3, 45), (2, (-m).toNat)] else [(2, m.toNat)]) := by
  by_cases e : m < 0
  · rw [if_pos e]; exact Rd_Zn (by omega)
  · rw [if_neg e]
    have q : m = ((m.toNat : Nat) : Int) := by omega
    have r := Rd_Z (m := m.toNat) (by omega)
    rw [← q] at r
    exact r
end LT
def rdF (b : Nat) : Nat → mjZt → Option (Int32 × mjZt)
  | 1 => f120_readTeam b
  | 2 => f123_readRuns b
  | 3 => f124_readAct b
  | 4 => f125_readRule b
  | 5 => f126_readThrough b
  | _ => f127_readWithin b
def lineT (X : Nat → Nat) (n b Lg : Nat) (a a2 : mjK) (u : List Int32) : Prop := ∃ (k : Nat) (ts : List (Nat × Nat)), 1 ≤ k ∧ k ≤ 6 ∧ Rd false (nt u) ((1, LL.getD k 0) :: (ts ++ [(3, 59)])) ∧ lnOk X n b Lg a a2 ((1, LL.getD k 0) :: ts) (rdF b k)
section LL9
variable {X : Nat → Nat} {n b Lg : Nat} {a a2 : mjK} {u : List Int32}
theorem l_tm (hb : b = 2 ∨ b = 92) (hn : n ≤ 700) (hX : ∀ k, X k ≤ 255) (h : lnTm a a2 u) : lineT X n b Lg a a2 u := by
  obtain ⟨l, h1, h2, h3, h4, hu, ha⟩ := h
  have e1 : nt (txS 1000044) = [116, 101, 97, 109] ++ ([32] ++ [116]) := by decide
  have e2 : nt (txS 1000042) = [32] := by decide
  have e3 : nt (txS 1000043) = [59] := by decide
  refine ⟨1, [(1, 29793 + a.1.length), (2, l)], by omega, by omega, ?_, by rw [ha]; exact ln_team hb hn hX ⟨h1, h2⟩ h3 h4⟩
  have w1 : Rd true [116, 101, 97, 109] [(1, 1952801133)] := Rd_w (by decide)
  have eu : nt u = [116, 101, 97, 109] ++ ([32] ++ (([116] ++ nt (chW a.1.length)) ++ ([32] ++ (nt (decZ ((l : Nat) : Int)) ++ [59])))) := by
    rw [hu, nt_ap, nt_ap, nt_ap, nt_ap, e1, e2, e3, List.append_assoc, List.append_assoc, List.append_assoc]
  rw [eu]
  exact Rd_wb w1 (Rd_wb (R_T9 (by omega)) (Rd_end (Rd_Z (by omega))))
theorem l_ru (hb : b = 2 ∨ b = 92) (hn : n ≤ 700) (hX : ∀ k, X k ≤ 255) (hL : Lg ≤ 4) (hT : a.1.length ≤ 3) (h : lnRu Lg a a2 u) : lineT X n b Lg a a2 u := by
  obtain ⟨k, te, m, h1, h2, h3, h4, h5, h6, h7, hu, ha⟩ := h
  have e1 : nt (txS 1000045) = [114, 117, 110, 115] ++ ([32] ++ [116]) := by decide
  have e2 : nt (txS 1000042) = [32] := by decide
  have e3 : nt (txS 1000043) = [59] := by decide
  refine ⟨2, [(1, 29793 + k), (2, te)] ++ (if m < 0 then [(3, 45), (2, (-m).toNat)] else [(2, m.toNat)]), by omega, by omega, ?_, by rw [ha]; exact ln_runs hb hn hX h1 h2 hL ⟨h3, h4⟩ ⟨h5, h6⟩ h7⟩
  have w1 : Rd true [114, 117, 110, 115] [(1, 1920298611)] := Rd_w (by decide)
  have eu : nt u = [114, 117, 110, 115] ++ ([32] ++ (([116] ++ nt (chW k)) ++ ([32] ++ (nt (decZ ((te : Nat) : Int)) ++ ([32] ++ (nt (decZ m) ++ [59])))))) := by
    rw [hu, nt_ap, nt_ap, nt_ap, nt_ap, nt_ap, nt_ap, e1, e2, e3, List.append_assoc, List.append_assoc, List.append_assoc]
  rw [eu]
  exact Rd_wb w1 (Rd_wb (R_T9 (by omega)) (Rd_wb (Rd_Z (by omega)) (Rd_end (R_m9 ⟨h5, h6⟩))))
theorem l_ac (hb : b = 2 ∨ b = 92) (hn : n ≤ 700) (hX : ∀ k, X k ≤ 255) (hT : a.1.length ≤ 3) (h : lnAc a a2 u) : lineT X n b Lg a a2 u := by
  obtain ⟨kd, tm, ot, te, sz, h1, h2, h3, h4, h5, h6, hu, ha⟩ := h
  have e1 : nt (txS 1000051) = [97, 99, 116] ++ [32] := by decide
  have e2 : nt (txS 1000042) = [32] := by decide
  have e3 : nt (txS 1000043) = [59] := by decide
  have e4 : nt (txS 1000052) = [32] ++ [116] := by decide
  have RK := R_K9 (k := kd) (by omega)
  refine ⟨3, (1, LK.getD kd 0) :: (1, 29793 + tm) :: ((if kd = 3 then [(1, 29793 + ot)] else []) ++ [(2, te), (2, sz)]), by omega, by omega, ?_, by rw [ha]; exact ln_act hb hn hX h1 h2 h3 h4 h5 h6⟩
  have w1 : Rd true [97, 99, 116] [(1, 6382452)] := Rd_w (by decide)
  by_cases k3 : kd = 3
  · have h3' := h3 k3
    rw [if_pos k3]
    rw [if_pos k3] at hu
    have eu : nt u = [97, 99, 116] ++ ([32] ++ (nt (txS (1000046 + kd)) ++ ([32] ++ (([116] ++ nt (chW tm)) ++ ([32] ++ (([116] ++ nt (chW ot)) ++ ([32] ++ (nt (decZ ((te : Nat) : Int)) ++ ([32] ++ (nt (decZ ((sz : Nat) : Int)) ++ [59])))))))))) := by
      rw [hu, nt_ap, nt_ap, nt_ap, nt_ap, nt_ap, nt_ap, nt_ap, nt_ap, nt_ap, nt_ap, e1, e2, e3, e4]
      generalize nt (txS (1000046 + kd)) = K
      simp only [List.append_assoc]
    rw [eu]
    exact Rd_wb w1 (Rd_wb RK (Rd_wb (R_T9 (by omega)) (Rd_wb (R_T9 (by omega)) (Rd_wb (Rd_Z (by omega)) (Rd_end (Rd_Z (by omega)))))))
  · rw [if_neg k3]
    rw [if_neg k3, ap_nl] at hu
    have eu : nt u = [97, 99, 116] ++ ([32] ++ (nt (txS (1000046 + kd)) ++ ([32] ++ (([116] ++ nt (chW tm)) ++ ([32] ++ (nt (decZ ((te : Nat) : Int)) ++ ([32] ++ (nt (decZ ((sz : Nat) : Int)) ++ [59])))))))) := by
      rw [hu, nt_ap, nt_ap, nt_ap, nt_ap, nt_ap, nt_ap, nt_ap, nt_ap, e1, e2, e3, e4]
      generalize nt (txS (1000046 + kd)) = K
      simp only [List.append_assoc]
    rw [eu]
    exact Rd_wb w1 (Rd_wb RK (Rd_wb (R_T9 (by omega)) (Rd_wb (Rd_Z (by omega)) (Rd_end (Rd_Z (by omega))))))
theorem l_rl (hb : b = 2 ∨ b = 92) (hn : n ≤ 700) (hX : ∀ k, X k ≤ 255) (h : lnRl a a2 u) : lineT X n b Lg a a2 u := by
  obtain ⟨kd, w, e, h1, h2, h3, h4, hu, ha⟩ := h
  have e1 : nt (txS 1000053) = [114, 117, 108, 101] ++ ([32] ++ [114]) := by decide
  have e2 : nt (txS 1000042) = [32] := by decide
  have e3 : nt (txS 1000043) = [59] := by decide
  have e4 : nt (txS 1000054) = [32] ++ ([119, 104, 101, 110] ++ [32]) := by decide
  have e5 : nt (txS 1000055) = [32] ++ ([101, 120, 99, 117, 115, 101] ++ [32]) := by decide
  have RK := R_K9 (k := kd) (by omega)
  have w1 : Rd true [114, 117, 108, 101] [(1, 1920298085)] := Rd_w (by decide)
  have w2 : Rd true [119, 104, 101, 110] [(1, 2003330414)] := Rd_w (by decide)
  have w3 : Rd true [101, 120, 99, 117, 115, 101] [(1, 111567739122533)] := Rd_w (by decide)
  obtain ⟨t1, g1, g2⟩ := R_T (R_B 2) w h2
  rcases h3 with he | ⟨x, hx, he⟩
  · refine ⟨4, (1, 29281 + a.2.2.2.1) :: (1, LK.getD kd 0) :: (1, 2003330414) :: (t1 ++ []), by omega, by omega, ?_, by rw [ha]; exact ln_rule hb hn hX h1 g1 (Or.inl rfl) h4⟩
    rw [he, ap_nl] at hu
    have eu : nt u = [114, 117, 108, 101] ++ ([32] ++ (([114] ++ nt (chW a.2.2.2.1)) ++ ([32] ++ (nt (txS (1000046 + kd)) ++ ([32] ++ ([119, 104, 101, 110] ++ ([32] ++ (nt w ++ [59])))))))) := by
      rw [hu, nt_ap, nt_ap, nt_ap, nt_ap, nt_ap, nt_ap, e1, e2, e3, e4]
      generalize nt (txS (1000046 + kd)) = K
      simp only [List.append_assoc]
    rw [eu, List.append_nil]
    exact Rd_wb w1 (Rd_wb (R_R9 (by omega)) (Rd_wb RK (Rd_wb w2 (Rd_end g2))))
  · obtain ⟨t2, g3, g4⟩ := R_T (R_B 2) x hx
    refine ⟨4, (1, 29281 + a.2.2.2.1) :: (1, LK.getD kd 0) :: (1, 2003330414) :: (t1 ++ ((1, 111567739122533) :: t2)), by omega, by omega, ?_, by rw [ha]; exact ln_rule hb hn hX h1 g1 (Or.inr ⟨t2, g3, rfl⟩) h4⟩
    have eu : nt u = [114, 117, 108, 101] ++ ([32] ++ (([114] ++ nt (chW a.2.2.2.1)) ++ ([32] ++ (nt (txS (1000046 + kd)) ++ ([32] ++ ([119, 104, 101, 110] ++ ([32] ++ (nt w ++ ([32] ++ ([101, 120, 99, 117, 115, 101] ++ ([32] ++ (nt x ++ [59])))))))))))) := by
      rw [hu, he, nt_ap, nt_ap, nt_ap, nt_ap, nt_ap, nt_ap, nt_ap, nt_ap, e1, e2, e3, e4, e5]
      generalize nt (txS (1000046 + kd)) = K
      simp only [List.append_assoc]
    have et : (1, LL.getD 4 0) :: (((1, 29281 + a.2.2.2.1) :: (1, LK.getD kd 0) :: (1, 2003330414) :: (t1 ++ ((1, 111567739122533) :: t2))) ++ [(3, 59)]) = [(1, 1920298085)] ++ ([(1, 29281 + a.2.2.2.1)] ++ ([(1, LK.getD kd 0)] ++ ([(1, 2003330414)] ++ (t1 ++ ([(1, 111567739122533)] ++ (t2 ++ [(3, 59)])))))) := by
      show (1, 1920298085) :: (1, 29281 + a.2.2.2.1) :: (1, LK.getD kd 0) :: (1, 2003330414) :: ((t1 ++ ((1, 111567739122533) :: t2)) ++ [(3, 59)]) = _
      rw [List.append_assoc]; rfl
    rw [eu, et]
    exact Rd_wb w1 (Rd_wb (R_R9 (by omega)) (Rd_wb RK (Rd_wb w2 (Rd_wb g2 (Rd_wb w3 (Rd_end g4))))))
theorem l_th (hb : b = 2 ∨ b = 92) (hn : n ≤ 700) (hX : ∀ k, X k ≤ 255) (h : lnTh a a2 u) : lineT X n b Lg a a2 u := by
  obtain ⟨k, h1, h2, h3, hu, ha⟩ := h
  have e1 : nt (txS 1000056) = [116, 104, 114, 111, 117, 103, 104] ++ [32] := by decide
  have e3 : nt (txS 1000043) = [59] := by decide
  refine ⟨5, [(2, k)], by omega, by omega, ?_, by rw [ha]; exact ln_th hb hn hX ⟨h1, h2⟩ h3⟩
  have w1 : Rd true [116, 104, 114, 111, 117, 103, 104] [(1, 32765938003961704)] := Rd_w (by decide)
  have eu : nt u = [116, 104, 114, 111, 117, 103, 104] ++ ([32] ++ (nt (decZ ((k : Nat) : Int)) ++ [59])) := by
    rw [hu, nt_ap, nt_ap, e1, e3, List.append_assoc]
  rw [eu]
  exact Rd_wb w1 (Rd_end (Rd_Z (by omega)))
theorem l_wi (hb : b = 2 ∨ b = 92) (hn : n ≤ 700) (hX : ∀ k, X k ≤ 255) (h : lnWi a a2 u) : lineT X n b Lg a a2 u := by
  obtain ⟨k, h1, h3, hu, ha⟩ := h
  have e1 : nt (txS 1000057) = [119, 105, 116, 104, 105, 110] ++ [32] := by decide
  have e3 : nt (txS 1000043) = [59] := by decide
  refine ⟨6, [(2, k)], by omega, by omega, ?_, by rw [ha]; exact ln_wi hb hn hX h1 h3⟩
  have w1 : Rd true [119, 105, 116, 104, 105, 110] [(1, 131294808271214)] := Rd_w (by decide)
  have eu : nt u = [119, 105, 116, 104, 105, 110] ++ ([32] ++ (nt (decZ ((k : Nat) : Int)) ++ [59])) := by
    rw [hu, nt_ap, nt_ap, e1, e3, List.append_assoc]
  rw [eu]
  exact Rd_wb w1 (Rd_end (Rd_Z (by omega)))
theorem l_any (hb : b = 2 ∨ b = 92) (hn : n ≤ 700) (hX : ∀ k, X k ≤ 255) (hL : Lg ≤ 4) (hT : a.1.length ≤ 3) (h : lnW Lg a a2 u) : lineT X n b Lg a a2 u := by
  rcases h with h | h | h | h | h | h
  · exact l_tm hb hn hX h
  · exact l_ru hb hn hX hL hT h
  · exact l_ac hb hn hX hT h
  · exact l_rl hb hn hX h
  · exact l_th hb hn hX h
  · exact l_wi hb hn hX h
end LL9
