/-! what the law's own steps do to what it sees-/
section RW8
variable {sg : Nat → Nat} {W : mjWt} {Zc Zc2 : mjZt} {n : Nat × Nat} {v len : Nat}
def nwW (W : mjWt) (v : Nat) (q : Nat × Nat) : mjWt := (fun i j => if i = v then none else W.1 i j, fun i => if i = v then q else W.2 i)
def nwZ (Z : mjZt) (v : Nat) : mjZt := (fun i j => if i = v then 0 else Z.1 i j, fun i j => if i = v then 0 else Z.2.1 i j, Z.2.2)
theorem vw_zr {q : Nat × Nat} (h : 251 ≤ v) : mjZr (mjVw W Zc) v q = mjVw (nwW W v q) (nwZ Zc v) := by
  refine Prod.ext ?_ (Prod.ext ?_ (Prod.ext ?_ ?_))
  · funext i
    show (fun j => if i = v then 0 else (if 211 ≤ i ∧ i < 251 then (fun _ => 0) else Zc.1 i) j) = (if 211 ≤ i ∧ i < 251 then (fun _ => 0) else fun j => if i = v then 0 else Zc.1 i j)
    by_cases g : 211 ≤ i ∧ i < 251
    · rw [if_pos g, if_pos g]
      funext j
      rw [if_neg (by omega)]
    · rw [if_neg g, if_neg g]
  · funext i
    show (fun j => if i = v then 0 else (if 211 ≤ i ∧ i < 251 then (fun _ => 0) else Zc.2.1 i) j) = (if 211 ≤ i ∧ i < 251 then (fun _ => 0) else fun j => if i = v then 0 else Zc.2.1 i j)
    by_cases g : 211 ≤ i ∧ i < 251
    · rw [if_pos g, if_pos g]
      funext j
      rw [if_neg (by omega)]
    · rw [if_neg g, if_neg g]
  · funext i j
    show (if i = v then none else if i < 211 then mjRv Zc.2.2.1 Zc.2.2.2 i j else W.1 i j) = (if i < 211 then mjRv Zc.2.2.1 Zc.2.2.2 i j else if i = v then none else W.1 i j)
    by_cases g : i < 211
    · rw [if_neg (by omega), if_pos g, if_pos g]
    · rw [if_neg g, if_neg g]
  · funext i
    show (if i = v then q else if i < 211 then mjKc (mjLay i) else W.2 i) = (if i < 211 then mjKc (mjLay i) else if i = v then q else W.2 i)
    by_cases g : i < 211
    · rw [if_neg (by omega), if_pos g, if_pos g]
    · rw [if_neg g, if_neg g]
theorem vw_si2 {k : Nat} {x : Int32} (h : 251 ≤ v) : mjSi (mjVw W Zc) v k x = mjVw W (zSi Zc v k x) := by
  refine Prod.ext ?_ rfl
  funext i
  show (fun j => if i = v then (if j = k then x else (if 211 ≤ i ∧ i < 251 then (fun _ => 0) else Zc.1 i) j) else (if 211 ≤ i ∧ i < 251 then (fun _ => 0) else Zc.1 i) j) = (if 211 ≤ i ∧ i < 251 then (fun _ => 0) else (zSi Zc v k x).1 i)
  by_cases g : 211 ≤ i ∧ i < 251
  · rw [if_pos g, if_pos g]
    funext j
    rw [if_neg (by omega)]
  · rw [if_neg g, if_neg g]
    by_cases e : i = v
    · funext j
      rw [if_pos e, e]
      by_cases e2 : j = k
      · rw [if_pos e2, e2, si_same]
      · rw [if_neg e2, si_fld _ _ _ _ (by omega)]
    · funext j
      rw [if_neg e, si_obj _ _ _ _ e]
theorem vw_k {a : Nat} (h : 251 ≤ a) : (mjVw W Zc).2.2.2 a = W.2 a ∧ (mjVw W Zc).1 a = Zc.1 a := by
  refine ⟨?_, ?_⟩
  · show (if a < 211 then mjKc (mjLay a) else W.2 a) = _
    rw [if_neg (by omega)]
  · show (if 211 ≤ a ∧ a < 251 then (fun _ => 0) else Zc.1 a) = _
    rw [if_neg (by omega)]
theorem ro_0 : mjRo (mjVw W Zc) 0 11 = true := by
  unfold mjRo
  rw [vw_ob (W := W) (Z := Zc) (a := 0) (c := 11) rfl (by decide)]
  rfl
/-- a row of ints made-/
theorem r_new (hn : n.1 < 100000) (hv : sg n.1 = v) (hv2 : 251 ≤ v) (hl : len ≤ 1000) : qNewA sg (n, mjVw W Zc) 113 (i3 (len : Nat)) = some (v, ((n.1 + 1, n.2 + len), mjVw (nwW W v (113, len)) (nwZ Zc v))) := by
  have e0 : (i3 (len : Nat)).toInt = (len : Int) := i3_int (by omega)
  unfold qNewA
  rw [e0, if_pos (by omega), Int.toNat_natCast]
  unfold qNew
  rw [if_pos hn]
  show some (sg n.1, ((n.1 + 1, n.2 + mjSzK (113, len)), mjZr (mjVw W Zc) (sg n.1) (113, len))) = _
  rw [hv, vw_zr hv2]
  rfl
theorem r_sia {i : Nat} {x : Int32} (hv : 251 ≤ v) (hk : W.2 v = (113, len)) (hi : i < len) (hl : len ≤ 1000) : qSia (n, mjVw W Zc) v (i3 (i : Nat)) x = some (n, mjVw W (zSi Zc v i x)) := by
  have kk := (vw_k (W := W) (Zc := Zc) hv).1
  unfold qSia
  have h1 : mjKs (mjVw W Zc) v 113 = true := by
    unfold mjKs
    rw [kk, hk]; rfl
  have h2 : mjAl (mjVw W Zc) v = len := by
    unfold mjAl
    rw [kk, hk]
  show (if mjKs (mjVw W Zc) v 113 = true ∧ mjIn (i3 (i : Nat)) (mjAl (mjVw W Zc) v) = true then some (n, mjSi (mjVw W Zc) v (mjIx (i3 (i : Nat))) x) else none) = _
  rw [h2, if_pos ⟨h1, in_p (by omega)⟩, ix_nat (by omega), vw_si2 hv]
theorem r_ia {i : Nat} (hv : 251 ≤ v) (hv2 : v < 2000000) (hk : W.2 v = (113, len)) (hi : i < len) (hl : len ≤ 1000) : qIa (mjVw W Zc) v (i3 (i : Nat)) = some (Zc.1 v i) := by
  have kk := vw_k (W := W) (Zc := Zc) hv
  have h1 : mjKs (mjVw W Zc) v 113 = true := by
    unfold mjKs
    rw [kk.1, hk]; rfl
  have h2 : mjAl (mjVw W Zc) v = len := by
    unfold mjAl
    rw [kk.1, hk]
  unfold qIa
  rw [if_neg (by omega), h2, if_pos ⟨h1, in_p (by omega)⟩, ix_nat (by omega), kk.2]
/-- what is so of the class rests on its own cells-/
theorem cI_lo {b N U : Nat} {S : mjS} {E : Nat → Nat → Int} (hi : cI9 Zc b S N U E) (e : ∀ a, a < 211 → Zc2.1 a = Zc.1 a ∧ Zc2.2.1 a = Zc.2.1 a) (e2 : Zc2.2.2 = Zc.2.2) : cI9 Zc2 b S N U E := by
  obtain ⟨hb, h, hd, htr, hv, ho, hoc, hl⟩ := hi
  have hb2 := b_b h
  have o1 := ok_sc ho
  have oa := all_le ho
  have eB : eqB b Zc Zc2 := fun a g1 g2 => e a (by omega)
  obtain ⟨l1, l2, l3, l4, l5⟩ := hl
  exact ⟨by rw [e2]; exact hb, cBk_of ⟨o1.1, o1.2.1⟩ h eB, cDr_of ⟨o1.1, oa⟩ hd eB, cTr_of htr eB, vRep_of hv (fun a g1 g2 => (e a (by omega)).1), ho, hoc, l1, l2, by rw [(e 209 (by omega)).1]; exact l3, by rw [(e 209 (by omega)).1]; exact l4, fun k g j gj => by rw [(e 210 (by omega)).1]; exact l5 k g j gj⟩
end RW8
