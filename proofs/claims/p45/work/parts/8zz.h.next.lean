/-! next, of a Grown and of a World -/
theorem q_nextG {Z : mjQ} {g at9 n L : Nat} {xs : Nat → Int32} (hk : Z.2.2.2.2 g = (13, 0)) (ha : Z.2.1 g 1 = i3 at9) (hr : Z.2.2.2.1 g 0 = some 2000000) (hg : g < 1000000) (h : scI Z L xs) (hat : at9 < 100000) (hn : 0 < n ∧ n ≤ 100000) : g186_next sg0 g (i3 n) Z = some (i3 (pkN L xs (at9 + 1) n : Nat), (Z.1, mjSi Z.2 g 1 (i3 ((at9 + 1 : Nat) : Int)))) := by
  have hs : scI (Z.1, mjSi Z.2 g 1 (i3 ((at9 + 1 : Nat) : Int))) L xs := scI_frm (P := fun a => a = g) h (frm_si rfl) (fun a ha q => by omega)
  have k1 : (mjSi Z.2 g 1 (i3 ((at9 + 1 : Nat) : Int))).2.2.2 g = (13, 0) := hk
  unfold g186_next
  rw [qI_of (x := i3 at9) hk (by decide) ha, mjBp_some, show (i3 at9 + 1 : Int32) = i3 ((at9 + 1 : Nat) : Int) from (i3_add (at9 : Int) 1).trans (congrArg i3 (by omega)), qSi_of (Z := Z) hk rfl, mjBp_some, qR_of (M := mjSi Z.2 g 1 (i3 ((at9 + 1 : Nat) : Int))) k1 rfl hr, mjBp_some, qI_of (M := mjSi Z.2 g 1 (i3 ((at9 + 1 : Nat) : Int))) (x := i3 ((at9 + 1 : Nat) : Int)) k1 (by decide) ((if_pos rfl).trans (if_pos rfl)), mjBp_some, q_pick hs (by omega) hn, mjBp_some]
theorem q_nextW {Z : mjQ} {g at9 n L : Nat} {xs : Nat → Int32} (hk : Z.2.2.2.2 g = (16, 0)) (ha : Z.2.1 g 15 = i3 at9) (hr : Z.2.2.2.1 g 14 = some 2000000) (hg : g < 1000000) (h : scI Z L xs) (hat : at9 < 100000) (hn : 0 < n ∧ n ≤ 100000) : g195_next sg0 g (i3 n) Z = some (i3 (pkN L xs (at9 + 1) n : Nat), (Z.1, mjSi Z.2 g 15 (i3 ((at9 + 1 : Nat) : Int)))) := by
  have hs : scI (Z.1, mjSi Z.2 g 15 (i3 ((at9 + 1 : Nat) : Int))) L xs := scI_frm (P := fun a => a = g) h (frm_si rfl) (fun a ha q => by omega)
  have k1 : (mjSi Z.2 g 15 (i3 ((at9 + 1 : Nat) : Int))).2.2.2 g = (16, 0) := hk
  unfold g195_next
  rw [qI_of (x := i3 at9) hk (by decide) ha, mjBp_some, show (i3 at9 + 1 : Int32) = i3 ((at9 + 1 : Nat) : Int) from (i3_add (at9 : Int) 1).trans (congrArg i3 (by omega)), qSi_of (Z := Z) hk rfl, mjBp_some, qR_of (M := mjSi Z.2 g 15 (i3 ((at9 + 1 : Nat) : Int))) k1 rfl hr, mjBp_some, qI_of (M := mjSi Z.2 g 15 (i3 ((at9 + 1 : Nat) : Int))) (x := i3 ((at9 + 1 : Nat) : Int)) k1 (by decide) ((if_pos rfl).trans (if_pos rfl)), mjBp_some, q_pick hs (by omega) hn, mjBp_some]
