/-! new Grown, new Part (a Part is never read again) -/
theorem q_initP {Z : mjQ} {p s : Nat} {x : Int32} {o1 o2 : Option Nat} (hk : Z.2.2.2.2 p = (14, 0)) : ∃ Z2, g187_init sg0 p s x o1 o2 Z = some ((), Z2) ∧ frm Z Z2 (fun a => a = p) ∧ Z2.1 = Z.1 := by
  refine ⟨(Z.1, mjSr (mjSr (mjSi (mjSr Z.2 p 0 (some s)) p 1 x) p 2 o1) p 3 o2), ?_, ?_, rfl⟩
  · unfold g187_init
    rw [qSr_of (Z := Z) hk rfl, mjBp_some, qSi_of (Z := (Z.1, mjSr Z.2 p 0 (some s))) hk rfl, mjBp_some, qSr_of (Z := (Z.1, mjSi (mjSr Z.2 p 0 (some s)) p 1 x)) hk rfl, mjBp_some, qSr_of (Z := (Z.1, mjSr (mjSi (mjSr Z.2 p 0 (some s)) p 1 x) p 2 o1)) hk rfl, mjBp_some]
  · exact frm_tr (frm_tr (frm_tr (frm_sr rfl) (frm_si (Z := (Z.1, mjSr Z.2 p 0 (some s))) rfl)) (frm_sr (Z := (Z.1, mjSi (mjSr Z.2 p 0 (some s)) p 1 x)) rfl)) (frm_sr (Z := (Z.1, mjSr (mjSi (mjSr Z.2 p 0 (some s)) p 1 x) p 2 o1)) rfl)
/-- a Grown at place at9, with so much left and so many compared -/
def gR (Z : mjQ) (g at9 : Nat) (left cmp : Int) : Prop := Z.2.2.2.2 g = (13, 0) ∧ Z.2.2.2.1 g 0 = some 2000000 ∧ Z.2.1 g 1 = i3 at9 ∧ Z.2.1 g 2 = i3 left ∧ Z.2.1 g 3 = i3 cmp ∧ g < 1000 + Z.1.1
theorem q_initG {Z : mjQ} {g at9 : Nat} (hk : Z.2.2.2.2 g = (13, 0)) (h3 : Z.2.1 g 3 = i3 0) (hg : g < 1000 + Z.1.1) : ∃ Z2, g183_init sg0 g 2000000 (i3 at9) Z = some ((), Z2) ∧ gR Z2 g at9 4 0 ∧ frm Z Z2 (fun a => a = g) ∧ Z2.1 = Z.1 := by
  refine ⟨(Z.1, mjSi (mjSr (mjSi Z.2 g 2 (i3 4)) g 0 (some 2000000)) g 1 (i3 at9)), ?_, ?_, ?_, rfl⟩
  · unfold g183_init
    rw [show (4 : Int32) = i3 4 from rfl, qSi_of (Z := Z) hk rfl, mjBp_some, qSr_of (Z := (Z.1, mjSi Z.2 g 2 (i3 4))) hk rfl, mjBp_some, qSi_of (Z := (Z.1, mjSr (mjSi Z.2 g 2 (i3 4)) g 0 (some 2000000))) hk rfl, mjBp_some]
  · refine ⟨hk, (if_pos rfl).trans (if_pos rfl), (if_pos rfl).trans (if_pos rfl), ?_, ?_, hg⟩
    · exact ((if_pos rfl).trans (if_neg (by decide))).trans ((if_pos rfl).trans (if_pos rfl))
    · exact (((if_pos rfl).trans (if_neg (by decide))).trans ((if_pos rfl).trans (if_neg (by decide)))).trans h3
  · exact frm_tr (frm_tr (frm_si rfl) (frm_sr (Z := (Z.1, mjSi Z.2 g 2 (i3 4))) rfl)) (frm_si (Z := (Z.1, mjSr (mjSi Z.2 g 2 (i3 4)) g 0 (some 2000000))) rfl)
