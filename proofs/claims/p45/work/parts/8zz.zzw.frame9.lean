/-! MACHINE: what a run never touches: what is not made-/
def sm9 (M M2 : mjMem) (a : Nat) : Prop := M2.1 a = M.1 a ∧ M2.2.1 a = M.2.1 a ∧ M2.2.2.1 a = M.2.2.1 a ∧ M2.2.2.2 a = M.2.2.2 a
section FR8
variable {M M1 : mjMem} {pc1 : Nat} {L1 : mjLs} {st1 : List Value}
theorem sm9_rf {a : Nat} : sm9 M M a := ⟨rfl, rfl, rfl, rfl⟩
theorem sm9_tr {M2 : mjMem} {a : Nat} (h : sm9 M M1 a) (g : sm9 M1 M2 a) : sm9 M M2 a := ⟨g.1.trans h.1, g.2.1.trans h.2.1, g.2.2.1.trans h.2.2.1, g.2.2.2.trans h.2.2.2⟩
theorem sm9_eq {a : Nat} (h : M1 = M) : sm9 M M1 a := by subst h; exact sm9_rf
theorem o4_M {x : mjMem} {p : Nat} {l : mjLs} {s : List Value} (h : (some (p, l, s, x) : mjO) = some (pc1, L1, st1, M1)) : M1 = x := (congrArg (fun q => q.2.2.2) (Option.some.inj h)).symm
theorem fr_LoadI {L : mjLs} {j pc : Nat} {st : List Value} (h : mjLoadI L j pc st M = some (pc1, L1, st1, M1)) : M1 = M := by
  unfold mjLoadI at h
  (repeat' (split at h)) <;> first | exact o4_M h | (cases h; done)
theorem fr_LoadL {L : mjLs} {j pc : Nat} {st : List Value} (h : mjLoadL L j pc st M = some (pc1, L1, st1, M1)) : M1 = M := by
  unfold mjLoadL at h
  (repeat' (split at h)) <;> first | exact o4_M h | (cases h; done)
theorem fr_LoadA {L : mjLs} {j pc : Nat} {st : List Value} (h : mjLoadA L j pc st M = some (pc1, L1, st1, M1)) : M1 = M := by
  unfold mjLoadA at h
  (repeat' (split at h)) <;> first | exact o4_M h | (cases h; done)
theorem fr_StoI {L : mjLs} {j pc : Nat} {st : List Value} (h : mjStoI L j pc st M = some (pc1, L1, st1, M1)) : M1 = M := by
  unfold mjStoI at h
  (repeat' (split at h)) <;> first | exact o4_M h | (cases h; done)
theorem fr_StoL {L : mjLs} {j pc : Nat} {st : List Value} (h : mjStoL L j pc st M = some (pc1, L1, st1, M1)) : M1 = M := by
  unfold mjStoL at h
  (repeat' (split at h)) <;> first | exact o4_M h | (cases h; done)
theorem fr_StoA {L : mjLs} {j pc : Nat} {st : List Value} (h : mjStoA L j pc st M = some (pc1, L1, st1, M1)) : M1 = M := by
  unfold mjStoA at h
  (repeat' (split at h)) <;> first | exact o4_M h | (cases h; done)
theorem fr_II {f : Int32 → Int32 → Value} {pc : Nat} {L : mjLs} {st : List Value} (h : mjII f pc L st M = some (pc1, L1, st1, M1)) : M1 = M := by
  unfold mjII at h
  (repeat' (split at h)) <;> first | exact o4_M h | (cases h; done)
theorem fr_LL {f : Int64 → Int64 → Value} {pc : Nat} {L : mjLs} {st : List Value} (h : mjLL f pc L st M = some (pc1, L1, st1, M1)) : M1 = M := by
  unfold mjLL at h
  (repeat' (split at h)) <;> first | exact o4_M h | (cases h; done)
theorem fr_LI {f : Int64 → Int32 → Value} {pc : Nat} {L : mjLs} {st : List Value} (h : mjLI f pc L st M = some (pc1, L1, st1, M1)) : M1 = M := by
  unfold mjLI at h
  (repeat' (split at h)) <;> first | exact o4_M h | (cases h; done)
theorem fr_I1 {f : Int32 → Value} {pc : Nat} {L : mjLs} {st : List Value} (h : mjI1 f pc L st M = some (pc1, L1, st1, M1)) : M1 = M := by
  unfold mjI1 at h
  (repeat' (split at h)) <;> first | exact o4_M h | (cases h; done)
theorem fr_Br {b : Bool} {pc : Nat} {off : Int} {L : mjLs} {st : List Value} (h : mjBr b pc off L st M = some (pc1, L1, st1, M1)) : M1 = M := by
  unfold mjBr at h
  (repeat' (split at h)) <;> first | exact o4_M h | (cases h; done)
theorem fr_If {c : ClassFile.Cond} {off : Int} {pc : Nat} {L : mjLs} {st : List Value} (h : mjIf c off pc L st M = some (pc1, L1, st1, M1)) : M1 = M := by
  unfold mjIf at h
  split at h
  · exact fr_Br h
  · cases h
theorem fr_Icmp {c : ClassFile.Cond} {off : Int} {pc : Nat} {L : mjLs} {st : List Value} (h : mjIcmp c off pc L st M = some (pc1, L1, st1, M1)) : M1 = M := by
  unfold mjIcmp at h
  split at h
  · exact fr_Br h
  · cases h
theorem fr_Gst {own ix pc : Nat} {L : mjLs} {st : List Value} (h : mjGst own ix pc L st M = some (pc1, L1, st1, M1)) : M1 = M := by
  unfold mjGst at h
  (repeat' (split at h)) <;> first | exact o4_M h | (cases h; done)
theorem fr_Get {own ix pc : Nat} {L : mjLs} {st : List Value} (h : mjGet own ix pc L st M = some (pc1, L1, st1, M1)) : M1 = M := by
  unfold mjGet at h
  (repeat' (split at h)) <;> first | exact o4_M h | (cases h; done)
theorem fr_Ial {pc : Nat} {L : mjLs} {st : List Value} (h : mjIal pc L st M = some (pc1, L1, st1, M1)) : M1 = M := by
  unfold mjIal at h
  (repeat' (split at h)) <;> first | exact o4_M h | (cases h; done)
theorem fr_Lal {pc : Nat} {L : mjLs} {st : List Value} (h : mjLal pc L st M = some (pc1, L1, st1, M1)) : M1 = M := by
  unfold mjLal at h
  (repeat' (split at h)) <;> first | exact o4_M h | (cases h; done)
theorem fr_Bal {pc : Nat} {L : mjLs} {st : List Value} (h : mjBal pc L st M = some (pc1, L1, st1, M1)) : M1 = M := by
  unfold mjBal at h
  (repeat' (split at h)) <;> first | exact o4_M h | (cases h; done)
theorem fr_Aal {pc : Nat} {L : mjLs} {st : List Value} (h : mjAal pc L st M = some (pc1, L1, st1, M1)) : M1 = M := by
  unfold mjAal at h
  (repeat' (split at h)) <;> first | exact o4_M h | (cases h; done)
theorem fr_Len {pc : Nat} {L : mjLs} {st : List Value} (h : mjLen pc L st M = some (pc1, L1, st1, M1)) : M1 = M := by
  unfold mjLen at h
  (repeat' (split at h)) <;> first | exact o4_M h | (cases h; done)
theorem fr_Dup {pc : Nat} {L : mjLs} {st : List Value} (h : mjDup pc L st M = some (pc1, L1, st1, M1)) : M1 = M := by
  unfold mjDup at h
  (repeat' (split at h)) <;> first | exact o4_M h | (cases h; done)
theorem fr_Dup2 {pc : Nat} {L : mjLs} {st : List Value} (h : mjDup2 pc L st M = some (pc1, L1, st1, M1)) : M1 = M := by
  unfold mjDup2 at h
  (repeat' (split at h)) <;> first | exact o4_M h | (cases h; done)
theorem fr_Pop {pc : Nat} {L : mjLs} {st : List Value} (h : mjPop pc L st M = some (pc1, L1, st1, M1)) : M1 = M := by
  unfold mjPop at h
  (repeat' (split at h)) <;> first | exact o4_M h | (cases h; done)
theorem fr_Tsw {d lo hi : Int} {offs : Array Int} {pc : Nat} {L : mjLs} {st : List Value} (h : mjTsw d lo hi offs pc L st M = some (pc1, L1, st1, M1)) : M1 = M := by
  unfold mjTsw at h
  (repeat' (split at h)) <;> first | exact o4_M h | (cases h; done)
theorem fr_Lsw {d : Int} {ps : Array (Int × Int)} {pc : Nat} {L : mjLs} {st : List Value} (h : mjLsw d ps pc L st M = some (pc1, L1, st1, M1)) : M1 = M := by
  unfold mjLsw at h
  (repeat' (split at h)) <;> first | exact o4_M h | (cases h; done)
theorem fr_Iinc {j : Nat} {c : Int} {pc : Nat} {L : mjLs} {st : List Value} (h : mjIinc j c pc L st M = some (pc1, L1, st1, M1)) : M1 = M := by
  unfold mjIinc at h
  (repeat' (split at h)) <;> first | exact o4_M h | (cases h; done)
theorem fr_Ldc {own ix pc : Nat} {L : mjLs} {st : List Value} (h : mjLdc own ix pc L st M = some (pc1, L1, st1, M1)) : M1 = M := by
  unfold mjLdc at h
  (repeat' (split at h)) <;> first | exact o4_M h | (cases h; done)
theorem fr_Ldcw {own ix pc : Nat} {L : mjLs} {st : List Value} (h : mjLdcw own ix pc L st M = some (pc1, L1, st1, M1)) : M1 = M := by
  unfold mjLdcw at h
  (repeat' (split at h)) <;> first | exact o4_M h | (cases h; done)
theorem fr_Ldc2 {own ix pc : Nat} {L : mjLs} {st : List Value} (h : mjLdc2 own ix pc L st M = some (pc1, L1, st1, M1)) : M1 = M := by
  unfold mjLdc2 at h
  (repeat' (split at h)) <;> first | exact o4_M h | (cases h; done)
theorem fr_Dupx {pc : Nat} {L : mjLs} {st : List Value} (h : mjDupx pc L st M = some (pc1, L1, st1, M1)) : M1 = M := by
  unfold mjDupx at h
  (repeat' (split at h)) <;> first | exact o4_M h | (cases h; done)
theorem fr_Nn {off : Int} {pc : Nat} {L : mjLs} {st : List Value} (h : mjNn off pc L st M = some (pc1, L1, st1, M1)) : M1 = M := by
  unfold mjNn at h
  (repeat' (split at h)) <;> first | exact o4_M h | (cases h; done)
theorem fr_Acm {c : ACond} {off : Int} {pc : Nat} {L : mjLs} {st : List Value} (h : mjAcm c off pc L st M = some (pc1, L1, st1, M1)) : M1 = M := by
  unfold mjAcm at h
  (repeat' (split at h)) <;> first | exact o4_M h | (cases h; done)
theorem fr_Cast {own ix pc : Nat} {L : mjLs} {st : List Value} (h : mjCast own ix pc L st M = some (pc1, L1, st1, M1)) : M1 = M := by
  unfold mjCast at h
  (repeat' (split at h)) <;> first | exact o4_M h | (cases h; done)
theorem fr_Inst {own ix pc : Nat} {L : mjLs} {st : List Value} (h : mjInst own ix pc L st M = some (pc1, L1, st1, M1)) : M1 = M := by
  unfold mjInst at h
  (repeat' (split at h)) <;> first | exact o4_M h | (cases h; done)
end FR8
section FR9
variable {M M1 : mjMem} {pc pc1 k a : Nat} {L L1 : mjLs} {st st1 : List Value}
theorem ks_ne {b c : Nat} (ha : (M.2.2.2 a).1 = 99) (h : mjKs M b c = true) (hc : c ≠ 99) : ¬ a = b := by
  intro e
  subst e
  have : (M.2.2.2 a).1 = c := beq_iff_eq.mp h
  omega
theorem sm9_si {b j : Nat} {x : Int32} (h : ¬ a = b) : sm9 M (mjSi M b j x) a := ⟨by funext j9; exact if_neg h, rfl, rfl, rfl⟩
theorem sm9_sl {b j : Nat} {x : Int64} (h : ¬ a = b) : sm9 M (mjSl M b j x) a := ⟨rfl, by funext j9; exact if_neg h, rfl, rfl⟩
theorem sm9_sr {b j : Nat} {x : Option Nat} (h : ¬ a = b) : sm9 M (mjSr M b j x) a := ⟨rfl, rfl, by funext j9; exact if_neg h, rfl⟩
theorem sm9_zr {b : Nat} {q : Nat × Nat} (h : ¬ a = b) : sm9 M (mjZr M b q) a := ⟨by funext j9; exact if_neg h, by funext j9; exact if_neg h, by funext j9; exact if_neg h, if_neg h⟩
theorem sm9_cp {b sp dp n : Nat} {f : Nat → Int32} (h : ¬ a = b) : sm9 M (mjCp M f b sp dp n) a := ⟨by funext j9; exact if_neg h, rfl, rfl, rfl⟩
theorem sm9_cl {b c : Nat} (h : ¬ a = b) : sm9 M (mjCl9 M c b) a := ⟨by funext j9; exact if_neg h, by funext j9; exact if_neg h, by funext j9; exact if_neg h, if_neg h⟩
theorem fr_Put {own ix : Nat} (ha : (M.2.2.2 a).1 = 99) (h : mjPut k own ix pc L st M = some (pc1, L1, st1, M1)) : sm9 M M1 a := by
  unfold mjPut at h
  split at h
  · cases h
  · rename_i ci f hf
    have hc : ci < 21 := (mjFld_spec hf).2.1
    split at h
    · cases h
    · split at h
      · split at h
        · rename_i g; rw [o4_M h]; exact sm9_si (ks_ne ha g.1 (by omega))
        · cases h
      · split at h
        · rename_i g; rw [o4_M h]; exact sm9_sl (ks_ne ha g.1 (by omega))
        · cases h
      · split at h
        · rename_i g; rw [o4_M h]; exact sm9_sr (ks_ne ha g.1 (by omega))
        · cases h
      · split at h
        · rename_i g; rw [o4_M h]; exact sm9_sr (ks_ne ha g.1 (by omega))
        · cases h
      · cases h
theorem fr_Ias (ha : (M.2.2.2 a).1 = 99) (h : mjIas k pc L st M = some (pc1, L1, st1, M1)) : sm9 M M1 a := by
  unfold mjIas at h
  split at h
  · split at h
    · rename_i g; rw [o4_M h]; exact sm9_si (ks_ne ha g.1 (by omega))
    · cases h
  · cases h
theorem fr_Las (ha : (M.2.2.2 a).1 = 99) (h : mjLas k pc L st M = some (pc1, L1, st1, M1)) : sm9 M M1 a := by
  unfold mjLas at h
  split at h
  · split at h
    · rename_i g; rw [o4_M h]; exact sm9_sl (ks_ne ha g.1 (by omega))
    · cases h
  · cases h
theorem fr_Bas (ha : (M.2.2.2 a).1 = 99) (h : mjBas k pc L st M = some (pc1, L1, st1, M1)) : sm9 M M1 a := by
  unfold mjBas at h
  split at h
  · split at h
    · rename_i g; rw [o4_M h]; exact sm9_si (ks_ne ha g.1 (by omega))
    · split at h
      · rename_i g; rw [o4_M h]; exact sm9_si (ks_ne ha g.1 (by omega))
      · cases h
  · cases h
theorem aok_ne {b c : Nat} (ha : (M.2.2.2 a).1 = 99) (h : mjAok M b c = true) : ¬ a = b := by
  intro e
  subst e
  have h1 : ∀ w, w ≠ 99 → mjKs M a w = false := fun w hw => by
    unfold mjKs
    rw [ha]
    cases e : ((99 : Nat) == w) with
    | false => rfl
    | true => exact absurd (beq_iff_eq.mp e).symm hw
  unfold mjAok at h
  rw [h1 116 (by omega), h1 117 (by omega), h1 119 (by omega), h1 120 (by omega)] at h
  cases h
theorem fr_Aas (ha : (M.2.2.2 a).1 = 99) (h : mjAas k pc L st M = some (pc1, L1, st1, M1)) : sm9 M M1 a := by
  unfold mjAas at h
  split at h
  · split at h
    · rename_i g; rw [o4_M h]; exact sm9_sr (aok_ne ha g.1)
    · cases h
  · cases h
theorem fr_Stp {i : Instr} (ha : (M.2.2.2 a).1 = 99) (h : mjStp k i pc L st M = some (pc1, L1, st1, M1)) : sm9 M M1 a := by
  cases i with
  | aload j => exact sm9_eq (fr_LoadA h)
  | aload_n j => exact sm9_eq (fr_LoadA h)
  | iload j => exact sm9_eq (fr_LoadI h)
  | iload_n j => exact sm9_eq (fr_LoadI h)
  | lload j => exact sm9_eq (fr_LoadL h)
  | lload_n j => exact sm9_eq (fr_LoadL h)
  | astore j => exact sm9_eq (fr_StoA h)
  | astore_n j => exact sm9_eq (fr_StoA h)
  | istore j => exact sm9_eq (fr_StoI h)
  | istore_n j => exact sm9_eq (fr_StoI h)
  | lstore j => exact sm9_eq (fr_StoL h)
  | lstore_n j => exact sm9_eq (fr_StoL h)
  | iconst v => exact sm9_eq (o4_M h)
  | bipush v => exact sm9_eq (o4_M h)
  | sipush v => exact sm9_eq (o4_M h)
  | lconst v => exact sm9_eq (o4_M h)
  | ldc ix => exact sm9_eq (fr_Ldc h)
  | ldc_w ix => exact sm9_eq (fr_Ldcw h)
  | ldc2_w ix => exact sm9_eq (fr_Ldc2 h)
  | iadd => exact sm9_eq (fr_II h)
  | isub => exact sm9_eq (fr_II h)
  | imul => exact sm9_eq (fr_II h)
  | iand => exact sm9_eq (fr_II h)
  | ior => exact sm9_eq (fr_II h)
  | ixor => exact sm9_eq (fr_II h)
  | ishl => exact sm9_eq (fr_II h)
  | ishr => exact sm9_eq (fr_II h)
  | iushr => exact sm9_eq (fr_II h)
  | idiv =>
    unfold mjStp at h
    dsimp only at h
    (repeat' (split at h)) <;> first | exact sm9_eq (o4_M h) | (cases h; done)
  | ineg => exact sm9_eq (fr_I1 h)
  | i2l => exact sm9_eq (fr_I1 h)
  | i2b => exact sm9_eq (fr_I1 h)
  | getstatic ix => exact sm9_eq (fr_Gst h)
  | i2c => exact sm9_eq (fr_I1 h)
  | l2i =>
    unfold mjStp at h
    dsimp only at h
    (repeat' (split at h)) <;> first | exact sm9_eq (o4_M h) | (cases h; done)
  | ladd => exact sm9_eq (fr_LL h)
  | lsub => exact sm9_eq (fr_LL h)
  | lmul => exact sm9_eq (fr_LL h)
  | land => exact sm9_eq (fr_LL h)
  | lor => exact sm9_eq (fr_LL h)
  | lxor => exact sm9_eq (fr_LL h)
  | lcmp => exact sm9_eq (fr_LL h)
  | lshl => exact sm9_eq (fr_LI h)
  | lshr => exact sm9_eq (fr_LI h)
  | lushr => exact sm9_eq (fr_LI h)
  | ifCond c off => exact sm9_eq (fr_If h)
  | if_icmp c off => exact sm9_eq (fr_Icmp h)
  | goto off =>
    unfold mjStp at h
    dsimp only at h
    (repeat' (split at h)) <;> first | exact sm9_eq (o4_M h) | (cases h; done)
  | tableswitch d lo hi offs => exact sm9_eq (fr_Tsw h)
  | lookupswitch d ps => exact sm9_eq (fr_Lsw h)
  | iinc j c => exact sm9_eq (fr_Iinc h)
  | dup => exact sm9_eq (fr_Dup h)
  | dup2 => exact sm9_eq (fr_Dup2 h)
  | pop => exact sm9_eq (fr_Pop h)
  | getfield ix => exact sm9_eq (fr_Get h)
  | putfield ix => exact fr_Put ha h
  | iaload => exact sm9_eq (fr_Ial h)
  | laload => exact sm9_eq (fr_Lal h)
  | baload => exact sm9_eq (fr_Bal h)
  | aaload => exact sm9_eq (fr_Aal h)
  | iastore => exact fr_Ias ha h
  | lastore => exact fr_Las ha h
  | bastore => exact fr_Bas ha h
  | aastore => exact fr_Aas ha h
  | arraylength => exact sm9_eq (fr_Len h)
  | irem =>
    unfold mjStp at h
    dsimp only at h
    (repeat' (split at h)) <;> first | exact sm9_eq (o4_M h) | (cases h; done)
  | aconst_null => exact sm9_eq (o4_M h)
  | dup_x1 => exact sm9_eq (fr_Dupx h)
  | ifnonnull off => exact sm9_eq (fr_Nn h)
  | if_acmp c off => exact sm9_eq (fr_Acm h)
  | checkcast ix => exact sm9_eq (fr_Cast h)
  | instanceof ix => exact sm9_eq (fr_Inst h)
  | _ =>
    have h2 : (none : mjO) = some (pc1, L1, st1, M1) := h
    cases h2
theorem fr_Copy {As : List Value} (ha : (M.2.2.2 a).1 = 99) (h : mjCopy k As M = some M1) : sm9 M M1 a := by
  unfold mjCopy at h
  split at h
  · split at h
    · split at h
      · rename_i g
        rw [← Option.some.inj h]
        exact sm9_cp (ks_ne ha g.1 (by omega))
      · cases h
    · cases h
  · cases h
theorem fr_Cln {As : List Value} {b z : Nat} (hb : ¬ a = b) (h : mjCln k As M b = some (M1, z)) : sm9 M M1 a := by
  unfold mjCln at h
  split at h
  · split at h
    · have e : mjCl9 M _ b = M1 := congrArg Prod.fst (Option.some.inj h)
      rw [← e]
      exact sm9_cl hb
    · cases h
  · cases h
end FR9
theorem mjRun_fr {sg : Nat → Nat} : ∀ (f : Nat) {d k pc : Nat} {L : mjLs} {st : List Value} {n n1 : Nat × Nat} {M M1 : mjMem} {r : Option Value}, mjRun sg f d k pc L st n M = some (r, n1, M1) → ∀ a, (M.2.2.2 a).1 = 99 → (∀ j, n.1 ≤ j → j < n1.1 → sg j ≠ a) → sm9 M M1 a
  | 0, d, k, pc, L, st, n, n1, M, M1, r, h => by simp [mjRun] at h
  | f + 1, d, k, pc, L, st, n, n1, M, M1, r, h => by
    intro a ha hs
    rw [mjRun] at h
    cases h1 : mjLook (mjCode k) pc with
    | none => rw [h1] at h; cases h
    | some q =>
      obtain ⟨i, len⟩ := q
      rw [h1] at h
      dsimp only at h
      by_cases h2 : mjLn i len = true
      · rw [if_pos h2] at h
        cases h3 : mjRet k i st with
        | some r9 =>
          rw [h3] at h
          exact sm9_eq (congrArg (fun x => x.2.2) (Option.some.inj h)).symm
        | none =>
          rw [h3] at h
          dsimp only at h
          cases h4 : mjStp k i pc L st M with
          | some q =>
            obtain ⟨q1, q2, q3, q4⟩ := q
            rw [h4] at h
            dsimp only at h
            have g := fr_Stp ha h4
            exact sm9_tr g (mjRun_fr f h a (by rw [g.2.2.2]; exact ha) hs)
          | none =>
            rw [h4] at h
            dsimp only at h
            cases h5 : mjNew k i pc st (sg n.1) with
            | some q =>
              obtain ⟨q1, q2, q3⟩ := q
              rw [h5] at h
              dsimp only at h
              by_cases hw : mjWr k (sg n.1) = true ∧ n.1 < 100000
              · rw [if_pos hw] at h
                have g1 := (mjRun_sg f h).1
                have g1' : n.1 + 1 ≤ n1.1 := g1
                have g : sm9 M (mjZr M (sg n.1) q3) a := sm9_zr (fun e => hs n.1 (Nat.le_refl _) (by omega) e.symm)
                exact sm9_tr g (mjRun_fr f h a (by rw [g.2.2.2]; exact ha) (fun j j1 j2 => hs j (by have : n.1 + 1 ≤ j := j1; omega) j2))
              · rw [if_neg hw] at h; cases h
            | none =>
              rw [h5] at h
              dsimp only at h
              cases h6 : mjCall k i d st M with
              | none => rw [h6] at h; cases h
              | some q =>
                obtain ⟨k2, As, rest, w⟩ := q
                rw [h6] at h
                dsimp only at h
                by_cases h7 : k2 = 999
                · rw [if_pos h7] at h
                  exact mjRun_fr f h a ha hs
                · rw [if_neg h7] at h
                  by_cases h75 : k2 = 1005
                  · rw [if_pos h75] at h
                    cases hc : mjCopy k As M with
                    | none => rw [hc] at h; cases h
                    | some M9 =>
                      rw [hc] at h
                      dsimp only at h
                      have g := fr_Copy ha hc
                      exact sm9_tr g (mjRun_fr f h a (by rw [g.2.2.2]; exact ha) hs)
                  · rw [if_neg h75] at h
                    by_cases h76 : k2 = 1006
                    · rw [if_pos h76] at h
                      cases hc : mjCln k As M (sg n.1) with
                      | none => rw [hc] at h; cases h
                      | some q9 =>
                        obtain ⟨M9, z9⟩ := q9
                        rw [hc] at h
                        dsimp only at h
                        by_cases h77 : n.1 < 100000
                        · rw [if_pos h77] at h
                          have g1 := (mjRun_sg f h).1
                          have g1' : n.1 + 1 ≤ n1.1 := g1
                          have g := fr_Cln (fun e => hs n.1 (Nat.le_refl _) (by omega) e.symm) hc
                          exact sm9_tr g (mjRun_fr f h a (by rw [g.2.2.2]; exact ha) (fun j j1 j2 => hs j (by have : n.1 + 1 ≤ j := j1; omega) j2))
                        · rw [if_neg h77] at h; cases h
                    · rw [if_neg h76] at h
                      by_cases h8 : 1000 ≤ k2
                      · rw [if_pos h8] at h
                        cases hp : mjPrim k2 As with
                        | none => rw [hp] at h; cases h
                        | some o =>
                          cases o with
                          | none => rw [hp] at h; cases h
                          | some v =>
                            rw [hp] at h
                            dsimp only at h
                            exact mjRun_fr f h a ha hs
                      · rw [if_neg h8] at h
                        cases hr : mjRun sg f (d - 1) k2 0 (mjEnt As (mjML k2)) [] n M with
                        | none => rw [hr] at h; cases h
                        | some q9 =>
                          obtain ⟨r9, n9, M9⟩ := q9
                          rw [hr] at h
                          dsimp only at h
                          have g1 := (mjRun_sg f hr).1
                          have g2 := (mjRun_sg f h).1
                          have g := mjRun_fr f hr a ha (fun j j1 j2 => hs j j1 (by omega))
                          exact sm9_tr g (mjRun_fr f h a (by rw [g.2.2.2]; exact ha) (fun j j1 j2 => hs j (by omega) j2))
      · rw [if_neg h2] at h; cases h
