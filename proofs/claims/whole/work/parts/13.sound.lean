/-! SOUNDNESS -/
theorem mjCall_spec {k k2 n : Nat} {i : Instr} {st As rest : List Value} (h : mjCall k i n st = some (k2, As, rest)) : ∃ kd ix nest, mjCv i = some (kd, ix) ∧ mjMlF (mjCls k) ix = some (k2, nest) ∧ st = As.reverse ++ rest ∧ mjCallQ k k2 kd nest n As rest = true := by
  unfold mjCall at h
  split at h
  · cases h
  · rename_i kd ix hcv
    split at h
    · cases h
    · rename_i k3 nest hml
      by_cases hq : mjCallQ k k3 kd nest n (st.take (mjNp k3 kd)).reverse (st.drop (mjNp k3 kd)) = true
      · rw [if_pos hq] at h
        simp only [Option.some.injEq, Prod.mk.injEq] at h
        obtain ⟨rfl, rfl, rfl⟩ := h
        exact ⟨kd, ix, nest, hcv, hml, by rw [List.reverse_reverse, List.take_append_drop], hq⟩
      · rw [if_neg hq] at h
        cases h
theorem mjCv_spec {i : Instr} {kd ix len : Nat} (h : mjCv i = some (kd, ix)) (hln : mjLn i len = true) : len = 3 ∧ ((kd = 0 ∧ i = .invokevirtual ix) ∨ (kd = 1 ∧ i = .invokestatic ix) ∨ (kd = 2 ∧ i = .invokespecial ix)) := by
  unfold mjCv at h
  split at h
  · cases h; exact ⟨by simpa [mjLn] using hln, Or.inl ⟨rfl, rfl⟩⟩
  · cases h; exact ⟨by simpa [mjLn] using hln, Or.inr (Or.inl ⟨rfl, rfl⟩)⟩
  · cases h; exact ⟨by simpa [mjLn] using hln, Or.inr (Or.inr ⟨rfl, rfl⟩)⟩
  · cases h
theorem mjSum_map {lo : Nat → Nat} (r : List Value) : ((r.map (mjRn lo)).map fun v => v.category).sum = (r.map Value.category).sum := by
  induction r with
  | nil => rfl
  | cons v r ih => simp only [List.map_cons, List.sum_cons, mjRn_cat, ih]
theorem mjLook_mem {cd : List (Nat × Instr × Nat)} {pc : Nat} {i : Instr} {len : Nat} (h : mjLook cd pc = some (i, len)) : (pc, i, len) ∈ cd := by
  induction cd with
  | nil => cases h
  | cons q r ih =>
    obtain ⟨q1, q2, q3⟩ := q
    unfold mjLook at h
    split at h
    · rename_i hq
      subst hq
      cases h
      exact List.mem_cons_self
    · exact List.mem_cons_of_mem _ (ih h)
def mjDec : Prop := ∀ k, k < 340 → ∀ q ∈ mjCode k, decode (mjB k) q.1 = .ok (q.2.1, q.2.2)
section MJ8
variable {p : Program} {l : Launch} {e : Env} {R : Room} {s : State} {m : MethodId} {args : Array Value} {below : List Frame} {meth : Method} {c : Code} {H : Heap} {locs : List Loc} {cells slots : Nat} {Q : State → Prop}
variable {ls : Array Slot} {D : va_G} {kA : Nat → ClassId} {lo : Nat → Nat} {base : Nat} {sc : Nat × (Nat → Int32)} {adV : Nat → Nat} {H0 : Heap} {k n len pc pc1 nL : Nat} {i : Instr} {L L1 : mjLs} {st st1 : List Value} {M M1 : mjMem}
def mjSound (l : Launch) (D : va_G) (kA : Nat → ClassId) (lo : Nat → Nat) (base : Nat) (sc : Nat × (Nat → Int32)) (adV : Nat → Nat) (fuel : Nat) : Prop :=
  ∀ (p : Program) (e : Env) (R : Room) (s : State) (m : MethodId) (args : Array Value) (below : List Frame) (meth : Method) (c : Code) (Q : State → Prop) (k pc : Nat) (L : mjLs) (st : List Value) (n : Nat) (M : mjMem) (r : Option Value) (n1 : Nat) (M1 : mjMem), k < 340 → mjRun fuel k pc L st n M = some (r, n1, M1) →
  p.tables.exec = Jvm.exec → c.code = mjB k → c.maxLocals = mjML k → (∀ w ∈ mjW, w.before args s = true) → s.vm.findClass (mjCn (mjCls k)) = some m.cls → (mjKd k = 2 → meth.name = "<init>") → mjEnv D kA lo base sc adV s s.heap → mjRk k ≤ R.frames → 40 * mjRk k ≤ R.locals →
  ∀ (H : Heap) (locs : List Loc) (ls : Array Slot) (cells slots : Nat), mjLR lo ls (mjML k) L → mjRp D kA lo base sc n M H → va_S (fun q => base ≤ q) s.heap H locs → cells + (n1 - n) ≤ R.cells → slots + (mjCum n1 - mjCum n) ≤ R.slots →
  (∀ (H' : Heap) (locs' : List Loc) (pc' : Nat) (ls' : Array Slot) (i : Instr) (len : Nat) (st' : List Value), mjRp D kA lo base sc n1 M1 H' → va_S (fun q => base ≤ q) s.heap H' locs' → decode (mjB k) pc' = .ok (i, len) → mjLn i len = true → mjRet k i st' = some r → W p l e R s m args below meth c H' locs' (cells + (n1 - n)) (slots + (mjCum n1 - mjCum n)) Q (F0 m pc' ls' (st'.map (mjRn lo)))) →
  W p l e R s m args below meth c H locs cells slots Q (F0 m pc ls (st.map (mjRn lo)))
theorem mjCx.of (hx : p.tables.exec = Jvm.exec) (hb : c.code = mjB k) (hts : ∀ w ∈ mjW, w.before args s = true) (hown : s.vm.findClass (mjCn (mjCls k)) = some m.cls) (hinit : mjKd k = 2 → meth.name = "<init>") (hE : mjEnv D kA lo base sc adV s H0) : mjCx p s m args meth c D kA lo base sc H0 k :=
  ⟨hx, hb, hts, hown, hE.1, hinit, hE.2.1, fun ix j h => hE.2.2.1 _ ix j h, hE.2.2.2.1, hE.2.2.2.2.1, hE.2.2.2.2.2.2⟩
theorem mj_met {fuel : Nat} (IH : mjSound l D kA lo base sc adV fuel) {As : List Value} {r : Option Value} {n1 : Nat} (hk : k < 339) (h : mjRun fuel k 0 (mjEnt As (mjML k)) [] n M = some (r, n1, M1)) (hv : ∀ w ∈ As, mjVok w = true) (hw : mjW2 As ≤ mjML k) :
    Met l (mjY k) (mjWs k) (mjRm k (n1 - n) (mjCum n1 - mjCum n)) (mjPcS D kA lo base sc adV n M As) (mjQcS D kA lo base sc n1 M1 r) (n1 - n) (mjCum n1 - mjCum n) (fun q => base ≤ q) := by
  obtain ⟨-, -, -, -, hnm, hcls, -, hpl, -⟩ := mjM_spec hk
  refine Met.ofW (cc := mjB k) (maxL := mjML k) (ret := mjRt k) hpl rfl ?_
  intro p e s m args below meth c s₁ B hml hvv
  obtain ⟨rfl, hE, hR⟩ := hvv
  have hx := B.exec
  have hb := B.bytes
  have hr := B.returns
  have hts := atoms_spec (ws := mjWs k) B.pre
  have hown : s.vm.findClass (mjCn (mjCls k)) = some m.cls := by
    rw [← hcls]
    exact findClass_of_methodNamed B.named
  have hlocks := B.notSynchronized
  have hin : mjKd k = 2 → meth.name = "<init>" := fun h2 => by
    rw [(name_of_methodNamed B.named B.method).1]
    exact hnm h2
  have hl := lv_entry (As.map (mjRn lo)) (n := mjML k) (by rw [mjSl_len As hv]; exact hw)
  rw [lg_entry_eq]
  generalize (lg_sl (As.map (mjRn lo)) ++ List.replicate (mjML k - (lg_sl (As.map (mjRn lo))).length) Slot.unset).toArray = ls at hl ⊢
  have hLR : mjLR lo ls (mjML k) (mjEnt As (mjML k)) := ⟨mjEnt_len As _ hw, ⟨hl.1, hl.2.1, fun _ h => by cases h⟩, fun j v hj => by
    have h9 := mjEnt_at (lo := lo) As (mjML k) j v 0 hj hv
    have h8 := hl.2.2 _ h9
    simpa using h8⟩
  refine IH p e _ s m _ below meth c _ k 0 _ [] n M r n1 M1 (by omega) h hx hb hml (fun w hw => hts w (List.mem_cons_of_mem _ hw)) hown hin hE (Nat.le_refl _) (Nat.le_refl _) s.heap [] ls 0 0 hLR hR va_S.rf (by rw [Nat.zero_add]; exact Nat.le_refl _) (by rw [Nat.zero_add]; exact Nat.le_refl _) ?_
  intro H' locs' pc' ls' i len st' hR' hS' hdg hln hret
  rw [Nat.zero_add, Nat.zero_add]
  exact mj_ret hx hb hr hlocks hret hln hdg (fun t ht hW => ⟨rfl, by rw [ht]; exact hR', by rw [ht]; exact hS'.1, fun q h1 h2 => by rw [ht]; exact hS'.2.1 q h1 h2⟩) hS'.2.2
/-- a call of one of the classes' own methods -/
theorem mj_call {As rest : List Value} {k2 kd ix nest mc ms : Nat} {n0 : Nat} {M0 : mjMem} {Qc : Array Value → State → Outcome → State → Prop} (hk2 : k2 < 339) (hx : p.tables.exec = Jvm.exec) (hb : c.code = mjB k) (hml : c.maxLocals = mjML k) (hts : ∀ w ∈ mjW, w.before args s = true) (hown : s.vm.findClass (mjCn (mjCls k)) = some m.cls) (hE : mjEnv D kA lo base sc adV s s.heap) (hf1 : mjRk k ≤ R.frames) (hf2 : 40 * mjRk k ≤ R.locals)
    (hM : Met l (mjY k2) (mjWs k2) (mjRm k2 mc ms) (mjPcS D kA lo base sc adV n0 M0 As) Qc mc ms (fun q => base ≤ q)) (hcv : mjCv i = some (kd, ix)) (hmlf : mjMlF (mjCls k) ix = some (k2, nest)) (hok : mjCallOk k k2 kd nest As rest = true) (hrc : mjRcv n0 k2 kd As = true) (hln : mjLn i len = true) (hdg : decode (mjB k) pc = .ok (i, len))
    (hsz : ls.size = mjML k) (hR : mjRp D kA lo base sc n0 M0 H) (hS : va_S (fun q => base ≤ q) s.heap H locs) (hcells : cells + mc ≤ R.cells) (hslots : slots + ms ≤ R.slots) (hL2 : mjML k2 ≤ 16) :
    va_Run p l e R s m args below meth c H locs cells slots mc ms (F0 m pc ls ((As.reverse ++ rest).map (mjRn lo))) (rest.map (mjRn lo)) (Qc (As.map (mjRn lo)).toArray) (fun q => base ≤ q) := by
  simp only [mjCallOk, Bool.and_eq_true, decide_eq_true_eq] at hok
  obtain ⟨⟨⟨⟨⟨⟨⟨-, hkd⟩, hrk⟩, hlen⟩, hvok⟩, hsum⟩, hw2⟩, hnest⟩ := hok
  obtain ⟨hi1, hi2, hi3, hi4, hnm, hcls, hdd, hpl, hrt⟩ := mjM_spec hk2
  have hcode := mjCw_ok k2 hk2
  obtain ⟨rfl, hi⟩ := mjCv_spec hcv hln
  have hlink := mjMlF_spec (mjCls_lt k) hmlf
  have hGw : ∀ w ∈ mjWs k2, w ∈ mjW := fun w hw => (List.mem_cons.mp hw).elim (fun e => e ▸ hcode) id
  have hroom : (mjRm k2 mc ms).frames + 1 ≤ R.frames ∧ 8 + (mjML k2 + 11) + (mjRm k2 mc ms).locals ≤ R.locals := by
    refine ⟨by show mjRk k2 + 1 ≤ _; omega, by show 8 + (mjML k2 + 11) + 40 * mjRk k2 ≤ _; omega⟩
  have hsum2 : 2 * (F0 m pc ls ((As.reverse ++ rest).map (mjRn lo))).monitorRoom + ((rest.map (mjRn lo)).map fun v => v.category).sum ≤ 8 := lv_room (by rw [mjSum_map]; exact hsum)
  have hS4 : CallFix p m c (mjB k) (mjML k) s args mjW (mjCn (mjCls k)) := ⟨hx, hb, hml, hown, hts⟩
  have hpre : ∀ U : State, U.heap = H → s.WarmedH U.vm → mjPcS D kA lo base sc adV n0 M0 As (As.map (mjRn lo)).toArray U := fun U hU hW => ⟨rfl, by subst hU; exact hE.pass hS hW, by rw [hU]; exact hR⟩
  have hyq : ¬ nest = 1 → mjYq k2 = mjY k2 := fun _ => by
    simp only [mjYq]
    rw [if_neg (by omega), if_neg (by omega), if_neg (by omega)]
  rcases hi with ⟨rfl, rfl⟩ | ⟨rfl, rfl⟩ | ⟨rfl, rfl⟩
  · -- virtual
    have hn1 : ¬ nest = 1 := by omega
    rcases hlink with ⟨h1, -⟩ | ⟨-, hl⟩
    · exact absurd h1 hn1
    rw [hyq hn1] at hl
    match As, hM, hrc, hlen, hpre with
    | [], _, hrc, _, _ => cases hrc
    | .ref a :: As', hM, hrc, hlen, hpre =>
      simp only [mjRcv, Bool.or_eq_true, Bool.and_eq_true, decide_eq_true_eq, beq_iff_eq] at hrc
      have hrecv : ∃ cellB : Cell, H[lo a]? = some cellB ∧ cellB.vm.isStatics = false ∧ s.vm.findClass (mjY k2).cls = some cellB.cls := by
        rw [hcls]
        rcases hrc with hrc | ⟨h18, hrc⟩
        · have ha := (mjIs_spec hrc.1).1
          rw [hE.2.1 a (mjLt7 ha hR.2.1)]
          exact va_recv (q := (mjCn (mjCls k2), mjTx (mjCls k2), mjNf (mjCls k2))) hE.1 (mjP1 (hR.1.obj hrc.1 hrc.2)) (mjCl_at hrc.2) (q0 := 0) rfl
        · obtain ⟨i9, hi9, rfl⟩ := mjSid_spec hrc
          rw [h18]
          exact vk_recv (i := 0) (hE.2.2.2.2.2.2.1 i9 hi9) (by decide) hS
      refine va_runV (C := (mjY k2).cls) (As := As'.map (mjRn lo)) (b := lo a) hS4 hM (cwV (mjNa k2) hts (mjGoodIn (fun w hw => ?_)) rfl rfl rfl ⟨rfl, hdd⟩ hroom) ⟨mjPcS.blind, hrecv, hpre⟩ rfl ?_ hsz ?_ hsum2 hdg ⟨hcells, hslots⟩
      · unfold wsV at hw
        rcases List.mem_append.mp hw with hw | hw
        · simp only [List.mem_cons, List.not_mem_nil, or_false] at hw
          rcases hw with rfl | rfl | rfl | rfl
          · exact hl
          · exact hi3 (by omega)
          · exact hi4 hkd
          · exact hi1
        · exact hGw w hw
      · simpa using hlen
      · simp [mjRn]
    | .int a :: As', _, hrc, _, _ => cases hrc
    | .long a :: As', _, hrc, _, _ => cases hrc
    | .float a :: As', _, hrc, _, _ => cases hrc
    | .double a :: As', _, hrc, _, _ => cases hrc
    | .null :: As', _, hrc, _, _ => cases hrc
    | .retAddr a :: As', _, hrc, _, _ => cases hrc
  · -- static
    have hlen2 : (As.map (mjRn lo)).length = mjNa k2 := by rw [List.length_map]; exact hlen
    have hstk : (F0 m pc ls ((As.reverse ++ rest).map (mjRn lo))).stack = (As.map (mjRn lo)).reverse ++ rest.map (mjRn lo) := by simp
    rcases hlink with ⟨h1, -⟩ | ⟨h1, hl⟩
    · subst h1
      have hN := hE.2.2.2.2.2.1 _ _ _ hmlf
      exact va_runSN (As := As.map (mjRn lo)) hS4 hM ⟨va_cnB (mjNa k2) hts (mjGoodIn hGw) rfl rfl rfl hN (hts _ hi1) hdd hroom, hts _ (hi2 hkd), trivial⟩ ⟨mjPcS.blind, hpre⟩ rfl hlen2 hsz hstk hsum2 hdg ⟨hcells, hslots⟩
    · rw [hyq h1] at hl
      refine va_runS (As := As.map (mjRn lo)) hS4 hM ⟨callB_of (mjNa k2) hts (mjGoodIn hGw) rfl rfl rfl (hts _ hi1) (hts _ hl) hdd hroom, hts _ (hi2 hkd)⟩ ⟨mjPcS.blind, hpre⟩ rfl hlen2 hsz hstk hsum2 hdg ⟨hcells, hslots⟩
  · -- special
    have hrtn : mjRt k2 = none := hrt hkd
    match As, hM, hrc, hlen, hpre with
    | [], _, hrc, _, _ => cases hrc
    | .ref a :: As', hM, hrc, hlen, hpre =>
      have hlen2 : (As'.map (mjRn lo)).length = mjNa k2 := by simpa using hlen
      have hstk : (F0 m pc ls (((Value.ref a :: As').reverse ++ rest).map (mjRn lo))).stack = (As'.map (mjRn lo)).reverse ++ .ref (lo a) :: rest.map (mjRn lo) := by simp [mjRn]
      have hws : mjWs k2 = Cond.code (mjY k2) (mjB k2) (mjML k2) none :: mjW := by rw [mjWs, hrtn]
      rcases hlink with ⟨h1, -⟩ | ⟨h1, hl⟩
      · subst h1
        have hN := hE.2.2.2.2.2.1 _ _ _ hmlf
        exact va_runIN (As := As'.map (mjRn lo)) (b := lo a) hS4 hM ⟨va_cnB (mjNa k2) hts (mjGoodIn hGw) hws rfl rfl hN (hts _ hi1) hdd hroom, hnm hkd, hts _ (hi3 (by omega))⟩ ⟨mjPcS.blind, hpre⟩ rfl hlen2 hsz hstk hsum2 hdg ⟨hcells, hslots⟩
      · rw [hyq h1] at hl
        exact va_runI (As := As'.map (mjRn lo)) (b := lo a) hS4 hM ⟨callB_of (mjNa k2) hts (mjGoodIn hGw) hws rfl rfl (hts _ hi1) (hts _ hl) hdd hroom, hnm hkd, hts _ (hi3 (by omega))⟩ ⟨mjPcS.blind, hpre⟩ rfl hlen2 hsz hstk hsum2 hdg ⟨hcells, hslots⟩
    | .int a :: As', _, hrc, _, _ => cases hrc
    | .long a :: As', _, hrc, _, _ => cases hrc
    | .float a :: As', _, hrc, _, _ => cases hrc
    | .double a :: As', _, hrc, _, _ => cases hrc
    | .null :: As', _, hrc, _, _ => cases hrc
    | .retAddr a :: As', _, hrc, _, _ => cases hrc
end MJ8
