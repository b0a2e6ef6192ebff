/-! SOUNDNESS -/
theorem mjCall_spec {k k2 d w : Nat} {i : Instr} {st As rest : List Value} {M : mjMem} (h : mjCall k i d st M = some (k2, As, rest, w)) : ∃ op ix md C, mjCv i = some (op, ix, w) ∧ mjLkF (mjCls k) ix = some (k2, md, C) ∧ mjOpMd op md = true ∧ st = As.reverse ++ rest ∧ mjCallQ k k2 md C d M As rest = true := by
  unfold mjCall at h
  split at h
  · cases h
  · rename_i op ix w0 hcv
    split at h
    · cases h
    · rename_i k3 md C hml
      split at h
      · rename_i hq
        simp only [Option.some.injEq, Prod.mk.injEq] at h
        obtain ⟨rfl, rfl, rfl, rfl⟩ := h
        exact ⟨op, ix, md, C, hcv, hml, hq.1, by rw [List.reverse_reverse, List.take_append_drop], hq.2⟩
      · cases h
theorem mjCv_spec {i : Instr} {op ix w len : Nat} (h : mjCv i = some (op, ix, w)) (hln : mjLn i len = true) : (op = 0 ∧ i = .invokevirtual ix ∧ w = 3 ∧ len = 3) ∨ (op = 1 ∧ i = .invokestatic ix ∧ w = 3 ∧ len = 3) ∨ (op = 2 ∧ i = .invokespecial ix ∧ w = 3 ∧ len = 3) ∨ (op = 4 ∧ (∃ cn, i = .invokeinterface ix cn) ∧ w = 5 ∧ len = 5) := by
  unfold mjCv at h
  split at h
  · cases h; exact Or.inl ⟨rfl, rfl, rfl, by simpa [mjLn] using hln⟩
  · cases h; exact Or.inr (Or.inl ⟨rfl, rfl, rfl, by simpa [mjLn] using hln⟩)
  · cases h; exact Or.inr (Or.inr (Or.inl ⟨rfl, rfl, rfl, by simpa [mjLn] using hln⟩))
  · cases h; exact Or.inr (Or.inr (Or.inr ⟨rfl, ⟨_, rfl⟩, rfl, by simpa [mjLn] using hln⟩))
  · cases h
theorem mjSum_map {lo : Nat → Nat} (r : List Value) : ((r.map (mjRn lo)).map fun v => v.category).sum = (r.map Value.category).sum := by
  induction r with
  | nil => rfl
  | cons v r ih => simp only [List.map_cons, List.sum_cons, mjRn_cat, ih]
theorem mjLook_mem {cd : List (Nat × Instr × Nat)} {pc : Nat} {i : Instr} {len : Nat} (h : mjLook cd pc = some (i, len)) : (pc, i, len) ∈ cd := by
  induction cd with
  | nil => cases h
  | cons q r ih =>
    obtain ⟨q1, q2, q3⟩ := q
    unfold mjLook at h
    split at h
    · rename_i hq
      subst hq
      cases h
      exact List.mem_cons_self
    · exact List.mem_cons_of_mem _ (ih h)
def mjDec : Prop := ∀ k, k < 257 → ∀ q ∈ mjCode k, decode (mjB k) q.1 = .ok (q.2.1, q.2.2)
section MJ8
variable {p : Program} {l : Launch} {e : Env} {R : Room} {s : State} {m : MethodId} {args : Array Value} {below : List Frame} {meth : Method} {c : Code} {H : Heap} {locs : List Loc} {cells slots : Nat} {Q : State → Prop}
variable {ls : Array Slot} {D : va_G} {kA : Nat → ClassId} {lo sg : Nat → Nat} {base : Nat} {sc : Nat × (Nat → Int32)} {H0 : Heap} {d k len pc pc1 nL : Nat} {n : Nat × Nat} {i : Instr} {L L1 : mjLs} {st st1 : List Value} {M M1 : mjMem}
def mjSound (l : Launch) (D : va_G) (kA : Nat → ClassId) (lo sg : Nat → Nat) (base : Nat) (sc : Nat × (Nat → Int32)) (fuel : Nat) : Prop :=
  ∀ (p : Program) (e : Env) (R : Room) (s : State) (m : MethodId) (args : Array Value) (below : List Frame) (meth : Method) (c : Code) (Q : State → Prop) (d k pc : Nat) (L : mjLs) (st : List Value) (n : Nat × Nat) (M : mjMem) (r : Option Value) (n1 : Nat × Nat) (M1 : mjMem), k < 257 → mjRun sg fuel d k pc L st n M = some (r, n1, M1) →
  p.tables.exec = Jvm.exec → c.code = mjB k → c.maxLocals = mjML k → (∀ w ∈ mjW, w.before args s = true) → s.vm.findClass (mjCn (mjCls k)) = some m.cls → (mjKd k = 2 → meth.name = "<init>") → mjEnv D kA lo base sc s s.heap → d ≤ R.frames → 40 * d ≤ R.locals →
  ∀ (H : Heap) (locs : List Loc) (ls : Array Slot) (cells slots : Nat), mjLR lo ls (mjML k) L → mjRp D kA lo sg base sc n.1 M H → va_S (fun q => base ≤ q) s.heap H locs → cells + (n1.1 - n.1) ≤ R.cells → slots + (n1.2 - n.2) ≤ R.slots →
  (∀ (H' : Heap) (locs' : List Loc) (pc' : Nat) (ls' : Array Slot) (i : Instr) (len : Nat) (st' : List Value), mjRp D kA lo sg base sc n1.1 M1 H' → va_S (fun q => base ≤ q) s.heap H' locs' → decode (mjB k) pc' = .ok (i, len) → mjLn i len = true → mjRet k i st' = some r → W p l e R s m args below meth c H' locs' (cells + (n1.1 - n.1)) (slots + (n1.2 - n.2)) Q (F0 m pc' ls' (st'.map (mjRn lo)))) →
  W p l e R s m args below meth c H locs cells slots Q (F0 m pc ls (st.map (mjRn lo)))
theorem mjCx.of (hx : p.tables.exec = Jvm.exec) (hb : c.code = mjB k) (hts : ∀ w ∈ mjW, w.before args s = true) (hown : s.vm.findClass (mjCn (mjCls k)) = some m.cls) (hinit : mjKd k = 2 → meth.name = "<init>") (hE : mjEnv D kA lo base sc s H0) : mjCx p s m args meth c D kA lo base sc H0 k :=
  ⟨hx, hb, hts, hown, hE.1, hinit, fun ix j h => hE.2.1 _ ix j h, hE.2.2.1, hE.2.2.2.1, hE.2.2.2.2.1, hE.2.2.2.2.2.1, hE.2.2.2.2.2.2.1⟩
theorem mj_met {fuel : Nat} (IH : mjSound l D kA lo sg base sc fuel) {As : List Value} {r : Option Value} {n1 : Nat × Nat} (hk : k < 256) (h : mjRun sg fuel d k 0 (mjEnt As (mjML k)) [] n M = some (r, n1, M1)) (hv : ∀ w ∈ As, mjVok w = true) (hw : mjW2 As ≤ mjML k) :
    Met l (mjY k) (mjWs k) (mjRm d (n1.1 - n.1) (n1.2 - n.2)) (mjPcS D kA lo sg base sc n.1 M As) (mjQcS D kA lo sg base sc n1.1 M1 r) (n1.1 - n.1) (n1.2 - n.2) (fun q => base ≤ q) := by
  obtain ⟨-, -, -, hnm, hcls, -, hpl, -⟩ := mjM_spec hk
  refine Met.ofW (cc := mjB k) (maxL := mjML k) (ret := mjRt k) hpl rfl ?_
  intro p e s m args below meth c s₁ B hml hvv
  obtain ⟨rfl, hE, hR⟩ := hvv
  have hx := B.exec
  have hb := B.bytes
  have hr := B.returns
  have hts := atoms_spec (ws := mjWs k) B.pre
  have hown : s.vm.findClass (mjCn (mjCls k)) = some m.cls := by
    rw [← hcls]
    exact findClass_of_methodNamed B.named
  have hlocks := B.notSynchronized
  have hin : mjKd k = 2 → meth.name = "<init>" := fun h2 => by
    rw [(name_of_methodNamed B.named B.method).1]
    exact hnm h2
  have hl := lv_entry (As.map (mjRn lo)) (n := mjML k) (by rw [mjSl_len As hv]; exact hw)
  rw [lg_entry_eq]
  generalize (lg_sl (As.map (mjRn lo)) ++ List.replicate (mjML k - (lg_sl (As.map (mjRn lo))).length) Slot.unset).toArray = ls at hl ⊢
  have hLR : mjLR lo ls (mjML k) (mjEnt As (mjML k)) := ⟨mjEnt_len As _ hw, ⟨hl.1, hl.2.1, fun _ h => by cases h⟩, fun j v hj => by
    have h9 := mjEnt_at (lo := lo) As (mjML k) j v 0 hj hv
    have h8 := hl.2.2 _ h9
    simpa using h8⟩
  refine IH p e _ s m _ below meth c _ d k 0 _ [] n M r n1 M1 (by omega) h hx hb hml (fun w hw => hts w (List.mem_cons_of_mem _ hw)) hown hin hE (Nat.le_refl _) (Nat.le_refl _) s.heap [] ls 0 0 hLR hR va_S.rf (by rw [Nat.zero_add]; exact Nat.le_refl _) (by rw [Nat.zero_add]; exact Nat.le_refl _) ?_
  intro H' locs' pc' ls' i len st' hR' hS' hdg hln hret
  rw [Nat.zero_add, Nat.zero_add]
  exact mj_ret hx hb hr hlocks hret hln hdg (fun t ht hW => ⟨rfl, by rw [ht]; exact hR', by rw [ht]; exact hS'.1, fun q h1 h2 => by rw [ht]; exact hS'.2.1 q h1 h2⟩) hS'.2.2
/-- a call of one of the methods: by the instruction and the mode -/
def mjRunQ (p : Program) (l : Launch) (e : Env) (R : Room) (s : State) (m : MethodId) (args : Array Value) (below : List Frame) (meth : Method) (c : Code) (H : Heap) (locs : List Loc) (cells slots mc ms w : Nat) (g : JFrame) (rest : List Value) (Qa : State → Outcome → State → Prop) (free : Addr → Prop) : Prop :=
  (w = 3 ∧ va_Run p l e R s m args below meth c H locs cells slots mc ms g rest Qa free) ∨ (w = 5 ∧ va_Run5 p l e R s m args below meth c H locs cells slots mc ms g rest Qa free)
theorem mj_call {As rest : List Value} {k2 op ix md C w mc ms : Nat} {n0 : Nat} {M0 : mjMem} {Qc : Array Value → State → Outcome → State → Prop} (hx : p.tables.exec = Jvm.exec) (hb : c.code = mjB k) (hml : c.maxLocals = mjML k) (hts : ∀ w ∈ mjW, w.before args s = true) (hown : s.vm.findClass (mjCn (mjCls k)) = some m.cls) (hE : mjEnv D kA lo base sc s s.heap) (hd : 1 ≤ d) (hf1 : d ≤ R.frames) (hf2 : 40 * d ≤ R.locals)
    (hM : Met l (mjY k2) (mjWs k2) (mjRm (d - 1) mc ms) (mjPcS D kA lo sg base sc n0 M0 As) Qc mc ms (fun q => base ≤ q)) (hcv : mjCv i = some (op, ix, w)) (hlkf : mjLkF (mjCls k) ix = some (k2, md, C)) (hom : mjOpMd op md = true) (hok : mjCallOk k k2 md As rest = true) (hrc : mjRcv M0 md C As = true) (hln : mjLn i len = true) (hdg : decode (mjB k) pc = .ok (i, len))
    (hsz : ls.size = mjML k) (hR : mjRp D kA lo sg base sc n0 M0 H) (hS : va_S (fun q => base ≤ q) s.heap H locs) (hcells : cells + mc ≤ R.cells) (hslots : slots + ms ≤ R.slots) (hL2 : mjML k2 ≤ 16) :
    mjRunQ p l e R s m args below meth c H locs cells slots mc ms w (F0 m pc ls ((As.reverse ++ rest).map (mjRn lo))) (rest.map (mjRn lo)) (Qc (As.map (mjRn lo)).toArray) (fun q => base ≤ q) := by
  simp only [mjCallOk, Bool.and_eq_true, decide_eq_true_eq] at hok
  obtain ⟨⟨⟨⟨⟨⟨hk2, hkd⟩, -⟩, hlen⟩, hvok⟩, hsum⟩, hw2⟩ := hok
  obtain ⟨hi1, hi2, hi3, hnm, hcls, hdd, hpl, hrt⟩ := mjM_spec hk2
  have hcode := mjCw_ok k2 hk2
  have hi := mjCv_spec hcv hln
  obtain ⟨pl, ps, xi, hmem⟩ := mjLkF_spec hlkf
  have hlk := mjLk_in hmem
  have hGw : ∀ w ∈ mjWs k2, w ∈ mjW := fun w hw => (List.mem_cons.mp hw).elim (fun e => e ▸ hcode) id
  have hroom : (mjRm (d - 1) mc ms).frames + 1 ≤ R.frames ∧ 8 + (mjML k2 + 11) + (mjRm (d - 1) mc ms).locals ≤ R.locals := by
    refine ⟨by show d - 1 + 1 ≤ _; omega, by show 8 + (mjML k2 + 11) + 40 * (d - 1) ≤ _; omega⟩
  have hsum2 : 2 * (F0 m pc ls ((As.reverse ++ rest).map (mjRn lo))).monitorRoom + ((rest.map (mjRn lo)).map fun v => v.category).sum ≤ 8 := lv_room (by rw [mjSum_map]; exact hsum)
  have hS4 : CallFix p m c (mjB k) (mjML k) s args mjW (mjCn (mjCls k)) := ⟨hx, hb, hml, hown, hts⟩
  have hpre : ∀ U : State, U.heap = H → s.WarmedH U.vm → mjPcS D kA lo sg base sc n0 M0 As (As.map (mjRn lo)).toArray U := fun U hU hW => ⟨rfl, by subst hU; exact hE.pass hS hW, by rw [hU]; exact hR⟩
  have hyq : mjYq k2 = mjY k2 := by
    simp only [mjYq]
    rw [if_neg (by omega), if_neg (by omega), if_neg (by omega), if_neg (by omega)]
  have hmd : md = 0 ∨ md = 1 ∨ md = 2 ∨ md = 3 ∨ md = 4 ∨ md = 5 ∨ md = 6 ∨ md = 7 ∨ md = 8 := by
    simp only [mjOpMd, Bool.or_eq_true, Bool.and_eq_true, beq_iff_eq] at hom
    omega
  by_cases hst : mjMk md = 1
  · -- static
    have hlen2 : (As.map (mjRn lo)).length = mjNa k2 := by rw [List.length_map, hlen, if_pos hst]
    have hstk : (F0 m pc ls ((As.reverse ++ rest).map (mjRn lo))).stack = (As.map (mjRn lo)).reverse ++ rest.map (mjRn lo) := by simp
    have h16 : md = 1 ∨ md = 6 := by unfold mjMk at hst; split at hst; assumption; split at hst <;> omega
    have hop : op = 1 := by
      simp only [mjOpMd, Bool.or_eq_true, Bool.and_eq_true, beq_iff_eq] at hom
      omega
    rcases hi with ⟨g, -⟩ | ⟨-, rfl, rfl, rfl⟩ | ⟨g, -⟩ | ⟨g, -⟩
    · omega
    · refine Or.inl ⟨rfl, ?_⟩
      rcases h16 with rfl | rfl
      · have hl : Cond.methodLink (mjCn (mjCls k)) ix (mjY k2) ∈ mjW := by rw [← hyq]; exact mjOk_in hlk
        exact va_runS (As := As.map (mjRn lo)) hS4 hM ⟨callB_of (mjNa k2) hts (mjGoodIn hGw) rfl rfl rfl (hts _ hi1) (hts _ hl) hdd hroom, hts _ (hi2 (hkd.trans hst))⟩ ⟨mjPcS.blind, hpre⟩ rfl hlen2 hsz hstk hsum2 hdg ⟨hcells, hslots⟩
      · have hN := hE.2.2.2.2.2.2.2.1 _ _ hmem (Or.inl rfl)
        exact va_runSN (As := As.map (mjRn lo)) hS4 hM ⟨va_cnB (mjNa k2) hts (mjGoodIn hGw) rfl rfl rfl hN (hts _ hi1) hdd hroom, hts _ (hi2 (hkd.trans hst)), trivial⟩ ⟨mjPcS.blind, hpre⟩ rfl hlen2 hsz hstk hsum2 hdg ⟨hcells, hslots⟩
    · omega
    · omega
  · match As, hM, hrc, hlen, hpre with
    | [], _, hrc, _, _ => simp [mjRcv, hst] at hrc
    | .int a :: As', _, hrc, _, _ => simp [mjRcv, hst] at hrc
    | .long a :: As', _, hrc, _, _ => simp [mjRcv, hst] at hrc
    | .float a :: As', _, hrc, _, _ => simp [mjRcv, hst] at hrc
    | .double a :: As', _, hrc, _, _ => simp [mjRcv, hst] at hrc
    | .null :: As', _, hrc, _, _ => simp [mjRcv, hst] at hrc
    | .retAddr a :: As', _, hrc, _, _ => simp [mjRcv, hst] at hrc
    | .ref a :: As', hM, hrc, hlen, hpre =>
      have hlen2 : (As'.map (mjRn lo)).length = mjNa k2 := by
        rw [if_neg hst] at hlen
        simpa using hlen
      have hstk : (F0 m pc ls (((Value.ref a :: As').reverse ++ rest).map (mjRn lo))).stack = (As'.map (mjRn lo)).reverse ++ .ref (lo a) :: rest.map (mjRn lo) := by simp [mjRn]
      have hkn1 : ¬ mjKd k2 = 1 := fun q => hst (hkd.symm.trans q)
      by_cases h2 : mjMk md = 2
      · -- a constructor
        have hkd2 : mjKd k2 = 2 := hkd.trans h2
        have hws : mjWs k2 = Cond.code (mjY k2) (mjB k2) (mjML k2) none :: mjW := by rw [mjWs, hrt hkd2]
        have h27 : md = 2 ∨ md = 7 := by unfold mjMk at h2; split at h2; omega; split at h2; assumption; omega
        have hop : op = 2 := by
          simp only [mjOpMd, Bool.or_eq_true, Bool.and_eq_true, beq_iff_eq] at hom
          omega
        rcases hi with ⟨g, -⟩ | ⟨g, -⟩ | ⟨-, rfl, rfl, rfl⟩ | ⟨g, -⟩
        · omega
        · omega
        · refine Or.inl ⟨rfl, ?_⟩
          rcases h27 with rfl | rfl
          · have hl : Cond.methodLink (mjCn (mjCls k)) ix (mjY k2) ∈ mjW := by rw [← hyq]; exact mjOk_in hlk
            exact va_runI (As := As'.map (mjRn lo)) (b := lo a) hS4 hM ⟨callB_of (mjNa k2) hts (mjGoodIn hGw) hws rfl rfl (hts _ hi1) (hts _ hl) hdd hroom, hnm hkd2, hts _ (hi3 hkn1)⟩ ⟨mjPcS.blind, hpre⟩ rfl hlen2 hsz hstk hsum2 hdg ⟨hcells, hslots⟩
          · have hN := hE.2.2.2.2.2.2.2.1 _ _ hmem (Or.inr rfl)
            exact va_runIN (As := As'.map (mjRn lo)) (b := lo a) hS4 hM ⟨va_cnB (mjNa k2) hts (mjGoodIn hGw) hws rfl rfl hN (hts _ hi1) hdd hroom, hnm hkd2, hts _ (hi3 hkn1)⟩ ⟨mjPcS.blind, hpre⟩ rfl hlen2 hsz hstk hsum2 hdg ⟨hcells, hslots⟩
        · omega
      · -- a receiver whose class is known
        simp only [mjRcv, Bool.or_eq_true, Bool.and_eq_true, beq_iff_eq, decide_eq_true_eq] at hrc
        have hro : mjRo M0 a C = true ∧ C < 21 := by
          rcases hrc with (h | h) | h
          · exact absurd h hst
          · exact absurd h h2
          · exact h
        have hrecv := mjRo_recv hE.1 hE.2.2.2.2.1 hR.1 hS hro.2 hro.1
        have hat : ClassAt s (mjCn C) (D.1 C) := (hE.1.1 C _ (mjCl_at hro.2)).2
        rcases hmd with rfl | rfl | rfl | rfl | rfl | rfl | rfl | rfl | rfl
        · -- 0
          simp only [mjLkOk, Bool.and_eq_true, decide_eq_true_eq] at hlk
          obtain ⟨⟨l1, l2⟩, l3⟩ := hlk
          rw [hyq] at l1
          rw [l3] at hrecv l2
          have hop : op = 0 := by
            simp only [mjOpMd, Bool.or_eq_true, Bool.and_eq_true, beq_iff_eq] at hom
            omega
          rcases hi with ⟨-, rfl, rfl, rfl⟩ | ⟨g, -⟩ | ⟨g, -⟩ | ⟨g, -⟩
          · refine Or.inl ⟨rfl, va_runV (C := (mjY k2).cls) (As := As'.map (mjRn lo)) (b := lo a) hS4 hM (cwV (mjNa k2) hts (mjGoodIn (fun w hw => ?_)) rfl rfl rfl ⟨rfl, hdd⟩ hroom) ⟨mjPcS.blind, hrecv, hpre⟩ rfl hlen2 hsz hstk hsum2 hdg ⟨hcells, hslots⟩⟩
            unfold wsV at hw
            rcases List.mem_append.mp hw with hw | hw
            · simp only [List.mem_cons, List.not_mem_nil, or_false] at hw
              rcases hw with rfl | rfl | rfl | rfl
              · exact mjOk_in l1
              · exact hi3 hkn1
              · exact mjOk_in l2
              · exact hi1
            · exact hGw w hw
          · omega
          · omega
          · omega
        · exact absurd rfl hst
        · exact absurd rfl h2
        · -- 3
          simp only [mjLkOk, Bool.and_eq_true, mjNmh, mjNpa, decide_eq_true_eq] at hlk
          obtain ⟨⟨⟨⟨⟨l1, l2⟩, l3⟩, l4⟩, l5⟩, l6⟩ := hlk
          have hop : op = 0 := by
            simp only [mjOpMd, Bool.or_eq_true, Bool.and_eq_true, beq_iff_eq] at hom
            omega
          have hdecl : va_Decl s ⟨(mjXr xi).2.1, (mjXr xi).1.name, (mjXr xi).1.desc⟩ := by
            split at l6
            · rw [of_decide_eq_true l6]
              exact va_Decl.abs hE.2.2.2.2.2.2.2.2.2
            · simp only [Bool.and_eq_true, decide_eq_true_eq] at l6
              obtain ⟨⟨j1, j2⟩, j3⟩ := l6
              rw [← j3]
              exact va_Decl.of (args := args) (hts _ ((mjM_spec j1).2.2.1 (by omega))) (hts _ (mjCw_ok _ j1))
          have hcu : va_CU R s args (mjCn (mjCls k)) (mjCn C) (mjXr xi).2.1 ix (mjXr xi).1 (mjY k2) (mjB k2) (mjML k2) (mjRt k2) (mjWs k2) (mjRm (d - 1) mc ms) mc ms (mjNa k2) :=
            ⟨⟨rfl, rfl, hroom.1, hroom.2, pay_in hts (mjGoodIn hGw), List.mem_cons_self⟩, hts _ hcode, hts _ hi1, l4, fun sig h => by rw [h] at l5; exact (Option.some.inj l5).symm, hts _ (mjOk_in l1), hts _ (mjOk_in l3), hdecl, hts _ (mjOk_in l2), hts _ (hi3 hkn1)⟩
          rcases hi with ⟨-, rfl, rfl, rfl⟩ | ⟨g, -⟩ | ⟨g, -⟩ | ⟨g, -⟩
          · exact Or.inl ⟨rfl, va_runU (As := As'.map (mjRn lo)) (b := lo a) hS4 hM hcu ⟨mjPcS.blind, hrecv, hpre⟩ rfl hlen2 hsz hstk hsum2 hdg ⟨hcells, hslots⟩⟩
          · omega
          · omega
          · omega
        · -- 4
          simp only [mjLkOk, Bool.and_eq_true, mjNmh, mjNpa, decide_eq_true_eq] at hlk
          obtain ⟨⟨⟨l1, l2⟩, l4⟩, l5⟩ := hlk
          have hop : op = 4 := by
            simp only [mjOpMd, Bool.or_eq_true, Bool.and_eq_true, beq_iff_eq] at hom
            omega
          have hF := hE.2.2.2.2.2.2.2.2.1 _ _ hmem rfl
          dsimp only at hF
          have hci : va_CI R s args (mjCn (mjCls k)) (mjCn C) ix (mjXr xi).1 (mjY k2) (mjB k2) (mjML k2) (mjRt k2) (mjWs k2) (mjRm (d - 1) mc ms) mc ms (mjNa k2) :=
            ⟨⟨rfl, rfl, hroom.1, hroom.2, pay_in hts (mjGoodIn hGw), List.mem_cons_self⟩, hts _ (mjOk_in l1), va_any rfl hF.1, va_any rfl hF.2.1, hts _ (mjOk_in l2), hts _ (hi3 hkn1), va_any rfl hF.2.2.1, va_any rfl hF.2.2.2.1, va_any rfl hF.2.2.2.2, hts _ hi1, hts _ hcode, l4, fun sig h => by rw [h] at l5; exact (Option.some.inj l5).symm⟩
          rcases hi with ⟨g, -⟩ | ⟨g, -⟩ | ⟨g, -⟩ | ⟨-, ⟨cn, rfl⟩, rfl, rfl⟩
          · omega
          · omega
          · omega
          · exact Or.inr ⟨rfl, va_runF (As := As'.map (mjRn lo)) (b := lo a) hat hS4 hM hci ⟨mjPcS.blind, hrecv, hpre⟩ rfl hlen2 hsz hstk hsum2 hdg ⟨hcells, hslots⟩⟩
        · -- 5
          simp only [mjLkOk, Bool.and_eq_true, decide_eq_true_eq] at hlk
          obtain ⟨⟨⟨l1, l2⟩, l3⟩, l4⟩ := hlk
          have hop : op = 2 := by
            simp only [mjOpMd, Bool.or_eq_true, Bool.and_eq_true, beq_iff_eq] at hom
            omega
          have hcs : va_CS R s args (mjCn (mjCls k)) ix (mjY k2) (mjB k2) (mjML k2) (mjRt k2) (mjWs k2) (mjRm (d - 1) mc ms) mc ms (mjNa k2) :=
            ⟨⟨rfl, rfl, hroom.1, hroom.2, pay_in hts (mjGoodIn hGw), List.mem_cons_self⟩, hts _ (mjOk_in l1), hts _ (mjOk_in l2), hts _ (mjOk_in l3), hts _ (hi3 hkn1), hts _ hi1, hts _ hcode, l4, fun sig h => by have l5 := hdd.2.2; rw [h] at l5; exact (Option.some.inj l5).symm⟩
          rcases hi with ⟨g, -⟩ | ⟨g, -⟩ | ⟨-, rfl, rfl, rfl⟩ | ⟨g, -⟩
          · omega
          · omega
          · exact Or.inl ⟨rfl, va_runSU (As := As'.map (mjRn lo)) (b := lo a) hat hS4 hM hcs ⟨mjPcS.blind, hrecv, hpre⟩ rfl hlen2 hsz hstk hsum2 hdg ⟨hcells, hslots⟩⟩
          · omega
        · exact absurd rfl hst
        · exact absurd rfl h2
        · -- 8
          simp only [mjLkOk, Bool.and_eq_true, decide_eq_true_eq] at hlk
          omega
end MJ8
