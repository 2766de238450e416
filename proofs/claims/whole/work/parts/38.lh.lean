/-! the law's helpers: a call that may throw, caught; contracts of methods with an exception table; calls of them -/
section LH
variable {p : Program} {l : Launch} {e : Env} {R : Room} {s : State} {m : MethodId} {args : Array Value} {below : List Frame} {meth : Method} {c : Code} {H : Heap} {locs : List Loc} {cells slots : Nat} {Q : State → Prop}
variable {cc : ByteArray} {pc nL : Nat} {ls : Array Slot} {rest st0 : List Value} {D : va_G} {tc : Nat → ClassId} {b z c0 u0 : Nat} {σ : CS} {ρ : RS} {v : Int64} {own : String} {β : Type} {B : β} {ret : Option FieldType}
variable {y : MethodName} {bytes : ByteArray} {maxL n fr lo fr0 lo0 idx : Nat} {ret' : Option FieldType} {res : Option Value} {σ' : CS} {ρ' : RS} {v' : Int64} {As : List Value}
/-- the callee throws an exception of kind j; the handler's table has one that fits, behind others that don't -/
theorem lm_callX {j : Nat} (hj : 1 ≤ j ∧ j ≤ 5) (S : LC p m c cc nL s args own meth ret D tc b z) (hW : LWS D tc b z s c0 u0 σ ρ v s.heap [] 0 0) (hM : XMet l D tc b z y bytes maxL ret' fr lo (.ref (b + 0) :: As) σ j) (hroom : cX σ + 1 ≤ 601024 ∧ cU σ + 6 ≤ 7293034) (qc : Calee y bytes maxL ret' n) (hin : Cond.instanceMethod y ∈ lw_tbl) (hsel : Cond.selects "StreamPair" y y ∈ lw_tbl)
    (hlink : Cond.methodLink own idx y ∈ lw_tbl) (hR : fr + 1 ≤ fr0 ∧ 8 + (maxL + 11) + lo ≤ lo0) (hl : ls.size = nL) (hn : As.length = n) (hst : st0 = As.reverse ++ .ref (b + 0) :: rest) (hrm : (rest.map fun v => v.category).sum ≤ 8) (hdg : decode cc pc = .ok (.invokevirtual idx, 3))
    {pre : List (ExceptionTableEntry × Nat)} {x : ExceptionTableEntry} {post : List ExceptionTableEntry} (htab : c.exceptionTable.toList = pre.map (·.1) ++ x :: post) (hpre : ∀ q ∈ pre, covers q.1 pc = true ∧ q.1.catchType ≠ 0 ∧ Cond.classLink own q.1.catchType (xcl q.2) ∈ lw_tbl ∧ 1 ≤ q.2 ∧ q.2 ≤ 5 ∧ j ≠ q.2) (hx : covers x pc = true ∧ x.catchType ≠ 0 ∧ Cond.classLink own x.catchType (xcl j) ∈ lw_tbl)
    (kk : ∀ H1 : Heap, LWS D tc b z s c0 u0 (wa σ 0 0 6) ρ v H1 [] 1 6 → W p l e (LR fr0 lo0 c0 u0) s m args below meth c H1 [] 1 6 Q (F0 m x.handlerPc ls [.ref s.heap.size])) :
    W p l e (LR fr0 lo0 c0 u0) s m args below meth c s.heap [] 0 0 Q (F0 m pc ls st0) := by
  obtain ⟨hx0, hb, hml, hown, hts⟩ := S.1
  obtain ⟨q1, q2, q3, q4⟩ := qc
  intro T hT X
  obtain ⟨mk, methM, hnamed, hmethM, hstM, habM⟩ := Cond.instanceMethod_spec (hts _ (gi hin rfl))
  obtain ⟨methM', cM, hmethM', -, -, -, -, -, -, hsigM⟩ := Cond.code_spec hnamed (hts _ (gi q1 rfl))
  cases hmethM.symm.trans hmethM'
  obtain ⟨cellB, hcB, hoB, hclB⟩ := hW.recv S
  obtain ⟨c2, r2, m2, p1, p2, p3, p4, kP, hkP, hkPi⟩ := Cond.selects_spec (hts _ (gi hsel rfl))
  cases hclB.symm.trans p1
  cases (State.methodFound?_of_named hnamed q3).symm.trans p2
  cases hnamed.symm.trans p3
  have hselP : selectMethod e.platform s.vm cellB.cls mk = .method mk := by rw [Launch.admits_selectMethod X.admits]; exact p4
  obtain ⟨vm₁, X₁, hstep₁⟩ := X.invokevirtual hx0 hown (hts _ (gi hlink rfl)) hnamed hmethM hstM hkP hkPi q3 (a := b + 0) (cell := cellB) (by rw [hT]; exact hcB)
    (fun z h => by rw [h] at hoB; cases hoB) hselP hmethM habM hkP hkPi (g := F0 m pc ls st0) rfl (argsL := As) (rest := rest) (by rw [hsigM] at q4; rw [hn]; exact (Option.some.inj q4).symm) hst (by rw [hb]; exact hdg)
  have hpay := pay_in hts (gt_good' q1)
  have hf := hW.fit (fr := fr0) (lo := lo0)
  obtain ⟨o, t, hsteps, hend, xa, rfl, hXO⟩ := cx_call (a := (Value.ref (b + 0) :: As).toArray) (g := { (F0 m pc ls st0) with stack := rest }) (ig := .invokevirtual idx) (mk := mk) (bytes := bytes) (maxL := maxL) (ret := ret') X₁ hM hR.1 hR.2 (atoms_intro fun w hw => hpay w hw _ _ X₁.warmed) (hpay _ List.mem_cons_self _ _ X₁.warmed) (word_at X₁.warmed (Or.inl rfl) (hts _ (gi q2 rfl))) hf.1 hf.2
    ⟨rfl, LWS.cpx (U := (T.setVm vm₁).calling { (F0 m pc ls st0) with stack := rest } mk (Value.ref (b + 0) :: As).toArray) S hW hT X₁.warmed⟩ rfl (hl.trans hml.symm) (by rw [hb]; exact hdg) (lv_room hrm) (X₁.named hnamed)
  have hcw := hXO.cw (D := D) (tc := tc) (b := b) (z := z) (σ := σ) (by show CW D tc b z σ T.heap; rw [hT]; exact hW.1.1) hroom.1 hroom.2
  obtain ⟨kp1, kp2, kp3⟩ := hXO.kept
  have kp1' : ∀ q : Nat, q < s.heap.size → t.heap[q]? = s.heap[q]? := fun q hq => by rw [← hT] at hq ⊢; exact kp1 q hq
  have kp2' : t.heap.size = s.heap.size + 1 := by rw [← hT]; exact kp2
  have kp3' : xa = s.heap.size := by rw [← hT]; exact kp3
  obtain ⟨hw2, hsame2, hnew, ce, hce, hfc, hcv⟩ := hXO
  obtain ⟨T', X', hw3, hs3, ht⟩ := X₁.outOfThrown (g := { (F0 m pc ls st0) with stack := rest }) rfl hend hw2 hsame2
  have h5 : t.heap = T'.heap := by rw [ht]; exact Stand.throwing_heap T' _ xa
  have hfc' : s.vm.findClass (xcl j) = some ce.cls := by
    rw [← X₁.warmed.alike.findClass]; exact hfc
  have hplat : e.platform.magicAccessors = ({} : Platform).magicAccessors := by rw [X.admits.platform]
  have hkc : ∃ k, s.vm.classes[ce.cls]? = some k := by
    obtain ⟨w1, w2, w3⟩ := x_words j hj.1 hj.2
    obtain ⟨cC, kC, hfC, hkC0, -⟩ := Cond.instantiable_spec (hts _ (gi w2 rfl))
    cases hfC.symm.trans hfc'
    exact ⟨_, hkC0⟩
  have hTK := S.2.1.2.2.2.2.2.2.2.2.2.2.1
  have hNc := S.2.1.2.2.2.2.2.2.2.2.2.2.2
  obtain ⟨vm', hWv, hgo⟩ := fh_search (s := s) (e := e) (m := m) (args := args) (own := own) hplat hown (g := { (F0 m pc ls st0) with stack := rest }) rfl (a := xa) (cell := ce) (by rw [hcv]; rfl) hkc (x := x) (name := xcl j) hx.1 hx.2.1 (hts _ (gi hx.2.2 rfl))
    (fun c1 hc1 => by
      obtain ⟨cc1, tt1, g1, g2, g3⟩ := Cond.castable_spec (args := args) (va_Nw.use rfl (hTK.2.1 j hj.1 hj.2))
      cases hfc'.symm.trans g1
      cases hc1.symm.trans g2
      exact g3) post (pre.map fun q => (q.1, xcl q.2))
    (fun q hq => by
      obtain ⟨q', hq', rfl⟩ := List.mem_map.mp hq
      obtain ⟨a1, a2, a3, a4, a5, a6⟩ := hpre q' hq'
      refine ⟨a1, a2, hts _ (gi a3 rfl), fun c1 hc1 => ?_⟩
      obtain ⟨cc1, tt1, g1, g2, g3⟩ := hNc j q'.2 hj.1 hj.2 a4 a5 a6
      cases hfc'.symm.trans g1
      cases hc1.symm.trans g2
      exact g3)
    ((T'.setTop { (F0 m pc ls st0) with stack := rest }).pushFrame (.throwing xa)) X'.warmed (by rw [Stand.throwing_heap, ← h5]; exact hce)
  rw [List.map_map, show ((fun q : ExceptionTableEntry × String => q.1) ∘ fun q : ExceptionTableEntry × Nat => (q.1, xcl q.2)) = (fun q => q.1) from rfl, ← htab] at hgo
  obtain ⟨X'', hst''⟩ := fh_caught X' xa (g := { (F0 m pc ls st0) with stack := rest }) rfl hWv hgo
  obtain ⟨t2, a1, b1⟩ := kk T'.heap ⟨⟨by rw [← h5]; exact hcw, hW.1.2.1.kept (fun q _ hq => by rw [← h5]; exact kp1' q hq), hW.1.2.2.kept (by rw [← h5]; exact kp1' _ hW.1.2.2.lt)⟩, ⟨by rw [← h5, kp2']; exact Nat.le_succ _, fun q h1 _ => by rw [← h5]; exact kp1' q h1, fun q hq => by cases hq⟩, by have := hW.2.2.1; show cX σ + 1 = c0 + 1; omega, by have := hW.2.2.2; show cU σ + 6 = u0 + 6; omega⟩ (T'.setVm vm') rfl X''
  refine ⟨t2, hstep₁ _ (fun acts => ?_), b1⟩
  rw [doInvoke_state]
  refine hsteps.trans ?_
  rw [ht]
  subst kp3'
  exact hst'' t2 a1
end LH
def HQ (D : va_G) (tc : Nat → ClassId) (b z : Nat) (σ0 : CS) (ρ : RS) (k : Int32) (σ' : CS) (v' : Int64) : Array Value → State → Outcome → State → Prop := fun _ st oc t => oc = .returned (some (.int k)) ∧ LW D tc b z σ' ρ v' t.heap ∧ va_F (lreg b) st t ∧ cX σ0 ≤ cX σ' ∧ cU σ0 ≤ cU σ'
def HMet (l : Launch) (D : va_G) (tc : Nat → ClassId) (b z : Nat) (y : MethodName) (bytes : ByteArray) (maxL : Nat) (hh : List (Nat × Nat × Nat × Nat)) (fr lo : Nat) (As : List Value) (σ : CS) (ρ : RS) (v : Int64) (k : Int32) (σ' : CS) (v' : Int64) : Prop :=
  Met l y (Cond.codeWith y bytes maxL (some .int) hh :: gt) (CR fr lo σ) (va_Pc As (LWP D tc b z σ ρ v)) (HQ D tc b z σ ρ k σ' v') (cX σ' - cX σ) (cU σ' - cU σ) (lreg b)
abbrev HE (D : va_G) (tc : Nat → ClassId) (b z : Nat) (below : List Frame) (args : Array Value) (s : State) (σ0 : CS) (ρ : RS) (k : Int32) (σ' : CS) (v' : Int64) : State → Prop := MQ below (HQ D tc b z σ0 ρ k σ' v') args s (cX σ' - cX σ0) (cU σ' - cU σ0) (lreg b)
section LH2
variable {p : Program} {l : Launch} {e : Env} {R : Room} {s : State} {m : MethodId} {args : Array Value} {below : List Frame} {meth : Method} {c : Code} {H : Heap} {locs : List Loc} {cells slots : Nat} {Q : State → Prop}
variable {cc : ByteArray} {pc nL : Nat} {ls : Array Slot} {rest st0 : List Value} {D : va_G} {tc : Nat → ClassId} {b z c0 u0 : Nat} {σ : CS} {ρ : RS} {v : Int64} {own : String} {β : Type} {B : β} {ret : Option FieldType}
variable {y : MethodName} {bytes : ByteArray} {maxL n fr lo fr0 lo0 idx : Nat} {ret' : Option FieldType} {res : Option Value} {σ' : CS} {ρ' : RS} {v' : Int64} {As : List Value} {hh : List (Nat × Nat × Nat × Nat)} {k : Int32}
theorem hm_iret (S : LC p m c cc nL s args own meth (some .int) D tc b z) (hW : LWS D tc b z s (cX σ) (cU σ) σ' ρ v' H locs cells slots) (hdg : decode cc pc = .ok (.ireturn, 1)) :
    W p l e R s m args below meth c H locs cells slots (HE D tc b z below args s σ ρ k σ' v') (F0 m pc ls [.int k]) := by
  obtain rfl : cells = cX σ' - cX σ := by have := hW.2.2.1; omega
  obtain rfl : slots = cU σ' - cU σ := by have := hW.2.2.2; omega
  exact W.iret S.1.1 S.1.2.1 S.2.2.1 (fun t ht _ => ⟨rfl, by rw [ht]; exact hW.1, hW.2.1.F ht, by have := hW.2.2.1; omega, by have := hW.2.2.2; omega⟩) hW.2.1.2.2 hdg S.2.2.2
theorem hm_met (hy : plainName y.cls = true) (hn : (lg_sl As).length ≤ maxL)
    (body : ∀ (p : Program) (e : Env) (s : State) (m : MethodId) (args : Array Value) (below : List Frame) (meth : Method) (c : Code), LC p m c bytes maxL s args y.cls meth (some .int) D tc b z → c.exceptionTable.toList = tableOf hh → LWS D tc b z s (cX σ) (cU σ) σ ρ v s.heap [] 0 0 → ∀ ls : Array Slot, lv_has ls maxL (lv_args 0 As) →
      W p l e (LR fr lo (cX σ) (cU σ)) s m args below meth c s.heap [] 0 0 (HE D tc b z below args s σ ρ k σ' v') (F0 m 0 ls [])) : HMet l D tc b z y bytes maxL hh fr lo As σ ρ v k σ' v' := by
  refine va_MetW (cc := bytes) (maxL := maxL) (ret := some .int) (hh := hh) hy rfl ?_
  intro p e s m args below meth c s₁ Bd hml hv
  obtain ⟨rfl, hW0, hK⟩ := hv
  have hl := lv_entry As hn
  rw [lg_entry_eq]
  obtain ⟨m9, meth9, c9, hn9, h1, h2, -, -, htab, -⟩ := Cond.codeWith_spec (atoms_spec (ws := Cond.codeWith y bytes maxL (some .int) hh :: gt) Bd.pre _ List.mem_cons_self)
  cases Bd.named.symm.trans hn9
  have hmm := Bd.method
  cases hmm.symm.trans h1
  have hcc : c9 = c := by
    have hx := (Stand.of_body Bd).code
    exact Option.some.inj (h2.symm.trans hx)
  subst hcc
  exact body p e s m As.toArray below meth _ ⟨⟨Bd.exec, Bd.bytes, hml, findClass_of_methodNamed Bd.named, fun w hw => atoms_spec (ws := Cond.codeWith y bytes maxL (some .int) hh :: gt) Bd.pre w (List.mem_cons_of_mem _ hw)⟩, hK, Bd.returns, Bd.notSynchronized⟩ (by rw [← htab, table_eq]) ⟨hW0, va_S.rf, rfl, rfl⟩ _ hl
/-- the law calls one of its helpers -/
theorem lm_callH (S : LC p m c cc nL s args own meth ret D tc b z) (hW : LWS D tc b z s c0 u0 σ ρ v H locs cells slots) (hM : HMet l D tc b z y bytes maxL hh fr lo As σ ρ v k σ' v') (hcode : Cond.codeWith y bytes maxL (some .int) hh ∈ lw_tbl) (hini : Cond.initialized y.cls ∈ lw_tbl) (hyc : y.cls ≠ "java/lang/invoke/MethodHandle" ∧ y.cls ≠ "java/lang/invoke/VarHandle") (hlen : (parseMethodDescriptor y.desc).map (fun d => d.parameters.length) = some n) (hsta : Cond.static y ∈ lw_tbl)
    (hlink : Cond.methodLink own idx y ∈ lw_tbl) (hR : fr + 1 ≤ fr0 ∧ 8 + (maxL + 11) + lo ≤ lo0) (hl : ls.size = nL) (hn : As.length = n) (hst : st0 = As.reverse ++ rest) (hrm : (rest.map fun v => v.category).sum ≤ 8) (hdg : decode cc pc = .ok (.invokestatic idx, 3))
    (kk : ∀ (H1 : Heap) (locs1 : List Loc) (cells1 slots1 : Nat), LWS D tc b z s c0 u0 σ' ρ v' H1 locs1 cells1 slots1 → W p l e (LR fr0 lo0 c0 u0) s m args below meth c H1 locs1 cells1 slots1 Q (F0 m (pc + 3) ls (.int k :: rest))) : W p l e (LR fr0 lo0 c0 u0) s m args below meth c H locs cells slots Q (F0 m pc ls st0) := by
  obtain ⟨hx0, hb, hml, hown, hts⟩ := S.1
  have hgood : GoodIn gt (Cond.codeWith y bytes maxL (some .int) hh :: gt) := by
    intro w hw
    rcases List.mem_cons.mp hw with rfl | hw
    · exact ⟨gi hcode rfl, Or.inl rfl⟩
    · exact ⟨hw, good_of_word (List.mem_filter.mp hw).2⟩
  have hpay := pay_in hts hgood
  have hf := hW.fit (fr := fr0) (lo := lo0)
  have hB : Back l (LR fr0 lo0 c0 u0) p e below s args y 3 8 (PreOf (LR fr0 lo0 c0 u0) (601024 - cX σ) (7293034 - cU σ) (va_Pc As (LWP D tc b z σ ρ v))) (PostOf (HQ D tc b z σ ρ k σ' v') (cX σ' - cX σ) (cU σ' - cU σ) (lreg b)) := by
    refine va_ofFreeW (hh := hh) (S := headSpec (Cond.codeWith y bytes maxL (some .int) hh :: gt) (CR fr lo σ)) (P := va_Pc As (LWP D tc b z σ ρ v)) (K := fun _ _ _ _ _ => True) (Q := fun a st o t => HQ D tc b z σ ρ k σ' v' a st o t ∧ ∃ L, FrameEnd st o t L (cX σ' - cX σ) (cU σ' - cU σ) ∧ ∀ q ∈ L, lreg b q.base) (bytes := bytes) (maxL := maxL) (ret := some .int)
      (E := fun a st o t L k n => k = cX σ' - cX σ ∧ n = cU σ' - cU σ ∧ ∀ q ∈ L, lreg b q.base) hM hR.1 hR.2 ?_ ?_ (fun _ _ _ _ _ _ _ _ _ => trivial) ?_ ?_
    · intro m meth c A a X hp
      exact ⟨atoms_intro fun w hw => hpay w hw _ _ X.warmed, hpay _ List.mem_cons_self _ _ X.warmed, word_at X.warmed (Or.inl rfl) (hts _ (gi hini rfl)), hp.1, hp.2.1⟩
    · intro m meth c A a g mk X hp
      exact LWP.blind _ _ _ _ hp.2.2
    · intro a st o t ⟨hq, L, hF, hL⟩
      exact ⟨L, _, _, hF, rfl, rfl, hL⟩
    · intro m meth c A a g mk v t L k n X hp hq hF ⟨e1, e2, hL⟩
      subst e1; subst e2
      exact ⟨g, mk, t, L, rfl, rfl, hq.1, rfl, hL, rfl, rfl⟩
  intro T hT X
  obtain ⟨mk, methM, cM, hnamed, hmethM, -, -, -, -, -, -, hsigM⟩ := Cond.codeWith_spec (hts _ (gi hcode rfl))
  have hstatic : methM.isStatic = true := Cond.static_spec hnamed hmethM (hts _ (gi hsta rfl))
  obtain ⟨kP, hkP, -⟩ := className_of_methodNamed hnamed
  have hinitP : kP.init = .initialized := Cond.initialized_spec (findClass_of_methodNamed hnamed) hkP (hts _ (gi hini rfl))
  obtain ⟨vm₁, X₁, hstep₁⟩ := X.invokestatic hx0 hown (hts _ (gi hlink rfl)) hnamed hmethM hstatic hkP hinitP hyc (g := F0 m pc ls st0) rfl (argsL := As) (rest := rest) (by rw [hsigM] at hlen; rw [hn]; exact (Option.some.inj hlen).symm) hst (by rw [hb]; exact hdg)
  obtain ⟨v9, B9, X', hpost, hsteps⟩ := hB m meth c ⟨T.setVm vm₁, locs, cells, slots⟩ { (F0 m pc ls st0) with stack := rest } (.invokestatic idx) mk As.toArray X₁ rfl (hl.trans hml.symm) (by rw [hb]; exact hdg) (lv_room hrm) (X₁.named hnamed) ⟨hf.1, hf.2, rfl, LWP.of S hW (U := T.setVm vm₁) hT X₁.warmed⟩
  obtain ⟨U', l2, c2, s2⟩ := B9
  obtain ⟨g', mk', t, L, e1, e2, hq, h1, hL, h2, h3⟩ := hpost
  dsimp only [Pt.U, Pt.locs, Pt.cells, Pt.slots] at X' e1 e2 h1 h2 h3 hsteps
  subst h1; subst h2; subst h3
  obtain ⟨hv, hLW, ⟨hz, hk⟩, hx1, hx2⟩ := hq
  cases hv
  have hz' : H.size ≤ t.heap.size := by rw [← hT]; exact hz
  have hk' : ∀ q : Nat, q < H.size → ¬ lreg b q → t.heap[q]? = H[q]? := fun q a1 a2 => by rw [← hT] at a1 ⊢; exact hk q a1 a2
  obtain ⟨⟨g1, g2, g3⟩, ⟨hS1, hS2, hS3⟩, hc1, hc2⟩ := hW
  obtain ⟨t2, a1, b1⟩ := kk U'.heap (locs ++ L) _ _ ⟨by rw [e1]; exact hLW, ⟨by rw [e1]; exact Nat.le_trans hS1 hz', fun q w1 w2 => by rw [e1, hk' q (Nat.lt_of_lt_of_le w1 hS1) w2]; exact hS2 q w1 w2, fun q hq => by
      rcases List.mem_append.mp hq with h | h
      · exact hS3 q h
      · exact hL q h⟩, by show cX σ' = c0 + (cells + (cX σ' - cX σ)); omega, by show cU σ' = u0 + (slots + (cU σ' - cU σ)); omega⟩ U' rfl X'
  exact ⟨t2, hstep₁ _ fun acts => by rw [doInvoke_state]; exact hsteps.trans a1, b1⟩
end LH2
