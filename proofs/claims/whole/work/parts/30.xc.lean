/-! calls of methods that write nothing, and of methods that throw -/
def bcx {α γ β : Type} (c : Option ((Nat ⊕ α) × γ)) (k : α → γ → Option ((Nat ⊕ β) × γ)) : Option ((Nat ⊕ β) × γ) := match c with
  | none => none
  | some (.inl j, s) => some (.inl j, s)
  | some (.inr x, s) => k x s
section XC
variable {p : Program} {l : Launch} {e : Env} {R : Room} {s : State} {m : MethodId} {args : Array Value} {below : List Frame} {meth : Method} {c : Code} {H : Heap} {locs : List Loc} {cells slots : Nat} {Q : State → Prop}
variable {cc : ByteArray} {pc nL : Nat} {ls : Array Slot} {rest st0 : List Value} {D : va_G} {tc : Nat → ClassId} {b z : Nat} {σ0 σ : CS} {own : String} {β : Type} {B : β} {ret : Option FieldType}
variable {k N q a : Nat} {C : String} {T : u_T} {ty : Nat → FieldType} {ref : String} {index : Nat}
variable {y : MethodName} {bytes : ByteArray} {maxL n fr lo fr0 lo0 idx : Nat} {ret' : Option FieldType} {res : Option Value} {P : State → Prop}
theorem ym_goon {a : Array Value} (hr : va_Run p l e R s m args below meth c H locs cells slots 0 0 (F0 m pc ls st0) rest (YQ res a) (fun _ => False)) (kk : W p l e R s m args below meth c H locs cells slots Q (F0 m (pc + 3) ls (res.toList ++ rest))) : W p l e R s m args below meth c H locs cells slots Q (F0 m pc ls st0) := by
  intro T hT X
  obtain ⟨v, st₀, t, T', L, h0, X', hL, e1, e2, ⟨hv, hheap⟩, st⟩ := hr T hT X
  cases hv
  have hL0 : L = [] := List.eq_nil_iff_forall_not_mem.mpr (fun q hq => hL q hq)
  subst hL0
  rw [List.append_nil] at X'
  obtain ⟨t2, a1, b1⟩ := kk T' (by rw [e1, hheap, h0]) X'
  exact ⟨t2, st t2 a1, b1⟩
theorem CPX.blind {As : List Value} : FrameBlind (va_Pc As (CPX D tc b z σ)) := fun a U g mk q => by
  obtain ⟨q0, ⟨q1, q2⟩, q3⟩ := q
  exact ⟨q0, ⟨q1, CK.moved (u := U) (U := U.calling g mk a) (State.WarmedH.refl U) (fun _ _ _ => rfl) (Nat.le_refl _) q2⟩, TK.moved (u := U) (U := U.calling g mk a) (State.WarmedH.refl U) (fun _ _ _ => rfl) q3⟩
theorem CPX.of {U : State} (S : CC p m c cc nL s args own meth ret D tc b z) (hT : TK b s) (hW : CWS D tc b z s σ0 σ H locs cells slots) (hU : U.heap = H) (hw : s.WarmedH U.vm) : CPX D tc b z σ U := ⟨CP.of S hW hU hw, TK.moved hw (fun q h1 h2 => by rw [hU]; exact hW.2.1.2.1 q h1 h2) hT⟩
theorem ym_callV {As : List Value} (K : KX k C T N ty) (S : CC p m c cc nL s args own meth ret D tc b z) (hW : CWS D tc b z s σ0 σ H locs cells slots) (hq : kd σ q = k) (hM : YMet l y bytes maxL ret' fr lo (.ref (b + q) :: As) σ P res) (hbl : FrameBlind (va_Pc (.ref (b + q) :: As) P)) (hP : ∀ U : State, U.heap = H → s.WarmedH U.vm → P U) (qc : Calee y bytes maxL ret' n) (hin : Cond.instanceMethod y ∈ lw_tbl) (hsel : Cond.selects C y y ∈ lw_tbl)
    (hlink : Cond.methodLink own idx y ∈ lw_tbl) (hR : fr + 1 ≤ fr0 ∧ 8 + (maxL + 11) + lo ≤ lo0) (hl : ls.size = nL) (hn : As.length = n) (hst : st0 = As.reverse ++ .ref (b + q) :: rest) (hrm : (rest.map fun v => v.category).sum ≤ 8) (hdg : decode cc pc = .ok (.invokevirtual idx, 3))
    (kk : W p l e (CR fr0 lo0 σ0) s m args below meth c H locs cells slots Q (F0 m (pc + 3) ls (res.toList ++ rest))) : W p l e (CR fr0 lo0 σ0) s m args below meth c H locs cells slots Q (F0 m pc ls st0) :=
  ym_goon (cx_runV (C := C) (As := As) (rest := rest) S.1 hM ⟨rm_callB S.1 qc hlink hR, S.1.2.2.2.2 _ (gi hin rfl), S.1.2.2.2.2 _ (gi hsel rfl)⟩ ⟨hbl, va_recv (q0 := 0) S.2.1.1 (rm_one (hW.obj K hq)) K.1 rfl, fun U hU hWa => ⟨rfl, hP U hU hWa⟩⟩ rfl hn hl hst (lv_room hrm) hdg hW.fit) kk
theorem ym_callS {As : List Value} (S : CC p m c cc nL s args own meth ret D tc b z) (hW : CWS D tc b z s σ0 σ H locs cells slots) (hM : YMet l y bytes maxL ret' fr lo As σ P res) (hbl : FrameBlind (va_Pc As P)) (hP : ∀ U : State, U.heap = H → s.WarmedH U.vm → P U) (qc : Calee y bytes maxL ret' n) (hsta : Cond.static y ∈ lw_tbl)
    (hlink : Cond.methodLink own idx y ∈ lw_tbl) (hR : fr + 1 ≤ fr0 ∧ 8 + (maxL + 11) + lo ≤ lo0) (hl : ls.size = nL) (hn : As.length = n) (hst : st0 = As.reverse ++ rest) (hrm : (rest.map fun v => v.category).sum ≤ 8) (hdg : decode cc pc = .ok (.invokestatic idx, 3))
    (kk : W p l e (CR fr0 lo0 σ0) s m args below meth c H locs cells slots Q (F0 m (pc + 3) ls (res.toList ++ rest))) : W p l e (CR fr0 lo0 σ0) s m args below meth c H locs cells slots Q (F0 m pc ls st0) :=
  ym_goon (cx_runS (As := As) (rest := rest) S.1 hM ⟨rm_callB S.1 qc hlink hR, S.1.2.2.2.2 _ (gi hsta rfl)⟩ ⟨hbl, fun U hU hWa => ⟨rfl, hP U hU hWa⟩⟩ rfl hn hl hst (lv_room hrm) hdg hW.fit) kk
/-- the callee throws, and so does this method -/
theorem xm_callX {As : List Value} {j : Nat} (S : CC p m c cc nL s args "StreamPair" meth ret D tc b z) (hT0 : TK b s) (hex : c.exceptionTable.toList = []) (hW : CWS D tc b z s σ σ s.heap [] 0 0) (hM : XMet l D tc b z y bytes maxL ret' fr lo (.ref (b + 0) :: As) σ j) (qc : Calee y bytes maxL ret' n) (hin : Cond.instanceMethod y ∈ lw_tbl) (hsel : Cond.selects "StreamPair" y y ∈ lw_tbl)
    (hlink : Cond.methodLink "StreamPair" idx y ∈ lw_tbl) (hR : fr + 1 ≤ fr0 ∧ 8 + (maxL + 11) + lo ≤ lo0) (hl : ls.size = nL) (hn : As.length = n) (hst : st0 = As.reverse ++ .ref (b + 0) :: rest) (hrm : (rest.map fun v => v.category).sum ≤ 8) (hdg : decode cc pc = .ok (.invokevirtual idx, 3)) :
    W p l e (CR fr0 lo0 σ) s m args below meth c s.heap [] 0 0 (XE below s j) (F0 m pc ls st0) := by
  obtain ⟨hx, hb, hml, hown, hts⟩ := S.1
  obtain ⟨q1, q2, q3, q4⟩ := qc
  intro T hT X
  obtain ⟨mk, methM, hnamed, hmethM, hstM, habM⟩ := Cond.instanceMethod_spec (hts _ (gi hin rfl))
  obtain ⟨methM', cM, hmethM', -, -, -, -, -, -, hsigM⟩ := Cond.code_spec hnamed (hts _ (gi q1 rfl))
  cases hmethM.symm.trans hmethM'
  obtain ⟨cellB, hcB, hoB, hclB⟩ := va_recv (q0 := 0) S.2.1.1 (rm_one (hW.obj kx_P (q := 0) rfl)) kx_P.1 rfl
  obtain ⟨c2, r2, m2, p1, p2, p3, p4, kP, hkP, hkPi⟩ := Cond.selects_spec (hts _ (gi hsel rfl))
  cases hclB.symm.trans p1
  cases (State.methodFound?_of_named hnamed q3).symm.trans p2
  cases hnamed.symm.trans p3
  have hselP : selectMethod e.platform s.vm cellB.cls mk = .method mk := by rw [Launch.admits_selectMethod X.admits]; exact p4
  obtain ⟨vm₁, X₁, hstep₁⟩ := X.invokevirtual hx hown (hts _ (gi hlink rfl)) hnamed hmethM hstM hkP hkPi q3 (a := b + 0) (cell := cellB) (by rw [hT]; exact hcB)
    (fun z h => by rw [h] at hoB; cases hoB) hselP hmethM habM hkP hkPi (g := F0 m pc ls st0) rfl (argsL := As) (rest := rest) (by rw [hsigM] at q4; rw [hn]; exact (Option.some.inj q4).symm) hst (by rw [hb]; exact hdg)
  have hpay := pay_in hts (gt_good' q1)
  have hf := hW.fit (fr := fr0) (lo := lo0)
  obtain ⟨o, t, hsteps, hend, x, rfl, hXO⟩ := cx_call (a := (Value.ref (b + 0) :: As).toArray) (g := { (F0 m pc ls st0) with stack := rest }) (ig := .invokevirtual idx) (mk := mk) (bytes := bytes) (maxL := maxL) (ret := ret') X₁ hM hR.1 hR.2 (atoms_intro fun w hw => hpay w hw _ _ X₁.warmed) (hpay _ List.mem_cons_self _ _ X₁.warmed) (word_at X₁.warmed (Or.inl rfl) (hts _ (gi q2 rfl))) hf.1 hf.2
    ⟨rfl, CPX.of (U := (T.setVm vm₁).calling { (F0 m pc ls st0) with stack := rest } mk (Value.ref (b + 0) :: As).toArray) S hT0 hW hT X₁.warmed⟩ rfl (hl.trans hml.symm) (by rw [hb]; exact hdg) (lv_room hrm) (X₁.named hnamed)
  obtain ⟨hw2, hsame2, hnew, ce, hce, hfc, hcv⟩ := hXO
  obtain ⟨T', X', hw3, hs3, ht⟩ := X₁.outOfThrown (g := { (F0 m pc ls st0) with stack := rest }) rfl hend hw2 hsame2
  obtain ⟨hst4, hrun, hended, hwU, hsame⟩ := X'.leaveThrown x (g := { (F0 m pc ls st0) with stack := rest }) rfl rfl rfl (by rw [hex]; intro y hy; cases hy) S.2.2.2
  refine ⟨_, hstep₁ _ (fun acts => by rw [doInvoke_state]; exact hsteps.trans (by rw [ht]; exact hst4)), hrun, x, hended, hwU, hsame, ?_, ce, ?_, ?_, hcv⟩
  · have : (T.setVm vm₁).heap.size ≤ x := hnew
    rw [← hT]; exact this
  · have h5 : t.heap = T'.heap := by rw [ht]; exact Stand.throwing_heap T' _ x
    show T'.heap[x]? = some ce
    rw [← h5]; exact hce
  · rw [← X₁.warmed.alike.findClass]
    exact hfc
end XC
