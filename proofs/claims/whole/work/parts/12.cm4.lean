/-! calls over the class's world: the callee has all the room that is left, and uses what it uses -/
section CM4
variable {p : Program} {l : Launch} {e : Env} {R : Room} {s : State} {m : MethodId} {args : Array Value} {below : List Frame} {meth : Method} {c : Code} {H : Heap} {locs : List Loc} {cells slots : Nat} {Q : State → Prop}
variable {cc : ByteArray} {pc nL : Nat} {ls : Array Slot} {rest st0 : List Value} {D : va_G} {tc : Nat → ClassId} {b z : Nat} {σ0 σ : CS} {own : String} {β : Type} {B : β} {ret : Option FieldType}
variable {k N q a : Nat} {C : String} {T : u_T} {ty : Nat → FieldType} {ref : String} {index : Nat}
theorem cx_back {y : MethodName} {bytes : ByteArray} {maxL mc ms mc' ms' n : Nat} {ret' : Option FieldType} {ws : List Cond} {rm : Room} {Pc : Array Value → State → Prop} {Qc : Array Value → State → Outcome → State → Prop} {free : Addr → Prop}
    (cb : CallB R s args own index y bytes maxL ret' ws rm mc' ms' n) (hM : Met l y ws rm Pc Qc mc ms free) (hbl : FrameBlind Pc) : Back l R p e below s args y 3 8 (PreOf R mc' ms' Pc) (PostOf Qc mc ms free) := by
  obtain ⟨hrc, hrs, hfr, hlo, hws, hcw, -, hini, -⟩ := cb
  have hinit : ∀ a' U, s.WarmedH U.vm → (Cond.initialized y.cls).before a' U = true := fun a' U hW => word_at hW (Or.inl rfl) hini
  refine Back.of_free (S := headSpec ws rm) (P := Pc) (K := fun _ _ _ _ _ => True) (Q := fun a st o t => Qc a st o t ∧ ∃ L, FrameEnd st o t L mc ms ∧ ∀ q ∈ L, free q.base) (bytes := bytes) (maxL := maxL) (ret := ret')
    (E := fun a st o t L k n => k = mc ∧ n = ms ∧ ∀ q ∈ L, free q.base) hM hfr hlo ?_ ?_ (fun _ _ _ _ _ _ _ _ _ => trivial) ?_ ?_
  · intro m meth c A a X hp
    exact ⟨atoms_intro fun w hw => hws w hw _ _ X.warmed, hws _ hcw _ _ X.warmed, hinit _ _ X.warmed, by rw [show (headSpec ws rm).room.cells = mc' from hrc]; exact hp.1, by rw [show (headSpec ws rm).room.slots = ms' from hrs]; exact hp.2.1⟩
  · intro m meth c A a g mk X hp
    exact hbl _ _ _ _ hp.2.2
  · intro a st o t ⟨hq, L, hF, hL⟩
    exact ⟨L, mc, ms, hF, rfl, rfl, hL⟩
  · intro m meth c A a g mk v t L k n X hp hq hF ⟨e1, e2, hL⟩
    subst e1; subst e2
    exact ⟨g, mk, t, L, rfl, rfl, hq.1, rfl, hL, rfl, rfl⟩
variable {y : MethodName} {bytes : ByteArray} {maxL mc ms mc' ms' n : Nat} {ret' : Option FieldType} {ws : List Cond} {rm : Room} {Pc : Array Value → State → Prop} {Qc : Array Value → State → Outcome → State → Prop} {free : Addr → Prop} {As : List Value} {o' : Addr} {g : JFrame}
theorem cx_runV {Ts : List Cond} (S : CallFix p m c cc nL s args Ts own) (hM : Met l y ws rm Pc Qc mc ms free) (cw : CallW R s args own C index y bytes maxL ret' ws rm mc' ms' n) (hp : PreV s H C o' Pc As)
    (hg : g.method = m) (hn : As.length = n) (hsize : g.locals.size = nL) (hstack : g.stack = As.reverse ++ .ref o' :: rest) (hW : 2 * g.monitorRoom + (rest.map fun v => v.category).sum ≤ 8) (hdg : decode cc g.pc = .ok (.invokevirtual index, 3)) (hf : cells + mc' ≤ R.cells ∧ slots + ms' ≤ R.slots) :
    va_Run p l e R s m args below meth c H locs cells slots mc ms g rest (Qc (Value.ref o' :: As).toArray) (free) := by
  have hK : Back l R p e below s args y 3 8 (PreOf R mc' ms' Pc) (PostOf Qc mc ms free) := cx_back cw.1 hM hp.1
  obtain ⟨⟨-, -, -, -, -, -, hcode, -, hy, hlen, hl⟩, hin, hse⟩ := cw
  obtain ⟨hx, hb, hml, ho, -⟩ := S
  obtain ⟨-, ⟨cellB, hcB, hoB, hclB⟩, hPc⟩ := hp
  intro T hT X
  obtain ⟨v, vm₁, ⟨U', l2, c2, s2⟩, hW₁, X', ⟨g', mk, t, L, e1, e2, hq, h1, hL, h2, h3⟩, st⟩ := callV X hx (C := C) (bytes := bytes) (maxL := maxL) (ret := ret') ho hl hin hse hcode hy hK (by rw [hT]; exact hcB) hoB hclB hg (hsize.trans hml.symm) (argsL := As) (rest := rest) (fun sig h => hn.trans (hlen sig h)) hstack hW (by rw [hb]; exact hdg)
    (fun vm₁ hW₁ => ⟨hf.1, hf.2, hPc (T.setVm vm₁) hT hW₁⟩)
  dsimp only [Pt.U, Pt.locs, Pt.cells, Pt.slots] at X' e1 e2 h1 h2 h3 st
  subst h1; subst h2; subst h3
  exact ⟨v, (T.setVm vm₁).calling g' mk (Value.ref o' :: As).toArray, t, U', L, hT, X', hL, e1, e2, hq, st⟩
theorem cx_runS {Ts : List Cond} (S : CallFix p m c cc nL s args Ts own) (hM : Met l y ws rm Pc Qc mc ms free) (cw : CallB R s args own index y bytes maxL ret' ws rm mc' ms' n ∧ (Cond.static y).before args s = true) (hp : PreS s H Pc As)
    (hg : g.method = m) (hn : As.length = n) (hsize : g.locals.size = nL) (hstack : g.stack = As.reverse ++ rest) (hW : 2 * g.monitorRoom + (rest.map fun v => v.category).sum ≤ 8) (hdg : decode cc g.pc = .ok (.invokestatic index, 3)) (hf : cells + mc' ≤ R.cells ∧ slots + ms' ≤ R.slots) :
    va_Run p l e R s m args below meth c H locs cells slots mc ms g rest (Qc As.toArray) (free) := by
  have hK : Back l R p e below s args y 3 8 (PreOf R mc' ms' Pc) (PostOf Qc mc ms free) := cx_back cw.1 hM hp.1
  obtain ⟨⟨-, -, -, -, -, -, hcode, hini, hy, hlen, hl⟩, hstt⟩ := cw
  obtain ⟨hx, hb, hml, ho, -⟩ := S
  intro T hT X
  obtain ⟨v, vm₁, ⟨U', l2, c2, s2⟩, hW₁, X', ⟨g', mk, t, L, e1, e2, hq, h1, hL, h2, h3⟩, st⟩ := callS X hx (bytes := bytes) (maxL := maxL) (ret := ret') ho hl hstt hini hcode hy hK hg (hsize.trans hml.symm) (argsL := As) (rest := rest) (fun sig h => hn.trans (hlen sig h)) hstack hW (by rw [hb]; exact hdg)
    (fun vm₁ hW₁ => ⟨hf.1, hf.2, hp.2 (T.setVm vm₁) hT hW₁⟩)
  dsimp only [Pt.U, Pt.locs, Pt.cells, Pt.slots] at X' e1 e2 h1 h2 h3 st
  subst h1; subst h2; subst h3
  exact ⟨v, (T.setVm vm₁).calling g' mk As.toArray, t, U', L, hT, X', hL, e1, e2, hq, st⟩
theorem CP.blind : FrameBlind (va_Pc As (CP D tc b z σ)) := fun a U g mk q => by
  obtain ⟨q0, q1, q2⟩ := q
  exact ⟨q0, q1, CK.moved (u := U) (U := U.calling g mk a) (State.WarmedH.refl U) (fun _ _ _ => rfl) (Nat.le_refl _) q2⟩
theorem CP.of {U : State} (S : CC p m c cc nL s args own meth ret D tc b z) (hW : CWS D tc b z s σ0 σ H locs cells slots) (hU : U.heap = H) (hw : s.WarmedH U.vm) : CP D tc b z σ U := ⟨by rw [hU]; exact hW.1, CK.moved hw (fun q h1 h2 => by rw [hU]; exact hW.2.1.2.1 q h1 h2) (by rw [hU]; exact hW.2.1.1) S.2.1⟩
theorem cm_goon {res : Option Value} {σ' : CS} {a : Array Value} (hr : va_Run p l e R s m args below meth c H locs cells slots (cX σ' - cX σ) (cU σ' - cU σ) (F0 m pc ls st0) rest (CQ D tc b z σ res σ' a) (creg b)) (hW : CWS D tc b z s σ0 σ H locs cells slots)
    (kk : ∀ (H1 : Heap) (locs1 : List Loc) (cells1 slots1 : Nat), CWS D tc b z s σ0 σ' H1 locs1 cells1 slots1 → W p l e R s m args below meth c H1 locs1 cells1 slots1 Q (F0 m (pc + 3) ls (res.toList ++ rest))) : W p l e R s m args below meth c H locs cells slots Q (F0 m pc ls st0) := by
  intro T hT X
  obtain ⟨v, st₀, t, T', L, h0, X', hL, e1, e2, ⟨hv, hRW, ⟨hz, hk⟩, hx1, hx2⟩, st⟩ := hr T hT X
  cases hv
  rw [h0] at hz hk
  obtain ⟨hS1, hS2, hS3⟩ := hW.2.1
  obtain ⟨hc1, hc2⟩ := hW.2.2
  obtain ⟨t2, a1, b1⟩ := kk T'.heap (locs ++ L) _ _ ⟨by rw [e1]; exact hRW, ⟨by rw [e1]; exact Nat.le_trans hS1 hz, fun q h1 h2 => by rw [e1, hk q (Nat.lt_of_lt_of_le h1 hS1) h2]; exact hS2 q h1 h2, fun q hq => by
      rcases List.mem_append.mp hq with h | h
      · exact hS3 q h
      · exact hL q h⟩, by show cX σ' = cX σ0 + (cells + (cX σ' - cX σ)); omega, by show cU σ' = cU σ0 + (slots + (cU σ' - cU σ)); omega⟩ T' rfl X'
  exact ⟨t2, st t2 a1, b1⟩
theorem CWS.fit {fr lo : Nat} (hW : CWS D tc b z s σ0 σ H locs cells slots) : cells + (601024 - cX σ) ≤ (CR fr lo σ0).cells ∧ slots + (7293034 - cU σ) ≤ (CR fr lo σ0).slots := by
  obtain ⟨hc1, hc2⟩ := hW.2.2
  obtain ⟨-, -, -, -, h5, h6, -⟩ := hW.1
  exact ⟨by show cells + (601024 - cX σ) ≤ 601024 - cX σ0; omega, by show slots + (7293034 - cU σ) ≤ 7293034 - cU σ0; omega⟩
variable {fr lo fr0 lo0 idx : Nat} {res : Option Value} {σ' : CS}
theorem cm_callV (K : KX k C T N ty) (S : CC p m c cc nL s args own meth ret D tc b z) (hW : CWS D tc b z s σ0 σ H locs cells slots) (hq : kd σ q = k) (hM : CMet l D tc b z y bytes maxL ret' fr lo (.ref (b + q) :: As) σ res σ') (qc : Calee y bytes maxL ret' n) (hin : Cond.instanceMethod y ∈ lw_tbl) (hsel : Cond.selects C y y ∈ lw_tbl)
    (hlink : Cond.methodLink own idx y ∈ lw_tbl) (hR : fr + 1 ≤ fr0 ∧ 8 + (maxL + 11) + lo ≤ lo0) (hl : ls.size = nL) (hn : As.length = n) (hst : st0 = As.reverse ++ .ref (b + q) :: rest) (hrm : (rest.map fun v => v.category).sum ≤ 8) (hdg : decode cc pc = .ok (.invokevirtual idx, 3))
    (kk : ∀ (H1 : Heap) (locs1 : List Loc) (cells1 slots1 : Nat), CWS D tc b z s σ0 σ' H1 locs1 cells1 slots1 → W p l e (CR fr0 lo0 σ0) s m args below meth c H1 locs1 cells1 slots1 Q (F0 m (pc + 3) ls (res.toList ++ rest))) : W p l e (CR fr0 lo0 σ0) s m args below meth c H locs cells slots Q (F0 m pc ls st0) :=
  cm_goon (cx_runV (C := C) (As := As) (rest := rest) S.1 hM ⟨rm_callB S.1 qc hlink hR, S.1.2.2.2.2 _ (gi hin rfl), S.1.2.2.2.2 _ (gi hsel rfl)⟩ ⟨CP.blind, va_recv (q0 := 0) S.2.1.1 (rm_one (hW.obj K hq)) K.1 rfl, fun U hU hWa => ⟨rfl, CP.of S hW hU hWa⟩⟩ rfl hn hl hst (lv_room hrm) hdg hW.fit) hW kk
theorem cm_callS (S : CC p m c cc nL s args own meth ret D tc b z) (hW : CWS D tc b z s σ0 σ H locs cells slots) (hM : CMet l D tc b z y bytes maxL ret' fr lo As σ res σ') (qc : Calee y bytes maxL ret' n) (hsta : Cond.static y ∈ lw_tbl)
    (hlink : Cond.methodLink own idx y ∈ lw_tbl) (hR : fr + 1 ≤ fr0 ∧ 8 + (maxL + 11) + lo ≤ lo0) (hl : ls.size = nL) (hn : As.length = n) (hst : st0 = As.reverse ++ rest) (hrm : (rest.map fun v => v.category).sum ≤ 8) (hdg : decode cc pc = .ok (.invokestatic idx, 3))
    (kk : ∀ (H1 : Heap) (locs1 : List Loc) (cells1 slots1 : Nat), CWS D tc b z s σ0 σ' H1 locs1 cells1 slots1 → W p l e (CR fr0 lo0 σ0) s m args below meth c H1 locs1 cells1 slots1 Q (F0 m (pc + 3) ls (res.toList ++ rest))) : W p l e (CR fr0 lo0 σ0) s m args below meth c H locs cells slots Q (F0 m pc ls st0) :=
  cm_goon (cx_runS (As := As) (rest := rest) S.1 hM ⟨rm_callB S.1 qc hlink hR, S.1.2.2.2.2 _ (gi hsta rfl)⟩ ⟨CP.blind, fun U hU hWa => ⟨rfl, CP.of S hW hU hWa⟩⟩ rfl hn hl hst (lv_room hrm) hdg hW.fit) hW kk
theorem cm_met {l : Launch} {σf : CS} (hy : plainName y.cls = true) (hn : (lg_sl As).length ≤ maxL)
    (body : ∀ (p : Program) (e : Env) (s : State) (m : MethodId) (args : Array Value) (below : List Frame) (meth : Method) (c : Code), CC p m c bytes maxL s args y.cls meth ret' D tc b z → CWS D tc b z s σ σ s.heap [] 0 0 → ∀ ls : Array Slot, lv_has ls maxL (lv_args 0 As) →
      W p l e (CR fr lo σ) s m args below meth c s.heap [] 0 0 (CE D tc b z below args s σ res σf) (F0 m 0 ls [])) : CMet l D tc b z y bytes maxL ret' fr lo As σ res σf := by
  refine Met.ofW (cc := bytes) (maxL := maxL) (ret := ret') hy rfl ?_
  intro p e s m args below meth c s₁ Bd hml hv
  obtain ⟨rfl, hW0, hK⟩ := hv
  have S : CC p m c bytes maxL s As.toArray y.cls meth ret' D tc b z := ⟨⟨Bd.exec, Bd.bytes, hml, findClass_of_methodNamed Bd.named, fun w hw => atoms_spec (ws := Cond.code y bytes maxL ret' :: gt) Bd.pre w (List.mem_cons_of_mem _ hw)⟩, hK, Bd.returns, Bd.notSynchronized⟩
  have hl := lv_entry As hn
  rw [lg_entry_eq]
  exact body p e s m As.toArray below meth c S ⟨hW0, va_S.rf, rfl, rfl⟩ _ hl
end CM4
