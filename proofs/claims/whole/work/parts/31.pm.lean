/-! StreamPair's own methods: contracts out of walks that may end in a throw -/
def bcn {α β : Type} (c : Option (Nat ⊕ α)) (σ : CS) (k : α → Option ((Nat ⊕ β) × CS)) : Option ((Nat ⊕ β) × CS) := match c with
  | none => none
  | some (.inl j) => some (.inl j, wa σ 0 0 6)
  | some (.inr x) => k x
abbrev PQ {α : Type} (D : va_G) (tc : Nat → ClassId) (b z : Nat) (below : List Frame) (args : Array Value) (s : State) (σ0 : CS) (v : α → Option Value) (B : (Nat ⊕ α) × CS) : State → Prop := match B.1 with
  | .inl k => XE below s k
  | .inr x => CE D tc b z below args s σ0 (v x) B.2
abbrev NQ (b : Nat) (below : List Frame) (args : Array Value) (s : State) (B : Nat ⊕ Nat) : State → Prop := match B with
  | .inl k => XE below s k
  | .inr x => YE below args s (some (.ref (b + x)))
section PM
variable {p : Program} {l : Launch} {e : Env} {R : Room} {s : State} {m : MethodId} {args : Array Value} {below : List Frame} {meth : Method} {c : Code} {H : Heap} {locs : List Loc} {cells slots : Nat} {Q : State → Prop}
variable {cc : ByteArray} {pc nL : Nat} {ls : Array Slot} {rest st0 : List Value} {D : va_G} {tc : Nat → ClassId} {b z : Nat} {σ0 σ : CS} {own : String} {β : Type} {B : β} {ret : Option FieldType}
variable {k N q a : Nat} {C : String} {T : u_T} {ty : Nat → FieldType} {ref : String} {index : Nat}
variable {y : MethodName} {bytes : ByteArray} {maxL n fr lo fr0 lo0 idx : Nat} {ret' : Option FieldType} {res : Option Value}
theorem ym_met {l : Launch} {As : List Value} (hy : plainName y.cls = true) (hn : (lg_sl As).length ≤ maxL)
    (body : ∀ (p : Program) (e : Env) (s : State) (m : MethodId) (args : Array Value) (below : List Frame) (meth : Method) (c : Code), CC p m c bytes maxL s args y.cls meth ret' D tc b z → CWS D tc b z s σ σ s.heap [] 0 0 → ∀ ls : Array Slot, lv_has ls maxL (lv_args 0 As) →
      W p l e (CR fr lo σ) s m args below meth c s.heap [] 0 0 (YE below args s res) (F0 m 0 ls [])) : YMet l y bytes maxL ret' fr lo As σ (CP D tc b z σ) res := by
  refine Met.ofW (cc := bytes) (maxL := maxL) (ret := ret') hy rfl ?_
  intro p e s m args below meth c s₁ Bd hml hv
  obtain ⟨rfl, hW0, hK⟩ := hv
  have hl := lv_entry As hn
  rw [lg_entry_eq]
  exact body p e s m As.toArray below meth c ⟨⟨Bd.exec, Bd.bytes, hml, findClass_of_methodNamed Bd.named, fun w hw => atoms_spec (ws := Cond.code y bytes maxL ret' :: gt) Bd.pre w (List.mem_cons_of_mem _ hw)⟩, hK, Bd.returns, Bd.notSynchronized⟩ ⟨hW0, va_S.rf, rfl, rfl⟩ _ hl
theorem ymx_met {l : Launch} {As : List Value} (hy : plainName y.cls = true) (hn : (lg_sl As).length ≤ maxL)
    (body : ∀ (p : Program) (e : Env) (s : State) (m : MethodId) (args : Array Value) (below : List Frame) (meth : Method) (c : Code), CC p m c bytes maxL s args y.cls meth ret' D tc b z → TK b s → c.exceptionTable.toList = [] → CWS D tc b z s σ σ s.heap [] 0 0 → ∀ ls : Array Slot, lv_has ls maxL (lv_args 0 As) →
      W p l e (CR fr lo σ) s m args below meth c s.heap [] 0 0 (YE below args s res) (F0 m 0 ls [])) : YMet l y bytes maxL ret' fr lo As σ (CPX D tc b z σ) res := by
  refine Met.ofW (cc := bytes) (maxL := maxL) (ret := ret') hy rfl ?_
  intro p e s m args below meth c s₁ Bd hml hv
  obtain ⟨rfl, ⟨hW0, hK⟩, hT⟩ := hv
  have hl := lv_entry As hn
  rw [lg_entry_eq]
  have hemp := Bd.noHandlers (atoms_spec (ws := Cond.code y bytes maxL ret' :: gt) Bd.pre _ List.mem_cons_self)
  exact body p e s m As.toArray below meth c ⟨⟨Bd.exec, Bd.bytes, hml, findClass_of_methodNamed Bd.named, fun w hw => atoms_spec (ws := Cond.code y bytes maxL ret' :: gt) Bd.pre w (List.mem_cons_of_mem _ hw)⟩, hK, Bd.returns, Bd.notSynchronized⟩ hT (by simpa using hemp) ⟨hW0, va_S.rf, rfl, rfl⟩ _ hl
theorem pm_met {l : Launch} {As : List Value} {σf : CS} (hy : plainName y.cls = true) (hn : (lg_sl As).length ≤ maxL)
    (body : ∀ (p : Program) (e : Env) (s : State) (m : MethodId) (args : Array Value) (below : List Frame) (meth : Method) (c : Code), CC p m c bytes maxL s args y.cls meth ret' D tc b z → TK b s → c.exceptionTable.toList = [] → CWS D tc b z s σ σ s.heap [] 0 0 → ∀ ls : Array Slot, lv_has ls maxL (lv_args 0 As) →
      W p l e (CR fr lo σ) s m args below meth c s.heap [] 0 0 (CE D tc b z below args s σ res σf) (F0 m 0 ls [])) : PMet l D tc b z y bytes maxL ret' fr lo As σ res σf := by
  refine Met.ofW (cc := bytes) (maxL := maxL) (ret := ret') hy rfl ?_
  intro p e s m args below meth c s₁ Bd hml hv
  obtain ⟨rfl, ⟨hW0, hK⟩, hT⟩ := hv
  have hl := lv_entry As hn
  rw [lg_entry_eq]
  have hemp := Bd.noHandlers (atoms_spec (ws := Cond.code y bytes maxL ret' :: gt) Bd.pre _ List.mem_cons_self)
  exact body p e s m As.toArray below meth c ⟨⟨Bd.exec, Bd.bytes, hml, findClass_of_methodNamed Bd.named, fun w hw => atoms_spec (ws := Cond.code y bytes maxL ret' :: gt) Bd.pre w (List.mem_cons_of_mem _ hw)⟩, hK, Bd.returns, Bd.notSynchronized⟩ hT (by simpa using hemp) ⟨hW0, va_S.rf, rfl, rfl⟩ _ hl
theorem xm_met {l : Launch} {As : List Value} {j : Nat} (hy : plainName y.cls = true) (hn : (lg_sl As).length ≤ maxL)
    (body : ∀ (p : Program) (e : Env) (s : State) (m : MethodId) (args : Array Value) (below : List Frame) (meth : Method) (c : Code), CC p m c bytes maxL s args y.cls meth ret' D tc b z → TK b s → c.exceptionTable.toList = [] → CWS D tc b z s σ σ s.heap [] 0 0 → ∀ ls : Array Slot, lv_has ls maxL (lv_args 0 As) →
      W p l e (CR fr lo σ) s m args below meth c s.heap [] 0 0 (XE below s j) (F0 m 0 ls [])) : XMet l D tc b z y bytes maxL ret' fr lo As σ j := by
  refine MetFree.of_bodyS (code := bytes) (maxLocals := maxL) (ret := ret') hy ?_ ?_
  · intro args s m h hn
    obtain ⟨meth, c, h1, h2, h3, h4, h5, h6, -, -⟩ := Cond.code_spec hn (atoms_spec (ws := Cond.code y bytes maxL ret' :: gt) h _ List.mem_cons_self)
    exact ⟨meth, c, h1, h2, h3, h4, h5, h6⟩
  · intro p e s m args below meth c s₁ Bd hml hv _
    obtain ⟨rfl, ⟨hW0, hK⟩, hT⟩ := hv
    have hh0 : s₁.heap = s.heap := by rw [Bd.state]; rfl
    have hl := lv_entry As hn
    have hemp := Bd.noHandlers (atoms_spec (ws := Cond.code y bytes maxL ret' :: gt) Bd.pre _ List.mem_cons_self)
    have hB := body p e s m As.toArray below meth c ⟨⟨Bd.exec, Bd.bytes, hml, findClass_of_methodNamed Bd.named, fun w hw => atoms_spec (ws := Cond.code y bytes maxL ret' :: gt) Bd.pre w (List.mem_cons_of_mem _ hw)⟩, hK, Bd.returns, Bd.notSynchronized⟩ hT (by simpa using hemp) ⟨hW0, va_S.rf, rfl, rfl⟩ _ hl
    have hB' : W p l e (CR fr lo σ) s m As.toArray below meth c s.heap [] 0 0 (XE below s j) (entryFrame m As.toArray maxL) := by
      rw [lg_entry_eq]; exact hB
    obtain ⟨t, a1, hrun, x, hend, hXO⟩ := hB' s₁ hh0 (Stand.of_body Bd)
    exact ⟨t, .threw x, a1, hrun, hend, x, rfl, hXO⟩
theorem ym_cVi {As : List Value} {cal : Option Int32} {F : Int32 → Option β} (K : KX k C T N ty) (S : CC p m c cc nL s args own meth ret D tc b z) (hW : CWS D tc b z s σ0 σ H locs cells slots) (hq : kd σ q = k) (hM : ∀ x, cal = some x → YMet l y bytes maxL ret' fr lo (.ref (b + q) :: As) σ (CP D tc b z σ) (some (.int x))) (qc : Calee y bytes maxL ret' n) (hin : Cond.instanceMethod y ∈ lw_tbl) (hsel : Cond.selects C y y ∈ lw_tbl)
    (hlink : Cond.methodLink own idx y ∈ lw_tbl) (hR : fr + 1 ≤ fr0 ∧ 8 + (maxL + 11) + lo ≤ lo0) (hl : ls.size = nL) (hn : As.length = n) (hst : st0 = As.reverse ++ .ref (b + q) :: rest) (hrm : (rest.map fun v => v.category).sum ≤ 8) (hdg : decode cc pc = .ok (.invokevirtual idx, 3)) (h : bc cal F = some B)
    (kk : ∀ x, F x = some B → W p l e (CR fr0 lo0 σ0) s m args below meth c H locs cells slots Q (F0 m (pc + 3) ls (.int x :: rest))) : W p l e (CR fr0 lo0 σ0) s m args below meth c H locs cells slots Q (F0 m pc ls st0) := by
  obtain ⟨x, h1, h2⟩ := bc_s h
  exact ym_callV K S hW hq (hM x h1) CP.blind (fun U hU hw => CP.of S hW hU hw) qc hin hsel hlink hR hl hn hst hrm hdg (kk x h2)
theorem ym_cVr {As : List Value} {cal : Option Nat} {F : Nat → Option β} (K : KX k C T N ty) (S : CC p m c cc nL s args own meth ret D tc b z) (hW : CWS D tc b z s σ0 σ H locs cells slots) (hq : kd σ q = k) (hM : ∀ x, cal = some x → YMet l y bytes maxL ret' fr lo (.ref (b + q) :: As) σ (CP D tc b z σ) (some (.ref (b + x)))) (qc : Calee y bytes maxL ret' n) (hin : Cond.instanceMethod y ∈ lw_tbl) (hsel : Cond.selects C y y ∈ lw_tbl)
    (hlink : Cond.methodLink own idx y ∈ lw_tbl) (hR : fr + 1 ≤ fr0 ∧ 8 + (maxL + 11) + lo ≤ lo0) (hl : ls.size = nL) (hn : As.length = n) (hst : st0 = As.reverse ++ .ref (b + q) :: rest) (hrm : (rest.map fun v => v.category).sum ≤ 8) (hdg : decode cc pc = .ok (.invokevirtual idx, 3)) (h : bc cal F = some B)
    (kk : ∀ x, F x = some B → W p l e (CR fr0 lo0 σ0) s m args below meth c H locs cells slots Q (F0 m (pc + 3) ls (.ref (b + x) :: rest))) : W p l e (CR fr0 lo0 σ0) s m args below meth c H locs cells slots Q (F0 m pc ls st0) := by
  obtain ⟨x, h1, h2⟩ := bc_s h
  exact ym_callV K S hW hq (hM x h1) CP.blind (fun U hU hw => CP.of S hW hU hw) qc hin hsel hlink hR hl hn hst hrm hdg (kk x h2)
theorem ym_cSi {As : List Value} {cal : Option Int32} {F : Int32 → Option β} (S : CC p m c cc nL s args own meth ret D tc b z) (hW : CWS D tc b z s σ0 σ H locs cells slots) (hM : ∀ x, cal = some x → YMet l y bytes maxL ret' fr lo As σ (CP D tc b z σ) (some (.int x))) (qc : Calee y bytes maxL ret' n) (hsta : Cond.static y ∈ lw_tbl)
    (hlink : Cond.methodLink own idx y ∈ lw_tbl) (hR : fr + 1 ≤ fr0 ∧ 8 + (maxL + 11) + lo ≤ lo0) (hl : ls.size = nL) (hn : As.length = n) (hst : st0 = As.reverse ++ rest) (hrm : (rest.map fun v => v.category).sum ≤ 8) (hdg : decode cc pc = .ok (.invokestatic idx, 3)) (h : bc cal F = some B)
    (kk : ∀ x, F x = some B → W p l e (CR fr0 lo0 σ0) s m args below meth c H locs cells slots Q (F0 m (pc + 3) ls (.int x :: rest))) : W p l e (CR fr0 lo0 σ0) s m args below meth c H locs cells slots Q (F0 m pc ls st0) := by
  obtain ⟨x, h1, h2⟩ := bc_s h
  exact ym_callS S hW (hM x h1) CP.blind (fun U hU hw => CP.of S hW hU hw) qc hsta hlink hR hl hn hst hrm hdg (kk x h2)
/-- a look-up that throws or writes nothing -/
theorem pm_look {α : Type} {As : List Value} {cal : Option (Nat ⊕ Nat)} {F : Nat → Option ((Nat ⊕ α) × CS)} {v : α → Option Value} {B : (Nat ⊕ α) × CS} (S : CC p m c cc nL s args "StreamPair" meth ret D tc b z) (hT : TK b s) (hex : c.exceptionTable.toList = []) (hW : CWS D tc b z s σ σ s.heap [] 0 0) (hX : ∀ j, cal = some (.inl j) → XMet l D tc b z y bytes maxL ret' fr lo (.ref (b + 0) :: As) σ j) (hM : ∀ x, cal = some (.inr x) → YMet l y bytes maxL ret' fr lo (.ref (b + 0) :: As) σ (CPX D tc b z σ) (some (.ref (b + x)))) (qc : Calee y bytes maxL ret' n) (hin : Cond.instanceMethod y ∈ lw_tbl) (hsel : Cond.selects "StreamPair" y y ∈ lw_tbl)
    (hlink : Cond.methodLink "StreamPair" idx y ∈ lw_tbl) (hR : fr + 1 ≤ fr0 ∧ 8 + (maxL + 11) + lo ≤ lo0) (hl : ls.size = nL) (hn : As.length = n) (hst : st0 = As.reverse ++ .ref (b + 0) :: rest) (hrm : (rest.map fun v => v.category).sum ≤ 8) (hdg : decode cc pc = .ok (.invokevirtual idx, 3)) (h : bcn cal σ F = some B)
    (kk : ∀ x, F x = some B → W p l e (CR fr0 lo0 σ) s m args below meth c s.heap [] 0 0 (PQ D tc b z below args s σ v B) (F0 m (pc + 3) ls (.ref (b + x) :: rest))) : W p l e (CR fr0 lo0 σ) s m args below meth c s.heap [] 0 0 (PQ D tc b z below args s σ v B) (F0 m pc ls st0) := by
  match cal, h, hX, hM with
  | some (.inl j), h, hX, _ =>
    cases h
    exact xm_callX S hT hex hW (hX j rfl) qc hin hsel hlink hR hl hn hst hrm hdg
  | some (.inr x), h, _, hM => exact ym_callV kx_P S hW rfl (hM x rfl) CPX.blind (fun U hU hw => CPX.of S hT hW hU hw) qc hin hsel hlink hR hl hn hst hrm hdg (kk x h)
theorem yr_i (S : CC p m c cc nL s args own meth (some .int) D tc b z) {x B : Int32} (hdg : decode cc pc = .ok (.ireturn, 1)) (h : some x = some B) : W p l e R s m args below meth c s.heap [] 0 0 (YE below args s (some (.int B))) (F0 m pc ls [.int x]) := by
  cases h
  exact W.iret S.1.1 S.1.2.1 S.2.2.1 (fun t ht _ => ⟨rfl, ht⟩) (fun _ hq => by cases hq) hdg S.2.2.2
theorem yr_z (S : CC p m c cc nL s args own meth (some .boolean) D tc b z) {x B : Int32} (hdg : decode cc pc = .ok (.ireturn, 1)) (h : gd (x = 0 ∨ x = 1) (some x) = some B) : W p l e R s m args below meth c s.heap [] 0 0 (YE below args s (some (.int B))) (F0 m pc ls [.int x]) := by
  obtain ⟨h1, h2⟩ := gd_s h
  cases h2
  exact W.zret S.1.1 S.1.2.1 S.2.2.1 (by rcases h1 with h1 | h1 <;> rw [h1] <;> decide) (fun t ht _ => ⟨rfl, ht⟩) (fun _ hq => by cases hq) hdg S.2.2.2
theorem yr_r {rt : FieldType} (S : CC p m c cc nL s args own meth (some rt) D tc b z) (hrt : (∃ n, rt = .object n) ∨ ∃ t, rt = .array t) {x B : Nat} (hdg : decode cc pc = .ok (.areturn, 1)) (h : some x = some B) : W p l e R s m args below meth c s.heap [] 0 0 (YE below args s (some (.ref (b + B)))) (F0 m pc ls [.ref (b + x)]) := by
  cases h
  exact W.aret S.1.1 S.1.2.1 S.2.2.1 hrt (Or.inr ⟨_, rfl⟩) (fun t ht _ => ⟨rfl, ht⟩) (fun _ hq => by cases hq) hdg S.2.2.2
theorem nr_r {rt : FieldType} (S : CC p m c cc nL s args own meth (some rt) D tc b z) (hrt : (∃ n, rt = .object n) ∨ ∃ t, rt = .array t) {x : Nat} {B : Nat ⊕ Nat} (hdg : decode cc pc = .ok (.areturn, 1)) (h : some (.inr x) = some B) : W p l e R s m args below meth c s.heap [] 0 0 (NQ b below args s B) (F0 m pc ls [.ref (b + x)]) := by
  cases h
  exact yr_r S hrt hdg rfl
theorem pr_i {B : (Nat ⊕ Int32) × CS} (S : CC p m c cc nL s args own meth (some .int) D tc b z) (hW : CWS D tc b z s σ0 σ H locs cells slots) {x : Int32} (hdg : decode cc pc = .ok (.ireturn, 1)) (h : some (.inr x, σ) = some B) : W p l e R s m args below meth c H locs cells slots (PQ D tc b z below args s σ0 (fun x => some (.int x)) B) (F0 m pc ls [.int x]) := by
  cases h
  exact cm_iret (B := (x, σ)) S hW hdg rfl
theorem pr_l {B : (Nat ⊕ Int64) × CS} (S : CC p m c cc nL s args own meth (some .long) D tc b z) (hW : CWS D tc b z s σ0 σ H locs cells slots) {x : Int64} (hdg : decode cc pc = .ok (.lreturn, 1)) (h : some (.inr x, σ) = some B) : W p l e R s m args below meth c H locs cells slots (PQ D tc b z below args s σ0 (fun x => some (.long x)) B) (F0 m pc ls [.long x]) := by
  cases h
  exact cm_lret (B := (x, σ)) S hW hdg rfl
end PM
