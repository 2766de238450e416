/-! a contract of a method whose class has natives, but that is none itself -/
theorem cm_metF {l : Launch} {D : va_G} {tc : Nat → ClassId} {b z : Nat} {y : MethodName} {bytes : ByteArray} {maxL fr lo : Nat} {ret' : Option FieldType} {As : List Value} {σ σf : CS} {res : Option Value} (hy : plainFor y = true) (hn : (lg_sl As).length ≤ maxL)
    (body : ∀ (p : Program) (e : Env) (s : State) (m : MethodId) (args : Array Value) (below : List Frame) (meth : Method) (c : Code), CC p m c bytes maxL s args y.cls meth ret' D tc b z → CWS D tc b z s σ σ s.heap [] 0 0 → ∀ ls : Array Slot, lv_has ls maxL (lv_args 0 As) →
      W p l e (CR fr lo σ) s m args below meth c s.heap [] 0 0 (CE D tc b z below args s σ res σf) (F0 m 0 ls [])) : CMet l D tc b z y bytes maxL ret' fr lo As σ res σf := by
  unfold CMet Met
  refine MetFree.of_bodySF (code := bytes) (maxLocals := maxL) (ret := ret') hy ?_ ?_
  · intro args s m h hn
    obtain ⟨meth, c, h1, h2, h3, h4, h5, h6, -, -⟩ := Cond.code_spec hn (atoms_spec (ws := Cond.code y bytes maxL ret' :: gt) h _ List.mem_cons_self)
    exact ⟨meth, c, h1, h2, h3, h4, h5, h6⟩
  · intro p e s m args below meth c s₁ Bd hml hv _
    obtain ⟨rfl, hW0, hK⟩ := hv
    have hh0 : s₁.heap = s.heap := by rw [Bd.state]; rfl
    have hl := lv_entry As hn
    have hB := body p e s m As.toArray below meth c ⟨⟨Bd.exec, Bd.bytes, hml, findClass_of_methodNamed Bd.named, fun w hw => atoms_spec (ws := Cond.code y bytes maxL ret' :: gt) Bd.pre w (List.mem_cons_of_mem _ hw)⟩, hK, Bd.returns, Bd.notSynchronized⟩ ⟨hW0, va_S.rf, rfl, rfl⟩ _ hl
    have hB' : W p l e (CR fr lo σ) s m As.toArray below meth c s.heap [] 0 0 (CE D tc b z below As.toArray s σ res σf) (entryFrame m As.toArray maxL) := by
      rw [lg_entry_eq]; exact hB
    obtain ⟨t, a1, o, b1, b2, b3⟩ := hB' s₁ hh0 (Stand.of_body Bd)
    exact ⟨t, o, a1, b1, b2, ⟨b3.1, b3.2⟩⟩
