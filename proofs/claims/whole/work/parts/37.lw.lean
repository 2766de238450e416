/-! THE LAW'S WORLD: the class's, the reference's at b + 21, the law's long[1] at b + 62 -/
abbrev lreg (b : Nat) : Nat → Prop := fun q => b ≤ q
def LK (D : va_G) (tc : Nat → ClassId) (b z : Nat) (U : State) : Prop := va_K D cls (tys tc) U ∧ z < b ∧ va_Z "java/util/ArrayList" "DEFAULTCAPACITY_EMPTY_ELEMENTDATA" "[Ljava/lang/Object;" (.ref z) (lreg b) U U.heap ∧ z0 z U U.heap ∧ va_AO "java/lang/Object" U ∧ va_Nw (.castable "StreamPair$Segment" "StreamPair$Segment") U ∧ va_Nw (.castable "StreamPair$Segment" "java/lang/Object") U ∧ va_Nw (.methodLinkNest "StreamPair$Network" 33 ⟨"StreamPair$Segment", "<init>", "()V"⟩ "StreamPair") U ∧ ((∃ mi, va_Mi "[Ljava/lang/Object;" mi U) ∧ va_Dc U) ∧ b ≤ U.heap.size ∧ TK b U ∧ ∀ j k, 1 ≤ j → j ≤ 5 → 1 ≤ k → k ≤ 5 → j ≠ k → va_Nc (xcl j) (xcl k) U
theorem LK.ck {D : va_G} {tc : Nat → ClassId} {b z : Nat} {U : State} (h : LK D tc b z U) : CK D tc b z U := by
  obtain ⟨h1, h2, ⟨cf, kf, fi, f, a, cell, r1, r2, r3, r4, r5, r6, r7, r8⟩, h4, h5, h6, h7, h8, h9, h10, -, -⟩ := h
  exact ⟨h1, h2, ⟨cf, kf, fi, f, a, cell, r1, r2, r3, r4, r5, r6, r7, fun q => r8 q.1⟩, h4, h5, h6, h7, h8, h9, h10⟩
theorem TKs.movedL {n d : String} {b : Nat} {u U : State} (hvm : u.vm.Alike U.vm) (hh : ∀ q, q < b → U.heap[q]? = u.heap[q]?) (h : TKs n d b u) : TKs n d b U := by
  obtain ⟨c, k, i, f, a, cell, v, h1, h2, h3, h4, h5, h6, h7, h8, h9, h10, h11, h12⟩ := h
  obtain ⟨k', hi', he⟩ := State.fieldFound?_setVm hvm h2
  exact ⟨c, k', i, f, a, cell, v, by rw [hvm.findClass]; exact h1, hi', h3, by rw [he]; exact h4, by rw [hh a h12]; exact h5, h6, h7, h8, by rw [he]; exact h9, h10, h11, h12⟩
theorem TK.movedL {b : Nat} {u U : State} (hw : u.WarmedH U.vm) (hh : ∀ q, q < b → U.heap[q]? = u.heap[q]?) (h : TK b u) : TK b U := by
  obtain ⟨h1, h2, h3, h4, h5, h6⟩ := h
  have hvm := hw.alike
  refine ⟨super_moved hvm h1, fun k g1 g2 => cast_moved hvm (h2 k g1 g2), fun y hy => tab_moved rfl (by rw [Cond.declares_setVm hvm]; exact h3 y hy), h4.movedL hvm hh, h5.movedL hvm hh, fun q hq => ?_⟩
  obtain ⟨a, ha⟩ := h6 q hq
  exact ⟨a, ha.warm hw⟩
theorem LK.moved {D : va_G} {tc : Nat → ClassId} {b z : Nat} {u U : State} (hw : u.WarmedH U.vm) (hh : ∀ q, q < b → U.heap[q]? = u.heap[q]?) (hs : u.heap.size ≤ U.heap.size) (h : LK D tc b z u) : LK D tc b z U := by
  obtain ⟨h1, h2, h3, h4, h5, h6, h7, h9, ⟨⟨mi, h10⟩, h11⟩, h8, h12, h13⟩ := h
  have hvm := hw.alike
  have hz : U.heap[z]? = u.heap[z]? := hh z (by omega)
  refine ⟨h1.moved hvm, h2, ?_, (h4.moved hvm).kept hz, h5.moved hvm, cast_moved hvm h6, cast_moved hvm h7, va_Nw.warmM hw h9, ⟨⟨mi, h10.moved hvm⟩, h11.moved hvm⟩, by omega, h12.movedL hw hh, fun j k a1 a2 a3 a4 a5 => (h13 j k a1 a2 a3 a4 a5).moved hvm⟩
  obtain ⟨cf, kf, fi, f, a, cell, r1, r2, r3, r4, r5, r6, r7, r8⟩ := va_Z.moved hvm h3
  exact ⟨cf, kf, fi, f, a, cell, r1, r2, r3, r4, by rw [hh a (Nat.lt_of_not_le r8)]; exact r5, r6, r7, r8⟩
abbrev oa (tc : Nat → ClassId) (v : Int64) : va_E := .inl (tc 3, 1, .inr (.inl fun _ => v))
def LW (D : va_G) (tc : Nat → ClassId) (b z : Nat) (σ : CS) (ρ : RS) (v : Int64) (H : Heap) : Prop := CW D tc b z σ H ∧ RW D tc (b + 21) ρ H ∧ va_at D cls (b + 62, oa tc v) H
def LWS (D : va_G) (tc : Nat → ClassId) (b z : Nat) (s : State) (c0 u0 : Nat) (σ : CS) (ρ : RS) (v : Int64) (H : Heap) (locs : List Loc) (cells slots : Nat) : Prop := LW D tc b z σ ρ v H ∧ va_S (lreg b) s.heap H locs ∧ cX σ = c0 + cells ∧ cU σ = u0 + slots
def LWP (D : va_G) (tc : Nat → ClassId) (b z : Nat) (σ : CS) (ρ : RS) (v : Int64) : State → Prop := fun U => LW D tc b z σ ρ v U.heap ∧ LK D tc b z U
abbrev LC (p : Program) (m : MethodId) (c : Code) (cc : ByteArray) (nL : Nat) (s : State) (args : Array Value) (own : String) (meth : Method) (ret : Option FieldType) (D : va_G) (tc : Nat → ClassId) (b z : Nat) : Prop :=
  CallFix p m c cc nL s args gt own ∧ LK D tc b z s ∧ meth.sig.returnType = ret ∧ meth.locks = false
abbrev LR (fr lo c0 u0 : Nat) : Room := { frames := fr, cells := 601024 - c0, slots := 7293034 - u0, locals := lo }
/-- the reference's cells are kept -/
theorem RW.kept {D : va_G} {tc : Nat → ClassId} {o : Nat} {ρ : RS} {H H1 : Heap} (h : RW D tc o ρ H) (hk : ∀ q, rreg o q → q < H.size → H1[q]? = H[q]?) : RW D tc o ρ H1 :=
  ⟨h.1.kept (hk o ⟨Nat.le_refl _, by omega⟩ h.1.lt), fun r h1 h2 => (h.2 r h1 h2).kept (hk (o + r) ⟨by omega, by omega⟩ (h.2 r h1 h2).lt)⟩
theorem CW.kept {D : va_G} {tc : Nat → ClassId} {b z : Nat} {σ : CS} {H H1 : Heap} (h : CW D tc b z σ H) (hs : H1.size = H.size) (hk : ∀ q, creg b q → q < H.size → H1[q]? = H[q]?) : CW D tc b z σ H1 := by
  have hr : ∀ q, kd σ q ≠ 0 → creg b (b + q) := fun q hq => h.reg hq
  obtain ⟨g1, g2, g3, g4, g5⟩ := h
  exact ⟨fun q hq => (g1 q hq).kept (hk _ (hr q hq) (g1 q hq).lt), g2, g3, by rw [hs]; exact g4, g5⟩
section LWS
variable {p : Program} {l : Launch} {e : Env} {R : Room} {s : State} {m : MethodId} {args : Array Value} {below : List Frame} {meth : Method} {c : Code} {H : Heap} {locs : List Loc} {cells slots : Nat} {Q : State → Prop}
variable {cc : ByteArray} {pc nL : Nat} {ls : Array Slot} {rest st0 : List Value} {D : va_G} {tc : Nat → ClassId} {b z c0 u0 : Nat} {σ : CS} {ρ : RS} {v : Int64} {own : String} {β : Type} {B : β} {ret : Option FieldType}
variable {y : MethodName} {bytes : ByteArray} {maxL n fr lo fr0 lo0 idx : Nat} {ret' : Option FieldType} {res : Option Value} {σ' : CS} {ρ' : RS} {v' : Int64} {As : List Value}
theorem LWP.blind : FrameBlind (va_Pc As (LWP D tc b z σ ρ v)) := fun a U g mk q => by
  obtain ⟨q0, q1, q2⟩ := q
  exact ⟨q0, q1, LK.moved (u := U) (U := U.calling g mk a) (State.WarmedH.refl U) (fun _ _ => rfl) (Nat.le_refl _) q2⟩
theorem LWS.kof {U : State} (S : LC p m c cc nL s args own meth ret D tc b z) (hW : LWS D tc b z s c0 u0 σ ρ v H locs cells slots) (hU : U.heap = H) (hw : s.WarmedH U.vm) : LK D tc b z U :=
  LK.moved hw (fun q h1 => by rw [hU]; exact hW.2.1.2.1 q (Nat.lt_of_lt_of_le h1 S.2.1.2.2.2.2.2.2.2.2.2.1) (Nat.not_le.mpr h1)) (by rw [hU]; exact hW.2.1.1) S.2.1
theorem LWP.of {U : State} (S : LC p m c cc nL s args own meth ret D tc b z) (hW : LWS D tc b z s c0 u0 σ ρ v H locs cells slots) (hU : U.heap = H) (hw : s.WarmedH U.vm) : LWP D tc b z σ ρ v U := ⟨by rw [hU]; exact hW.1, hW.kof S hU hw⟩
theorem LWS.cpx {U : State} (S : LC p m c cc nL s args own meth ret D tc b z) (hW : LWS D tc b z s c0 u0 σ ρ v H locs cells slots) (hU : U.heap = H) (hw : s.WarmedH U.vm) : CPX D tc b z σ U :=
  ⟨⟨by rw [hU]; exact hW.1.1, (hW.kof S hU hw).ck⟩, (hW.kof S hU hw).2.2.2.2.2.2.2.2.2.2.1⟩
theorem LWS.fit (hW : LWS D tc b z s c0 u0 σ ρ v H locs cells slots) : cells + (601024 - cX σ) ≤ (LR fr lo c0 u0).cells ∧ slots + (7293034 - cU σ) ≤ (LR fr lo c0 u0).slots := by
  obtain ⟨⟨⟨-, -, -, -, h5, h6, -⟩, -⟩, -, hc1, hc2⟩ := hW
  exact ⟨by show cells + (601024 - cX σ) ≤ 601024 - c0; omega, by show slots + (7293034 - cU σ) ≤ 7293034 - u0; omega⟩
theorem LWS.recv (S : LC p m c cc nL s args own meth ret D tc b z) (hW : LWS D tc b z s c0 u0 σ ρ v H locs cells slots) : ∃ cell : Cell, H[b + 0]? = some cell ∧ cell.vm.isStatics = false ∧ s.vm.findClass "StreamPair" = some cell.cls := by
  have h := hW.1.1.1 0 (by show (1 : Nat) ≠ 0; decide)
  rw [show kd σ 0 = 1 from rfl, ent_obj b z tc σ 0 (by decide)] at h
  exact va_recv (q0 := 0) S.2.1.1 (rm_one h) kx_P.1 rfl
/-- behind a call that writes in the class's world alone -/
theorem LWS.afterC {H1 : Heap} {L : List Loc} {x y : Nat} (hW : LWS D tc b z s c0 u0 σ ρ v H locs cells slots) (hCW : CW D tc b z σ' H1) (hz : H.size ≤ H1.size) (hk : ∀ q : Nat, q < H.size → ¬ creg b q → H1[q]? = H[q]?) (hL : ∀ q ∈ L, creg b q.base) (h1 : cX σ' = cX σ + x) (h2 : cU σ' = cU σ + y) : LWS D tc b z s c0 u0 σ' ρ v H1 (locs ++ L) (cells + x) (slots + y) := by
  obtain ⟨⟨g1, g2, g3⟩, ⟨hS1, hS2, hS3⟩, hc1, hc2⟩ := hW
  refine ⟨⟨hCW, g2.kept fun q hq hl => hk q hl fun hc => hc.2 ⟨hq.1, by have := hq.2; omega⟩, g3.kept (hk _ g3.lt fun hc => hc.2 ⟨by show b + 21 ≤ b + 62; omega, by show b + 62 < b + 63; omega⟩)⟩, ⟨Nat.le_trans hS1 hz, fun q e1 e2 => (hk q (Nat.lt_of_lt_of_le e1 hS1) fun hc => e2 hc.1).trans (hS2 q e1 e2), fun q hq => ?_⟩, by omega, by omega⟩
  rcases List.mem_append.mp hq with h | h
  · exact hS3 q h
  · exact (hL q h).1
theorem lm_goonC {a : Array Value} (hr : va_Run p l e R s m args below meth c H locs cells slots (cX σ' - cX σ) (cU σ' - cU σ) (F0 m pc ls st0) rest (CQ D tc b z σ res σ' a) (creg b)) (hW : LWS D tc b z s c0 u0 σ ρ v H locs cells slots)
    (kk : ∀ (H1 : Heap) (locs1 : List Loc) (cells1 slots1 : Nat), LWS D tc b z s c0 u0 σ' ρ v H1 locs1 cells1 slots1 → W p l e R s m args below meth c H1 locs1 cells1 slots1 Q (F0 m (pc + 3) ls (res.toList ++ rest))) : W p l e R s m args below meth c H locs cells slots Q (F0 m pc ls st0) := by
  intro T hT X
  obtain ⟨v', st₀, t, T', L, h0, X', hL, e1, e2, ⟨hv, hRW, ⟨hz, hk⟩, hx1, hx2⟩, st⟩ := hr T hT X
  cases hv
  rw [h0] at hz hk
  obtain ⟨t2, a1, b1⟩ := kk T'.heap (locs ++ L) _ _ (hW.afterC (by rw [e1]; exact hRW) (by rw [e1]; exact hz) (fun q h1 h2 => by rw [e1]; exact hk q h1 h2) hL (by omega) (by omega)) T' rfl X'
  exact ⟨t2, st t2 a1, b1⟩
/-- a method of the class that returns -/
theorem lm_callP (S : LC p m c cc nL s args own meth ret D tc b z) (hW : LWS D tc b z s c0 u0 σ ρ v H locs cells slots) (hM : PMet l D tc b z y bytes maxL ret' fr lo (.ref (b + 0) :: As) σ res σ') (qc : Calee y bytes maxL ret' n) (hin : Cond.instanceMethod y ∈ lw_tbl) (hsel : Cond.selects "StreamPair" y y ∈ lw_tbl)
    (hlink : Cond.methodLink own idx y ∈ lw_tbl) (hR : fr + 1 ≤ fr0 ∧ 8 + (maxL + 11) + lo ≤ lo0) (hl : ls.size = nL) (hn : As.length = n) (hst : st0 = As.reverse ++ .ref (b + 0) :: rest) (hrm : (rest.map fun v => v.category).sum ≤ 8) (hdg : decode cc pc = .ok (.invokevirtual idx, 3))
    (kk : ∀ (H1 : Heap) (locs1 : List Loc) (cells1 slots1 : Nat), LWS D tc b z s c0 u0 σ' ρ v H1 locs1 cells1 slots1 → W p l e (LR fr0 lo0 c0 u0) s m args below meth c H1 locs1 cells1 slots1 Q (F0 m (pc + 3) ls (res.toList ++ rest))) : W p l e (LR fr0 lo0 c0 u0) s m args below meth c H locs cells slots Q (F0 m pc ls st0) :=
  lm_goonC (cx_runV (C := "StreamPair") (As := As) (rest := rest) S.1 hM ⟨rm_callB S.1 qc hlink hR, S.1.2.2.2.2 _ (gi hin rfl), S.1.2.2.2.2 _ (gi hsel rfl)⟩ ⟨CPX.blind, hW.recv S, fun U hU hWa => ⟨rfl, hW.cpx S hU hWa⟩⟩ rfl hn hl hst (lv_room hrm) hdg hW.fit) hW kk
theorem lm_callC (S : LC p m c cc nL s args own meth ret D tc b z) (hW : LWS D tc b z s c0 u0 σ ρ v H locs cells slots) (hM : CMet l D tc b z y bytes maxL ret' fr lo (.ref (b + 0) :: As) σ res σ') (qc : Calee y bytes maxL ret' n) (hin : Cond.instanceMethod y ∈ lw_tbl) (hsel : Cond.selects "StreamPair" y y ∈ lw_tbl)
    (hlink : Cond.methodLink own idx y ∈ lw_tbl) (hR : fr + 1 ≤ fr0 ∧ 8 + (maxL + 11) + lo ≤ lo0) (hl : ls.size = nL) (hn : As.length = n) (hst : st0 = As.reverse ++ .ref (b + 0) :: rest) (hrm : (rest.map fun v => v.category).sum ≤ 8) (hdg : decode cc pc = .ok (.invokevirtual idx, 3))
    (kk : ∀ (H1 : Heap) (locs1 : List Loc) (cells1 slots1 : Nat), LWS D tc b z s c0 u0 σ' ρ v H1 locs1 cells1 slots1 → W p l e (LR fr0 lo0 c0 u0) s m args below meth c H1 locs1 cells1 slots1 Q (F0 m (pc + 3) ls (res.toList ++ rest))) : W p l e (LR fr0 lo0 c0 u0) s m args below meth c H locs cells slots Q (F0 m pc ls st0) :=
  lm_goonC (cx_runV (C := "StreamPair") (As := As) (rest := rest) S.1 hM ⟨rm_callB S.1 qc hlink hR, S.1.2.2.2.2 _ (gi hin rfl), S.1.2.2.2.2 _ (gi hsel rfl)⟩ ⟨CP.blind, hW.recv S, fun U hU hWa => ⟨rfl, (hW.cpx S hU hWa).1⟩⟩ rfl hn hl hst (lv_room hrm) hdg hW.fit) hW kk
/-- a method of the reference -/
theorem lm_callR (S : LC p m c cc nL s args own meth ret D tc b z) (hW : LWS D tc b z s c0 u0 σ ρ v H locs cells slots) (hM : RMet l D tc (b + 21) y bytes maxL ret' fr lo (.ref (b + 21) :: As) ρ res ρ') (qc : Calee y bytes maxL ret' n) (hin : Cond.instanceMethod y ∈ lw_tbl) (hsel : Cond.selects cn_M y y ∈ lw_tbl)
    (hlink : Cond.methodLink own idx y ∈ lw_tbl) (hR : fr + 1 ≤ fr0 ∧ 8 + (maxL + 11) + lo ≤ lo0) (hl : ls.size = nL) (hn : As.length = n) (hst : st0 = As.reverse ++ .ref (b + 21) :: rest) (hrm : (rest.map fun v => v.category).sum ≤ 8) (hdg : decode cc pc = .ok (.invokevirtual idx, 3))
    (kk : ∀ (H1 : Heap) (locs1 : List Loc), LWS D tc b z s c0 u0 σ ρ' v H1 locs1 cells slots → W p l e (LR fr0 lo0 c0 u0) s m args below meth c H1 locs1 cells slots Q (F0 m (pc + 3) ls (res.toList ++ rest))) : W p l e (LR fr0 lo0 c0 u0) s m args below meth c H locs cells slots Q (F0 m pc ls st0) := by
  have hr := cx_runV (R := LR fr0 lo0 c0 u0) (cells := cells) (slots := slots) (below := below) (meth := meth) (locs := locs) (g := F0 m pc ls st0) (C := cn_M) (As := As) (rest := rest) (e := e) S.1 hM ⟨rm_callB S.1 qc hlink hR, S.1.2.2.2.2 _ (gi hin rfl), S.1.2.2.2.2 _ (gi hsel rfl)⟩ ⟨RP.blind, va_recv S.2.1.1 (rm_one hW.1.2.1.1) (ci := 0) (q0 := 0) rfl rfl, fun U hU hWa => ⟨rfl, by rw [hU]; exact hW.1.2.1, va_K.moved hWa.alike S.2.1.1⟩⟩ rfl hn hl hst (lv_room hrm) hdg (by
    have h := hW.fit (fr := fr0) (lo := lo0)
    exact ⟨Nat.le_trans (Nat.le_add_right cells _) h.1, Nat.le_trans (Nat.le_add_right slots _) h.2⟩)
  intro T hT X
  obtain ⟨v', st₀, t, T', L, h0, X', hL, e1, e2, ⟨hv, hRW, hz, hk⟩, st⟩ := hr T hT X
  cases hv
  rw [h0] at hz hk
  obtain ⟨⟨g1, g2, g3⟩, ⟨hS1, hS2, hS3⟩, hc1, hc2⟩ := hW
  have hne : ∀ q, creg b q → ¬ rreg (b + 21) q := fun q h1 h2 => h1.2 ⟨h2.1, by have := h2.2; omega⟩
  obtain ⟨t2, a1, b1⟩ := kk T'.heap (locs ++ L) ⟨⟨g1.kept (by rw [e1]; exact hz) (fun q h1 _ => by rw [e1]; exact hk q (hne q h1)), by rw [e1]; exact hRW, g3.kept (by rw [e1]; exact hk _ fun h2 => by have := h2.2; show False; have h3 : b + 62 < b + 21 + 41 := h2.2; omega)⟩, ⟨by rw [e1, hz]; exact hS1, fun q e3 e4 => by rw [e1, hk q fun h2 => e4 (by show b ≤ q; have := h2.1; omega)]; exact hS2 q e3 e4, fun q hq => by
      rcases List.mem_append.mp hq with h | h
      · exact hS3 q h
      · show b ≤ q.base; have := (hL q h).1; omega⟩, hc1, hc2⟩ T' rfl X'
  exact ⟨t2, st t2 a1, b1⟩
/-- the law's long[1] -/
theorem lm_outr (S : LC p m c cc nL s args own meth ret D tc b z) (hW : LWS D tc b z s c0 u0 σ ρ v H locs cells slots) (hdg : decode cc pc = .ok (.laload, 1))
    (kk : W p l e R s m args below meth c H locs cells slots Q (F0 m (pc + 1) ls (.long v :: rest))) : W p l e R s m args below meth c H locs cells slots Q (F0 m pc ls (.int 0 :: .ref (b + 62) :: rest)) :=
  va_lald S.1.1 S.1.2.1 S.2.1.1 (rm_one hW.1.2.2) 0 3 rfl rfl (by show ¬ ((0 : Int32) < 0 ∨ 1 ≤ Int32.toNatClampNeg 0); decide) hdg kk
theorem lm_outw (S : LC p m c cc nL s args own meth ret D tc b z) (hW : LWS D tc b z s c0 u0 σ ρ v H locs cells slots) {x : Int64} (hdg : decode cc pc = .ok (.lastore, 1))
    (kk : ∀ (H1 : Heap) (locs1 : List Loc), LWS D tc b z s c0 u0 σ ρ x H1 locs1 cells slots → W p l e R s m args below meth c H1 locs1 cells slots Q (F0 m (pc + 1) ls rest)) : W p l e R s m args below meth c H locs cells slots Q (F0 m pc ls (.long x :: .int 0 :: .ref (b + 62) :: rest)) := by
  have hc := hW.1.2.2
  refine W.last S.1.1 S.1.2.1 hc ((S.2.1.1.2 3 _ rfl).1 1 (fun _ => .long v)) (fun q => by cases q) (by show ¬ ((0 : Int32) < 0 ∨ (arrV _ _ _).slots.size ≤ _); rw [arrV_size]; show ¬ ((0 : Int32) < 0 ∨ 1 ≤ Int32.toNatClampNeg 0); decide) rfl rfl hdg fun H1 e1 z1 oq => ?_
  obtain ⟨⟨g1, g2, g3⟩, hS, hc1, hc2⟩ := hW
  refine kk H1 _ ⟨⟨g1.kept z1 (fun q hq _ => oq q fun h => hq.2 ?_), g2.kept (fun q hq _ => oq q fun h => ?_), ?_⟩, hS.put z1 oq (by show b ≤ b + 62; omega), hc1, hc2⟩
  · have h' : q = b + 62 := h
    omega
  · have h' : q = b + 62 := h
    have := hq.2
    omega
  · show H1[b + 62]? = some (vp_cell _ _)
    rw [e1]
    rw [vp_cell_l, vp_cell_l, arrV_store]
    simp [arrV, updV]
end LWS
