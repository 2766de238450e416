/-! THE CONSTRUCTORS' WORLD: a list of cells from b on, as they were made -/
def GW (D : va_G) (b : Nat) (gs : List va_E) (H : Heap) : Prop := (∀ j e, gs[j]? = some e → va_at D cls (b + j, e) H) ∧ H.size = b + gs.length
def nestW : List Cond := [.methodLinkNest "StreamPair" 9 ⟨"StreamPair$Tape", "<init>", "()V"⟩ "StreamPair", .methodLinkNest "StreamPair" 18 ⟨"StreamPair$Clock", "<init>", "()V"⟩ "StreamPair", .methodLinkNest "StreamPair" 25 ⟨"StreamPair$Network", "<init>", "()V"⟩ "StreamPair", .methodLinkNest "StreamPair$End" 11 ⟨"StreamPair$Supply", "<init>", "()V"⟩ "StreamPair", .methodLinkNest "StreamPair$End" 20 ⟨"StreamPair$Arrivals", "<init>", "()V"⟩ "StreamPair", .methodLinkNest "StreamPair$End" 27 ⟨"StreamPair$Pace", "<init>", "()V"⟩ "StreamPair", .methodLinkNest "StreamPair$End" 34 ⟨"StreamPair$Crowd", "<init>", "()V"⟩ "StreamPair"]
def GK (D : va_G) (tc : Nat → ClassId) (b z : Nat) (U : State) : Prop := va_K D cls (tys tc) U ∧ va_Z "java/util/ArrayList" "DEFAULTCAPACITY_EMPTY_ELEMENTDATA" "[Ljava/lang/Object;" (.ref z) (lreg b) U U.heap ∧ (∀ own ix y host, Cond.methodLinkNest own ix y host ∈ nestW → va_Nw (.methodLinkNest own ix y host) U) ∧ b ≤ U.heap.size
theorem GK.moved {D : va_G} {tc : Nat → ClassId} {b z : Nat} {u U : State} (hw : u.WarmedH U.vm) (hh : ∀ q, q < b → U.heap[q]? = u.heap[q]?) (hs : u.heap.size ≤ U.heap.size) (h : GK D tc b z u) : GK D tc b z U := by
  obtain ⟨h1, h3, h9, h8⟩ := h
  have hvm := hw.alike
  refine ⟨h1.moved hvm, ?_, fun own ix y host hm => va_Nw.warmM hw (h9 own ix y host hm), by omega⟩
  obtain ⟨cf, kf, fi, f, a, cell, r1, r2, r3, r4, r5, r6, r7, r8⟩ := va_Z.moved hvm h3
  exact ⟨cf, kf, fi, f, a, cell, r1, r2, r3, r4, by rw [hh a (Nat.lt_of_not_le r8)]; exact r5, r6, r7, r8⟩
def GP (D : va_G) (tc : Nat → ClassId) (b z : Nat) (gs : List va_E) : State → Prop := fun U => GW D b gs U.heap ∧ GK D tc b z U
def GQ (D : va_G) (b : Nat) (gs' : List va_E) : Array Value → State → Outcome → State → Prop := fun _ st oc t => oc = .returned none ∧ GW D b gs' t.heap ∧ va_F (lreg b) st t
abbrev GR (fr lo mc ms : Nat) : Room := { frames := fr, cells := mc, slots := ms, locals := lo }
def GMet (l : Launch) (D : va_G) (tc : Nat → ClassId) (b z : Nat) (y : MethodName) (bytes : ByteArray) (maxL : Nat) (fr lo mc ms : Nat) (As : List Value) (gs gs' : List va_E) : Prop :=
  Met l y (Cond.code y bytes maxL none :: gt) (GR fr lo mc ms) (va_Pc As (GP D tc b z gs)) (GQ D b gs') mc ms (lreg b)
def GWS (D : va_G) (b : Nat) (s : State) (gs : List va_E) (H : Heap) (locs : List Loc) : Prop := GW D b gs H ∧ va_S (lreg b) s.heap H locs
abbrev GC (p : Program) (m : MethodId) (c : Code) (cc : ByteArray) (nL : Nat) (s : State) (args : Array Value) (own : String) (meth : Method) (D : va_G) (tc : Nat → ClassId) (b z : Nat) : Prop :=
  CallFix p m c cc nL s args gt own ∧ GK D tc b z s ∧ meth.sig.returnType = none ∧ meth.locks = false ∧ meth.name = "<init>"
def KY (ci : Nat) (C : String) (T : u_T) (N : Nat) (ty : Nat → FieldType) : Prop := cls[ci]? = some (C, T, N) ∧ (∀ w ∈ u_ws C T N, w ∈ gt) ∧ (∀ k, k < N → parseFieldDescriptor (T k).2.2.1 = some (ty k)) ∧ (∀ a, a < N → ∀ b, b < N → a ≠ b → (T a).2.1 ≠ (T b).2.1)
theorem KX.y {k N : Nat} {C : String} {T : u_T} {ty : Nat → FieldType} (K : KX k C T N ty) : KY k C T N ty := ⟨K.1, K.2.1, K.2.2.1, K.2.2.2.1⟩
theorem ky_M : KY 0 cn_M fd_M 54 ft_M := ⟨rfl, fi_M, fo_M, fn_M⟩
/-- 'this' behind pre, then what its constructor has made -/
abbrev th (pre : List va_E) (ci : Nat) (fs : List Value) (tl : List va_E) : List va_E := pre ++ .inr (ci, fs) :: tl
theorem th_at (pre : List va_E) (ci : Nat) (fs : List Value) (tl : List va_E) : (th pre ci fs tl)[pre.length]? = some (.inr (ci, fs)) := by simp [th]
theorem th_o (pre : List va_E) (ci : Nat) (fs fs' : List Value) (tl : List va_E) {j : Nat} (h : j ≠ pre.length) : (th pre ci fs' tl)[j]? = (th pre ci fs tl)[j]? := by
  unfold th
  by_cases h1 : j < pre.length
  · rw [List.getElem?_append_left h1, List.getElem?_append_left h1]
  · rw [List.getElem?_append_right (by omega), List.getElem?_append_right (by omega)]
    obtain ⟨k, hk⟩ : ∃ k, j - pre.length = k + 1 := ⟨j - pre.length - 1, by omega⟩
    rw [hk]
    rfl
theorem th_tl (pre : List va_E) (ci : Nat) (fs : List Value) (tl : List va_E) (r : Nat) : (th pre ci fs tl)[pre.length + 1 + r]? = tl[r]? := by
  unfold th
  rw [List.getElem?_append_right (by omega), show pre.length + 1 + r - pre.length = r + 1 by omega]
  rfl
theorem GW.put {D : va_G} {b q : Nat} {gs gs' : List va_E} {H H1 : Heap} {x : va_E} (h : GW D b gs H) (h1 : gs'[q]? = some x) (hl : gs'.length = gs.length) (ho : ∀ j, j ≠ q → gs'[j]? = gs[j]?) (hx : va_at D cls (b + q, x) H1) (e2 : H1.size = H.size) (e3 : ∀ a : Nat, a ≠ b + q → H1[a]? = H[a]?) : GW D b gs' H1 := by
  refine ⟨fun j e he => ?_, by rw [e2, h.2, hl]⟩
  by_cases hj : j = q
  · subst hj
    cases h1.symm.trans he
    exact hx
  · rw [ho j hj] at he
    exact (h.1 j e he).kept (e3 (b + j) (by show b + j ≠ b + q; omega))
theorem GW.app {D : va_G} {b : Nat} {gs : List va_E} {H H1 : Heap} {x : va_E} (h : GW D b gs H) (hx : va_at D cls (b + gs.length, x) H1) (e2 : H1.size = b + gs.length + 1) (e3 : ∀ a : Nat, a < b + gs.length → H1[a]? = H[a]?) : GW D b (gs ++ [x]) H1 := by
  refine ⟨fun j e he => ?_, by rw [e2, List.length_append]; show b + gs.length + 1 = b + (gs.length + 1); omega⟩
  by_cases hj : j < gs.length
  · rw [List.getElem?_append_left hj] at he
    exact (h.1 j e he).kept (e3 (b + j) (by omega))
  · rw [List.getElem?_append_right (by omega)] at he
    have hz : j - gs.length < 1 := (List.getElem?_eq_some_iff.mp he).1
    have hj2 : j = gs.length := by omega
    subst hj2
    rw [Nat.sub_self] at he
    cases he
    exact hx
section GWR
variable {p : Program} {l : Launch} {e : Env} {R : Room} {s : State} {m : MethodId} {args : Array Value} {below : List Frame} {meth : Method} {c : Code} {H : Heap} {locs : List Loc} {cells slots : Nat} {Q : State → Prop}
variable {cc : ByteArray} {pc nL : Nat} {ls : Array Slot} {rest st0 : List Value} {D : va_G} {tc : Nat → ClassId} {b z : Nat} {own : String}
variable {pre tl tl' : List va_E} {ci N : Nat} {fs fs' : List Value} {C : String} {T : u_T} {ty : Nat → FieldType} {ref : String} {index : Nat} {gs gs' : List va_E}
theorem gm_put (K : KY ci C T N ty) (S : GC p m c cc nL s args own meth D tc b z) (hW : GWS D b s (th pre ci fs tl) H locs) (k : Nat) (hk : k < N) (hlink : Cond.fieldLink own index ref (T k).2.1 (T k).2.2.1 ∈ lw_tbl) (hT : (T k).1 = ref) {v : Value} (hn : narrow (ty k) v = v) (hfit : fits (ty k) v = true) (hl : k < fs.length) (hfin : (T k).2.2.2 = false ∨ (T k).1 = own) (hf : fs.set k v = fs') (hdg : decode cc pc = .ok (.putfield index, 3))
    (kk : ∀ (H1 : Heap) (locs1 : List Loc), GWS D b s (th pre ci fs' tl) H1 locs1 → W p l e R s m args below meth c H1 locs1 cells slots Q (F0 m (pc + 3) ls rest)) : W p l e R s m args below meth c H locs cells slots Q (F0 m pc ls (v :: .ref (b + pre.length) :: rest)) := by
  obtain ⟨⟨hx, hb, -, hown, hts⟩, ⟨hK, -⟩, -, -, hinit⟩ := S
  obtain ⟨hc, hin, hty, hnm⟩ := K
  have hap := va_apart (own := own) (ci := ci) hts hin ty hty hnm hK hc
  obtain ⟨r, h1, cell, q1, q2, q3, q4⟩ := hW.1.1 _ _ (th_at pre ci fs tl)
  have hr : r = (C, T, N) := Option.some.inj (h1.symm.trans hc)
  subst hr
  obtain ⟨hS, hfc, kC, hkC, hkind⟩ := hK.1 ci _ hc
  obtain ⟨cf, kf, fi, f, hi, hsl⟩ := hS k hk
  have hlay := hts _ (hin _ (u_in_lay hk))
  have hst := (u_facts hfc hkC (u_lays hts hin hk) hi).1
  have hd := hty k hk
  have goal : ∀ H' : Heap, H'[b + pre.length]? = some (cell.setSlot f.slot v) → H'.size = H.size → (∀ q : Nat, q ≠ b + pre.length → H'[q]? = H[q]?) → W p l e R s m args below meth c H' (locs ++ [⟨b + pre.length, f.slot⟩]) cells slots Q (F0 m (pc + 3) ls rest) := by
    intro H' e1 e2 e3
    rw [hsl] at e1 ⊢
    subst hf
    refine kk H' _ ⟨hW.1.put (th_at pre ci _ tl) (by simp [th]) (fun j hj => th_o pre ci fs _ tl hj) ⟨_, hc, t_OB.to (V := updV (vp_V fs) k v) ⟨_, e1, q2, q3, t_set q4 hap hk v⟩ (fun j _ => vp_updV_set hl v j)⟩ e2 e3, hW.2.put e2 e3 (by show b ≤ b + pre.length; omega)⟩
  unfold u_lay at hlay
  cases hfb : (T k).2.2.2 with
  | false =>
    rw [if_neg (by rw [hfb]; decide)] at hlay
    have h6 := u_store hfc hkC hkind hlay hi hd hn hfit
    exact W.putK hx hb (f := f) ⟨hown, hts _ (gi hlink rfl), ⟨_, _, _, by rw [← hT]; exact hi⟩, hst⟩ (by rw [q2]; exact h6) q1 q3 (by rw [hsl]; exact k2_hasslot (q4 k hk)) rfl rfl hdg goal
  | true =>
    rw [if_pos hfb] at hlay
    have hdecl : (T k).1 = own := by
      rcases hfin with h | h
      · rw [hfb] at h; cases h
      · exact h
    have hcf : m.cls = cf := by
      obtain ⟨_, _, c', _, _, _, -, -, hf', -, -, -, hown2, -⟩ := Cond.laysFinal_spec hlay
      have e1 : c' = cf := by have := hi.symm.trans hf'; simp at this; exact this.1.symm
      rw [hdecl] at hown2
      rw [← e1]; exact Option.some.inj (hown.symm.trans hown2)
    have h6 := u_fits hfc hkC hkind (Or.inr hlay) hi hd hn hfit
    exact W.putFinK hx hb hown (hts _ (gi hlink rfl)) (by rw [← hT]; exact hi) hst hcf hinit (by rw [q2]; exact h6) q1 q3 (by rw [hsl]; exact k2_hasslot (q4 k hk)) rfl rfl hdg goal
theorem gm_get (K : KY ci C T N ty) (S : GC p m c cc nL s args own meth D tc b z) (hW : GWS D b s (th pre ci fs tl) H locs) (k : Nat) (hk : k < N) (hlink : Cond.fieldLink own index ref (T k).2.1 (T k).2.2.1 ∈ lw_tbl) (hT : (T k).1 = ref) {v : Value} (hv : fs[k]? = some v) (hdg : decode cc pc = .ok (.getfield index, 3))
    (kk : W p l e R s m args below meth c H locs cells slots Q (F0 m (pc + 3) ls (v :: rest))) : W p l e R s m args below meth c H locs cells slots Q (F0 m pc ls (.ref (b + pre.length) :: rest)) :=
  va_get (D := D) (cl := cls) (ci := ci) (C := C) (T := T) (N := N) (ws := [(b + pre.length, .inr (ci, fs))]) (ref := ref) S.1.1 S.1.2.1 S.1.2.2.2.2 K.2.1 S.1.2.2.2.1 S.2.1.1 (rm_one (hW.1.1 _ _ (th_at pre ci fs tl))) 0 rfl K.1 k hk (S.1.2.2.2.2 _ (gi hlink rfl)) (fun x h => by rw [← hT]; exact h) hv hdg kk
theorem gm_new (K : KY ci C T N ty) (hc0 : CallFix p m c cc nL s args gt own) (hk0 : va_K D cls (tys tc) s) (hW : GWS D b s gs H locs) (hcl : Cond.classLink own index C ∈ lw_tbl) (hinst : Cond.instantiable C N ∈ lw_tbl) (hini : Cond.initialized C ∈ lw_tbl) (hfs : ∀ j, j < N → defaultValue (ty j) = vp_V fs j) (hcells : cells + 1 ≤ R.cells) (hslots : slots + N ≤ R.slots) (hdg : decode cc pc = .ok (.new index, 3))
    (kk : ∀ H1 : Heap, GWS D b s (gs ++ [.inr (ci, fs)]) H1 locs → W p l e R s m args below meth c H1 locs (cells + 1) (slots + N) Q (F0 m (pc + 3) ls (.ref (b + gs.length) :: rest))) : W p l e R s m args below meth c H locs cells slots Q (F0 m pc ls rest) := by
  obtain ⟨hx, hb, -, hown, hts⟩ := hc0
  have hKn := hk0.1 ci _ K.1
  refine W.newcK hx hb hown (hts _ (gi hcl rfl)) (hts _ (gi hinst rfl)) (hts _ (gi hini rfl)) rfl hdg hcells hslots hKn.2.1 hW.1.2 fun H1 kC hkC e1 z1 o1 => ?_
  refine kk H1 ⟨hW.1.app ⟨_, K.1, (u_born ty hts K.2.1 hKn hkC e1 K.2.2.1).to hfs⟩ z1 o1, ?_, fun x h1 h2 => ?_, hW.2.2.2⟩
  · rw [z1, ← hW.1.2]; exact Nat.le_trans hW.2.1 (Nat.le_succ _)
  · exact (o1 x (by rw [← hW.1.2]; exact Nat.lt_of_lt_of_le h1 hW.2.1)).trans (hW.2.2.1 x h1 h2)
theorem gm_newa (hc0 : CallFix p m c cc nL s args gt own) (hk0 : va_K D cls (tys tc) s) (hW : GWS D b s gs H locs) {atype : ArrayType} {t : Nat} {ety : FieldType} (hty : newarray.typeOf atype = ety) (ht : (tys tc)[t]? = some (tc t, ety)) (hnm : ∀ U : State, va_RA U (tc t) ety → U.vm.findClass ("[" ++ ety.toString) = some (tc t)) (hw : Cond.arrayClass ety ∈ lw_tbl) {n : Int32} {N' : Nat} {a0 : vp_A} (ha : vp_cell (tc t) a0 = arrV (tc t) N' (fun _ => defaultValue ety)) (hn : ¬ n < 0) (hN : n.toNatClampNeg = N') (hbytes : N' * componentBytes ety ≤ 536870912) (hcells : cells + 1 ≤ R.cells) (hslots : slots + N' ≤ R.slots) (hdg : decode cc pc = .ok (.newarray atype, 2))
    (kk : ∀ H1 : Heap, GWS D b s (gs ++ [.inl (tc t, a0)]) H1 locs → W p l e R s m args below meth c H1 locs (cells + 1) (slots + N') Q (F0 m (pc + 2) ls (.ref (b + gs.length) :: rest))) : W p l e R s m args below meth c H locs cells slots Q (F0 m pc ls (.int n :: rest)) := by
  obtain ⟨hx, hb, -, hown, hts⟩ := hc0
  subst hty
  refine va_newaK hx hb (hts _ (gi hw rfl)) rfl hdg rfl hn hN hbytes hcells hslots hW.1.2 fun H1 cA e1 z1 o1 hAr hNm => ?_
  have hA : cA = tc t := Option.some.inj (hNm.symm.trans (hnm s (hk0.2 t _ ht).2))
  subst hA
  refine kk H1 ⟨hW.1.app (by show H1[b + gs.length]? = some (vp_cell _ _); rw [ha]; exact e1) z1 o1, ?_, fun x h1 h2 => ?_, hW.2.2.2⟩
  · rw [z1, ← hW.1.2]; exact Nat.le_trans hW.2.1 (Nat.le_succ _)
  · exact (o1 x (by rw [← hW.1.2]; exact Nat.lt_of_lt_of_le h1 hW.2.1)).trans (hW.2.2.1 x h1 h2)
theorem GP.blind {As : List Value} : FrameBlind (va_Pc As (GP D tc b z gs)) := fun a U g mk q => by
  obtain ⟨q0, q1, q2⟩ := q
  exact ⟨q0, q1, GK.moved (u := U) (U := U.calling g mk a) (State.WarmedH.refl U) (fun _ _ => rfl) (Nat.le_refl _) q2⟩
theorem GP.of {U : State} (hk : GK D tc b z s) (hW : GWS D b s gs H locs) (hU : U.heap = H) (hw : s.WarmedH U.vm) : GP D tc b z gs U := ⟨by rw [hU]; exact hW.1, GK.moved hw (fun q h1 => by rw [hU]; exact hW.2.2.1 q (Nat.lt_of_lt_of_le h1 hk.2.2.2) (Nat.not_le.mpr h1)) (by rw [hU]; exact hW.2.1) hk⟩
variable {y : MethodName} {bytes : ByteArray} {maxL n fr lo fr0 lo0 idx mc ms C0 S0 : Nat} {As : List Value} {a : Nat}
theorem gm_goon {av : Array Value} (hr : va_Run p l e R s m args below meth c H locs cells slots mc ms (F0 m pc ls st0) rest (GQ D b gs' av) (lreg b)) (hW : GWS D b s gs H locs)
    (kk : ∀ (H1 : Heap) (locs1 : List Loc), GWS D b s gs' H1 locs1 → W p l e R s m args below meth c H1 locs1 (cells + mc) (slots + ms) Q (F0 m (pc + 3) ls rest)) : W p l e R s m args below meth c H locs cells slots Q (F0 m pc ls st0) := by
  intro T hT X
  obtain ⟨v', st₀, t, T', L, h0, X', hL, e1, e2, ⟨hv, hGW, hz, hk⟩, st⟩ := hr T hT X
  cases hv
  rw [h0] at hz hk
  obtain ⟨hS1, hS2, hS3⟩ := hW.2
  obtain ⟨t2, a1, b1⟩ := kk T'.heap (locs ++ L) ⟨by rw [e1]; exact hGW, by rw [e1]; exact Nat.le_trans hS1 hz, fun q h1 h2 => by rw [e1, hk q (Nat.lt_of_lt_of_le h1 hS1) h2]; exact hS2 q h1 h2, fun q hq => by
      rcases List.mem_append.mp hq with h | h
      · exact hS3 q h
      · exact hL q h⟩ T' rfl X'
  exact ⟨t2, st t2 a1, b1⟩
theorem gm_callI (hc0 : CallFix p m c cc nL s args gt own) (hk0 : GK D tc b z s) (hW : GWS D b s gs H locs) (hM : GMet l D tc b z y bytes maxL fr lo mc ms (.ref a :: As) gs gs') (qc : Calee y bytes maxL none n) (hy : y.name = "<init>") (hin : Cond.instanceMethod y ∈ lw_tbl) (hlink : Cond.methodLink own idx y ∈ lw_tbl) (hR : fr + 1 ≤ R.frames ∧ 8 + (maxL + 11) + lo ≤ R.locals) (hl : ls.size = nL) (hn : As.length = n) (hst : st0 = As.reverse ++ .ref a :: rest) (hrm : (rest.map fun v => v.category).sum ≤ 8) (hf : cells + mc ≤ R.cells ∧ slots + ms ≤ R.slots) (hdg : decode cc pc = .ok (.invokespecial idx, 3))
    (kk : ∀ (H1 : Heap) (locs1 : List Loc), GWS D b s gs' H1 locs1 → W p l e R s m args below meth c H1 locs1 (cells + mc) (slots + ms) Q (F0 m (pc + 3) ls rest)) : W p l e R s m args below meth c H locs cells slots Q (F0 m pc ls st0) :=
  gm_goon (va_runI (As := As) (rest := rest) hc0 hM ⟨rm_callB hc0 qc hlink hR, hy, hc0.2.2.2.2 _ (gi hin rfl)⟩ ⟨GP.blind, fun U hU hWa => ⟨rfl, GP.of hk0 hW hU hWa⟩⟩ rfl hn hl hst (lv_room hrm) hdg hf) hW kk
theorem gm_callIN (hc0 : CallFix p m c cc nL s args gt own) (hk0 : GK D tc b z s) (hW : GWS D b s gs H locs) (hM : GMet l D tc b z y bytes maxL fr lo mc ms (.ref a :: As) gs gs') (qc : Calee y bytes maxL none n) (hy : y.name = "<init>") (hin : Cond.instanceMethod y ∈ lw_tbl) (hlink : Cond.methodLinkNest own idx y "StreamPair" ∈ nestW) (hR : fr + 1 ≤ R.frames ∧ 8 + (maxL + 11) + lo ≤ R.locals) (hl : ls.size = nL) (hn : As.length = n) (hst : st0 = As.reverse ++ .ref a :: rest) (hrm : (rest.map fun v => v.category).sum ≤ 8) (hf : cells + mc ≤ R.cells ∧ slots + ms ≤ R.slots) (hdg : decode cc pc = .ok (.invokespecial idx, 3))
    (kk : ∀ (H1 : Heap) (locs1 : List Loc), GWS D b s gs' H1 locs1 → W p l e R s m args below meth c H1 locs1 (cells + mc) (slots + ms) Q (F0 m (pc + 3) ls rest)) : W p l e R s m args below meth c H locs cells slots Q (F0 m pc ls st0) := by
  obtain ⟨hx0, hb, hml, hown, hts⟩ := hc0
  obtain ⟨q1, q2, q3, q4⟩ := qc
  have hws := pay_in hts (gt_good' q1)
  have hB : Back l R p e below s args y 3 8 (PreOf R mc ms (va_Pc (.ref a :: As) (GP D tc b z gs))) (PostOf (GQ D b gs') mc ms (lreg b)) := by
    refine Back.of_free (S := headSpec (Cond.code y bytes maxL none :: gt) (GR fr lo mc ms)) (P := va_Pc (.ref a :: As) (GP D tc b z gs)) (K := fun _ _ _ _ _ => True) (Q := fun a' st o t => GQ D b gs' a' st o t ∧ ∃ L, FrameEnd st o t L mc ms ∧ ∀ q ∈ L, lreg b q.base) (bytes := bytes) (maxL := maxL) (ret := none)
      (E := fun a' st o t L k n => k = mc ∧ n = ms ∧ ∀ q ∈ L, lreg b q.base) hM hR.1 hR.2 ?_ ?_ (fun _ _ _ _ _ _ _ _ _ => trivial) ?_ ?_
    · intro m' meth' c' A a' X hp
      exact ⟨atoms_intro fun w hw => hws w hw _ _ X.warmed, hws _ List.mem_cons_self _ _ X.warmed, word_at X.warmed (Or.inl rfl) (hts _ (gi q2 rfl)), hp.1, hp.2.1⟩
    · intro m' meth' c' A a' g mk X hp
      exact GP.blind _ _ _ _ hp.2.2
    · intro a' st o t ⟨hq, L, hF, hL⟩
      exact ⟨L, _, _, hF, rfl, rfl, hL⟩
    · intro m' meth' c' A a' g mk v t L k n X hp hq hF ⟨e1, e2, hL⟩
      subst e1; subst e2
      exact ⟨g, mk, t, L, rfl, rfl, hq.1, rfl, hL, rfl, rfl⟩
  have hr : va_Run p l e R s m args below meth c H locs cells slots mc ms (F0 m pc ls st0) rest (GQ D b gs' (Value.ref a :: As).toArray) (lreg b) := by
    intro T hT X
    obtain ⟨v, vm₁, ⟨U', l2, c2, s2⟩, hW₁, X', ⟨g', mk, t, L, e1, e2, hq, g1, hL, g2, g3⟩, st⟩ := va_callIN X hx0 (bytes := bytes) (maxL := maxL) (host := "StreamPair") (index := idx) (y := y) hown hy (va_Nw.use rfl (hk0.2.2.1 _ _ _ _ hlink)) (hts _ (gi hin rfl)) (hts _ (gi q1 rfl)) q3 hB (g := F0 m pc ls st0) rfl (hl.trans hml.symm) (a := a) (argsL := As) (rest := rest) (fun sig h => by rw [h] at q4; rw [hn]; exact (Option.some.inj q4).symm) hst (lv_room hrm) (by rw [hb]; exact hdg)
      (fun vm₁ hW₁ => ⟨hf.1, hf.2, rfl, GP.of hk0 hW hT hW₁⟩)
    dsimp only [Pt.U, Pt.locs, Pt.cells, Pt.slots] at X' e1 e2 g1 g2 g3 st
    subst g1; subst g2; subst g3
    exact ⟨v, (T.setVm vm₁).calling g' mk (Value.ref a :: As).toArray, t, U', L, hT, X', hL, e1, e2, hq, st⟩
  exact gm_goon hr hW kk
theorem gm_objI (S : CallFix p m c cc nL s args gt own) (hlink : Cond.methodLink own idx objectInit ∈ lw_tbl) (hin : Cond.instanceMethod objectInit ∈ lw_tbl) (hcode : Cond.code objectInit ⟨#[0xb1]⟩ 1 none ∈ lw_tbl) (hl : ls.size = nL) (hfr : 1 ≤ R.frames) (hlo : (rest.map fun v => v.category).sum + 12 ≤ R.locals) (hdg : decode cc pc = .ok (.invokespecial idx, 3))
    (kk : W p l e R s m args below meth c H locs cells slots Q (F0 m (pc + 3) ls rest)) : W p l e R s m args below meth c H locs cells slots Q (F0 m pc ls (.ref a :: rest)) :=
  W.objInit S.1 S.2.1 S.2.2.2.1 (S.2.2.2.2 _ (gi hlink rfl)) (S.2.2.2.2 _ (gi hin rfl)) (S.2.2.2.2 _ (gi hcode rfl)) rfl (hl.trans S.2.2.1.symm) rfl hdg hfr (by show 2 * 0 + _ + 12 ≤ R.locals; omega) kk
theorem gm_ret (S : GC p m c cc nL s args own meth D tc b z) (hW : GWS D b s gs H locs) (hdg : decode cc pc = .ok (.return_, 1)) :
    W p l e R s m args below meth c H locs mc ms (MQ below (GQ D b gs) args s mc ms (lreg b)) (F0 m pc ls []) :=
  W.vret S.1.1 S.1.2.1 S.2.2.1 (fun t ht _ => ⟨rfl, by rw [ht]; exact hW.1, hW.2.F ht⟩) hW.2.2.2 hdg S.2.2.2.1
theorem gm_met (hy : plainName y.cls = true) (hyn : y.name = "<init>") (hn : (lg_sl As).length ≤ maxL)
    (body : ∀ (p : Program) (e : Env) (s : State) (m : MethodId) (args : Array Value) (below : List Frame) (meth : Method) (c : Code), GC p m c bytes maxL s args y.cls meth D tc b z → GWS D b s gs s.heap [] → ∀ ls : Array Slot, lv_has ls maxL (lv_args 0 As) →
      W p l e (GR fr lo mc ms) s m args below meth c s.heap [] 0 0 (MQ below (GQ D b gs') args s mc ms (lreg b)) (F0 m 0 ls [])) : GMet l D tc b z y bytes maxL fr lo mc ms As gs gs' := by
  refine Met.ofW (cc := bytes) (maxL := maxL) (ret := none) hy rfl ?_
  intro p e s m args below meth c s₁ Bd hml hv
  obtain ⟨rfl, hW0, hK⟩ := hv
  have hl := lv_entry As hn
  rw [lg_entry_eq]
  exact body p e s m As.toArray below meth c ⟨⟨Bd.exec, Bd.bytes, hml, findClass_of_methodNamed Bd.named, fun w hw => atoms_spec (ws := Cond.code y bytes maxL none :: gt) Bd.pre w (List.mem_cons_of_mem _ hw)⟩, hK, Bd.returns, Bd.notSynchronized, by rw [← hyn]; exact (name_of_methodNamed Bd.named Bd.method).1⟩ ⟨hW0, va_S.rf⟩ _ hl
end GWR
