/-! the constructors' rows over 'this' -/
section GTR
variable {p : Program} {l : Launch} {e : Env} {R : Room} {s : State} {m : MethodId} {args : Array Value} {below : List Frame} {meth : Method} {c : Code} {H : Heap} {locs : List Loc} {cells slots : Nat} {Q : State → Prop}
variable {cc : ByteArray} {pc nL : Nat} {ls : Array Slot} {rest st0 : List Value} {D : va_G} {tc : Nat → ClassId} {b z : Nat} {own : String}
variable {pre tl tl' : List va_E} {ci ci' N : Nat} {fs fs' : List Value} {C : String} {T : u_T} {ty : Nat → FieldType} {ref : String} {index k : Nat} {gs gs' : List va_E}
theorem th_app (pre : List va_E) (ci : Nat) (fs : List Value) (tl : List va_E) (x : va_E) : th pre ci fs tl ++ [x] = th pre ci fs (tl ++ [x]) := by simp [th]
theorem th_len (pre : List va_E) (ci : Nat) (fs : List Value) (tl : List va_E) : (th pre ci fs tl).length = pre.length + (tl.length + 1) := by simp [th]
theorem gm_newT (K : KY ci' C T N ty) (S : GC p m c cc nL s args own meth D tc b z) (hW : GWS D b s (th pre ci fs tl) H locs) (hcl : Cond.classLink own index C ∈ lw_tbl) (hinst : Cond.instantiable C N ∈ lw_tbl) (hini : Cond.initialized C ∈ lw_tbl) (hfs : ∀ j, j < N → defaultValue (ty j) = vp_V fs' j) (hcells : cells + 1 ≤ R.cells) (hslots : slots + N ≤ R.slots) (hk : tl.length + 1 = k) (htl : tl ++ [.inr (ci', fs')] = tl') (hdg : decode cc pc = .ok (.new index, 3))
    (kk : ∀ H1 : Heap, GWS D b s (th pre ci fs tl') H1 locs → W p l e R s m args below meth c H1 locs (cells + 1) (slots + N) Q (F0 m (pc + 3) ls (.ref (b + (pre.length + k)) :: rest))) : W p l e R s m args below meth c H locs cells slots Q (F0 m pc ls rest) := by
  refine gm_new K S.1 S.2.1.1 hW hcl hinst hini hfs hcells hslots hdg fun H1 hW1 => ?_
  rw [th_app, htl] at hW1
  rw [th_len, hk]
  exact kk H1 hW1
theorem gm_newaT (S : GC p m c cc nL s args own meth D tc b z) (hW : GWS D b s (th pre ci fs tl) H locs) {atype : ArrayType} {t : Nat} {ety : FieldType} (hty : newarray.typeOf atype = ety) (ht : (tys tc)[t]? = some (tc t, ety)) (hnm : ∀ U : State, va_RA U (tc t) ety → U.vm.findClass ("[" ++ ety.toString) = some (tc t)) (hw : Cond.arrayClass ety ∈ lw_tbl) {n : Int32} {N' : Nat} {a0 : vp_A} (ha : vp_cell (tc t) a0 = arrV (tc t) N' (fun _ => defaultValue ety)) (hn : ¬ n < 0) (hN : n.toNatClampNeg = N') (hbytes : N' * componentBytes ety ≤ 536870912) (hcells : cells + 1 ≤ R.cells) (hslots : slots + N' ≤ R.slots) (hk : tl.length + 1 = k) (htl : tl ++ [.inl (tc t, a0)] = tl') (hdg : decode cc pc = .ok (.newarray atype, 2))
    (kk : ∀ H1 : Heap, GWS D b s (th pre ci fs tl') H1 locs → W p l e R s m args below meth c H1 locs (cells + 1) (slots + N') Q (F0 m (pc + 2) ls (.ref (b + (pre.length + k)) :: rest))) : W p l e R s m args below meth c H locs cells slots Q (F0 m pc ls (.int n :: rest)) := by
  refine gm_newa S.1 S.2.1.1 hW hty ht hnm hw ha hn hN hbytes hcells hslots hdg fun H1 hW1 => ?_
  rw [th_app, htl] at hW1
  rw [th_len, hk]
  exact kk H1 hW1
theorem gm_iast (S : GC p m c cc nL s args own meth D tc b z) (hW : GWS D b s (th pre ci fs tl) H locs) (r : Nat) (hk : r + 1 = k) {n : Nat} {f : Nat → Int32} (he : tl[r]? = some (.inl (tc 0, n, .inl f))) {i x : Int32} (hi : inb i n) {g : Nat → Int32} (hg : upd f i.toNatClampNeg x = g) (htl : tl.set r (.inl (tc 0, n, .inl g)) = tl') (hdg : decode cc pc = .ok (.iastore, 1))
    (kk : ∀ (H1 : Heap) (locs1 : List Loc), GWS D b s (th pre ci fs tl') H1 locs1 → W p l e R s m args below meth c H1 locs1 cells slots Q (F0 m (pc + 1) ls rest)) : W p l e R s m args below meth c H locs cells slots Q (F0 m pc ls (.int x :: .int i :: .ref (b + (pre.length + k)) :: rest)) := by
  subst hk
  have hr : r < tl.length := (List.getElem?_eq_some_iff.mp he).1
  have hc := hW.1.1 (pre.length + 1 + r) _ ((th_tl pre ci fs tl r).trans he)
  rw [show pre.length + 1 + r = pre.length + (r + 1) by omega] at hc
  refine W.iast S.1.1 S.1.2.1 hc ((S.2.1.1.2 0 _ rfl).1 n (fun j => .int (f j))) (fun q => by cases q) (by show ¬ (i < 0 ∨ (arrV _ _ _).slots.size ≤ _); rw [arrV_size]; exact hi) rfl rfl hdg fun H1 e1 z1 oq => ?_
  subst htl
  refine kk H1 _ ⟨hW.1.put (q := pre.length + (r + 1)) (x := .inl (tc 0, n, .inl g)) ?_ (by simp [th]) (fun j hj => ?_) ?_ z1 oq, hW.2.put z1 oq (by show b ≤ b + _; omega)⟩
  · rw [show pre.length + (r + 1) = pre.length + 1 + r by omega, th_tl, List.getElem?_set_self hr]
  · by_cases h1 : j < pre.length + 1
    · unfold th
      by_cases h2 : j < pre.length
      · rw [List.getElem?_append_left h2, List.getElem?_append_left h2]
      · rw [List.getElem?_append_right (by omega), List.getElem?_append_right (by omega), show j - pre.length = 0 by omega]
        rfl
    · obtain ⟨q, rfl⟩ : ∃ q, j = pre.length + 1 + q := ⟨j - (pre.length + 1), by omega⟩
      rw [th_tl, th_tl, List.getElem?_set_ne (by omega)]
  · show H1[b + (pre.length + (r + 1))]? = some (vp_cell _ _)
    rw [e1, vp_cell_i, vp_cell_i, arrV_store]
    congr 2
    subst hg
    funext q
    by_cases hq : q = i.toNatClampNeg
    · subst hq
      simp [updV, upd]
    · simp [updV, upd, hq]
theorem gm_last (S : GC p m c cc nL s args own meth D tc b z) (hW : GWS D b s (th pre ci fs tl) H locs) (r : Nat) (hk : r + 1 = k) {n : Nat} {f : Nat → Int64} (he : tl[r]? = some (.inl (tc 3, n, .inr (.inl f)))) {i : Int32} {x : Int64} (hi : inb i n) {g : Nat → Int64} (hg : vp_updL f i.toNatClampNeg x = g) (htl : tl.set r (.inl (tc 3, n, .inr (.inl g))) = tl') (hdg : decode cc pc = .ok (.lastore, 1))
    (kk : ∀ (H1 : Heap) (locs1 : List Loc), GWS D b s (th pre ci fs tl') H1 locs1 → W p l e R s m args below meth c H1 locs1 cells slots Q (F0 m (pc + 1) ls rest)) : W p l e R s m args below meth c H locs cells slots Q (F0 m pc ls (.long x :: .int i :: .ref (b + (pre.length + k)) :: rest)) := by
  subst hk
  have hr : r < tl.length := (List.getElem?_eq_some_iff.mp he).1
  have hc := hW.1.1 (pre.length + 1 + r) _ ((th_tl pre ci fs tl r).trans he)
  rw [show pre.length + 1 + r = pre.length + (r + 1) by omega] at hc
  refine W.last S.1.1 S.1.2.1 hc ((S.2.1.1.2 3 _ rfl).1 n (fun j => .long (f j))) (fun q => by cases q) (by show ¬ (i < 0 ∨ (arrV _ _ _).slots.size ≤ _); rw [arrV_size]; exact hi) rfl rfl hdg fun H1 e1 z1 oq => ?_
  subst htl
  refine kk H1 _ ⟨hW.1.put (q := pre.length + (r + 1)) (x := .inl (tc 3, n, .inr (.inl g))) ?_ (by simp [th]) (fun j hj => ?_) ?_ z1 oq, hW.2.put z1 oq (by show b ≤ b + _; omega)⟩
  · rw [show pre.length + (r + 1) = pre.length + 1 + r by omega, th_tl, List.getElem?_set_self hr]
  · by_cases h1 : j < pre.length + 1
    · unfold th
      by_cases h2 : j < pre.length
      · rw [List.getElem?_append_left h2, List.getElem?_append_left h2]
      · rw [List.getElem?_append_right (by omega), List.getElem?_append_right (by omega), show j - pre.length = 0 by omega]
        rfl
    · obtain ⟨q, rfl⟩ : ∃ q, j = pre.length + 1 + q := ⟨j - (pre.length + 1), by omega⟩
      rw [th_tl, th_tl, List.getElem?_set_ne (by omega)]
  · show H1[b + (pre.length + (r + 1))]? = some (vp_cell _ _)
    rw [e1, vp_cell_l, vp_cell_l, arrV_store]
    congr 2
    subst hg
    funext q
    by_cases hq : q = i.toNatClampNeg
    · subst hq
      simp [updV, vp_updL]
    · simp [updV, vp_updL, hq]
variable {y : MethodName} {bytes : ByteArray} {maxL n fr lo mc ms idx : Nat} {As : List Value} {fs0 fs1 : List Value} {tl1 tl2 : List va_E}
/-- a constructor of a cell just made -/
theorem gm_callT (S : GC p m c cc nL s args own meth D tc b z) (hW : GWS D b s (th pre ci fs tl') H locs) (htl : tl' = tl ++ [.inr (ci', fs0)]) (hk : tl.length + 1 = k) (hM : ∀ pre' : List va_E, pre'.length = pre.length + k → GMet l D tc b z y bytes maxL fr lo mc ms (.ref (b + (pre.length + k)) :: As) (th pre' ci' fs0 []) (th pre' ci' fs1 tl1)) (htl2 : tl ++ .inr (ci', fs1) :: tl1 = tl2) (qc : Calee y bytes maxL none n) (hy : y.name = "<init>") (hin : Cond.instanceMethod y ∈ lw_tbl) (hlink : Cond.methodLink own idx y ∈ lw_tbl ∨ Cond.methodLinkNest own idx y "StreamPair" ∈ nestW) (hR : fr + 1 ≤ R.frames ∧ 8 + (maxL + 11) + lo ≤ R.locals) (hl : ls.size = nL) (hn : As.length = n) (hst : st0 = As.reverse ++ .ref (b + (pre.length + k)) :: rest) (hrm : (rest.map fun v => v.category).sum ≤ 8) (hf : cells + mc ≤ R.cells ∧ slots + ms ≤ R.slots) (hdg : decode cc pc = .ok (.invokespecial idx, 3))
    (kk : ∀ (H1 : Heap) (locs1 : List Loc), GWS D b s (th pre ci fs tl2) H1 locs1 → W p l e R s m args below meth c H1 locs1 (cells + mc) (slots + ms) Q (F0 m (pc + 3) ls rest)) : W p l e R s m args below meth c H locs cells slots Q (F0 m pc ls st0) := by
  have hM1 := hM (th pre ci fs tl) (by rw [th_len, hk])
  have e1 : th pre ci fs tl' = th (th pre ci fs tl) ci' fs0 [] := by subst htl; simp [th]
  have e2 : th (th pre ci fs tl) ci' fs1 tl1 = th pre ci fs tl2 := by subst htl2; simp [th]
  rw [e1] at hW
  rw [e2] at hM1
  rcases hlink with hlink | hlink
  · exact gm_callI S.1 S.2.1 hW hM1 qc hy hin hlink hR hl hn hst hrm hf hdg kk
  · exact gm_callIN S.1 S.2.1 hW hM1 qc hy hin hlink hR hl hn hst hrm hf hdg kk
end GTR
