/-! throwing methods: contracts, the throw itself, calls whose callee throws -/
def XO (st : State) (k : Nat) (x : Addr) (t : State) : Prop := st.WarmedH t.vm ∧ st.sameButNew ({ t with vm := st.vm } : State) [] 1 6 ∧ st.heap.size ≤ x ∧ ∃ ce, t.heap[x]? = some ce ∧ st.vm.findClass (xcl k) = some ce.cls ∧ ce.vm = .none
def XE (below : List Frame) (s : State) (k : Nat) : State → Prop := fun t => t.status = .running ∧ ∃ x, Ended t below (.threw x) ∧ XO s k x t
def CPX (D : va_G) (tc : Nat → ClassId) (b z : Nat) (σ : CS) : State → Prop := fun U => CP D tc b z σ U ∧ TK b U
def XMet (l : Launch) (D : va_G) (tc : Nat → ClassId) (b z : Nat) (y : MethodName) (bytes : ByteArray) (maxL : Nat) (ret : Option FieldType) (fr lo : Nat) (As : List Value) (σ : CS) (k : Nat) : Prop :=
  MetFree l y (headSpec (Cond.code y bytes maxL ret :: gt) (CR fr lo σ)) (va_Pc As (CPX D tc b z σ)) (fun _ _ _ _ _ => True) (fun _ st o t => ∃ x, o = .threw x ∧ XO st k x t)
/-- a method that writes nothing -/
def YQ (res : Option Value) : Array Value → State → Outcome → State → Prop := fun _ st oc t => oc = .returned res ∧ t.heap = st.heap
def YMet (l : Launch) (y : MethodName) (bytes : ByteArray) (maxL : Nat) (ret : Option FieldType) (fr lo : Nat) (As : List Value) (σ : CS) (P : State → Prop) (res : Option Value) : Prop :=
  Met l y (Cond.code y bytes maxL ret :: gt) (CR fr lo σ) (va_Pc As P) (YQ res) 0 0 (fun _ => False)
abbrev YE (below : List Frame) (args : Array Value) (s : State) (res : Option Value) : State → Prop := MQ below (YQ res) args s 0 0 (fun _ => False)
def PMet (l : Launch) (D : va_G) (tc : Nat → ClassId) (b z : Nat) (y : MethodName) (bytes : ByteArray) (maxL : Nat) (ret : Option FieldType) (fr lo : Nat) (As : List Value) (σ : CS) (res : Option Value) (σ' : CS) : Prop :=
  Met l y (Cond.code y bytes maxL ret :: gt) (CR fr lo σ) (va_Pc As (CPX D tc b z σ)) (CQ D tc b z σ res σ') (cX σ' - cX σ) (cU σ' - cU σ) (creg b)
theorem XO.kept {st t : State} {k : Nat} {x : Addr} (h : XO st k x t) : (∀ q : Nat, q < st.heap.size → t.heap[q]? = st.heap[q]?) ∧ t.heap.size = st.heap.size + 1 ∧ x = st.heap.size := by
  obtain ⟨-, ⟨-, -, h3, -, -, h6⟩, h7, ce, hce, -⟩ := h
  have hx : x < t.heap.size := (Array.getElem?_eq_some_iff.mp hce).1
  have h3' : t.heap.size ≤ st.heap.size + 1 := h3
  have h7' : st.heap.size ≤ x := h7
  refine ⟨fun q hq => ?_, Nat.le_antisymm h3' (Nat.lt_of_le_of_lt h7' hx), Nat.le_antisymm (Nat.le_of_lt_succ (Nat.lt_of_lt_of_le hx h3')) h7'⟩
  obtain ⟨c', hc', he, hsz, hk⟩ := h6 q st.heap[q] (Array.getElem?_eq_getElem hq)
  have hs : c'.slots = st.heap[q].slots := Array.ext_getElem? (fun i => hk i (by simp))
  have hcc : c' = st.heap[q] := by rw [he, hs]
  have hc2 : t.heap[q]? = some c' := hc'
  rw [hc2, hcc]
  exact (Array.getElem?_eq_getElem hq).symm
theorem XO.cw {D : va_G} {tc : Nat → ClassId} {b z : Nat} {σ : CS} {st t : State} {k : Nat} {x : Addr} (h : XO st k x t) (hW : CW D tc b z σ st.heap) (h1 : cX σ + 1 ≤ 601024) (h2 : cU σ + 6 ≤ 7293034) : CW D tc b z (wa σ 0 0 6) t.heap := by
  obtain ⟨k1, k2, -⟩ := h.kept
  have hlt : ∀ a, kd σ a ≠ 0 → a < cX σ := fun a ha => hW.lt ha
  obtain ⟨g1, g2, g3, g4, g5, g6, g7, g8⟩ := hW
  have hkd : ∀ a, a ≠ cX σ → kd (wa σ 0 0 6) a = kd σ a := fun a ha => by
    unfold kd
    rw [show cT (wa σ 0 0 6) a = cT σ a from if_neg ha]
  have hkx : kd (wa σ 0 0 6) (cX σ) = 0 := by
    unfold kd
    rw [fxk_hi (by omega), if_pos rfl]
    exact if_pos rfl
  have hX : cX (wa σ 0 0 6) = cX σ + 1 := rfl
  have hU : cU (wa σ 0 0 6) = cU σ + 6 := rfl
  refine ⟨fun a ha => ?_, fun a e1 e2 => ?_, by rw [hX]; omega, by rw [k2, g4, hX]; omega, by rw [hX]; exact h1, by rw [hU]; exact h2, fun a i ha => ?_, fun a i v ha hv => ?_⟩
  · have hne : a ≠ cX σ := fun e => ha (by rw [e]; exact hkx)
    rw [hkd a hne] at ha ⊢
    rw [ent_congr (σ' := wa σ 0 0 6) (σ := σ) (by funext i; exact if_neg hne) (by funext i; exact if_neg hne) (by funext i; exact if_neg hne) (if_neg hne)]
    exact (g1 a ha).kept (k1 _ (g1 a ha).lt)
  · show (if a = cX σ then 0 else cT σ a) = 0
    split
    · rfl
    · exact g2 a e1 e2
  · have hne : a ≠ cX σ := fun e => by rw [e, hkx] at ha; cases ha
    rw [hkd a hne] at ha
    rw [show cI (wa σ 0 0 6) a i = cI σ a i from if_neg hne]
    exact g7 a i ha
  · have hne : a ≠ cX σ := fun e => by rw [e, hkx] at ha; cases ha
    rw [hkd a hne] at ha
    rw [show cR (wa σ 0 0 6) a i = cR σ a i from if_neg hne] at hv
    have h11 := g8 a i v ha hv
    rw [hkd v (Nat.ne_of_lt (hlt v (by rw [h11]; decide)))]
    exact h11
section XT
variable {p : Program} {l : Launch} {e : Env} {R : Room} {s : State} {m : MethodId} {args : Array Value} {below : List Frame} {meth : Method} {c : Code} {H : Heap} {locs : List Loc} {cells slots : Nat} {Q : State → Prop}
variable {cc : ByteArray} {pc nL : Nat} {ls : Array Slot} {rest st0 : List Value} {D : va_G} {tc : Nat → ClassId} {b z : Nat} {σ0 σ : CS} {own : String} {β : Type} {B : β} {ret : Option FieldType}
theorem no_trace (hfl : l.flags = flags0) (ha : l.admits e) : e.platform.stackTraces = false := by
  rw [ha.platform]
  show l.stackTraces = false
  unfold Launch.stackTraces
  rw [hfl]
  decide +kernel
def xci : Nat → Nat := fun k => match k with
  | 1 => 47 | 2 => 58 | 3 => 259 | 4 => 117 | _ => 232
/-- the fifth class's words, one kind after another -/
theorem x_words (k : Nat) (h1 : 1 ≤ k) (h5 : k ≤ 5) : Cond.classLink "StreamPair" (xci k) (xcl k) ∈ lw_tbl ∧ Cond.instantiable (xcl k) 6 ∈ lw_tbl ∧ Cond.initialized (xcl k) ∈ lw_tbl := by
  match k, h1, h5 with
  | 1, _, _ => exact ⟨wd_659, wd_660, wd_94⟩
  | 2, _, _ => exact ⟨wd_750, wd_751, wd_98⟩
  | 3, _, _ => exact ⟨wd_778, wd_779, wd_103⟩
  | 4, _, _ => exact ⟨wd_806, wd_807, wd_104⟩
  | 5, _, _ => exact ⟨wd_1195, wd_1196, wd_105⟩
theorem x_dec (k : Nat) (h1 : 1 ≤ k) (h5 : k ≤ 5) : decode (xbx k) 0 = .ok (.aload_n 0, 1) ∧ decode (xbx k) 1 = .ok (.aload_n 1, 1) ∧ decode (xbx k) 2 = .ok (.invokespecial (xix k), 3) ∧ decode (xbx k) 5 = .ok (.return_, 1) ∧ Bundle.fit (xcl k) = true := by
  match k, h1, h5 with
  | 1, _, _ => decide +kernel
  | 2, _, _ => decide +kernel
  | 3, _, _ => decide +kernel
  | 4, _, _ => decide +kernel
  | 5, _, _ => decide +kernel
/-- 'new X' in a method that has written nothing yet -/
theorem xm_new {fr lo k : Nat} (hk : 1 ≤ k ∧ k ≤ 5) (S : CC p m c cc nL s args "StreamPair" meth ret D tc b z) (hW : CWS D tc b z s σ σ s.heap [] 0 0) (hdg : decode cc pc = .ok (.new (xci k), 3)) {A : Option β} (h : gd (cX σ + 1 ≤ 601024 ∧ cU σ + 6 ≤ 7293034) A = some B)
    (kk : ∀ (H1 : Heap) (cC : ClassId) (kC : Class), A = some B → s.vm.findClass (xcl k) = some cC → s.vm.classes[cC]? = some kC → H1[s.heap.size]? = some (freshCell cC kC) → W p l e (CR fr lo σ) s m args below meth c H1 [] 1 6 Q (F0 m (pc + 3) ls (.ref s.heap.size :: rest))) : W p l e (CR fr lo σ) s m args below meth c s.heap [] 0 0 Q (F0 m pc ls rest) := by
  obtain ⟨⟨g1, g2⟩, g3⟩ := gd_s h
  have hts := S.1.2.2.2.2
  obtain ⟨w1, w2, w3⟩ := x_words k hk.1 hk.2
  obtain ⟨cC, kC, hfc, hkC0, -⟩ := Cond.instantiable_spec (hts _ (gi w2 rfl))
  exact W.newcK (n := 6) S.1.1 S.1.2.1 S.1.2.2.2.1 (hts _ (gi w1 rfl)) (hts _ (gi w2 rfl)) (hts _ (gi w3 rfl)) rfl hdg (by show 0 + 1 ≤ 601024 - cX σ; omega) (by show 0 + 6 ≤ 7293034 - cU σ; omega) hfc rfl fun H1 kC' hkC e1 z1 o1 => kk H1 cC kC' g3 hfc hkC e1
theorem xm_end {fr lo k : Nat} (hk : 1 ≤ k ∧ k ≤ 5) (S : CC p m c cc nL s args "StreamPair" meth ret D tc b z) (hT : TK b s) (hfl : l.flags = flags0) (hex : c.exceptionTable.toList = []) {cC : ClassId} {kC : Class} (hfc : s.vm.findClass (xcl k) = some cC) (hkC : s.vm.classes[cC]? = some kC) (hcell : H[s.heap.size]? = some (freshCell cC kC)) {q : Nat}
    (hl : ls.size = nL) (hfr : 5 < fr) (hlo : 83 ≤ lo) (hd6 : decode cc pc = .ok (.invokespecial (xic k), 3)) (hd9 : decode cc (pc + 3) = .ok (.athrow, 1)) : W p l e (CR fr lo σ) s m args below meth c H [] 1 6 (XE below s k) (F0 m pc ls [.ref q, .ref s.heap.size, .ref s.heap.size]) := by
  intro T hT' X
  obtain ⟨b0, b1, b2, b5, bf⟩ := x_dec k hk.1 hk.2
  obtain ⟨U, hst, hrun, hend, hwarm, hsame, ce, hce, hcl, hvm⟩ := xm_ctor X S.1.1 (no_trace hfl X.admits) S.1.2.2.2.1 bf b0 b1 b2 b5 (hT.atoms S.1.2.2.2.2 hk.1 hk.2) (fun x hx => by cases hx) hfc hkC (by rw [hT']; exact hcell) (Nat.le_refl _) (msg := .ref q) rfl (g := F0 m pc ls [.ref q, .ref s.heap.size, .ref s.heap.size]) rfl (hl.trans S.1.2.2.1.symm) rfl rfl (rest := []) rfl (by rw [S.1.2.1]; exact hd6) (by rw [S.1.2.1]; exact hd9) (by rw [hex]; intro x hx; cases hx) (by show 5 < fr; exact hfr) (by show 2 * 0 + (1 + 0) + _ ≤ lo; omega) S.2.2.2
  exact ⟨U, hst, hrun, _, hend, hwarm, hsame, Nat.le_refl _, ce, hce, hcl, hvm⟩
theorem xm_ldcw (hexec : p.tables.exec = Jvm.exec) (hb : c.code = cc) {own tx : String} {index q : Nat} (hown : s.vm.findClass own = some m.cls) (hZ : vk_R own index tx q s) (hdg : decode cc pc = .ok (.ldc_w index, 3))
    (k : W p l e R s m args below meth c H locs cells slots Q (F0 m (pc + 3) ls (.ref q :: rest))) : W p l e R s m args below meth c H locs cells slots Q (F0 m pc ls rest) := by
  intro T hT X
  obtain ⟨t, a1, b1⟩ := k T hT X
  exact ⟨t, Stand.ldcStringW X hexec hown (text := tx) (a := q) hZ.1 hZ.2 (g := F0 m pc ls rest) rfl (by rw [hb]; exact hdg) t a1, b1⟩
end XT
