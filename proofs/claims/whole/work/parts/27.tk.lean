/-! what a throw needs to know: the words of Throwable's making, beside those of every method -/
def xnames : List String := ["java/lang/RuntimeException", "java/lang/Exception"]
/-- the words by which 'new X(text)' is made and thrown; X's own constructor has the bytes bx and calls its superclass's by entry ix -/
def xatoms (own : String) (ic : Nat) (X : String) (ix : Nat) (bx : ByteArray) : List Cond :=
  Bundle.throwableAtoms ++ Bundle.throwableSAtoms ++ Bundle.passSAtoms X "java/lang/RuntimeException" ix bx ++ Bundle.chainSAtoms "java/lang/RuntimeException" ["java/lang/Exception"] ++
  [.methodLink own ic (Bundle.initS X), .instantiable X 6, .castable X X, .selects X Bundle.tFill0 Bundle.tFill0, .selects X Bundle.tFill Bundle.tFill,
   .lays X Bundle.tN "cause" "Ljava/lang/Throwable;", .lays X Bundle.tN "stackTrace" Bundle.steD, .lays X Bundle.tN "suppressedExceptions" Bundle.listD, .lays X Bundle.tN "detailMessage" "Ljava/lang/String;",
   .isRef (.static Bundle.tN "UNASSIGNED_STACK" Bundle.steD), .isRef (.static Bundle.tN "SUPPRESSED_SENTINEL" Bundle.listD),
   .fieldLink Bundle.tN 198 Bundle.tN "backtrace" "Ljava/lang/Object;", .lays Bundle.tN Bundle.tN "backtrace" "Ljava/lang/Object;", .lays X Bundle.tN "backtrace" "Ljava/lang/Object;"]
def xix : Nat → Nat := fun k => match k with
  | 3 => 13 | _ => 7
def xbx : Nat → ByteArray := fun k => match k with
  | 3 => ⟨#[0x2a, 0x2b, 0xb7, 0x00, 0x0d, 0xb1]⟩ | _ => ⟨#[0x2a, 0x2b, 0xb7, 0x00, 0x07, 0xb1]⟩
def tkw (X : String) : List Cond := [.superclass "java/lang/Throwable" "java/lang/Object", .castable X X, .declares ⟨"java/lang/RuntimeException", "<init>", "(Ljava/lang/String;)V"⟩, .declares ⟨"java/lang/Exception", "<init>", "(Ljava/lang/String;)V"⟩, .declares ⟨"java/lang/Throwable", "<init>", "(Ljava/lang/String;)V"⟩, .laysStatic "java/lang/Throwable" "UNASSIGNED_STACK" "[Ljava/lang/StackTraceElement;", .laysStatic "java/lang/Throwable" "SUPPRESSED_SENTINEL" "Ljava/util/List;", .isRef (.static "java/lang/Throwable" "UNASSIGNED_STACK" "[Ljava/lang/StackTraceElement;"), .isRef (.static "java/lang/Throwable" "SUPPRESSED_SENTINEL" "Ljava/util/List;")]
/-- the kinds of exception: 1 IllegalState, 2 IllegalArgument, 3 NoSuchElement, 4 UnsupportedOperation, 5 IndexOutOfBounds -/
def xcl : Nat → String := fun k => match k with
  | 1 => "java/lang/IllegalStateException" | 2 => "java/lang/IllegalArgumentException" | 3 => "java/util/NoSuchElementException" | 4 => "java/lang/UnsupportedOperationException" | _ => "java/lang/IndexOutOfBoundsException"
def xic : Nat → Nat := fun k => match k with
  | 1 => 51 | 2 => 62 | 3 => 263 | 4 => 121 | _ => 236
theorem oa_1 : (xatoms "StreamPair" (xic 1) (xcl 1) (xix 1) (xbx 1)).all (fun a => (tkw (xcl 1)).contains a || (lw_tbl.contains a && goodWord a)) = true := by decide +kernel
theorem oa_2 : (xatoms "StreamPair" (xic 2) (xcl 2) (xix 2) (xbx 2)).all (fun a => (tkw (xcl 2)).contains a || (lw_tbl.contains a && goodWord a)) = true := by decide +kernel
theorem oa_3 : (xatoms "StreamPair" (xic 3) (xcl 3) (xix 3) (xbx 3)).all (fun a => (tkw (xcl 3)).contains a || (lw_tbl.contains a && goodWord a)) = true := by decide +kernel
theorem oa_4 : (xatoms "StreamPair" (xic 4) (xcl 4) (xix 4) (xbx 4)).all (fun a => (tkw (xcl 4)).contains a || (lw_tbl.contains a && goodWord a)) = true := by decide +kernel
theorem oa_5 : (xatoms "StreamPair" (xic 5) (xcl 5) (xix 5) (xbx 5)).all (fun a => (tkw (xcl 5)).contains a || (lw_tbl.contains a && goodWord a)) = true := by decide +kernel
def TKs (n d : String) (b : Nat) (U : State) : Prop := ∃ c k i f a cell v, U.vm.findClass "java/lang/Throwable" = some c ∧ U.fieldFound? "java/lang/Throwable" n d = some (c, k, i, f) ∧ f.isStatic = true ∧ k.statics = some a ∧ U.heap[a]? = some cell ∧ cell.vm.isStatics = true ∧ cell.cls = c ∧ f.slot < cell.slots.size ∧ k.staticTypes[f.slot]? = some f.type ∧ cell.slots[f.slot]? = some v ∧ (v = .null ∨ ∃ x, v = .ref x) ∧ a < b
theorem TKs.lays {n d : String} {b : Nat} {U : State} {A : Array Value} (h : TKs n d b U) : (Cond.laysStatic "java/lang/Throwable" n d).before A U = true := by
  obtain ⟨c, k, i, f, a, cell, v, h1, h2, h3, h4, h5, h6, h7, h8, h9, h10, h11, h12⟩ := h
  simp [Cond.before, Cond.holds, Cond.value, h1, h2, h3, h4, h5, h6, h7, h8, h9]
theorem TKs.isref {n d : String} {b : Nat} {U : State} {A : Array Value} (h : TKs n d b U) : (Cond.isRef (.static "java/lang/Throwable" n d)).before A U = true := by
  obtain ⟨c, k, i, f, a, cell, v, h1, h2, h3, h4, h5, h6, h7, h8, h9, h10, h11, h12⟩ := h
  have he : (Term.static "java/lang/Throwable" n d).eval A U none [] U = some v := by
    simp [Term.eval, State.fieldNamed?, h2, h3, h4, h5, h6, h10]
  simp only [Cond.before, Cond.holds, Cond.value, he]
  rcases h11 with e | ⟨x, e⟩ <;> simp [e]
theorem TKs.of {n d : String} {b : Nat} {U : State} {A : Array Value} (hl : (Cond.laysStatic "java/lang/Throwable" n d).before A U = true) (hr : (Cond.isRef (.static "java/lang/Throwable" n d)).before A U = true) (hb : U.heap.size ≤ b) : TKs n d b U := by
  obtain ⟨c, k, i, f, a, cell, h1, h2, h3, h4, h5, h6, h7, h8, h9⟩ := Cond.laysStatic_spec hl
  obtain ⟨v, hv, hv2⟩ := Cond.isRef_spec hr
  obtain ⟨-, a', cell', ha', hcell', -, hslot⟩ := Term.static_spec h2 hv
  cases h4.symm.trans ha'
  cases h5.symm.trans hcell'
  refine ⟨c, k, i, f, a, cell, v, h1, h2, h3, h4, h5, h6, h7, h8, h9, hslot, ?_, Nat.lt_of_lt_of_le (Array.getElem?_eq_some_iff.mp h5).1 hb⟩
  cases v with
  | null => exact Or.inl rfl
  | ref x => exact Or.inr ⟨x, rfl⟩
  | _ => simp [Value.isRef] at hv2
theorem TKs.moved {n d : String} {b : Nat} {u U : State} (hvm : u.vm.Alike U.vm) (hh : ∀ q, q < u.heap.size → ¬ creg b q → U.heap[q]? = u.heap[q]?) (h : TKs n d b u) : TKs n d b U := by
  obtain ⟨c, k, i, f, a, cell, v, h1, h2, h3, h4, h5, h6, h7, h8, h9, h10, h11, h12⟩ := h
  obtain ⟨k', hi', he⟩ := State.fieldFound?_setVm hvm h2
  exact ⟨c, k', i, f, a, cell, v, by rw [hvm.findClass]; exact h1, hi', h3, by rw [he]; exact h4, by rw [hh a (Array.getElem?_eq_some_iff.mp h5).1 (fun q => absurd q.1 (Nat.not_le.mpr h12))]; exact h5, h6, h7, h8, by rw [he]; exact h9, h10, h11, h12⟩
def xstr : List (Nat × String) := [(49, "no room on the tape"), (60, "not a length within the tape"), (100, "no such setting or value"), (105, "not a state to write in"), (119, "too many bytes wait"), (134, "not 1 to 7 bytes"), (143, "the stream has ended"), (148, "the stream was broken off"), (160, "not a state to close in"), (169, "not 1 to 1,000,000 milliseconds"), (234, "no such place"), (243, "too long for a segment"), (248, "no such fact"), (261, "no such end"), (264, "no such segment")]
def xY : List String := ["java/lang/RuntimeException", "java/lang/Exception", "java/lang/Throwable"]
def TK (b : Nat) (U : State) : Prop := (Cond.superclass "java/lang/Throwable" "java/lang/Object").before #[] U = true ∧ (∀ k, 1 ≤ k → k ≤ 5 → va_Nw (.castable (xcl k) (xcl k)) U) ∧ (∀ y ∈ xY, (Cond.declares ⟨y, "<init>", "(Ljava/lang/String;)V"⟩).before #[] U = true) ∧ TKs "UNASSIGNED_STACK" "[Ljava/lang/StackTraceElement;" b U ∧ TKs "SUPPRESSED_SENTINEL" "Ljava/util/List;" b U ∧ ∀ q ∈ xstr, ∃ a, vk_R "StreamPair" q.1 q.2 a U
theorem tab_moved {w : Cond} (hw : w.onTables = true) {u U : State} (h : w.before #[] (u.setVm U.vm) = true) : w.before #[] U = true := by
  have e := Cond.onTables_vm (A := #[]) (A' := #[]) (U := u) (U' := U) U.vm w hw
  have hU : U.setVm U.vm = U := rfl
  rw [hU] at e
  rw [← e]
  exact h
theorem super_moved {A B : String} {u U : State} (hvm : u.vm.Alike U.vm) (h : (Cond.superclass A B).before #[] u = true) : (Cond.superclass A B).before #[] U = true := by
  cases hc : u.vm.findClass A with
  | none => simp [Cond.before, Cond.holds, Cond.value, hc] at h
  | some c =>
    obtain ⟨p, k, kp, h1, h2, h3, h4, h5, h6, h7⟩ := Cond.superclass_spec hc h
    obtain ⟨k', hk', he⟩ := hvm.2.2 _ _ h2
    obtain ⟨kp', hkp', hep⟩ := hvm.2.2 _ _ h3
    have g1 : U.vm.findClass A = some c := by rw [hvm.findClass]; exact hc
    have g2 : U.vm.findClass B = some p := by rw [hvm.findClass]; exact h1
    have e4 : k'.super = some p := by rw [he]; exact h4
    have e5 : k'.kind = .ordinary := by rw [he]; exact h5
    have e6 : kp'.kind = .ordinary := by rw [hep]; exact h6
    have e7 : k'.isInterface = false := by rw [he]; exact h7
    simp [Cond.before, Cond.holds, Cond.value, g1, g2, hk', hkp', e4, e5, e6, e7]
theorem TK.moved {b : Nat} {u U : State} (hw : u.WarmedH U.vm) (hh : ∀ q, q < u.heap.size → ¬ creg b q → U.heap[q]? = u.heap[q]?) (h : TK b u) : TK b U := by
  obtain ⟨h1, h2, h3, h4, h5, h6⟩ := h
  have hvm := hw.alike
  refine ⟨super_moved hvm h1, fun k g1 g2 => cast_moved hvm (h2 k g1 g2), fun y hy => tab_moved rfl (by rw [Cond.declares_setVm hvm]; exact h3 y hy), h4.moved hvm hh, h5.moved hvm hh, fun q hq => ?_⟩
  obtain ⟨a, ha⟩ := h6 q hq
  exact ⟨a, ha.warm hw⟩
theorem TK.atoms {b k : Nat} {s : State} {args : Array Value} (hT : TK b s) (hts : ∀ w ∈ gt, w.before args s = true) (h1 : 1 ≤ k) (h5 : k ≤ 5) : ∀ a ∈ xatoms "StreamPair" (xic k) (xcl k) (xix k) (xbx k), a.before args s = true := by
  have hoa : (xatoms "StreamPair" (xic k) (xcl k) (xix k) (xbx k)).all (fun a => (tkw (xcl k)).contains a || (lw_tbl.contains a && goodWord a)) = true := by
    match k, h1, h5 with
    | 1, _, _ => exact oa_1
    | 2, _, _ => exact oa_2
    | 3, _, _ => exact oa_3
    | 4, _, _ => exact oa_4
    | 5, _, _ => exact oa_5
  intro a ha
  have h := List.all_eq_true.mp hoa a ha
  rcases Bool.or_eq_true_iff.mp h with h | h
  · have hm : a ∈ tkw (xcl k) := List.contains_iff_mem.mp h
    obtain ⟨g1, g2, g3, g4, g5, -⟩ := hT
    simp only [tkw, List.mem_cons, List.not_mem_nil, or_false] at hm
    rcases hm with rfl | rfl | rfl | rfl | rfl | rfl | rfl | rfl | rfl
    · exact va_tabs rfl rfl g1
    · exact va_Nw.use rfl (g2 k h1 h5)
    · exact va_tabs rfl rfl (g3 _ (by decide))
    · exact va_tabs rfl rfl (g3 _ (by decide))
    · exact va_tabs rfl rfl (g3 _ (by decide))
    · exact g4.lays
    · exact g5.lays
    · exact g4.isref
    · exact g5.isref
  · have hm := Bool.and_eq_true_iff.mp h
    exact hts a (gi (List.contains_iff_mem.mp hm.1) hm.2)
