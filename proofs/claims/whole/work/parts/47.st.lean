/-! the claim out of one walk (from the skeleton), and what the entry gives -/
def R_law : String := "StreamPairLaw"
def lw_P (b : Addr) (xs : List Int32) (args : Array Value) (s : State) : Prop := args = #[.ref b] ∧ s.IntsAt b xs ∧ xs.length ≤ 3072 ∧ (Jvm.Cond.and given_1 narrow_1).before args s = true
def lw_Q (_ : Array Value) (s : State) (o : Outcome) (t : State) : Prop := o = .returned (some (.int 1)) ∧ Framed s o t [] 601024 7293034
def lw_Z (below : List Frame) (a : Array Value) (s : State) : State → Prop := fun t => ∃ o, t.status = .running ∧ Ended t below o ∧ lw_Q a s o t
/-- the law's own end, with 1 on the stack, nothing written that was there before, its room as the claim has it -/
theorem lw_ret {p : Program} {l : Launch} {e : Env} {s : State} {m : MethodId} {below : List Frame} {meth : Method} {c : Code} {b : Nat} (hx : p.tables.exec = Jvm.exec) (hb : c.code = code) (hr : meth.sig.returnType = ret) (hlocks : meth.locks = false) {pc : Nat} {H : Heap} {ls : Array Slot} (hdg : decode code pc = .ok (.ireturn, 1)) : W p l e room_1 s m #[Value.ref b] below meth c H [] 601024 7293034 (lw_Z below #[Value.ref b] s) (F0 m pc ls [.int 1]) := by
  intro T hT X
  obtain ⟨fs, hret, hrun, hended, hW, hframe⟩ := X.leave (v := some (.int 1)) (hlocks := hlocks) (fun h => by rw [hr] at h; cases h)
  have hmeth' : T.vm.method? m = some meth := X.method'
  refine ⟨T.setFrames fs, ?_, .returned (some (.int 1)), hrun, hended, rfl, ⟨_, rfl⟩, hW, hframe⟩
  jvm_step X.here [X.here.top, hx, hb, hdg, hmeth', hr, ret, narrow_b1]
  (try refine ⟨rfl, ?_⟩); (try refine ⟨rfl, ?_⟩)
  first | (intro acts; rw [hret _ acts rfl rfl rfl]) | rw [hret _ _ rfl rfl rfl]
  exact Steps.refl _
/-- what holds at the law's entry: the machine, the code, the tables' words (any of lw_tbl by 'hts w (by decide +kernel)'), the script of L ints xs at the cell b, what the Statement gives of the start (any of its parts by flat_of_before) -/
def lw_At (p : Program) (s : State) (m : MethodId) (meth : Method) (c : Code) (b L : Nat) (xs : Nat → Int32) : Prop :=
  p.tables.exec = Jvm.exec ∧ c.code = code ∧ meth.sig.returnType = ret ∧ c.maxLocals = 8 ∧ s.vm.findClass R_law = some m.cls ∧ (∀ w ∈ lw_tbl, w.before #[Value.ref b] s = true) ∧ va_X b L xs s s.heap ∧ b < s.heap.size ∧ meth.locks = false ∧ (Jvm.Cond.and given_1 narrow_1).before #[Value.ref b] s = true
theorem len_small {t : Term} {args : Array Value} {s : State} {v : Value} (h : (Term.length t).eval args s none [] s = some v) : ∃ a cell, t.eval args s none [] s = some (.ref a) ∧ s.arrayAt? a = some cell ∧ v = .int cell.slots.size.toInt32 ∧ cell.slots.size < 2147483648 := by
  simp only [Term.eval, Option.bind_eq_bind] at h
  cases ht : t.eval args s none [] s with
  | none => simp [ht] at h
  | some x =>
    cases x <;> simp [ht] at h
    case ref a =>
      obtain ⟨cell, hcell, h⟩ := Option.bind_eq_some_iff.mp h
      by_cases hn : cell.slots.size < 2147483648
      · rw [if_pos hn] at h; cases h; exact ⟨a, cell, rfl, hcell, rfl, hn⟩
      · rw [if_neg hn] at h; cases h
set_option maxRecDepth 20000 in
theorem lk_start {p : Program} {s : State} {m : MethodId} {meth : Method} {c : Code} {a L : Nat} {xs : Nat → Int32} (C0 : lw_At p s m meth c a L xs) : ∃ (D : va_G) (tc : Nat → ClassId) (z : Nat), LK D tc s.heap.size z s ∧ GK D tc s.heap.size z s := by
  obtain ⟨hx, hb, hr, hml, hown, hts, hX, hbl, hlocks, hgv⟩ := C0
  have htg : ∀ w ∈ gt, w.before #[Value.ref a] s = true := fun w hw => hts w (List.mem_filter.mp hw).1
  have hs := flat_of_before _ hgv
  obtain ⟨c0, i0, k0⟩ := u_known (C := cn_M) (T := fd_M) (N := 54) (n := 54) htg fi_M (hts _ wd_1241)
  obtain ⟨c1, i1, k1⟩ := u_known (C := cn_P) (T := fd_P) (N := 6) (n := 6) htg fi_P (hts _ wd_107)
  obtain ⟨c2, i2, k2⟩ := u_known (C := cn_T) (T := fd_T) (N := 2) (n := 2) htg fi_T (hts _ wd_115)
  obtain ⟨c3, i3, k3⟩ := u_known (C := cn_C) (T := fd_C) (N := 1) (n := 1) htg fi_C (hts _ wd_131)
  obtain ⟨c4, i4, k4⟩ := u_known (C := cn_N) (T := fd_N) (N := 3) (n := 3) htg fi_N (hts _ wd_142)
  obtain ⟨c5, i5, k5⟩ := u_known (C := cn_A) (T := fd_A) (N := 3) (n := 3) htg fi_A (hts _ wd_148)
  obtain ⟨c6, i6, k6⟩ := u_known (C := cn_E) (T := fd_E) (N := 14) (n := 14) htg fi_E (hts _ wd_187)
  obtain ⟨c7, i7, k7⟩ := u_known (C := cn_U) (T := fd_U) (N := 12) (n := 12) htg fi_U (hts _ wd_193)
  obtain ⟨c8, i8, k8⟩ := u_known (C := cn_V) (T := fd_V) (N := 8) (n := 8) htg fi_V (hts _ wd_245)
  obtain ⟨c9, i9, k9⟩ := u_known (C := cn_Z) (T := fd_Z) (N := 9) (n := 9) htg fi_Z (hts _ wd_284)
  obtain ⟨c10, i10, k10⟩ := u_known (C := cn_O) (T := fd_O) (N := 4) (n := 4) htg fi_O (hts _ wd_326)
  obtain ⟨c11, i11, k11⟩ := u_known (C := cn_G) (T := fd_G) (N := 3) (n := 3) htg fi_G (hts _ wd_577)
  obtain ⟨t0, kt0, cp0, f0, g0, h0⟩ := Cond.arrayClass_spec (hts _ wd_1415)
  obtain ⟨t1, kt1, cp1, f1, g1, h1⟩ := Cond.arrayClass_spec (hts _ wd_129)
  obtain ⟨t2, kt2, cp2, f2, g2, h2⟩ := Cond.arrayClass_spec (hts _ wd_1416)
  obtain ⟨t3, kt3, cp3, f3, g3, h3⟩ := Cond.arrayClass_spec (hts _ wd_1417)
  obtain ⟨t4, kt4, cp4, f4, g4, h4⟩ := Cond.arrayClass_spec (hts _ wd_282)
  have hAO := hts _ wd_503
  obtain ⟨cp5, t5, kt5, e5, -, g5, h5, f5⟩ := Cond.arrayOver_spec hAO
  have hex : (Cond.exactly (.static "java/util/ArrayList" "DEFAULTCAPACITY_EMPTY_ELEMENTDATA" "[Ljava/lang/Object;") "[Ljava/lang/Object;").before #[Value.ref a] s = true := hs _ (by decide +kernel)
  have har : (Cond.arrayOf (.static "java/util/ArrayList" "DEFAULTCAPACITY_EMPTY_ELEMENTDATA" "[Ljava/lang/Object;") (.object "java/lang/Object")).before #[Value.ref a] s = true := hs _ (by decide +kernel)
  have hlen : (Cond.eq (.length (.static "java/util/ArrayList" "DEFAULTCAPACITY_EMPTY_ELEMENTDATA" "[Ljava/lang/Object;")) (.int 0)).before #[Value.ref a] s = true := hs _ (by decide +kernel)
  have hlv : ∃ v, (Term.length (.static "java/util/ArrayList" "DEFAULTCAPACITY_EMPTY_ELEMENTDATA" "[Ljava/lang/Object;")).eval #[Value.ref a] s none [] s = some v := by
    cases hv : (Term.length (.static "java/util/ArrayList" "DEFAULTCAPACITY_EMPTY_ELEMENTDATA" "[Ljava/lang/Object;")).eval #[Value.ref a] s none [] s with
    | none => simp [Cond.before, Cond.holds, Cond.value, hv] at hlen
    | some v => exact ⟨v, rfl⟩
  obtain ⟨lv, hlv⟩ := hlv
  obtain ⟨z, cell, hz, hzat, rfl, hsmall⟩ := len_small hlv
  obtain ⟨hcz, -, -, -⟩ := State.arrayAt?_spec hzat
  have hlv0 : cell.slots.size.toInt32 = 0 := by
    have h2 := Cond.eq_ints hlv (show (Term.int 0).eval #[Value.ref a] s none [] s = some (.int 0) from rfl)
    have h1 : (Cond.eq (.length (.static "java/util/ArrayList" "DEFAULTCAPACITY_EMPTY_ELEMENTDATA" "[Ljava/lang/Object;")) (.int 0)).holds #[Value.ref a] s none s [] = true := hlen
    simpa [Cond.holds, h2] using h1
  have hz0 : cell.slots.size = 0 := by
    have h1 : (Int32.ofNat cell.slots.size).toInt = 0 := by
      have : Int32.ofNat cell.slots.size = 0 := hlv0
      rw [this]; decide
    rw [i32_toInt hsmall] at h1
    omega
  have hzl : z < s.heap.size := (Array.getElem?_eq_some_iff.mp hcz).1
  have hAr := (Cond.arrayOf_spec har hz hcz).1
  have hZ : va_Z "java/util/ArrayList" "DEFAULTCAPACITY_EMPTY_ELEMENTDATA" "[Ljava/lang/Object;" (.ref z) (lreg s.heap.size) s s.heap := va_Zof (hts _ wd_160) (hts _ wd_84) hz (fun q hq => Nat.not_le.mpr hq)
  have hK : va_K (fun k => match k with | 0 => c0 | 1 => c1 | 2 => c2 | 3 => c3 | 4 => c4 | 5 => c5 | 6 => c6 | 7 => c7 | 8 => c8 | 9 => c9 | 10 => c10 | _ => c11, fun k => match k with | 0 => i0 | 1 => i1 | 2 => i2 | 3 => i3 | 4 => i4 | 5 => i5 | 6 => i6 | 7 => i7 | 8 => i8 | 9 => i9 | 10 => i10 | _ => i11) cls (tys (fun t => match t with | 0 => t0 | 1 => t1 | 2 => t2 | 3 => t3 | 4 => t4 | _ => t5)) s := by
    refine ⟨fun k q hq => ?_, fun k q hq => ?_⟩
    · match k, hq with
      | 0, hq => cases hq; exact k0
      | 1, hq => cases hq; exact k1
      | 2, hq => cases hq; exact k2
      | 3, hq => cases hq; exact k3
      | 4, hq => cases hq; exact k4
      | 5, hq => cases hq; exact k5
      | 6, hq => cases hq; exact k6
      | 7, hq => cases hq; exact k7
      | 8, hq => cases hq; exact k8
      | 9, hq => cases hq; exact k9
      | 10, hq => cases hq; exact k10
      | 11, hq => cases hq; exact k11
      | k + 12, hq => simp [cls] at hq
    · match k, hq with
      | 0, hq => cases hq; exact ⟨fun n z => ⟨fun k h => (by cases h), kt0, g0, cp0, h0⟩, f0⟩
      | 1, hq => cases hq; exact ⟨fun n z => ⟨fun k h => (by cases h), kt1, g1, cp1, h1⟩, f1⟩
      | 2, hq => cases hq; exact ⟨fun n z => ⟨fun k h => (by cases h), kt2, g2, cp2, h2⟩, f2⟩
      | 3, hq => cases hq; exact ⟨fun n z => ⟨fun k h => (by cases h), kt3, g3, cp3, h3⟩, f3⟩
      | 4, hq => cases hq; exact ⟨fun n z => ⟨fun k h => (by cases h), kt4, g4, cp4, h4⟩, f4⟩
      | 5, hq => cases hq; exact ⟨fun n z => ⟨fun k h => (by cases h), kt5, g5, cp5, h5⟩, ⟨kt5, cp5, g5, h5, e5, f5⟩⟩
      | k + 6, hq => simp [tys] at hq
  have hmi : (Cond.isRef (.mirror "[Ljava/lang/Object;")).before #[Value.ref a] s = true := hs _ (by decide +kernel)
  have hTK : TK s.heap.size s := by
    refine ⟨va_tabs rfl rfl (hts (.superclass "java/lang/Throwable" "java/lang/Object") (List.mem_of_getElem? (i := 681) (by decide +kernel))), fun k h1 h5 => ?_, fun y hy => ?_, ?_, ?_, fun q hq => ?_⟩
    · match k, h1, h5 with
      | 1, _, _ => exact va_Nw.of rfl (hts _ wd_661)
      | 2, _, _ => exact va_Nw.of rfl (hts _ wd_752)
      | 3, _, _ => exact va_Nw.of rfl (hts _ wd_780)
      | 4, _, _ => exact va_Nw.of rfl (hts _ wd_808)
      | 5, _, _ => exact va_Nw.of rfl (hts _ wd_1197)
    · simp only [xY, List.mem_cons, List.not_mem_nil, or_false] at hy
      rcases hy with rfl | rfl | rfl
      · exact va_tabs rfl rfl (hts _ wd_663)
      · exact va_tabs rfl rfl (hts _ wd_665)
      · exact va_tabs rfl rfl (hts _ wd_667)
    · exact TKs.of (hts _ wd_686) (hs _ (by decide +kernel)) (Nat.le_refl _)
    · exact TKs.of (hts _ wd_688) (hs _ (by decide +kernel)) (Nat.le_refl _)
    · have hcl : ∃ cur, s.vm.findClass "StreamPair" = some cur := by
        obtain ⟨cC, kC, hfC, -⟩ := Cond.instantiable_spec (hts _ wd_107)
        exact ⟨cC, hfC⟩
      obtain ⟨cur, hcur⟩ := hcl
      have one : ∀ (k : Nat) (tx : String), (Cond.stringRef "StreamPair" k tx).before #[Value.ref a] s = true → ∃ a, vk_R "StreamPair" k tx a s := fun k tx h => by
        obtain ⟨_, _, _, a9, -, -, -, -, -, hev⟩ := Cond.stringRef_spec hcur h
        exact ⟨a9, vk_R.of h hev⟩
      simp only [xstr, List.mem_cons, List.not_mem_nil, or_false] at hq
      rcases hq with rfl | rfl | rfl | rfl | rfl | rfl | rfl | rfl | rfl | rfl | rfl | rfl | rfl | rfl | rfl
      · exact one _ _ (hts _ wd_702)
      · exact one _ _ (hts _ wd_759)
      · exact one _ _ (hts _ wd_795)
      · exact one _ _ (hts _ wd_804)
      · exact one _ _ (hts _ wd_815)
      · exact one _ _ (hts _ wd_864)
      · exact one _ _ (hts _ wd_865)
      · exact one _ _ (hts _ wd_866)
      · exact one _ _ (hts _ wd_897)
      · exact one _ _ (hts _ wd_926)
      · exact one _ _ (hts _ wd_1204)
      · exact one _ _ (hts _ wd_1220)
      · exact one _ _ (hts _ wd_1235)
      · exact one _ _ (hts _ wd_787)
      · exact one _ _ (hts _ wd_961)
  have hNc : ∀ j k, 1 ≤ j → j ≤ 5 → 1 ≤ k → k ≤ 5 → j ≠ k → va_Nc (xcl j) (xcl k) s := by
    intro j k a1 a2 a3 a4 a5
    match j, k, a1, a2, a3, a4, a5 with
    | 1, 1, _, _, _, _, h => exact absurd rfl h
    | 1, 2, _, _, _, _, _ => exact va_Nc.of (hs (.not (.castable "java/lang/IllegalStateException" "java/lang/IllegalArgumentException")) (by decide +kernel))
    | 1, 3, _, _, _, _, _ => exact va_Nc.of (hs (.not (.castable "java/lang/IllegalStateException" "java/util/NoSuchElementException")) (by decide +kernel))
    | 1, 4, _, _, _, _, _ => exact va_Nc.of (hs (.not (.castable "java/lang/IllegalStateException" "java/lang/UnsupportedOperationException")) (by decide +kernel))
    | 1, 5, _, _, _, _, _ => exact va_Nc.of (hs (.not (.castable "java/lang/IllegalStateException" "java/lang/IndexOutOfBoundsException")) (by decide +kernel))
    | 2, 1, _, _, _, _, _ => exact va_Nc.of (hs (.not (.castable "java/lang/IllegalArgumentException" "java/lang/IllegalStateException")) (by decide +kernel))
    | 2, 2, _, _, _, _, h => exact absurd rfl h
    | 2, 3, _, _, _, _, _ => exact va_Nc.of (hs (.not (.castable "java/lang/IllegalArgumentException" "java/util/NoSuchElementException")) (by decide +kernel))
    | 2, 4, _, _, _, _, _ => exact va_Nc.of (hs (.not (.castable "java/lang/IllegalArgumentException" "java/lang/UnsupportedOperationException")) (by decide +kernel))
    | 2, 5, _, _, _, _, _ => exact va_Nc.of (hs (.not (.castable "java/lang/IllegalArgumentException" "java/lang/IndexOutOfBoundsException")) (by decide +kernel))
    | 3, 1, _, _, _, _, _ => exact va_Nc.of (hs (.not (.castable "java/util/NoSuchElementException" "java/lang/IllegalStateException")) (by decide +kernel))
    | 3, 2, _, _, _, _, _ => exact va_Nc.of (hs (.not (.castable "java/util/NoSuchElementException" "java/lang/IllegalArgumentException")) (by decide +kernel))
    | 3, 3, _, _, _, _, h => exact absurd rfl h
    | 3, 4, _, _, _, _, _ => exact va_Nc.of (hs (.not (.castable "java/util/NoSuchElementException" "java/lang/UnsupportedOperationException")) (by decide +kernel))
    | 3, 5, _, _, _, _, _ => exact va_Nc.of (hs (.not (.castable "java/util/NoSuchElementException" "java/lang/IndexOutOfBoundsException")) (by decide +kernel))
    | 4, 1, _, _, _, _, _ => exact va_Nc.of (hs (.not (.castable "java/lang/UnsupportedOperationException" "java/lang/IllegalStateException")) (by decide +kernel))
    | 4, 2, _, _, _, _, _ => exact va_Nc.of (hs (.not (.castable "java/lang/UnsupportedOperationException" "java/lang/IllegalArgumentException")) (by decide +kernel))
    | 4, 3, _, _, _, _, _ => exact va_Nc.of (hs (.not (.castable "java/lang/UnsupportedOperationException" "java/util/NoSuchElementException")) (by decide +kernel))
    | 4, 4, _, _, _, _, h => exact absurd rfl h
    | 4, 5, _, _, _, _, _ => exact va_Nc.of (hs (.not (.castable "java/lang/UnsupportedOperationException" "java/lang/IndexOutOfBoundsException")) (by decide +kernel))
    | 5, 1, _, _, _, _, _ => exact va_Nc.of (hs (.not (.castable "java/lang/IndexOutOfBoundsException" "java/lang/IllegalStateException")) (by decide +kernel))
    | 5, 2, _, _, _, _, _ => exact va_Nc.of (hs (.not (.castable "java/lang/IndexOutOfBoundsException" "java/lang/IllegalArgumentException")) (by decide +kernel))
    | 5, 3, _, _, _, _, _ => exact va_Nc.of (hs (.not (.castable "java/lang/IndexOutOfBoundsException" "java/util/NoSuchElementException")) (by decide +kernel))
    | 5, 4, _, _, _, _, _ => exact va_Nc.of (hs (.not (.castable "java/lang/IndexOutOfBoundsException" "java/lang/UnsupportedOperationException")) (by decide +kernel))
    | 5, 5, _, _, _, _, h => exact absurd rfl h
  refine ⟨(fun k => match k with | 0 => c0 | 1 => c1 | 2 => c2 | 3 => c3 | 4 => c4 | 5 => c5 | 6 => c6 | 7 => c7 | 8 => c8 | 9 => c9 | 10 => c10 | _ => c11, fun k => match k with | 0 => i0 | 1 => i1 | 2 => i2 | 3 => i3 | 4 => i4 | 5 => i5 | 6 => i6 | 7 => i7 | 8 => i8 | 9 => i9 | 10 => i10 | _ => i11), (fun t => match t with | 0 => t0 | 1 => t1 | 2 => t2 | 3 => t3 | 4 => t4 | _ => t5), z, ⟨hK, hzl, hZ, ⟨cell, hcz, hAr, hz0⟩, va_AO.of hAO, va_Nw.of rfl (hts _ wd_1686), va_Nw.of rfl (hts _ wd_1700), va_Nw.of rfl (hts _ wd_578), ⟨va_Mi.of hmi, va_Dc.of (hts _ wd_1689)⟩, Nat.le_refl _, hTK, hNc⟩, hK, hZ, fun own ix y host hm => ?_, Nat.le_refl _⟩
  simp only [nestW, List.mem_cons, List.not_mem_nil, or_false] at hm
  rcases hm with hm | hm | hm | hm | hm | hm | hm
  · cases hm; exact va_Nw.of rfl (hts _ wd_116)
  · cases hm; exact va_Nw.of rfl (hts _ wd_132)
  · cases hm; exact va_Nw.of rfl (hts _ wd_143)
  · cases hm; exact va_Nw.of rfl (hts _ wd_194)
  · cases hm; exact va_Nw.of rfl (hts _ wd_246)
  · cases hm; exact va_Nw.of rfl (hts _ wd_285)
  · cases hm; exact va_Nw.of rfl (hts _ wd_327)
