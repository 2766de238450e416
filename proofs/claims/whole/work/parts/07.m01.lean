/-! thrown ()I -/
abbrev k_thrown : ByteArray := prog_12_method_2_code
abbrev y_thrown : MethodName := ⟨cn_M, "thrown", "()I"⟩
theorem q_thrown : Calee y_thrown k_thrown 1 (some .int) 0 := ⟨wd_1421, wd_90, by decide, by decide +kernel⟩
theorem d_thrown_0 : decode k_thrown 0 = .ok (.aload_n 0, 1) := by decide +kernel
theorem d_thrown_1 : decode k_thrown 1 = .ok (.getfield 140, 3) := by decide +kernel
theorem d_thrown_4 : decode k_thrown 4 = .ok (.ireturn, 1) := by decide +kernel
def m_thrown (ρ : RS) : Option (Int32 × RS) :=
  bd (ρ.1 0 0) fun x1 => some (x1, ρ)
section
variable {p : Program} {l : Launch} {e : Env} {s : State} {m : MethodId} {args : Array Value} {below : List Frame} {meth : Method} {c : Code} {D : va_G} {tc : Nat → ClassId} {o : Nat}
theorem t_thrown_0 (S : RC p m c k_thrown 1 s args cn_M meth (some .int) D tc) (ρ : RS) {B : Int32 × RS} (h : m_thrown  ρ = some B) {ls : Array Slot} {H : Heap} {locs : List Loc} (hl : lv_has ls 1 [(0, .ref o)]) (hW : RWS D tc o s ρ H locs) : W p l e { frames := 0, cells := 0, slots := 0, locals := 0 } s m args below meth c H locs 0 0 (MQ below (RQ D tc o (some (.int B.1)) B.2) args s 0 0 (rreg o)) (F0 m 0 ls []) := by
  have hx := S.1.1
  have hb := S.1.2.1
  unfold m_thrown at h
  refine lv_aload_n hx hb d_thrown_0 rfl (lv_at hl 0 rfl) ?_
  refine rm_geti S hW 0 wd_1252 (by decide) d_thrown_1 h (fun x1 h => ?_)
  exact rm_iret S hW d_thrown_4 h
theorem c_thrown (ρ : RS) {x : Int32} {ρ' : RS} (h : m_thrown  ρ = some (x, ρ')) : RMet l D tc o y_thrown k_thrown 1 (some .int) 0 0 [.ref o] ρ (some (.int x)) ρ' := rm_met (by decide) (Nat.le_of_ble_eq_true rfl) fun p e s m args below meth c S hW ls hl => t_thrown_0 S  ρ h hl hW
end

/-! fail (I)I -/
abbrev k_fail : ByteArray := prog_12_method_3_code
abbrev y_fail : MethodName := ⟨cn_M, "fail", "(I)I"⟩
theorem q_fail : Calee y_fail k_fail 2 (some .int) 1 := ⟨wd_1430, wd_90, by decide, by decide +kernel⟩
theorem d_fail_0 : decode k_fail 0 = .ok (.aload_n 0, 1) := by decide +kernel
theorem d_fail_1 : decode k_fail 1 = .ok (.iload_n 1, 1) := by decide +kernel
theorem d_fail_2 : decode k_fail 2 = .ok (.putfield 140, 3) := by decide +kernel
theorem d_fail_5 : decode k_fail 5 = .ok (.iconst 0, 1) := by decide +kernel
theorem d_fail_6 : decode k_fail 6 = .ok (.ireturn, 1) := by decide +kernel
def m_fail (v1 : Int32) (ρ : RS) : Option (Int32 × RS) :=
  bd (si ρ 0 0 v1) fun r1 => some ((0 : Int32), r1)
section
variable {p : Program} {l : Launch} {e : Env} {s : State} {m : MethodId} {args : Array Value} {below : List Frame} {meth : Method} {c : Code} {D : va_G} {tc : Nat → ClassId} {o : Nat}
theorem t_fail_0 (S : RC p m c k_fail 2 s args cn_M meth (some .int) D tc) (v1 : Int32) (ρ : RS) {B : Int32 × RS} (h : m_fail v1 ρ = some B) {ls : Array Slot} {H : Heap} {locs : List Loc} (hl : lv_has ls 2 [(0, .ref o), (1, .int v1)]) (hW : RWS D tc o s ρ H locs) : W p l e { frames := 0, cells := 0, slots := 0, locals := 0 } s m args below meth c H locs 0 0 (MQ below (RQ D tc o (some (.int B.1)) B.2) args s 0 0 (rreg o)) (F0 m 0 ls []) := by
  have hx := S.1.1
  have hb := S.1.2.1
  unfold m_fail at h
  refine lv_aload_n hx hb d_fail_0 rfl (lv_at hl 0 rfl) ?_
  refine lv_iload_n hx hb d_fail_1 rfl (lv_at hl 1 rfl) ?_
  refine rm_puti S hW 0 wd_1252 (by decide) d_fail_2 h (fun r1 H locs h hW => ?_)
  refine lv_iconst (v := 0) hx hb d_fail_5 (by decide) ?_
  exact rm_iret S hW d_fail_6 h
theorem c_fail (v1 : Int32) (ρ : RS) {x : Int32} {ρ' : RS} (h : m_fail v1 ρ = some (x, ρ')) : RMet l D tc o y_fail k_fail 2 (some .int) 0 0 [.ref o, .int v1] ρ (some (.int x)) ρ' := rm_met (by decide) (Nat.le_of_ble_eq_true rfl) fun p e s m args below meth c S hW ls hl => t_fail_0 S v1 ρ h hl hW
end

/-! above (II)Z -/
abbrev k_above : ByteArray := prog_12_method_4_code
abbrev y_above : MethodName := ⟨cn_M, "above", "(II)Z"⟩
theorem q_above : Calee y_above k_above 2 (some .boolean) 2 := ⟨wd_1457, wd_90, by decide, by decide +kernel⟩
theorem d_above_0 : decode k_above 0 = .ok (.iload_n 0, 1) := by decide +kernel
theorem d_above_1 : decode k_above 1 = .ok (.iload_n 1, 1) := by decide +kernel
theorem d_above_2 : decode k_above 2 = .ok (.isub, 1) := by decide +kernel
theorem d_above_3 : decode k_above 3 = .ok (.ifCond .le 7, 3) := by decide +kernel
theorem d_above_6 : decode k_above 6 = .ok (.iconst 1, 1) := by decide +kernel
theorem d_above_7 : decode k_above 7 = .ok (.goto 4, 3) := by decide +kernel
theorem d_above_10 : decode k_above 10 = .ok (.iconst 0, 1) := by decide +kernel
theorem d_above_11 : decode k_above 11 = .ok (.ireturn, 1) := by decide +kernel
def b_above_11 (w0 : Int32) (ρ : RS) : Option (Int32 × RS) :=
  gd (w0 = 0 ∨ w0 = 1) (some (w0, ρ))
def m_above (v0 : Int32) (v1 : Int32) (ρ : RS) : Option (Int32 × RS) :=
  if (v0 - v1) ≤ 0 then
  (b_above_11 (0 : Int32) ρ)
 else
  (b_above_11 (1 : Int32) ρ)
section
variable {p : Program} {l : Launch} {e : Env} {s : State} {m : MethodId} {args : Array Value} {below : List Frame} {meth : Method} {c : Code} {D : va_G} {tc : Nat → ClassId} {o : Nat}
theorem t_above_11 (S : RC p m c k_above 2 s args cn_M meth (some .boolean) D tc) (w0 : Int32) (ρ : RS) {B : Int32 × RS} (h : b_above_11 w0 ρ = some B) {ls : Array Slot} {H : Heap} {locs : List Loc} (hl : lv_has ls 2 []) (hW : RWS D tc o s ρ H locs) : W p l e { frames := 0, cells := 0, slots := 0, locals := 0 } s m args below meth c H locs 0 0 (MQ below (RQ D tc o (some (.int B.1)) B.2) args s 0 0 (rreg o)) (F0 m 11 ls [.int w0]) := by
  have hx := S.1.1
  have hb := S.1.2.1
  unfold b_above_11 at h
  exact rm_zret S hW d_above_11 h
theorem t_above_0 (S : RC p m c k_above 2 s args cn_M meth (some .boolean) D tc) (v0 : Int32) (v1 : Int32) (ρ : RS) {B : Int32 × RS} (h : m_above v0 v1 ρ = some B) {ls : Array Slot} {H : Heap} {locs : List Loc} (hl : lv_has ls 2 [(0, .int v0), (1, .int v1)]) (hW : RWS D tc o s ρ H locs) : W p l e { frames := 0, cells := 0, slots := 0, locals := 0 } s m args below meth c H locs 0 0 (MQ below (RQ D tc o (some (.int B.1)) B.2) args s 0 0 (rreg o)) (F0 m 0 ls []) := by
  have hx := S.1.1
  have hb := S.1.2.1
  unfold m_above at h
  refine lv_iload_n hx hb d_above_0 rfl (lv_at hl 0 rfl) ?_
  refine lv_iload_n hx hb d_above_1 rfl (lv_at hl 1 rfl) ?_
  refine lv_isub hx hb d_above_2 ?_
  refine rb_le (tgt := 10) hx hb d_above_3 (by decide) h (fun h => ?_) (fun h => ?_)
  · refine lv_iconst (v := 0) hx hb d_above_10 (by decide) ?_
    exact t_above_11 S (0 : Int32) ρ h (lv_sub hl [] rfl) hW
  · refine lv_iconst (v := 1) hx hb d_above_6 (by decide) ?_
    refine lv_goto (tgt := 11) hx hb d_above_7 (by decide) ?_
    exact t_above_11 S (1 : Int32) ρ h (lv_sub hl [] rfl) hW
theorem c_above (v0 : Int32) (v1 : Int32) (ρ : RS) {x : Int32} {ρ' : RS} (h : m_above v0 v1 ρ = some (x, ρ')) : RMet l D tc o y_above k_above 2 (some .boolean) 0 0 [.int v0, .int v1] ρ (some (.int x)) ρ' := rm_met (by decide) (Nat.le_of_ble_eq_true rfl) fun p e s m args below meth c S hW ls hl => t_above_0 S v0 v1 ρ h hl hW
end

/-! free ()I -/
abbrev k_free : ByteArray := prog_12_method_5_code
abbrev y_free : MethodName := ⟨cn_M, "free", "()I"⟩
theorem q_free : Calee y_free k_free 2 (some .int) 0 := ⟨wd_1469, wd_90, by decide, by decide +kernel⟩
theorem d_free_0 : decode k_free 0 = .ok (.iconst 0, 1) := by decide +kernel
theorem d_free_1 : decode k_free 1 = .ok (.istore_n 1, 1) := by decide +kernel
theorem d_free_2 : decode k_free 2 = .ok (.iload_n 1, 1) := by decide +kernel
theorem d_free_3 : decode k_free 3 = .ok (.sipush 512, 3) := by decide +kernel
theorem d_free_6 : decode k_free 6 = .ok (.if_icmp .gt 20, 3) := by decide +kernel
theorem d_free_9 : decode k_free 9 = .ok (.aload_n 0, 1) := by decide +kernel
theorem d_free_10 : decode k_free 10 = .ok (.getfield 28, 3) := by decide +kernel
theorem d_free_13 : decode k_free 13 = .ok (.iload_n 1, 1) := by decide +kernel
theorem d_free_14 : decode k_free 14 = .ok (.baload, 1) := by decide +kernel
theorem d_free_15 : decode k_free 15 = .ok (.ifCond .ne 5, 3) := by decide +kernel
theorem d_free_18 : decode k_free 18 = .ok (.iload_n 1, 1) := by decide +kernel
theorem d_free_19 : decode k_free 19 = .ok (.ireturn, 1) := by decide +kernel
theorem d_free_20 : decode k_free 20 = .ok (.iinc 1 1, 3) := by decide +kernel
theorem d_free_23 : decode k_free 23 = .ok (.goto (-21), 3) := by decide +kernel
theorem d_free_26 : decode k_free 26 = .ok (.iconst (-1), 1) := by decide +kernel
theorem d_free_27 : decode k_free 27 = .ok (.ireturn, 1) := by decide +kernel
def F_free_2 (rec2 : Int32 → RS → Option (Int32 × RS)) (v1 : Int32) (ρ : RS) : Option (Int32 × RS) :=
  if (512 : Int32) < v1 then
  (some ((-1 : Int32), ρ))
 else
  (gd (inb v1 513) <| bd (ρ.1 6 v1.toNatClampNeg) fun x1 => if x1 = 0 then
  (some (v1, ρ))
 else
  (bd (v1 + (1 : Int32)) fun x2 => rec2 x2 ρ))
def m_free (ρ : RS) : Option (Int32 × RS) :=
  lq2 (F_free_2) fuel (0 : Int32) ρ
def P_free_2 (p : Program) (l : Launch) (e : Env) (s : State) (m : MethodId) (args : Array Value) (below : List Frame) (meth : Method) (c : Code) (D : va_G) (tc : Nat → ClassId) (o : Nat) (v1 : Int32) (ρ : RS) (B : Int32 × RS) : Prop := ∀ (ls : Array Slot) (H : Heap) (locs : List Loc), lv_has ls 2 [(0, .ref o), (1, .int v1)] → RWS D tc o s ρ H locs → W p l e { frames := 0, cells := 0, slots := 0, locals := 0 } s m args below meth c H locs 0 0 (MQ below (RQ D tc o (some (.int B.1)) B.2) args s 0 0 (rreg o)) (F0 m 2 ls [])
section
variable {p : Program} {l : Launch} {e : Env} {s : State} {m : MethodId} {args : Array Value} {below : List Frame} {meth : Method} {c : Code} {D : va_G} {tc : Nat → ClassId} {o : Nat}
theorem tF_free_2 (S : RC p m c k_free 2 s args cn_M meth (some .int) D tc) : ∀ (rec2 : Int32 → RS → Option (Int32 × RS)), (∀ (v1 : Int32) (ρ : RS) (B : Int32 × RS), rec2 v1 ρ = some B → P_free_2 p l e s m args below meth c D tc o v1 ρ B) → ∀ (v1 : Int32) (ρ : RS) (B : Int32 × RS), F_free_2 rec2 v1 ρ = some B → P_free_2 p l e s m args below meth c D tc o v1 ρ B := by
  intro rec2 hrec2 v1 ρ B h ls H locs hl hW
  have hx := S.1.1
  have hb := S.1.2.1
  unfold F_free_2 at h
  refine lv_iload_n hx hb d_free_2 rfl (lv_at hl 1 rfl) ?_
  refine lv_sipush (v := 512) hx hb d_free_3 (by decide) ?_
  refine rc_gt (tgt := 26) hx hb d_free_6 (by decide) h (fun h => ?_) (fun h => ?_)
  · refine lv_iconst (v := -1) hx hb d_free_26 (by decide) ?_
    exact rm_iret S hW d_free_27 h
  · refine lv_aload_n hx hb d_free_9 rfl (lv_at hl 0 rfl) ?_
    refine rm_geta S hW 11 6 wd_1263 (by decide) d_free_10 ?_
    refine lv_iload_n hx hb d_free_13 rfl (lv_at hl 1 rfl) ?_
    refine rm_zald S hW 6 513 (by decide) d_free_14 h (fun x1 h => ?_)
    refine rb_ne (tgt := 20) hx hb d_free_15 (by decide) h (fun h => ?_) (fun h => ?_)
    · refine rv_iinc (k := 1) (v := 1) (lv' := fun x2 => [(1, .int x2), (0, .ref o)]) hx hb d_free_20 hl rfl (by decide) (by decide) (fun _ => rfl) h (fun x2 ls h hl => ?_)
      refine lv_goto (tgt := 2) hx hb d_free_23 (by decide) ?_
      exact hrec2 x2 ρ _ h _ _ _ (lv_sub hl [1, 0] rfl) hW
    · refine lv_iload_n hx hb d_free_18 rfl (lv_at hl 1 rfl) ?_
      exact rm_iret S hW d_free_19 h
theorem t_free_2 (S : RC p m c k_free 2 s args cn_M meth (some .int) D tc) : ∀ (n : Nat) (v1 : Int32) (ρ : RS) (B : Int32 × RS), lq2 (F_free_2) n v1 ρ = some B → P_free_2 p l e s m args below meth c D tc o v1 ρ B := lq2_s (tF_free_2 S)
theorem t_free_0 (S : RC p m c k_free 2 s args cn_M meth (some .int) D tc) (ρ : RS) {B : Int32 × RS} (h : m_free  ρ = some B) {ls : Array Slot} {H : Heap} {locs : List Loc} (hl : lv_has ls 2 [(0, .ref o)]) (hW : RWS D tc o s ρ H locs) : W p l e { frames := 0, cells := 0, slots := 0, locals := 0 } s m args below meth c H locs 0 0 (MQ below (RQ D tc o (some (.int B.1)) B.2) args s 0 0 (rreg o)) (F0 m 0 ls []) := by
  have hx := S.1.1
  have hb := S.1.2.1
  unfold m_free at h
  refine lv_iconst (v := 0) hx hb d_free_0 (by decide) ?_
  refine lv_istore_n (lv' := [(1, .int (0 : Int32)), (0, .ref o)]) hx hb d_free_1 rfl hl (by decide) rfl (fun ls hl => ?_)
  exact t_free_2 S fuel (0 : Int32) ρ _ h _ _ _ (lv_sub hl [1, 0] rfl) hW
theorem c_free (ρ : RS) {x : Int32} {ρ' : RS} (h : m_free  ρ = some (x, ρ')) : RMet l D tc o y_free k_free 2 (some .int) 0 0 [.ref o] ρ (some (.int x)) ρ' := rm_met (by decide) (Nat.le_of_ble_eq_true rfl) fun p e s m args below meth c S hW ls hl => t_free_0 S  ρ h hl hW
end

/-! launched (II)I -/
abbrev k_launched : ByteArray := prog_12_method_6_code
abbrev y_launched : MethodName := ⟨cn_M, "launched", "(II)I"⟩
theorem q_launched : Calee y_launched k_launched 4 (some .int) 2 := ⟨wd_1465, wd_90, by decide, by decide +kernel⟩
theorem d_launched_0 : decode k_launched 0 = .ok (.aload_n 0, 1) := by decide +kernel
theorem d_launched_1 : decode k_launched 1 = .ok (.getfield 144, 3) := by decide +kernel
theorem d_launched_4 : decode k_launched 4 = .ok (.sipush 512, 3) := by decide +kernel
theorem d_launched_7 : decode k_launched 7 = .ok (.if_icmp .ne 15, 3) := by decide +kernel
theorem d_launched_10 : decode k_launched 10 = .ok (.aload_n 0, 1) := by decide +kernel
theorem d_launched_11 : decode k_launched 11 = .ok (.dup, 1) := by decide +kernel
theorem d_launched_12 : decode k_launched 12 = .ok (.getfield 147, 3) := by decide +kernel
theorem d_launched_15 : decode k_launched 15 = .ok (.iconst 1, 1) := by decide +kernel
theorem d_launched_16 : decode k_launched 16 = .ok (.iadd, 1) := by decide +kernel
theorem d_launched_17 : decode k_launched 17 = .ok (.putfield 147, 3) := by decide +kernel
theorem d_launched_20 : decode k_launched 20 = .ok (.iconst (-1), 1) := by decide +kernel
theorem d_launched_21 : decode k_launched 21 = .ok (.ireturn, 1) := by decide +kernel
theorem d_launched_22 : decode k_launched 22 = .ok (.aload_n 0, 1) := by decide +kernel
theorem d_launched_23 : decode k_launched 23 = .ok (.invokevirtual 150, 3) := by decide +kernel
theorem d_launched_26 : decode k_launched 26 = .ok (.istore_n 3, 1) := by decide +kernel
theorem d_launched_27 : decode k_launched 27 = .ok (.aload_n 0, 1) := by decide +kernel
theorem d_launched_28 : decode k_launched 28 = .ok (.getfield 28, 3) := by decide +kernel
theorem d_launched_31 : decode k_launched 31 = .ok (.iload_n 3, 1) := by decide +kernel
theorem d_launched_32 : decode k_launched 32 = .ok (.iconst 1, 1) := by decide +kernel
theorem d_launched_33 : decode k_launched 33 = .ok (.bastore, 1) := by decide +kernel
theorem d_launched_34 : decode k_launched 34 = .ok (.aload_n 0, 1) := by decide +kernel
theorem d_launched_35 : decode k_launched 35 = .ok (.getfield 22, 3) := by decide +kernel
theorem d_launched_38 : decode k_launched 38 = .ok (.iload_n 3, 1) := by decide +kernel
theorem d_launched_39 : decode k_launched 39 = .ok (.iload_n 1, 1) := by decide +kernel
theorem d_launched_40 : decode k_launched 40 = .ok (.iastore, 1) := by decide +kernel
theorem d_launched_41 : decode k_launched 41 = .ok (.aload_n 0, 1) := by decide +kernel
theorem d_launched_42 : decode k_launched 42 = .ok (.getfield 18, 3) := by decide +kernel
theorem d_launched_45 : decode k_launched 45 = .ok (.iload_n 3, 1) := by decide +kernel
theorem d_launched_46 : decode k_launched 46 = .ok (.iload_n 2, 1) := by decide +kernel
theorem d_launched_47 : decode k_launched 47 = .ok (.iastore, 1) := by decide +kernel
theorem d_launched_48 : decode k_launched 48 = .ok (.aload_n 0, 1) := by decide +kernel
theorem d_launched_49 : decode k_launched 49 = .ok (.getfield 25, 3) := by decide +kernel
theorem d_launched_52 : decode k_launched 52 = .ok (.aload_n 0, 1) := by decide +kernel
theorem d_launched_53 : decode k_launched 53 = .ok (.getfield 144, 3) := by decide +kernel
theorem d_launched_56 : decode k_launched 56 = .ok (.iload_n 3, 1) := by decide +kernel
theorem d_launched_57 : decode k_launched 57 = .ok (.iastore, 1) := by decide +kernel
theorem d_launched_58 : decode k_launched 58 = .ok (.aload_n 0, 1) := by decide +kernel
theorem d_launched_59 : decode k_launched 59 = .ok (.dup, 1) := by decide +kernel
theorem d_launched_60 : decode k_launched 60 = .ok (.getfield 144, 3) := by decide +kernel
theorem d_launched_63 : decode k_launched 63 = .ok (.iconst 1, 1) := by decide +kernel
theorem d_launched_64 : decode k_launched 64 = .ok (.iadd, 1) := by decide +kernel
theorem d_launched_65 : decode k_launched 65 = .ok (.putfield 144, 3) := by decide +kernel
theorem d_launched_68 : decode k_launched 68 = .ok (.iload_n 3, 1) := by decide +kernel
theorem d_launched_69 : decode k_launched 69 = .ok (.ireturn, 1) := by decide +kernel
def m_launched (v1 : Int32) (v2 : Int32) (ρ : RS) : Option (Int32 × RS) :=
  bd (ρ.1 0 10) fun x1 => if x1 = (512 : Int32) then
  (bd (ρ.1 0 5) fun x11 => bd (si ρ 0 5 (x11 + (1 : Int32))) fun r12 => some ((-1 : Int32), r12))
 else
  (bc2 (m_free ρ) fun x3 r2 => gd (inb x3 513) <| bd (si r2 6 x3.toNatClampNeg (vp_nar .boolean (1 : Int32))) fun r4 => gd (inb x3 513) <| bd (si r4 4 x3.toNatClampNeg v1) fun r5 => gd (inb x3 513) <| bd (si r5 3 x3.toNatClampNeg v2) fun r6 => bd (r6.1 0 10) fun x7 => gd (inb x7 512) <| bd (si r6 5 x7.toNatClampNeg x3) fun r8 => bd (r8.1 0 10) fun x9 => bd (si r8 0 10 (x9 + (1 : Int32))) fun r10 => some (x3, r10))
section
variable {p : Program} {l : Launch} {e : Env} {s : State} {m : MethodId} {args : Array Value} {below : List Frame} {meth : Method} {c : Code} {D : va_G} {tc : Nat → ClassId} {o : Nat}
theorem t_launched_0 (S : RC p m c k_launched 4 s args cn_M meth (some .int) D tc) (v1 : Int32) (v2 : Int32) (ρ : RS) {B : Int32 × RS} (h : m_launched v1 v2 ρ = some B) {ls : Array Slot} {H : Heap} {locs : List Loc} (hl : lv_has ls 4 [(0, .ref o), (1, .int v1), (2, .int v2)]) (hW : RWS D tc o s ρ H locs) : W p l e { frames := 1, cells := 0, slots := 0, locals := 21 } s m args below meth c H locs 0 0 (MQ below (RQ D tc o (some (.int B.1)) B.2) args s 0 0 (rreg o)) (F0 m 0 ls []) := by
  have hx := S.1.1
  have hb := S.1.2.1
  unfold m_launched at h
  refine lv_aload_n hx hb d_launched_0 rfl (lv_at hl 0 rfl) ?_
  refine rm_geti S hW 10 wd_1262 (by decide) d_launched_1 h (fun x1 h => ?_)
  refine lv_sipush (v := 512) hx hb d_launched_4 (by decide) ?_
  refine rc_ne (tgt := 22) hx hb d_launched_7 (by decide) h (fun h => ?_) (fun h => ?_)
  · refine lv_aload_n hx hb d_launched_22 rfl (lv_at hl 0 rfl) ?_
    refine rm_cVi [] S hW (fun x ρ' hc => c_free ρ hc) q_free wd_1468 wd_41 wd_1466 (by decide) hl.1 rfl rfl (Nat.le_of_ble_eq_true rfl) d_launched_23 h (fun x3 r2 H locs h hW => ?_)
    refine lv_istore_n (lv' := [(3, .int x3), (0, .ref o), (1, .int v1), (2, .int v2)]) hx hb d_launched_26 rfl hl (by decide) rfl (fun ls hl => ?_)
    refine lv_aload_n hx hb d_launched_27 rfl (lv_at hl 1 rfl) ?_
    refine rm_geta S hW 11 6 wd_1263 (by decide) d_launched_28 ?_
    refine lv_iload_n hx hb d_launched_31 rfl (lv_at hl 0 rfl) ?_
    refine lv_iconst (v := 1) hx hb d_launched_32 (by decide) ?_
    refine rm_zast S hW 6 513 (by decide) d_launched_33 h (fun r4 H locs h hW => ?_)
    refine lv_aload_n hx hb d_launched_34 rfl (lv_at hl 1 rfl) ?_
    refine rm_geta S hW 8 4 wd_1260 (by decide) d_launched_35 ?_
    refine lv_iload_n hx hb d_launched_38 rfl (lv_at hl 0 rfl) ?_
    refine lv_iload_n hx hb d_launched_39 rfl (lv_at hl 2 rfl) ?_
    refine rm_iast S hW 4 513 (by decide) d_launched_40 h (fun r5 H locs h hW => ?_)
    refine lv_aload_n hx hb d_launched_41 rfl (lv_at hl 1 rfl) ?_
    refine rm_geta S hW 7 3 wd_1259 (by decide) d_launched_42 ?_
    refine lv_iload_n hx hb d_launched_45 rfl (lv_at hl 0 rfl) ?_
    refine lv_iload_n hx hb d_launched_46 rfl (lv_at hl 3 rfl) ?_
    refine rm_iast S hW 3 513 (by decide) d_launched_47 h (fun r6 H locs h hW => ?_)
    refine lv_aload_n hx hb d_launched_48 rfl (lv_at hl 1 rfl) ?_
    refine rm_geta S hW 9 5 wd_1261 (by decide) d_launched_49 ?_
    refine lv_aload_n hx hb d_launched_52 rfl (lv_at hl 1 rfl) ?_
    refine rm_geti S hW 10 wd_1262 (by decide) d_launched_53 h (fun x7 h => ?_)
    refine lv_iload_n hx hb d_launched_56 rfl (lv_at hl 0 rfl) ?_
    refine rm_iast S hW 5 512 (by decide) d_launched_57 h (fun r8 H locs h hW => ?_)
    refine lv_aload_n hx hb d_launched_58 rfl (lv_at hl 1 rfl) ?_
    refine lv_dup hx hb d_launched_59 rfl ?_
    refine rm_geti S hW 10 wd_1262 (by decide) d_launched_60 h (fun x9 h => ?_)
    refine lv_iconst (v := 1) hx hb d_launched_63 (by decide) ?_
    refine lv_iadd hx hb d_launched_64 ?_
    refine rm_puti S hW 10 wd_1262 (by decide) d_launched_65 h (fun r10 H locs h hW => ?_)
    refine lv_iload_n hx hb d_launched_68 rfl (lv_at hl 0 rfl) ?_
    exact rm_iret S hW d_launched_69 h
  · refine lv_aload_n hx hb d_launched_10 rfl (lv_at hl 0 rfl) ?_
    refine lv_dup hx hb d_launched_11 rfl ?_
    refine rm_geti S hW 5 wd_1257 (by decide) d_launched_12 h (fun x11 h => ?_)
    refine lv_iconst (v := 1) hx hb d_launched_15 (by decide) ?_
    refine lv_iadd hx hb d_launched_16 ?_
    refine rm_puti S hW 5 wd_1257 (by decide) d_launched_17 h (fun r12 H locs h hW => ?_)
    refine lv_iconst (v := -1) hx hb d_launched_20 (by decide) ?_
    exact rm_iret S hW d_launched_21 h
theorem c_launched (v1 : Int32) (v2 : Int32) (ρ : RS) {x : Int32} {ρ' : RS} (h : m_launched v1 v2 ρ = some (x, ρ')) : RMet l D tc o y_launched k_launched 4 (some .int) 1 21 [.ref o, .int v1, .int v2] ρ (some (.int x)) ρ' := rm_met (by decide) (Nat.le_of_ble_eq_true rfl) fun p e s m args below meth c S hW ls hl => t_launched_0 S v1 v2 ρ h hl hW
end

/-! removed (I)V -/
abbrev k_removed : ByteArray := prog_12_method_7_code
abbrev y_removed : MethodName := ⟨cn_M, "removed", "(I)V"⟩
theorem q_removed : Calee y_removed k_removed 3 none 1 := ⟨wd_1442, wd_90, by decide, by decide +kernel⟩
theorem d_removed_0 : decode k_removed 0 = .ok (.aload_n 0, 1) := by decide +kernel
theorem d_removed_1 : decode k_removed 1 = .ok (.getfield 28, 3) := by decide +kernel
theorem d_removed_4 : decode k_removed 4 = .ok (.aload_n 0, 1) := by decide +kernel
theorem d_removed_5 : decode k_removed 5 = .ok (.getfield 25, 3) := by decide +kernel
theorem d_removed_8 : decode k_removed 8 = .ok (.iload_n 1, 1) := by decide +kernel
theorem d_removed_9 : decode k_removed 9 = .ok (.iaload, 1) := by decide +kernel
theorem d_removed_10 : decode k_removed 10 = .ok (.iconst 0, 1) := by decide +kernel
theorem d_removed_11 : decode k_removed 11 = .ok (.bastore, 1) := by decide +kernel
theorem d_removed_12 : decode k_removed 12 = .ok (.iload_n 1, 1) := by decide +kernel
theorem d_removed_13 : decode k_removed 13 = .ok (.istore_n 2, 1) := by decide +kernel
theorem d_removed_14 : decode k_removed 14 = .ok (.iload_n 2, 1) := by decide +kernel
theorem d_removed_15 : decode k_removed 15 = .ok (.iconst 1, 1) := by decide +kernel
theorem d_removed_16 : decode k_removed 16 = .ok (.iadd, 1) := by decide +kernel
theorem d_removed_17 : decode k_removed 17 = .ok (.aload_n 0, 1) := by decide +kernel
theorem d_removed_18 : decode k_removed 18 = .ok (.getfield 144, 3) := by decide +kernel
theorem d_removed_21 : decode k_removed 21 = .ok (.if_icmp .ge 23, 3) := by decide +kernel
theorem d_removed_24 : decode k_removed 24 = .ok (.aload_n 0, 1) := by decide +kernel
theorem d_removed_25 : decode k_removed 25 = .ok (.getfield 25, 3) := by decide +kernel
theorem d_removed_28 : decode k_removed 28 = .ok (.iload_n 2, 1) := by decide +kernel
theorem d_removed_29 : decode k_removed 29 = .ok (.aload_n 0, 1) := by decide +kernel
theorem d_removed_30 : decode k_removed 30 = .ok (.getfield 25, 3) := by decide +kernel
theorem d_removed_33 : decode k_removed 33 = .ok (.iload_n 2, 1) := by decide +kernel
theorem d_removed_34 : decode k_removed 34 = .ok (.iconst 1, 1) := by decide +kernel
theorem d_removed_35 : decode k_removed 35 = .ok (.iadd, 1) := by decide +kernel
theorem d_removed_36 : decode k_removed 36 = .ok (.iaload, 1) := by decide +kernel
theorem d_removed_37 : decode k_removed 37 = .ok (.iastore, 1) := by decide +kernel
theorem d_removed_38 : decode k_removed 38 = .ok (.iinc 2 1, 3) := by decide +kernel
theorem d_removed_41 : decode k_removed 41 = .ok (.goto (-27), 3) := by decide +kernel
theorem d_removed_44 : decode k_removed 44 = .ok (.aload_n 0, 1) := by decide +kernel
theorem d_removed_45 : decode k_removed 45 = .ok (.dup, 1) := by decide +kernel
theorem d_removed_46 : decode k_removed 46 = .ok (.getfield 144, 3) := by decide +kernel
theorem d_removed_49 : decode k_removed 49 = .ok (.iconst 1, 1) := by decide +kernel
theorem d_removed_50 : decode k_removed 50 = .ok (.isub, 1) := by decide +kernel
theorem d_removed_51 : decode k_removed 51 = .ok (.putfield 144, 3) := by decide +kernel
theorem d_removed_54 : decode k_removed 54 = .ok (.return_, 1) := by decide +kernel
def F_removed_14 (rec14 : Int32 → RS → Option (RS)) (v2 : Int32) (ρ : RS) : Option (RS) :=
  bd (ρ.1 0 10) fun x1 => if x1 ≤ (v2 + (1 : Int32)) then
  (bd (ρ.1 0 10) fun x2 => bd (si ρ 0 10 (x2 - (1 : Int32))) fun r3 => some r3)
 else
  (gd (inb (v2 + (1 : Int32)) 512) <| bd (ρ.1 5 (v2 + (1 : Int32)).toNatClampNeg) fun x4 => gd (inb v2 512) <| bd (si ρ 5 v2.toNatClampNeg x4) fun r5 => bd (v2 + (1 : Int32)) fun x6 => rec14 x6 r5)
def m_removed (v1 : Int32) (ρ : RS) : Option (RS) :=
  gd (inb v1 512) <| bd (ρ.1 5 v1.toNatClampNeg) fun x1 => gd (inb x1 513) <| bd (si ρ 6 x1.toNatClampNeg (vp_nar .boolean (0 : Int32))) fun r2 => lq2 (F_removed_14) fuel v1 r2
def P_removed_14 (p : Program) (l : Launch) (e : Env) (s : State) (m : MethodId) (args : Array Value) (below : List Frame) (meth : Method) (c : Code) (D : va_G) (tc : Nat → ClassId) (o : Nat) (v2 : Int32) (ρ : RS) (B : RS) : Prop := ∀ (ls : Array Slot) (H : Heap) (locs : List Loc), lv_has ls 3 [(0, .ref o), (2, .int v2)] → RWS D tc o s ρ H locs → W p l e { frames := 0, cells := 0, slots := 0, locals := 0 } s m args below meth c H locs 0 0 (MQ below (RQ D tc o none B) args s 0 0 (rreg o)) (F0 m 14 ls [])
section
variable {p : Program} {l : Launch} {e : Env} {s : State} {m : MethodId} {args : Array Value} {below : List Frame} {meth : Method} {c : Code} {D : va_G} {tc : Nat → ClassId} {o : Nat}
theorem tF_removed_14 (S : RC p m c k_removed 3 s args cn_M meth none D tc) : ∀ (rec14 : Int32 → RS → Option (RS)), (∀ (v2 : Int32) (ρ : RS) (B : RS), rec14 v2 ρ = some B → P_removed_14 p l e s m args below meth c D tc o v2 ρ B) → ∀ (v2 : Int32) (ρ : RS) (B : RS), F_removed_14 rec14 v2 ρ = some B → P_removed_14 p l e s m args below meth c D tc o v2 ρ B := by
  intro rec14 hrec14 v2 ρ B h ls H locs hl hW
  have hx := S.1.1
  have hb := S.1.2.1
  unfold F_removed_14 at h
  refine lv_iload_n hx hb d_removed_14 rfl (lv_at hl 1 rfl) ?_
  refine lv_iconst (v := 1) hx hb d_removed_15 (by decide) ?_
  refine lv_iadd hx hb d_removed_16 ?_
  refine lv_aload_n hx hb d_removed_17 rfl (lv_at hl 0 rfl) ?_
  refine rm_geti S hW 10 wd_1262 (by decide) d_removed_18 h (fun x1 h => ?_)
  refine rc_ge (tgt := 44) hx hb d_removed_21 (by decide) h (fun h => ?_) (fun h => ?_)
  · refine lv_aload_n hx hb d_removed_44 rfl (lv_at hl 0 rfl) ?_
    refine lv_dup hx hb d_removed_45 rfl ?_
    refine rm_geti S hW 10 wd_1262 (by decide) d_removed_46 h (fun x2 h => ?_)
    refine lv_iconst (v := 1) hx hb d_removed_49 (by decide) ?_
    refine lv_isub hx hb d_removed_50 ?_
    refine rm_puti S hW 10 wd_1262 (by decide) d_removed_51 h (fun r3 H locs h hW => ?_)
    exact rm_vret S hW d_removed_54 h
  · refine lv_aload_n hx hb d_removed_24 rfl (lv_at hl 0 rfl) ?_
    refine rm_geta S hW 9 5 wd_1261 (by decide) d_removed_25 ?_
    refine lv_iload_n hx hb d_removed_28 rfl (lv_at hl 1 rfl) ?_
    refine lv_aload_n hx hb d_removed_29 rfl (lv_at hl 0 rfl) ?_
    refine rm_geta S hW 9 5 wd_1261 (by decide) d_removed_30 ?_
    refine lv_iload_n hx hb d_removed_33 rfl (lv_at hl 1 rfl) ?_
    refine lv_iconst (v := 1) hx hb d_removed_34 (by decide) ?_
    refine lv_iadd hx hb d_removed_35 ?_
    refine rm_iald S hW 5 512 (by decide) d_removed_36 h (fun x4 h => ?_)
    refine rm_iast S hW 5 512 (by decide) d_removed_37 h (fun r5 H locs h hW => ?_)
    refine rv_iinc (k := 1) (v := 1) (lv' := fun x6 => [(2, .int x6), (0, .ref o)]) hx hb d_removed_38 hl rfl (by decide) (by decide) (fun _ => rfl) h (fun x6 ls h hl => ?_)
    refine lv_goto (tgt := 14) hx hb d_removed_41 (by decide) ?_
    exact hrec14 x6 r5 _ h _ _ _ (lv_sub hl [1, 0] rfl) hW
theorem t_removed_14 (S : RC p m c k_removed 3 s args cn_M meth none D tc) : ∀ (n : Nat) (v2 : Int32) (ρ : RS) (B : RS), lq2 (F_removed_14) n v2 ρ = some B → P_removed_14 p l e s m args below meth c D tc o v2 ρ B := lq2_s (tF_removed_14 S)
theorem t_removed_0 (S : RC p m c k_removed 3 s args cn_M meth none D tc) (v1 : Int32) (ρ : RS) {B : RS} (h : m_removed v1 ρ = some B) {ls : Array Slot} {H : Heap} {locs : List Loc} (hl : lv_has ls 3 [(0, .ref o), (1, .int v1)]) (hW : RWS D tc o s ρ H locs) : W p l e { frames := 0, cells := 0, slots := 0, locals := 0 } s m args below meth c H locs 0 0 (MQ below (RQ D tc o none B) args s 0 0 (rreg o)) (F0 m 0 ls []) := by
  have hx := S.1.1
  have hb := S.1.2.1
  unfold m_removed at h
  refine lv_aload_n hx hb d_removed_0 rfl (lv_at hl 0 rfl) ?_
  refine rm_geta S hW 11 6 wd_1263 (by decide) d_removed_1 ?_
  refine lv_aload_n hx hb d_removed_4 rfl (lv_at hl 0 rfl) ?_
  refine rm_geta S hW 9 5 wd_1261 (by decide) d_removed_5 ?_
  refine lv_iload_n hx hb d_removed_8 rfl (lv_at hl 1 rfl) ?_
  refine rm_iald S hW 5 512 (by decide) d_removed_9 h (fun x1 h => ?_)
  refine lv_iconst (v := 0) hx hb d_removed_10 (by decide) ?_
  refine rm_zast S hW 6 513 (by decide) d_removed_11 h (fun r2 H locs h hW => ?_)
  refine lv_iload_n hx hb d_removed_12 rfl (lv_at hl 1 rfl) ?_
  refine lv_istore_n (lv' := [(2, .int v1), (0, .ref o), (1, .int v1)]) hx hb d_removed_13 rfl hl (by decide) rfl (fun ls hl => ?_)
  exact t_removed_14 S fuel v1 r2 _ h _ _ _ (lv_sub hl [1, 0] rfl) hW
theorem c_removed (v1 : Int32) (ρ : RS) {B : RS} (h : m_removed v1 ρ = some B) : RMet l D tc o y_removed k_removed 3 none 0 0 [.ref o, .int v1] ρ none B := rm_met (by decide) (Nat.le_of_ble_eq_true rfl) fun p e s m args below meth c S hW ls hl => t_removed_0 S v1 ρ h hl hW
end

/-! here (II)I -/
abbrev k_here : ByteArray := prog_12_method_8_code
abbrev y_here : MethodName := ⟨cn_M, "here", "(II)I"⟩
theorem q_here : Calee y_here k_here 3 (some .int) 2 := ⟨wd_1493, wd_90, by decide, by decide +kernel⟩
theorem d_here_0 : decode k_here 0 = .ok (.aload_n 0, 1) := by decide +kernel
theorem d_here_1 : decode k_here 1 = .ok (.getfield 15, 3) := by decide +kernel
theorem d_here_4 : decode k_here 4 = .ok (.sipush 1484, 3) := by decide +kernel
theorem d_here_7 : decode k_here 7 = .ok (.iload_n 1, 1) := by decide +kernel
theorem d_here_8 : decode k_here 8 = .ok (.imul, 1) := by decide +kernel
theorem d_here_9 : decode k_here 9 = .ok (.iload_n 2, 1) := by decide +kernel
theorem d_here_10 : decode k_here 10 = .ok (.iadd, 1) := by decide +kernel
theorem d_here_11 : decode k_here 11 = .ok (.baload, 1) := by decide +kernel
theorem d_here_12 : decode k_here 12 = .ok (.sipush 255, 3) := by decide +kernel
theorem d_here_15 : decode k_here 15 = .ok (.iand, 1) := by decide +kernel
theorem d_here_16 : decode k_here 16 = .ok (.ireturn, 1) := by decide +kernel
def m_here (v1 : Int32) (v2 : Int32) (ρ : RS) : Option (Int32 × RS) :=
  gd (inb (((1484 : Int32) * v1) + v2) 761292) <| bd (ρ.1 2 (((1484 : Int32) * v1) + v2).toNatClampNeg) fun x1 => some (x1 &&& (255 : Int32), ρ)
section
variable {p : Program} {l : Launch} {e : Env} {s : State} {m : MethodId} {args : Array Value} {below : List Frame} {meth : Method} {c : Code} {D : va_G} {tc : Nat → ClassId} {o : Nat}
theorem t_here_0 (S : RC p m c k_here 3 s args cn_M meth (some .int) D tc) (v1 : Int32) (v2 : Int32) (ρ : RS) {B : Int32 × RS} (h : m_here v1 v2 ρ = some B) {ls : Array Slot} {H : Heap} {locs : List Loc} (hl : lv_has ls 3 [(0, .ref o), (1, .int v1), (2, .int v2)]) (hW : RWS D tc o s ρ H locs) : W p l e { frames := 0, cells := 0, slots := 0, locals := 0 } s m args below meth c H locs 0 0 (MQ below (RQ D tc o (some (.int B.1)) B.2) args s 0 0 (rreg o)) (F0 m 0 ls []) := by
  have hx := S.1.1
  have hb := S.1.2.1
  unfold m_here at h
  refine lv_aload_n hx hb d_here_0 rfl (lv_at hl 0 rfl) ?_
  refine rm_geta S hW 6 2 wd_1258 (by decide) d_here_1 ?_
  refine lv_sipush (v := 1484) hx hb d_here_4 (by decide) ?_
  refine lv_iload_n hx hb d_here_7 rfl (lv_at hl 1 rfl) ?_
  refine lv_imul hx hb d_here_8 ?_
  refine lv_iload_n hx hb d_here_9 rfl (lv_at hl 2 rfl) ?_
  refine lv_iadd hx hb d_here_10 ?_
  refine rm_bald S hW 2 761292 (by decide) d_here_11 h (fun x1 h => ?_)
  refine lv_sipush (v := 255) hx hb d_here_12 (by decide) ?_
  refine lv_iand hx hb d_here_15 ?_
  exact rm_iret S hW d_here_16 h
theorem c_here (v1 : Int32) (v2 : Int32) (ρ : RS) {x : Int32} {ρ' : RS} (h : m_here v1 v2 ρ = some (x, ρ')) : RMet l D tc o y_here k_here 3 (some .int) 0 0 [.ref o, .int v1, .int v2] ρ (some (.int x)) ρ' := rm_met (by decide) (Nat.le_of_ble_eq_true rfl) fun p e s m args below meth c S hW ls hl => t_here_0 S v1 v2 ρ h hl hW
end

/-! two (II)I -/
abbrev k_two : ByteArray := prog_12_method_9_code
abbrev y_two : MethodName := ⟨cn_M, "two", "(II)I"⟩
theorem q_two : Calee y_two k_two 3 (some .int) 2 := ⟨wd_1580, wd_90, by decide, by decide +kernel⟩
theorem d_two_0 : decode k_two 0 = .ok (.aload_n 0, 1) := by decide +kernel
theorem d_two_1 : decode k_two 1 = .ok (.iload_n 1, 1) := by decide +kernel
theorem d_two_2 : decode k_two 2 = .ok (.iload_n 2, 1) := by decide +kernel
theorem d_two_3 : decode k_two 3 = .ok (.invokevirtual 154, 3) := by decide +kernel
theorem d_two_6 : decode k_two 6 = .ok (.bipush 8, 2) := by decide +kernel
theorem d_two_8 : decode k_two 8 = .ok (.ishl, 1) := by decide +kernel
theorem d_two_9 : decode k_two 9 = .ok (.aload_n 0, 1) := by decide +kernel
theorem d_two_10 : decode k_two 10 = .ok (.iload_n 1, 1) := by decide +kernel
theorem d_two_11 : decode k_two 11 = .ok (.iload_n 2, 1) := by decide +kernel
theorem d_two_12 : decode k_two 12 = .ok (.iconst 1, 1) := by decide +kernel
theorem d_two_13 : decode k_two 13 = .ok (.iadd, 1) := by decide +kernel
theorem d_two_14 : decode k_two 14 = .ok (.invokevirtual 154, 3) := by decide +kernel
theorem d_two_17 : decode k_two 17 = .ok (.ior, 1) := by decide +kernel
theorem d_two_18 : decode k_two 18 = .ok (.ireturn, 1) := by decide +kernel
def m_two (v1 : Int32) (v2 : Int32) (ρ : RS) : Option (Int32 × RS) :=
  bc2 (m_here v1 v2 ρ) fun x2 r1 => bc2 (m_here v1 (v2 + (1 : Int32)) r1) fun x4 r3 => some ((x2 <<< ((8 : Int32) &&& 31)) ||| x4, r3)
section
variable {p : Program} {l : Launch} {e : Env} {s : State} {m : MethodId} {args : Array Value} {below : List Frame} {meth : Method} {c : Code} {D : va_G} {tc : Nat → ClassId} {o : Nat}
theorem t_two_0 (S : RC p m c k_two 3 s args cn_M meth (some .int) D tc) (v1 : Int32) (v2 : Int32) (ρ : RS) {B : Int32 × RS} (h : m_two v1 v2 ρ = some B) {ls : Array Slot} {H : Heap} {locs : List Loc} (hl : lv_has ls 3 [(0, .ref o), (1, .int v1), (2, .int v2)]) (hW : RWS D tc o s ρ H locs) : W p l e { frames := 1, cells := 0, slots := 0, locals := 22 } s m args below meth c H locs 0 0 (MQ below (RQ D tc o (some (.int B.1)) B.2) args s 0 0 (rreg o)) (F0 m 0 ls []) := by
  have hx := S.1.1
  have hb := S.1.2.1
  unfold m_two at h
  refine lv_aload_n hx hb d_two_0 rfl (lv_at hl 0 rfl) ?_
  refine lv_iload_n hx hb d_two_1 rfl (lv_at hl 1 rfl) ?_
  refine lv_iload_n hx hb d_two_2 rfl (lv_at hl 2 rfl) ?_
  refine rm_cVi [.int v1, .int v2] S hW (fun x ρ' hc => c_here v1 v2 ρ hc) q_here wd_1492 wd_46 wd_1490 (by decide) hl.1 rfl rfl (Nat.le_of_ble_eq_true rfl) d_two_3 h (fun x2 r1 H locs h hW => ?_)
  refine lv_bipush (v := 8) hx hb d_two_6 (by decide) ?_
  refine lv_ishl hx hb d_two_8 ?_
  refine lv_aload_n hx hb d_two_9 rfl (lv_at hl 0 rfl) ?_
  refine lv_iload_n hx hb d_two_10 rfl (lv_at hl 1 rfl) ?_
  refine lv_iload_n hx hb d_two_11 rfl (lv_at hl 2 rfl) ?_
  refine lv_iconst (v := 1) hx hb d_two_12 (by decide) ?_
  refine lv_iadd hx hb d_two_13 ?_
  refine rm_cVi [.int v1, .int (v2 + (1 : Int32))] S hW (fun x ρ' hc => c_here v1 (v2 + (1 : Int32)) r1 hc) q_here wd_1492 wd_46 wd_1490 (by decide) hl.1 rfl rfl (Nat.le_of_ble_eq_true rfl) d_two_14 h (fun x4 r3 H locs h hW => ?_)
  refine lv_ior hx hb d_two_17 ?_
  exact rm_iret S hW d_two_18 h
theorem c_two (v1 : Int32) (v2 : Int32) (ρ : RS) {x : Int32} {ρ' : RS} (h : m_two v1 v2 ρ = some (x, ρ')) : RMet l D tc o y_two k_two 3 (some .int) 1 22 [.ref o, .int v1, .int v2] ρ (some (.int x)) ρ' := rm_met (by decide) (Nat.le_of_ble_eq_true rfl) fun p e s m args below meth c S hW ls hl => t_two_0 S v1 v2 ρ h hl hW
end

/-! four (II)I -/
abbrev k_four : ByteArray := prog_12_method_10_code
abbrev y_four : MethodName := ⟨cn_M, "four", "(II)I"⟩
theorem q_four : Calee y_four k_four 3 (some .int) 2 := ⟨wd_1584, wd_90, by decide, by decide +kernel⟩
theorem d_four_0 : decode k_four 0 = .ok (.aload_n 0, 1) := by decide +kernel
theorem d_four_1 : decode k_four 1 = .ok (.iload_n 1, 1) := by decide +kernel
theorem d_four_2 : decode k_four 2 = .ok (.iload_n 2, 1) := by decide +kernel
theorem d_four_3 : decode k_four 3 = .ok (.invokevirtual 158, 3) := by decide +kernel
theorem d_four_6 : decode k_four 6 = .ok (.bipush 16, 2) := by decide +kernel
theorem d_four_8 : decode k_four 8 = .ok (.ishl, 1) := by decide +kernel
theorem d_four_9 : decode k_four 9 = .ok (.aload_n 0, 1) := by decide +kernel
theorem d_four_10 : decode k_four 10 = .ok (.iload_n 1, 1) := by decide +kernel
theorem d_four_11 : decode k_four 11 = .ok (.iload_n 2, 1) := by decide +kernel
theorem d_four_12 : decode k_four 12 = .ok (.iconst 2, 1) := by decide +kernel
theorem d_four_13 : decode k_four 13 = .ok (.iadd, 1) := by decide +kernel
theorem d_four_14 : decode k_four 14 = .ok (.invokevirtual 158, 3) := by decide +kernel
theorem d_four_17 : decode k_four 17 = .ok (.ior, 1) := by decide +kernel
theorem d_four_18 : decode k_four 18 = .ok (.ireturn, 1) := by decide +kernel
def m_four (v1 : Int32) (v2 : Int32) (ρ : RS) : Option (Int32 × RS) :=
  bc2 (m_two v1 v2 ρ) fun x2 r1 => bc2 (m_two v1 (v2 + (2 : Int32)) r1) fun x4 r3 => some ((x2 <<< ((16 : Int32) &&& 31)) ||| x4, r3)
section
variable {p : Program} {l : Launch} {e : Env} {s : State} {m : MethodId} {args : Array Value} {below : List Frame} {meth : Method} {c : Code} {D : va_G} {tc : Nat → ClassId} {o : Nat}
theorem t_four_0 (S : RC p m c k_four 3 s args cn_M meth (some .int) D tc) (v1 : Int32) (v2 : Int32) (ρ : RS) {B : Int32 × RS} (h : m_four v1 v2 ρ = some B) {ls : Array Slot} {H : Heap} {locs : List Loc} (hl : lv_has ls 3 [(0, .ref o), (1, .int v1), (2, .int v2)]) (hW : RWS D tc o s ρ H locs) : W p l e { frames := 2, cells := 0, slots := 0, locals := 44 } s m args below meth c H locs 0 0 (MQ below (RQ D tc o (some (.int B.1)) B.2) args s 0 0 (rreg o)) (F0 m 0 ls []) := by
  have hx := S.1.1
  have hb := S.1.2.1
  unfold m_four at h
  refine lv_aload_n hx hb d_four_0 rfl (lv_at hl 0 rfl) ?_
  refine lv_iload_n hx hb d_four_1 rfl (lv_at hl 1 rfl) ?_
  refine lv_iload_n hx hb d_four_2 rfl (lv_at hl 2 rfl) ?_
  refine rm_cVi [.int v1, .int v2] S hW (fun x ρ' hc => c_two v1 v2 ρ hc) q_two wd_1579 wd_59 wd_1577 (by decide) hl.1 rfl rfl (Nat.le_of_ble_eq_true rfl) d_four_3 h (fun x2 r1 H locs h hW => ?_)
  refine lv_bipush (v := 16) hx hb d_four_6 (by decide) ?_
  refine lv_ishl hx hb d_four_8 ?_
  refine lv_aload_n hx hb d_four_9 rfl (lv_at hl 0 rfl) ?_
  refine lv_iload_n hx hb d_four_10 rfl (lv_at hl 1 rfl) ?_
  refine lv_iload_n hx hb d_four_11 rfl (lv_at hl 2 rfl) ?_
  refine lv_iconst (v := 2) hx hb d_four_12 (by decide) ?_
  refine lv_iadd hx hb d_four_13 ?_
  refine rm_cVi [.int v1, .int (v2 + (2 : Int32))] S hW (fun x ρ' hc => c_two v1 (v2 + (2 : Int32)) r1 hc) q_two wd_1579 wd_59 wd_1577 (by decide) hl.1 rfl rfl (Nat.le_of_ble_eq_true rfl) d_four_14 h (fun x4 r3 H locs h hW => ?_)
  refine lv_ior hx hb d_four_17 ?_
  exact rm_iret S hW d_four_18 h
theorem c_four (v1 : Int32) (v2 : Int32) (ρ : RS) {x : Int32} {ρ' : RS} (h : m_four v1 v2 ρ = some (x, ρ')) : RMet l D tc o y_four k_four 3 (some .int) 2 44 [.ref o, .int v1, .int v2] ρ (some (.int x)) ρ' := rm_met (by decide) (Nat.le_of_ble_eq_true rfl) fun p e s m args below meth c S hW ls hl => t_four_0 S v1 v2 ρ h hl hW
end

/-! put (IIII)V -/
abbrev k_put : ByteArray := prog_12_method_11_code
abbrev y_put : MethodName := ⟨cn_M, "put", "(IIII)V"⟩
theorem q_put : Calee y_put k_put 6 none 4 := ⟨wd_1478, wd_90, by decide, by decide +kernel⟩
theorem d_put_0 : decode k_put 0 = .ok (.iconst 0, 1) := by decide +kernel
theorem d_put_1 : decode k_put 1 = .ok (.istore 5, 2) := by decide +kernel
theorem d_put_3 : decode k_put 3 = .ok (.iload 5, 2) := by decide +kernel
theorem d_put_5 : decode k_put 5 = .ok (.iload_n 3, 1) := by decide +kernel
theorem d_put_6 : decode k_put 6 = .ok (.if_icmp .ge 37, 3) := by decide +kernel
theorem d_put_9 : decode k_put 9 = .ok (.aload_n 0, 1) := by decide +kernel
theorem d_put_10 : decode k_put 10 = .ok (.getfield 15, 3) := by decide +kernel
theorem d_put_13 : decode k_put 13 = .ok (.sipush 1484, 3) := by decide +kernel
theorem d_put_16 : decode k_put 16 = .ok (.iload_n 1, 1) := by decide +kernel
theorem d_put_17 : decode k_put 17 = .ok (.imul, 1) := by decide +kernel
theorem d_put_18 : decode k_put 18 = .ok (.iload_n 2, 1) := by decide +kernel
theorem d_put_19 : decode k_put 19 = .ok (.iadd, 1) := by decide +kernel
theorem d_put_20 : decode k_put 20 = .ok (.iload 5, 2) := by decide +kernel
theorem d_put_22 : decode k_put 22 = .ok (.iadd, 1) := by decide +kernel
theorem d_put_23 : decode k_put 23 = .ok (.iload 4, 2) := by decide +kernel
theorem d_put_25 : decode k_put 25 = .ok (.bipush 8, 2) := by decide +kernel
theorem d_put_27 : decode k_put 27 = .ok (.iload_n 3, 1) := by decide +kernel
theorem d_put_28 : decode k_put 28 = .ok (.iconst 1, 1) := by decide +kernel
theorem d_put_29 : decode k_put 29 = .ok (.isub, 1) := by decide +kernel
theorem d_put_30 : decode k_put 30 = .ok (.iload 5, 2) := by decide +kernel
theorem d_put_32 : decode k_put 32 = .ok (.isub, 1) := by decide +kernel
theorem d_put_33 : decode k_put 33 = .ok (.imul, 1) := by decide +kernel
theorem d_put_34 : decode k_put 34 = .ok (.ishr, 1) := by decide +kernel
theorem d_put_35 : decode k_put 35 = .ok (.i2b, 1) := by decide +kernel
theorem d_put_36 : decode k_put 36 = .ok (.bastore, 1) := by decide +kernel
theorem d_put_37 : decode k_put 37 = .ok (.iinc 5 1, 3) := by decide +kernel
theorem d_put_40 : decode k_put 40 = .ok (.goto (-37), 3) := by decide +kernel
theorem d_put_43 : decode k_put 43 = .ok (.return_, 1) := by decide +kernel
def F_put_3 (rec3 : Int32 → Int32 → Int32 → Int32 → Int32 → RS → Option (RS)) (v1 : Int32) (v2 : Int32) (v3 : Int32) (v4 : Int32) (v5 : Int32) (ρ : RS) : Option (RS) :=
  if v3 ≤ v5 then
  (some ρ)
 else
  (gd (inb ((((1484 : Int32) * v1) + v2) + v5) 761292) <| bd (si ρ 2 ((((1484 : Int32) * v1) + v2) + v5).toNatClampNeg (vp_nar .byte ((v4 >>> (((8 : Int32) * ((v3 - (1 : Int32)) - v5)) &&& 31)).toInt8.toInt32))) fun r1 => bd (v5 + (1 : Int32)) fun x2 => rec3 v1 v2 v3 v4 x2 r1)
def m_put (v1 : Int32) (v2 : Int32) (v3 : Int32) (v4 : Int32) (ρ : RS) : Option (RS) :=
  lq6 (F_put_3) fuel v1 v2 v3 v4 (0 : Int32) ρ
def P_put_3 (p : Program) (l : Launch) (e : Env) (s : State) (m : MethodId) (args : Array Value) (below : List Frame) (meth : Method) (c : Code) (D : va_G) (tc : Nat → ClassId) (o : Nat) (v1 : Int32) (v2 : Int32) (v3 : Int32) (v4 : Int32) (v5 : Int32) (ρ : RS) (B : RS) : Prop := ∀ (ls : Array Slot) (H : Heap) (locs : List Loc), lv_has ls 6 [(0, .ref o), (1, .int v1), (2, .int v2), (3, .int v3), (4, .int v4), (5, .int v5)] → RWS D tc o s ρ H locs → W p l e { frames := 0, cells := 0, slots := 0, locals := 0 } s m args below meth c H locs 0 0 (MQ below (RQ D tc o none B) args s 0 0 (rreg o)) (F0 m 3 ls [])
section
variable {p : Program} {l : Launch} {e : Env} {s : State} {m : MethodId} {args : Array Value} {below : List Frame} {meth : Method} {c : Code} {D : va_G} {tc : Nat → ClassId} {o : Nat}
theorem tF_put_3 (S : RC p m c k_put 6 s args cn_M meth none D tc) : ∀ (rec3 : Int32 → Int32 → Int32 → Int32 → Int32 → RS → Option (RS)), (∀ (v1 : Int32) (v2 : Int32) (v3 : Int32) (v4 : Int32) (v5 : Int32) (ρ : RS) (B : RS), rec3 v1 v2 v3 v4 v5 ρ = some B → P_put_3 p l e s m args below meth c D tc o v1 v2 v3 v4 v5 ρ B) → ∀ (v1 : Int32) (v2 : Int32) (v3 : Int32) (v4 : Int32) (v5 : Int32) (ρ : RS) (B : RS), F_put_3 rec3 v1 v2 v3 v4 v5 ρ = some B → P_put_3 p l e s m args below meth c D tc o v1 v2 v3 v4 v5 ρ B := by
  intro rec3 hrec3 v1 v2 v3 v4 v5 ρ B h ls H locs hl hW
  have hx := S.1.1
  have hb := S.1.2.1
  unfold F_put_3 at h
  refine lv_iload hx hb d_put_3 (lv_at hl 5 rfl) ?_
  refine lv_iload_n hx hb d_put_5 rfl (lv_at hl 3 rfl) ?_
  refine rc_ge (tgt := 43) hx hb d_put_6 (by decide) h (fun h => ?_) (fun h => ?_)
  · exact rm_vret S hW d_put_43 h
  · refine lv_aload_n hx hb d_put_9 rfl (lv_at hl 0 rfl) ?_
    refine rm_geta S hW 6 2 wd_1258 (by decide) d_put_10 ?_
    refine lv_sipush (v := 1484) hx hb d_put_13 (by decide) ?_
    refine lv_iload_n hx hb d_put_16 rfl (lv_at hl 1 rfl) ?_
    refine lv_imul hx hb d_put_17 ?_
    refine lv_iload_n hx hb d_put_18 rfl (lv_at hl 2 rfl) ?_
    refine lv_iadd hx hb d_put_19 ?_
    refine lv_iload hx hb d_put_20 (lv_at hl 5 rfl) ?_
    refine lv_iadd hx hb d_put_22 ?_
    refine lv_iload hx hb d_put_23 (lv_at hl 4 rfl) ?_
    refine lv_bipush (v := 8) hx hb d_put_25 (by decide) ?_
    refine lv_iload_n hx hb d_put_27 rfl (lv_at hl 3 rfl) ?_
    refine lv_iconst (v := 1) hx hb d_put_28 (by decide) ?_
    refine lv_isub hx hb d_put_29 ?_
    refine lv_iload hx hb d_put_30 (lv_at hl 5 rfl) ?_
    refine lv_isub hx hb d_put_32 ?_
    refine lv_imul hx hb d_put_33 ?_
    refine lv_ishr hx hb d_put_34 ?_
    refine lv_i2b hx hb d_put_35 rfl ?_
    refine rm_bast S hW 2 761292 (by decide) d_put_36 h (fun r1 H locs h hW => ?_)
    refine rv_iinc (k := 5) (v := 1) (lv' := fun x2 => [(5, .int x2), (0, .ref o), (1, .int v1), (2, .int v2), (3, .int v3), (4, .int v4)]) hx hb d_put_37 hl rfl (by decide) (by decide) (fun _ => rfl) h (fun x2 ls h hl => ?_)
    refine lv_goto (tgt := 3) hx hb d_put_40 (by decide) ?_
    exact hrec3 v1 v2 v3 v4 x2 r1 _ h _ _ _ (lv_sub hl [1, 2, 3, 4, 5, 0] rfl) hW
theorem t_put_3 (S : RC p m c k_put 6 s args cn_M meth none D tc) : ∀ (n : Nat) (v1 : Int32) (v2 : Int32) (v3 : Int32) (v4 : Int32) (v5 : Int32) (ρ : RS) (B : RS), lq6 (F_put_3) n v1 v2 v3 v4 v5 ρ = some B → P_put_3 p l e s m args below meth c D tc o v1 v2 v3 v4 v5 ρ B := lq6_s (tF_put_3 S)
theorem t_put_0 (S : RC p m c k_put 6 s args cn_M meth none D tc) (v1 : Int32) (v2 : Int32) (v3 : Int32) (v4 : Int32) (ρ : RS) {B : RS} (h : m_put v1 v2 v3 v4 ρ = some B) {ls : Array Slot} {H : Heap} {locs : List Loc} (hl : lv_has ls 6 [(0, .ref o), (1, .int v1), (2, .int v2), (3, .int v3), (4, .int v4)]) (hW : RWS D tc o s ρ H locs) : W p l e { frames := 0, cells := 0, slots := 0, locals := 0 } s m args below meth c H locs 0 0 (MQ below (RQ D tc o none B) args s 0 0 (rreg o)) (F0 m 0 ls []) := by
  have hx := S.1.1
  have hb := S.1.2.1
  unfold m_put at h
  refine lv_iconst (v := 0) hx hb d_put_0 (by decide) ?_
  refine lv_istore (lv' := [(5, .int (0 : Int32)), (0, .ref o), (1, .int v1), (2, .int v2), (3, .int v3), (4, .int v4)]) hx hb d_put_1 hl (by decide) rfl (fun ls hl => ?_)
  exact t_put_3 S fuel v1 v2 v3 v4 (0 : Int32) ρ _ h _ _ _ (lv_sub hl [1, 2, 3, 4, 5, 0] rfl) hW
theorem c_put (v1 : Int32) (v2 : Int32) (v3 : Int32) (v4 : Int32) (ρ : RS) {B : RS} (h : m_put v1 v2 v3 v4 ρ = some B) : RMet l D tc o y_put k_put 6 none 0 0 [.ref o, .int v1, .int v2, .int v3, .int v4] ρ none B := rm_met (by decide) (Nat.le_of_ble_eq_true rfl) fun p e s m args below meth c S hW ls hl => t_put_0 S v1 v2 v3 v4 ρ h hl hW
end

/-! checksum (I)I -/
abbrev k_checksum : ByteArray := prog_12_method_12_code
abbrev y_checksum : MethodName := ⟨cn_M, "checksum", "(I)I"⟩
theorem q_checksum : Calee y_checksum k_checksum 6 (some .int) 1 := ⟨wd_1487, wd_90, by decide, by decide +kernel⟩
theorem d_checksum_0 : decode k_checksum 0 = .ok (.iconst 1, 1) := by decide +kernel
theorem d_checksum_1 : decode k_checksum 1 = .ok (.aload_n 0, 1) := by decide +kernel
theorem d_checksum_2 : decode k_checksum 2 = .ok (.getfield 22, 3) := by decide +kernel
theorem d_checksum_5 : decode k_checksum 5 = .ok (.iload_n 1, 1) := by decide +kernel
theorem d_checksum_6 : decode k_checksum 6 = .ok (.iaload, 1) := by decide +kernel
theorem d_checksum_7 : decode k_checksum 7 = .ok (.isub, 1) := by decide +kernel
theorem d_checksum_8 : decode k_checksum 8 = .ok (.istore_n 2, 1) := by decide +kernel
theorem d_checksum_9 : decode k_checksum 9 = .ok (.ldc2_w 161, 3) := by decide +kernel
theorem d_checksum_12 : decode k_checksum 12 = .ok (.iload_n 2, 1) := by decide +kernel
theorem d_checksum_13 : decode k_checksum 13 = .ok (.iconst 1, 1) := by decide +kernel
theorem d_checksum_14 : decode k_checksum 14 = .ok (.iadd, 1) := by decide +kernel
theorem d_checksum_15 : decode k_checksum 15 = .ok (.i2l, 1) := by decide +kernel
theorem d_checksum_16 : decode k_checksum 16 = .ok (.ladd, 1) := by decide +kernel
theorem d_checksum_17 : decode k_checksum 17 = .ok (.ldc2_w 161, 3) := by decide +kernel
theorem d_checksum_20 : decode k_checksum 20 = .ok (.ladd, 1) := by decide +kernel
theorem d_checksum_21 : decode k_checksum 21 = .ok (.aload_n 0, 1) := by decide +kernel
theorem d_checksum_22 : decode k_checksum 22 = .ok (.getfield 22, 3) := by decide +kernel
theorem d_checksum_25 : decode k_checksum 25 = .ok (.iload_n 1, 1) := by decide +kernel
theorem d_checksum_26 : decode k_checksum 26 = .ok (.iaload, 1) := by decide +kernel
theorem d_checksum_27 : decode k_checksum 27 = .ok (.iconst 1, 1) := by decide +kernel
theorem d_checksum_28 : decode k_checksum 28 = .ok (.iadd, 1) := by decide +kernel
theorem d_checksum_29 : decode k_checksum 29 = .ok (.i2l, 1) := by decide +kernel
theorem d_checksum_30 : decode k_checksum 30 = .ok (.ladd, 1) := by decide +kernel
theorem d_checksum_31 : decode k_checksum 31 = .ok (.ldc2_w 163, 3) := by decide +kernel
theorem d_checksum_34 : decode k_checksum 34 = .ok (.ladd, 1) := by decide +kernel
theorem d_checksum_35 : decode k_checksum 35 = .ok (.aload_n 0, 1) := by decide +kernel
theorem d_checksum_36 : decode k_checksum 36 = .ok (.getfield 18, 3) := by decide +kernel
theorem d_checksum_39 : decode k_checksum 39 = .ok (.iload_n 1, 1) := by decide +kernel
theorem d_checksum_40 : decode k_checksum 40 = .ok (.iaload, 1) := by decide +kernel
theorem d_checksum_41 : decode k_checksum 41 = .ok (.i2l, 1) := by decide +kernel
theorem d_checksum_42 : decode k_checksum 42 = .ok (.ladd, 1) := by decide +kernel
theorem d_checksum_43 : decode k_checksum 43 = .ok (.lstore_n 3, 1) := by decide +kernel
theorem d_checksum_44 : decode k_checksum 44 = .ok (.iconst 0, 1) := by decide +kernel
theorem d_checksum_45 : decode k_checksum 45 = .ok (.istore 5, 2) := by decide +kernel
theorem d_checksum_47 : decode k_checksum 47 = .ok (.iload 5, 2) := by decide +kernel
theorem d_checksum_49 : decode k_checksum 49 = .ok (.aload_n 0, 1) := by decide +kernel
theorem d_checksum_50 : decode k_checksum 50 = .ok (.getfield 18, 3) := by decide +kernel
theorem d_checksum_53 : decode k_checksum 53 = .ok (.iload_n 1, 1) := by decide +kernel
theorem d_checksum_54 : decode k_checksum 54 = .ok (.iaload, 1) := by decide +kernel
theorem d_checksum_55 : decode k_checksum 55 = .ok (.if_icmp .ge 55, 3) := by decide +kernel
theorem d_checksum_58 : decode k_checksum 58 = .ok (.iload 5, 2) := by decide +kernel
theorem d_checksum_60 : decode k_checksum 60 = .ok (.bipush 16, 2) := by decide +kernel
theorem d_checksum_62 : decode k_checksum 62 = .ok (.if_icmp .eq 42, 3) := by decide +kernel
theorem d_checksum_65 : decode k_checksum 65 = .ok (.iload 5, 2) := by decide +kernel
theorem d_checksum_67 : decode k_checksum 67 = .ok (.bipush 17, 2) := by decide +kernel
theorem d_checksum_69 : decode k_checksum 69 = .ok (.if_icmp .eq 35, 3) := by decide +kernel
theorem d_checksum_72 : decode k_checksum 72 = .ok (.lload_n 3, 1) := by decide +kernel
theorem d_checksum_73 : decode k_checksum 73 = .ok (.iload 5, 2) := by decide +kernel
theorem d_checksum_75 : decode k_checksum 75 = .ok (.iconst 2, 1) := by decide +kernel
theorem d_checksum_76 : decode k_checksum 76 = .ok (.irem, 1) := by decide +kernel
theorem d_checksum_77 : decode k_checksum 77 = .ok (.ifCond .ne 17, 3) := by decide +kernel
theorem d_checksum_80 : decode k_checksum 80 = .ok (.aload_n 0, 1) := by decide +kernel
theorem d_checksum_81 : decode k_checksum 81 = .ok (.iload_n 1, 1) := by decide +kernel
theorem d_checksum_82 : decode k_checksum 82 = .ok (.iload 5, 2) := by decide +kernel
theorem d_checksum_84 : decode k_checksum 84 = .ok (.invokevirtual 154, 3) := by decide +kernel
theorem d_checksum_87 : decode k_checksum 87 = .ok (.bipush 8, 2) := by decide +kernel
theorem d_checksum_89 : decode k_checksum 89 = .ok (.ishl, 1) := by decide +kernel
theorem d_checksum_90 : decode k_checksum 90 = .ok (.i2l, 1) := by decide +kernel
theorem d_checksum_91 : decode k_checksum 91 = .ok (.goto 11, 3) := by decide +kernel
theorem d_checksum_94 : decode k_checksum 94 = .ok (.aload_n 0, 1) := by decide +kernel
theorem d_checksum_95 : decode k_checksum 95 = .ok (.iload_n 1, 1) := by decide +kernel
theorem d_checksum_96 : decode k_checksum 96 = .ok (.iload 5, 2) := by decide +kernel
theorem d_checksum_98 : decode k_checksum 98 = .ok (.invokevirtual 154, 3) := by decide +kernel
theorem d_checksum_101 : decode k_checksum 101 = .ok (.i2l, 1) := by decide +kernel
theorem d_checksum_102 : decode k_checksum 102 = .ok (.ladd, 1) := by decide +kernel
theorem d_checksum_103 : decode k_checksum 103 = .ok (.lstore_n 3, 1) := by decide +kernel
theorem d_checksum_104 : decode k_checksum 104 = .ok (.iinc 5 1, 3) := by decide +kernel
theorem d_checksum_107 : decode k_checksum 107 = .ok (.goto (-60), 3) := by decide +kernel
theorem d_checksum_110 : decode k_checksum 110 = .ok (.lload_n 3, 1) := by decide +kernel
theorem d_checksum_111 : decode k_checksum 111 = .ok (.ldc2_w 165, 3) := by decide +kernel
theorem d_checksum_114 : decode k_checksum 114 = .ok (.lcmp, 1) := by decide +kernel
theorem d_checksum_115 : decode k_checksum 115 = .ok (.ifCond .le 17, 3) := by decide +kernel
theorem d_checksum_118 : decode k_checksum 118 = .ok (.lload_n 3, 1) := by decide +kernel
theorem d_checksum_119 : decode k_checksum 119 = .ok (.ldc2_w 165, 3) := by decide +kernel
theorem d_checksum_122 : decode k_checksum 122 = .ok (.land, 1) := by decide +kernel
theorem d_checksum_123 : decode k_checksum 123 = .ok (.lload_n 3, 1) := by decide +kernel
theorem d_checksum_124 : decode k_checksum 124 = .ok (.bipush 16, 2) := by decide +kernel
theorem d_checksum_126 : decode k_checksum 126 = .ok (.lshr, 1) := by decide +kernel
theorem d_checksum_127 : decode k_checksum 127 = .ok (.ladd, 1) := by decide +kernel
theorem d_checksum_128 : decode k_checksum 128 = .ok (.lstore_n 3, 1) := by decide +kernel
theorem d_checksum_129 : decode k_checksum 129 = .ok (.goto (-19), 3) := by decide +kernel
theorem d_checksum_132 : decode k_checksum 132 = .ok (.lload_n 3, 1) := by decide +kernel
theorem d_checksum_133 : decode k_checksum 133 = .ok (.l2i, 1) := by decide +kernel
theorem d_checksum_134 : decode k_checksum 134 = .ok (.ldc 32, 2) := by decide +kernel
theorem d_checksum_136 : decode k_checksum 136 = .ok (.ixor, 1) := by decide +kernel
theorem d_checksum_137 : decode k_checksum 137 = .ok (.ireturn, 1) := by decide +kernel
def F_checksum_110 (rec110 : Int64 → RS → Option (Int32 × RS)) (v3 : Int64) (ρ : RS) : Option (Int32 × RS) :=
  if (lg_cmp v3 (65535 : Int64)) ≤ 0 then
  (some ((v3.toInt32) ^^^ (65535 : Int32), ρ))
 else
  (bd ((v3 &&& (65535 : Int64)) + (v3 >>> ((16 : Int32).toInt64 &&& 63))) fun x1 => rec110 x1 ρ)
def b_checksum_104 (rec47 : Int32 → Int64 → Int32 → RS → Option (Int32 × RS)) (v1 : Int32) (v3 : Int64) (v5 : Int32) (ρ : RS) : Option (Int32 × RS) :=
  bd (v5 + (1 : Int32)) fun x1 => rec47 v1 v3 x1 ρ
def b_checksum_102 (rec47 : Int32 → Int64 → Int32 → RS → Option (Int32 × RS)) (v1 : Int32) (v5 : Int32) (w0 : Int64) (w1 : Int64) (ρ : RS) : Option (Int32 × RS) :=
  bd (w0 + w1) fun x1 => b_checksum_104 rec47 v1 x1 v5 ρ
def F_checksum_47 (rec47 : Int32 → Int64 → Int32 → RS → Option (Int32 × RS)) (v1 : Int32) (v3 : Int64) (v5 : Int32) (ρ : RS) : Option (Int32 × RS) :=
  gd (inb v1 513) <| bd (ρ.1 3 v1.toNatClampNeg) fun x1 => if x1 ≤ v5 then
  (lq2 (F_checksum_110) fuel v3 ρ)
 else
  (if v5 = (16 : Int32) then
  (b_checksum_104 rec47 v1 v3 v5 ρ)
 else
  (if v5 = (17 : Int32) then
  (b_checksum_104 rec47 v1 v3 v5 ρ)
 else
  (gd (¬ (2 : Int32) = 0) <| if (v5 - v5 / (2 : Int32) * (2 : Int32)) = 0 then
  (bc2 (m_here v1 v5 ρ) fun x5 r4 => b_checksum_102 rec47 v1 v5 v3 ((x5 <<< ((8 : Int32) &&& 31)).toInt64) r4)
 else
  (bc2 (m_here v1 v5 ρ) fun x3 r2 => b_checksum_102 rec47 v1 v5 v3 (x3.toInt64) r2))))
def m_checksum (v1 : Int32) (ρ : RS) : Option (Int32 × RS) :=
  gd (inb v1 513) <| bd (ρ.1 4 v1.toNatClampNeg) fun x1 => bd ((1 : Int32) - x1) fun x2 => gd (inb v1 513) <| bd (ρ.1 4 v1.toNatClampNeg) fun x3 => gd (inb v1 513) <| bd (ρ.1 3 v1.toNatClampNeg) fun x4 => bd ((((((2560 : Int64) + ((x2 + (1 : Int32)).toInt64)) + (2560 : Int64)) + ((x3 + (1 : Int32)).toInt64)) + (6 : Int64)) + (x4.toInt64)) fun x5 => lq4 (F_checksum_47) fuel v1 x5 (0 : Int32) ρ
def P_checksum_110 (p : Program) (l : Launch) (e : Env) (s : State) (m : MethodId) (args : Array Value) (below : List Frame) (meth : Method) (c : Code) (D : va_G) (tc : Nat → ClassId) (o : Nat) (v3 : Int64) (ρ : RS) (B : Int32 × RS) : Prop := ∀ (ls : Array Slot) (H : Heap) (locs : List Loc), lv_has ls 6 [(3, .long v3)] → RWS D tc o s ρ H locs → W p l e { frames := 1, cells := 0, slots := 0, locals := 22 } s m args below meth c H locs 0 0 (MQ below (RQ D tc o (some (.int B.1)) B.2) args s 0 0 (rreg o)) (F0 m 110 ls [])
def P_checksum_47 (p : Program) (l : Launch) (e : Env) (s : State) (m : MethodId) (args : Array Value) (below : List Frame) (meth : Method) (c : Code) (D : va_G) (tc : Nat → ClassId) (o : Nat) (v1 : Int32) (v3 : Int64) (v5 : Int32) (ρ : RS) (B : Int32 × RS) : Prop := ∀ (ls : Array Slot) (H : Heap) (locs : List Loc), lv_has ls 6 [(0, .ref o), (1, .int v1), (3, .long v3), (5, .int v5)] → RWS D tc o s ρ H locs → W p l e { frames := 1, cells := 0, slots := 0, locals := 22 } s m args below meth c H locs 0 0 (MQ below (RQ D tc o (some (.int B.1)) B.2) args s 0 0 (rreg o)) (F0 m 47 ls [])
section
variable {p : Program} {l : Launch} {e : Env} {s : State} {m : MethodId} {args : Array Value} {below : List Frame} {meth : Method} {c : Code} {D : va_G} {tc : Nat → ClassId} {o : Nat}
theorem tF_checksum_110 (S : RC p m c k_checksum 6 s args cn_M meth (some .int) D tc) : ∀ (rec110 : Int64 → RS → Option (Int32 × RS)), (∀ (v3 : Int64) (ρ : RS) (B : Int32 × RS), rec110 v3 ρ = some B → P_checksum_110 p l e s m args below meth c D tc o v3 ρ B) → ∀ (v3 : Int64) (ρ : RS) (B : Int32 × RS), F_checksum_110 rec110 v3 ρ = some B → P_checksum_110 p l e s m args below meth c D tc o v3 ρ B := by
  intro rec110 hrec110 v3 ρ B h ls H locs hl hW
  have hx := S.1.1
  have hb := S.1.2.1
  unfold F_checksum_110 at h
  refine lv_lload_n hx hb d_checksum_110 rfl (lv_at hl 0 rfl) ?_
  refine lv_ldc2 hx hb S.1.2.2.2.1 (S.1.2.2.2.2 _ (gi wd_1494 rfl)) d_checksum_111 ?_
  refine W.lcmp hx hb d_checksum_114 ?_
  refine rb_le (tgt := 132) hx hb d_checksum_115 (by decide) h (fun h => ?_) (fun h => ?_)
  · refine lv_lload_n hx hb d_checksum_132 rfl (lv_at hl 0 rfl) ?_
    refine lv_l2i hx hb d_checksum_133 rfl ?_
    refine lv_ldc hx hb S.1.2.2.2.1 (S.1.2.2.2.2 _ (gi wd_1248 rfl)) d_checksum_134 ?_
    refine lv_ixor hx hb d_checksum_136 ?_
    exact rm_iret S hW d_checksum_137 h
  · refine lv_lload_n hx hb d_checksum_118 rfl (lv_at hl 0 rfl) ?_
    refine lv_ldc2 hx hb S.1.2.2.2.1 (S.1.2.2.2.2 _ (gi wd_1494 rfl)) d_checksum_119 ?_
    refine lv_land hx hb d_checksum_122 ?_
    refine lv_lload_n hx hb d_checksum_123 rfl (lv_at hl 0 rfl) ?_
    refine lv_bipush (v := 16) hx hb d_checksum_124 (by decide) ?_
    refine lv_lshr hx hb d_checksum_126 rfl ?_
    refine lv_ladd hx hb d_checksum_127 ?_
    refine rv_l h (fun x1 h => ?_)
    refine lv_lstore_n (lv' := [(3, .long x1)]) hx hb d_checksum_128 rfl hl (by decide) rfl (fun ls hl => ?_)
    refine lv_goto (tgt := 110) hx hb d_checksum_129 (by decide) ?_
    exact hrec110 x1 ρ _ h _ _ _ (lv_sub hl [0] rfl) hW
theorem t_checksum_110 (S : RC p m c k_checksum 6 s args cn_M meth (some .int) D tc) : ∀ (n : Nat) (v3 : Int64) (ρ : RS) (B : Int32 × RS), lq2 (F_checksum_110) n v3 ρ = some B → P_checksum_110 p l e s m args below meth c D tc o v3 ρ B := lq2_s (tF_checksum_110 S)
theorem t_checksum_104 (S : RC p m c k_checksum 6 s args cn_M meth (some .int) D tc) {rec47 : Int32 → Int64 → Int32 → RS → Option (Int32 × RS)} (hrec47 : ∀ (v1 : Int32) (v3 : Int64) (v5 : Int32) (ρ : RS) (B : Int32 × RS), rec47 v1 v3 v5 ρ = some B → P_checksum_47 p l e s m args below meth c D tc o v1 v3 v5 ρ B) (v1 : Int32) (v3 : Int64) (v5 : Int32) (ρ : RS) {B : Int32 × RS} (h : b_checksum_104 rec47 v1 v3 v5 ρ = some B) {ls : Array Slot} {H : Heap} {locs : List Loc} (hl : lv_has ls 6 [(0, .ref o), (1, .int v1), (3, .long v3), (5, .int v5)]) (hW : RWS D tc o s ρ H locs) : W p l e { frames := 1, cells := 0, slots := 0, locals := 22 } s m args below meth c H locs 0 0 (MQ below (RQ D tc o (some (.int B.1)) B.2) args s 0 0 (rreg o)) (F0 m 104 ls []) := by
  have hx := S.1.1
  have hb := S.1.2.1
  unfold b_checksum_104 at h
  refine rv_iinc (k := 3) (v := 1) (lv' := fun x1 => [(5, .int x1), (0, .ref o), (1, .int v1), (3, .long v3)]) hx hb d_checksum_104 hl rfl (by decide) (by decide) (fun _ => rfl) h (fun x1 ls h hl => ?_)
  refine lv_goto (tgt := 47) hx hb d_checksum_107 (by decide) ?_
  exact hrec47 v1 v3 x1 ρ _ h _ _ _ (lv_sub hl [1, 2, 3, 0] rfl) hW
theorem t_checksum_102 (S : RC p m c k_checksum 6 s args cn_M meth (some .int) D tc) {rec47 : Int32 → Int64 → Int32 → RS → Option (Int32 × RS)} (hrec47 : ∀ (v1 : Int32) (v3 : Int64) (v5 : Int32) (ρ : RS) (B : Int32 × RS), rec47 v1 v3 v5 ρ = some B → P_checksum_47 p l e s m args below meth c D tc o v1 v3 v5 ρ B) (v1 : Int32) (v5 : Int32) (w0 : Int64) (w1 : Int64) (ρ : RS) {B : Int32 × RS} (h : b_checksum_102 rec47 v1 v5 w0 w1 ρ = some B) {ls : Array Slot} {H : Heap} {locs : List Loc} (hl : lv_has ls 6 [(0, .ref o), (1, .int v1), (5, .int v5)]) (hW : RWS D tc o s ρ H locs) : W p l e { frames := 1, cells := 0, slots := 0, locals := 22 } s m args below meth c H locs 0 0 (MQ below (RQ D tc o (some (.int B.1)) B.2) args s 0 0 (rreg o)) (F0 m 102 ls [.long w1, .long w0]) := by
  have hx := S.1.1
  have hb := S.1.2.1
  unfold b_checksum_102 at h
  refine lv_ladd hx hb d_checksum_102 ?_
  refine rv_l h (fun x1 h => ?_)
  refine lv_lstore_n (lv' := [(3, .long x1), (0, .ref o), (1, .int v1), (5, .int v5)]) hx hb d_checksum_103 rfl hl (by decide) rfl (fun ls hl => ?_)
  exact t_checksum_104 S hrec47 v1 x1 v5 ρ h (lv_sub hl [1, 2, 0, 3] rfl) hW
theorem tF_checksum_47 (S : RC p m c k_checksum 6 s args cn_M meth (some .int) D tc) : ∀ (rec47 : Int32 → Int64 → Int32 → RS → Option (Int32 × RS)), (∀ (v1 : Int32) (v3 : Int64) (v5 : Int32) (ρ : RS) (B : Int32 × RS), rec47 v1 v3 v5 ρ = some B → P_checksum_47 p l e s m args below meth c D tc o v1 v3 v5 ρ B) → ∀ (v1 : Int32) (v3 : Int64) (v5 : Int32) (ρ : RS) (B : Int32 × RS), F_checksum_47 rec47 v1 v3 v5 ρ = some B → P_checksum_47 p l e s m args below meth c D tc o v1 v3 v5 ρ B := by
  intro rec47 hrec47 v1 v3 v5 ρ B h ls H locs hl hW
  have hx := S.1.1
  have hb := S.1.2.1
  unfold F_checksum_47 at h
  refine lv_iload hx hb d_checksum_47 (lv_at hl 3 rfl) ?_
  refine lv_aload_n hx hb d_checksum_49 rfl (lv_at hl 0 rfl) ?_
  refine rm_geta S hW 7 3 wd_1259 (by decide) d_checksum_50 ?_
  refine lv_iload_n hx hb d_checksum_53 rfl (lv_at hl 1 rfl) ?_
  refine rm_iald S hW 3 513 (by decide) d_checksum_54 h (fun x1 h => ?_)
  refine rc_ge (tgt := 110) hx hb d_checksum_55 (by decide) h (fun h => ?_) (fun h => ?_)
  · exact t_checksum_110 S fuel v3 ρ _ h _ _ _ (lv_sub hl [2] rfl) hW
  · refine lv_iload hx hb d_checksum_58 (lv_at hl 3 rfl) ?_
    refine lv_bipush (v := 16) hx hb d_checksum_60 (by decide) ?_
    refine rc_eq (tgt := 104) hx hb d_checksum_62 (by decide) h (fun h => ?_) (fun h => ?_)
    · exact t_checksum_104 S hrec47 v1 v3 v5 ρ h (lv_sub hl [0, 1, 2, 3] rfl) hW
    · refine lv_iload hx hb d_checksum_65 (lv_at hl 3 rfl) ?_
      refine lv_bipush (v := 17) hx hb d_checksum_67 (by decide) ?_
      refine rc_eq (tgt := 104) hx hb d_checksum_69 (by decide) h (fun h => ?_) (fun h => ?_)
      · exact t_checksum_104 S hrec47 v1 v3 v5 ρ h (lv_sub hl [0, 1, 2, 3] rfl) hW
      · refine lv_lload_n hx hb d_checksum_72 rfl (lv_at hl 2 rfl) ?_
        refine lv_iload hx hb d_checksum_73 (lv_at hl 3 rfl) ?_
        refine lv_iconst (v := 2) hx hb d_checksum_75 (by decide) ?_
        refine rv_irem hx hb d_checksum_76 h (fun h => ?_)
        refine rb_ne (tgt := 94) hx hb d_checksum_77 (by decide) h (fun h => ?_) (fun h => ?_)
        · refine lv_aload_n hx hb d_checksum_94 rfl (lv_at hl 0 rfl) ?_
          refine lv_iload_n hx hb d_checksum_95 rfl (lv_at hl 1 rfl) ?_
          refine lv_iload hx hb d_checksum_96 (lv_at hl 3 rfl) ?_
          refine rm_cVi [.int v1, .int v5] S hW (fun x ρ' hc => c_here v1 v5 ρ hc) q_here wd_1492 wd_46 wd_1490 (by decide) hl.1 rfl rfl (Nat.le_of_ble_eq_true rfl) d_checksum_98 h (fun x3 r2 H locs h hW => ?_)
          refine lv_i2l hx hb d_checksum_101 rfl ?_
          exact t_checksum_102 S hrec47 v1 v5 v3 (x3.toInt64) r2 h (lv_sub hl [0, 1, 3] rfl) hW
        · refine lv_aload_n hx hb d_checksum_80 rfl (lv_at hl 0 rfl) ?_
          refine lv_iload_n hx hb d_checksum_81 rfl (lv_at hl 1 rfl) ?_
          refine lv_iload hx hb d_checksum_82 (lv_at hl 3 rfl) ?_
          refine rm_cVi [.int v1, .int v5] S hW (fun x ρ' hc => c_here v1 v5 ρ hc) q_here wd_1492 wd_46 wd_1490 (by decide) hl.1 rfl rfl (Nat.le_of_ble_eq_true rfl) d_checksum_84 h (fun x5 r4 H locs h hW => ?_)
          refine lv_bipush (v := 8) hx hb d_checksum_87 (by decide) ?_
          refine lv_ishl hx hb d_checksum_89 ?_
          refine lv_i2l hx hb d_checksum_90 rfl ?_
          refine lv_goto (tgt := 102) hx hb d_checksum_91 (by decide) ?_
          exact t_checksum_102 S hrec47 v1 v5 v3 ((x5 <<< ((8 : Int32) &&& 31)).toInt64) r4 h (lv_sub hl [0, 1, 3] rfl) hW
theorem t_checksum_47 (S : RC p m c k_checksum 6 s args cn_M meth (some .int) D tc) : ∀ (n : Nat) (v1 : Int32) (v3 : Int64) (v5 : Int32) (ρ : RS) (B : Int32 × RS), lq4 (F_checksum_47) n v1 v3 v5 ρ = some B → P_checksum_47 p l e s m args below meth c D tc o v1 v3 v5 ρ B := lq4_s (tF_checksum_47 S)
theorem t_checksum_0 (S : RC p m c k_checksum 6 s args cn_M meth (some .int) D tc) (v1 : Int32) (ρ : RS) {B : Int32 × RS} (h : m_checksum v1 ρ = some B) {ls : Array Slot} {H : Heap} {locs : List Loc} (hl : lv_has ls 6 [(0, .ref o), (1, .int v1)]) (hW : RWS D tc o s ρ H locs) : W p l e { frames := 1, cells := 0, slots := 0, locals := 22 } s m args below meth c H locs 0 0 (MQ below (RQ D tc o (some (.int B.1)) B.2) args s 0 0 (rreg o)) (F0 m 0 ls []) := by
  have hx := S.1.1
  have hb := S.1.2.1
  unfold m_checksum at h
  refine lv_iconst (v := 1) hx hb d_checksum_0 (by decide) ?_
  refine lv_aload_n hx hb d_checksum_1 rfl (lv_at hl 0 rfl) ?_
  refine rm_geta S hW 8 4 wd_1260 (by decide) d_checksum_2 ?_
  refine lv_iload_n hx hb d_checksum_5 rfl (lv_at hl 1 rfl) ?_
  refine rm_iald S hW 4 513 (by decide) d_checksum_6 h (fun x1 h => ?_)
  refine lv_isub hx hb d_checksum_7 ?_
  refine rv_i h (fun x2 h => ?_)
  refine lv_istore_n (lv' := [(2, .int x2), (0, .ref o), (1, .int v1)]) hx hb d_checksum_8 rfl hl (by decide) rfl (fun ls hl => ?_)
  refine lv_ldc2 hx hb S.1.2.2.2.1 (S.1.2.2.2.2 _ (gi wd_1488 rfl)) d_checksum_9 ?_
  refine lv_iload_n hx hb d_checksum_12 rfl (lv_at hl 0 rfl) ?_
  refine lv_iconst (v := 1) hx hb d_checksum_13 (by decide) ?_
  refine lv_iadd hx hb d_checksum_14 ?_
  refine lv_i2l hx hb d_checksum_15 rfl ?_
  refine lv_ladd hx hb d_checksum_16 ?_
  refine lv_ldc2 hx hb S.1.2.2.2.1 (S.1.2.2.2.2 _ (gi wd_1488 rfl)) d_checksum_17 ?_
  refine lv_ladd hx hb d_checksum_20 ?_
  refine lv_aload_n hx hb d_checksum_21 rfl (lv_at hl 1 rfl) ?_
  refine rm_geta S hW 8 4 wd_1260 (by decide) d_checksum_22 ?_
  refine lv_iload_n hx hb d_checksum_25 rfl (lv_at hl 2 rfl) ?_
  refine rm_iald S hW 4 513 (by decide) d_checksum_26 h (fun x3 h => ?_)
  refine lv_iconst (v := 1) hx hb d_checksum_27 (by decide) ?_
  refine lv_iadd hx hb d_checksum_28 ?_
  refine lv_i2l hx hb d_checksum_29 rfl ?_
  refine lv_ladd hx hb d_checksum_30 ?_
  refine lv_ldc2 hx hb S.1.2.2.2.1 (S.1.2.2.2.2 _ (gi wd_1489 rfl)) d_checksum_31 ?_
  refine lv_ladd hx hb d_checksum_34 ?_
  refine lv_aload_n hx hb d_checksum_35 rfl (lv_at hl 1 rfl) ?_
  refine rm_geta S hW 7 3 wd_1259 (by decide) d_checksum_36 ?_
  refine lv_iload_n hx hb d_checksum_39 rfl (lv_at hl 2 rfl) ?_
  refine rm_iald S hW 3 513 (by decide) d_checksum_40 h (fun x4 h => ?_)
  refine lv_i2l hx hb d_checksum_41 rfl ?_
  refine lv_ladd hx hb d_checksum_42 ?_
  refine rv_l h (fun x5 h => ?_)
  refine lv_lstore_n (lv' := [(3, .long x5), (2, .int x2), (0, .ref o), (1, .int v1)]) hx hb d_checksum_43 rfl hl (by decide) rfl (fun ls hl => ?_)
  refine lv_iconst (v := 0) hx hb d_checksum_44 (by decide) ?_
  refine lv_istore (lv' := [(5, .int (0 : Int32)), (3, .long x5), (2, .int x2), (0, .ref o), (1, .int v1)]) hx hb d_checksum_45 hl (by decide) rfl (fun ls hl => ?_)
  exact t_checksum_47 S fuel v1 x5 (0 : Int32) ρ _ h _ _ _ (lv_sub hl [3, 4, 1, 0] rfl) hW
theorem c_checksum (v1 : Int32) (ρ : RS) {x : Int32} {ρ' : RS} (h : m_checksum v1 ρ = some (x, ρ')) : RMet l D tc o y_checksum k_checksum 6 (some .int) 1 22 [.ref o, .int v1] ρ (some (.int x)) ρ' := rm_met (by decide) (Nat.le_of_ble_eq_true rfl) fun p e s m args below meth c S hW ls hl => t_checksum_0 S v1 ρ h hl hW
end

/-! sound (I)Z -/
abbrev k_sound : ByteArray := prog_12_method_13_code
abbrev y_sound : MethodName := ⟨cn_M, "sound", "(I)Z"⟩
theorem q_sound : Calee y_sound k_sound 3 (some .boolean) 1 := ⟨wd_1576, wd_90, by decide, by decide +kernel⟩
theorem d_sound_0 : decode k_sound 0 = .ok (.aload_n 0, 1) := by decide +kernel
theorem d_sound_1 : decode k_sound 1 = .ok (.iload_n 1, 1) := by decide +kernel
theorem d_sound_2 : decode k_sound 2 = .ok (.invokevirtual 167, 3) := by decide +kernel
theorem d_sound_5 : decode k_sound 5 = .ok (.ldc 32, 2) := by decide +kernel
theorem d_sound_7 : decode k_sound 7 = .ok (.ixor, 1) := by decide +kernel
theorem d_sound_8 : decode k_sound 8 = .ok (.aload_n 0, 1) := by decide +kernel
theorem d_sound_9 : decode k_sound 9 = .ok (.iload_n 1, 1) := by decide +kernel
theorem d_sound_10 : decode k_sound 10 = .ok (.bipush 16, 2) := by decide +kernel
theorem d_sound_12 : decode k_sound 12 = .ok (.invokevirtual 158, 3) := by decide +kernel
theorem d_sound_15 : decode k_sound 15 = .ok (.iadd, 1) := by decide +kernel
theorem d_sound_16 : decode k_sound 16 = .ok (.istore_n 2, 1) := by decide +kernel
theorem d_sound_17 : decode k_sound 17 = .ok (.iload_n 2, 1) := by decide +kernel
theorem d_sound_18 : decode k_sound 18 = .ok (.ldc 32, 2) := by decide +kernel
theorem d_sound_20 : decode k_sound 20 = .ok (.iand, 1) := by decide +kernel
theorem d_sound_21 : decode k_sound 21 = .ok (.iload_n 2, 1) := by decide +kernel
theorem d_sound_22 : decode k_sound 22 = .ok (.bipush 16, 2) := by decide +kernel
theorem d_sound_24 : decode k_sound 24 = .ok (.ishr, 1) := by decide +kernel
theorem d_sound_25 : decode k_sound 25 = .ok (.iadd, 1) := by decide +kernel
theorem d_sound_26 : decode k_sound 26 = .ok (.ldc 32, 2) := by decide +kernel
theorem d_sound_28 : decode k_sound 28 = .ok (.if_icmp .ne 7, 3) := by decide +kernel
theorem d_sound_31 : decode k_sound 31 = .ok (.iconst 1, 1) := by decide +kernel
theorem d_sound_32 : decode k_sound 32 = .ok (.goto 4, 3) := by decide +kernel
theorem d_sound_35 : decode k_sound 35 = .ok (.iconst 0, 1) := by decide +kernel
theorem d_sound_36 : decode k_sound 36 = .ok (.ireturn, 1) := by decide +kernel
def b_sound_36 (w0 : Int32) (ρ : RS) : Option (Int32 × RS) :=
  gd (w0 = 0 ∨ w0 = 1) (some (w0, ρ))
def m_sound (v1 : Int32) (ρ : RS) : Option (Int32 × RS) :=
  bc2 (m_checksum v1 ρ) fun x2 r1 => bc2 (m_two v1 (16 : Int32) r1) fun x4 r3 => bd ((x2 ^^^ (65535 : Int32)) + x4) fun x5 => if ((x5 &&& (65535 : Int32)) + (x5 >>> ((16 : Int32) &&& 31))) = (65535 : Int32) then
  (b_sound_36 (1 : Int32) r3)
 else
  (b_sound_36 (0 : Int32) r3)
section
variable {p : Program} {l : Launch} {e : Env} {s : State} {m : MethodId} {args : Array Value} {below : List Frame} {meth : Method} {c : Code} {D : va_G} {tc : Nat → ClassId} {o : Nat}
theorem t_sound_36 (S : RC p m c k_sound 3 s args cn_M meth (some .boolean) D tc) (w0 : Int32) (ρ : RS) {B : Int32 × RS} (h : b_sound_36 w0 ρ = some B) {ls : Array Slot} {H : Heap} {locs : List Loc} (hl : lv_has ls 3 []) (hW : RWS D tc o s ρ H locs) : W p l e { frames := 2, cells := 0, slots := 0, locals := 47 } s m args below meth c H locs 0 0 (MQ below (RQ D tc o (some (.int B.1)) B.2) args s 0 0 (rreg o)) (F0 m 36 ls [.int w0]) := by
  have hx := S.1.1
  have hb := S.1.2.1
  unfold b_sound_36 at h
  exact rm_zret S hW d_sound_36 h
theorem t_sound_0 (S : RC p m c k_sound 3 s args cn_M meth (some .boolean) D tc) (v1 : Int32) (ρ : RS) {B : Int32 × RS} (h : m_sound v1 ρ = some B) {ls : Array Slot} {H : Heap} {locs : List Loc} (hl : lv_has ls 3 [(0, .ref o), (1, .int v1)]) (hW : RWS D tc o s ρ H locs) : W p l e { frames := 2, cells := 0, slots := 0, locals := 47 } s m args below meth c H locs 0 0 (MQ below (RQ D tc o (some (.int B.1)) B.2) args s 0 0 (rreg o)) (F0 m 0 ls []) := by
  have hx := S.1.1
  have hb := S.1.2.1
  unfold m_sound at h
  refine lv_aload_n hx hb d_sound_0 rfl (lv_at hl 0 rfl) ?_
  refine lv_iload_n hx hb d_sound_1 rfl (lv_at hl 1 rfl) ?_
  refine rm_cVi [.int v1] S hW (fun x ρ' hc => c_checksum v1 ρ hc) q_checksum wd_1486 wd_45 wd_1484 (by decide) hl.1 rfl rfl (Nat.le_of_ble_eq_true rfl) d_sound_2 h (fun x2 r1 H locs h hW => ?_)
  refine lv_ldc hx hb S.1.2.2.2.1 (S.1.2.2.2.2 _ (gi wd_1248 rfl)) d_sound_5 ?_
  refine lv_ixor hx hb d_sound_7 ?_
  refine lv_aload_n hx hb d_sound_8 rfl (lv_at hl 0 rfl) ?_
  refine lv_iload_n hx hb d_sound_9 rfl (lv_at hl 1 rfl) ?_
  refine lv_bipush (v := 16) hx hb d_sound_10 (by decide) ?_
  refine rm_cVi [.int v1, .int (16 : Int32)] S hW (fun x ρ' hc => c_two v1 (16 : Int32) r1 hc) q_two wd_1579 wd_59 wd_1577 (by decide) hl.1 rfl rfl (Nat.le_of_ble_eq_true rfl) d_sound_12 h (fun x4 r3 H locs h hW => ?_)
  refine lv_iadd hx hb d_sound_15 ?_
  refine rv_i h (fun x5 h => ?_)
  refine lv_istore_n (lv' := [(2, .int x5), (0, .ref o), (1, .int v1)]) hx hb d_sound_16 rfl hl (by decide) rfl (fun ls hl => ?_)
  refine lv_iload_n hx hb d_sound_17 rfl (lv_at hl 0 rfl) ?_
  refine lv_ldc hx hb S.1.2.2.2.1 (S.1.2.2.2.2 _ (gi wd_1248 rfl)) d_sound_18 ?_
  refine lv_iand hx hb d_sound_20 ?_
  refine lv_iload_n hx hb d_sound_21 rfl (lv_at hl 0 rfl) ?_
  refine lv_bipush (v := 16) hx hb d_sound_22 (by decide) ?_
  refine lv_ishr hx hb d_sound_24 ?_
  refine lv_iadd hx hb d_sound_25 ?_
  refine lv_ldc hx hb S.1.2.2.2.1 (S.1.2.2.2.2 _ (gi wd_1248 rfl)) d_sound_26 ?_
  refine rc_ne (tgt := 35) hx hb d_sound_28 (by decide) h (fun h => ?_) (fun h => ?_)
  · refine lv_iconst (v := 0) hx hb d_sound_35 (by decide) ?_
    exact t_sound_36 S (0 : Int32) r3 h (lv_sub hl [] rfl) hW
  · refine lv_iconst (v := 1) hx hb d_sound_31 (by decide) ?_
    refine lv_goto (tgt := 36) hx hb d_sound_32 (by decide) ?_
    exact t_sound_36 S (1 : Int32) r3 h (lv_sub hl [] rfl) hW
theorem c_sound (v1 : Int32) (ρ : RS) {x : Int32} {ρ' : RS} (h : m_sound v1 ρ = some (x, ρ')) : RMet l D tc o y_sound k_sound 3 (some .boolean) 2 47 [.ref o, .int v1] ρ (some (.int x)) ρ' := rm_met (by decide) (Nat.le_of_ble_eq_true rfl) fun p e s m args below meth c S hW ls hl => t_sound_0 S v1 ρ h hl hW
end

