/-! java/util/ArrayList.size ()I -/
abbrev k_A_size : ByteArray := prog_28_method_8_code
abbrev y_A_size : MethodName := ⟨cn_A, "size", "()I"⟩
theorem q_A_size : Calee y_A_size k_A_size 1 (Option.some Jvm.ClassFile.FieldType.int) 0 := ⟨wd_433, wd_84, by decide, by decide +kernel⟩
theorem d_A_size_0 : decode k_A_size 0 = .ok (.aload_n 0, 1) := by decide +kernel
theorem d_A_size_1 : decode k_A_size 1 = .ok (.getfield 48, 3) := by decide +kernel
theorem d_A_size_4 : decode k_A_size 4 = .ok (.ireturn, 1) := by decide +kernel
def m_A_size (q : Nat) (σ : CS) : Option (Int32 × CS) :=
  gd (q = 5 ∨ q = 6) <| bd (cI σ q 1) fun x1 => some (x1, σ)
section
variable {p : Program} {l : Launch} {e : Env} {s : State} {m : MethodId} {args : Array Value} {below : List Frame} {meth : Method} {c : Code} {D : va_G} {tc : Nat → ClassId} {b z : Nat} {σ0 : CS}
theorem t_A_size_0 (S : CC p m c k_A_size 1 s args cn_A meth (Option.some Jvm.ClassFile.FieldType.int) D tc b z) (q : Nat) (σ : CS) {B : Int32 × CS} (h : m_A_size q σ = some B) {ls : Array Slot} {H : Heap} {locs : List Loc} {cells slots : Nat} (hl : lv_has ls 1 [(0, .ref (b + q))]) (hW : CWS D tc b z s σ0 σ H locs cells slots) : W p l e (CR 0 0 σ0) s m args below meth c H locs cells slots (CE D tc b z below args s σ0 (some (.int B.1)) B.2) (F0 m 0 ls []) := by
  have hx := S.1.1
  have hb := S.1.2.1
  unfold m_A_size at h
  obtain ⟨hq, h⟩ := gd_s h
  refine lv_aload_n hx hb d_A_size_0 rfl (lv_at hl 0 rfl) ?_
  refine cm_geti kx_A S hW (kA hq) 1 wd_162 (by decide) d_A_size_1 h (fun x1 h => ?_)
  exact cm_iret S hW d_A_size_4 h
theorem c_A_size (q : Nat) (σ : CS) {x : Int32} {σ' : CS} (h : m_A_size q σ = some (x, σ')) : CMet l D tc b z y_A_size k_A_size 1 (Option.some Jvm.ClassFile.FieldType.int) 0 0 [.ref (b + q)] σ (some (.int x)) σ' := cm_met (by decide) (Nat.le_of_ble_eq_true rfl) fun p e s m args below meth c S hW ls hl => t_A_size_0 S q σ h hl hW
end

/-! java/util/ArrayList.isEmpty ()Z -/
abbrev k_A_isEmpty : ByteArray := prog_28_method_9_code
abbrev y_A_isEmpty : MethodName := ⟨cn_A, "isEmpty", "()Z"⟩
theorem q_A_isEmpty : Calee y_A_isEmpty k_A_isEmpty 1 (Option.some Jvm.ClassFile.FieldType.boolean) 0 := ⟨wd_576, wd_84, by decide, by decide +kernel⟩
theorem d_A_isEmpty_0 : decode k_A_isEmpty 0 = .ok (.aload_n 0, 1) := by decide +kernel
theorem d_A_isEmpty_1 : decode k_A_isEmpty 1 = .ok (.getfield 48, 3) := by decide +kernel
theorem d_A_isEmpty_4 : decode k_A_isEmpty 4 = .ok (.ifCond .ne 7, 3) := by decide +kernel
theorem d_A_isEmpty_7 : decode k_A_isEmpty 7 = .ok (.iconst 1, 1) := by decide +kernel
theorem d_A_isEmpty_8 : decode k_A_isEmpty 8 = .ok (.goto 4, 3) := by decide +kernel
theorem d_A_isEmpty_11 : decode k_A_isEmpty 11 = .ok (.iconst 0, 1) := by decide +kernel
theorem d_A_isEmpty_12 : decode k_A_isEmpty 12 = .ok (.ireturn, 1) := by decide +kernel
def b_A_isEmpty_12 (q : Nat) (w0 : Int32) (σ : CS) : Option (Int32 × CS) :=
  gd (w0 = 0 ∨ w0 = 1) (some (w0, σ))
def m_A_isEmpty (q : Nat) (σ : CS) : Option (Int32 × CS) :=
  gd (q = 5 ∨ q = 6) <| bd (cI σ q 1) fun x1 => if x1 = 0 then
  (b_A_isEmpty_12 q (1 : Int32) σ)
 else
  (b_A_isEmpty_12 q (0 : Int32) σ)
section
variable {p : Program} {l : Launch} {e : Env} {s : State} {m : MethodId} {args : Array Value} {below : List Frame} {meth : Method} {c : Code} {D : va_G} {tc : Nat → ClassId} {b z : Nat} {σ0 : CS}
theorem t_A_isEmpty_12 {q : Nat} (S : CC p m c k_A_isEmpty 1 s args cn_A meth (Option.some Jvm.ClassFile.FieldType.boolean) D tc b z) (hq : q = 5 ∨ q = 6) (w0 : Int32) (σ : CS) {B : Int32 × CS} (h : b_A_isEmpty_12 q w0 σ = some B) {ls : Array Slot} {H : Heap} {locs : List Loc} {cells slots : Nat} (hl : lv_has ls 1 []) (hW : CWS D tc b z s σ0 σ H locs cells slots) : W p l e (CR 0 0 σ0) s m args below meth c H locs cells slots (CE D tc b z below args s σ0 (some (.int B.1)) B.2) (F0 m 12 ls [.int w0]) := by
  have hx := S.1.1
  have hb := S.1.2.1
  unfold b_A_isEmpty_12 at h
  exact cm_zret S hW d_A_isEmpty_12 h
theorem t_A_isEmpty_0 (S : CC p m c k_A_isEmpty 1 s args cn_A meth (Option.some Jvm.ClassFile.FieldType.boolean) D tc b z) (q : Nat) (σ : CS) {B : Int32 × CS} (h : m_A_isEmpty q σ = some B) {ls : Array Slot} {H : Heap} {locs : List Loc} {cells slots : Nat} (hl : lv_has ls 1 [(0, .ref (b + q))]) (hW : CWS D tc b z s σ0 σ H locs cells slots) : W p l e (CR 0 0 σ0) s m args below meth c H locs cells slots (CE D tc b z below args s σ0 (some (.int B.1)) B.2) (F0 m 0 ls []) := by
  have hx := S.1.1
  have hb := S.1.2.1
  unfold m_A_isEmpty at h
  obtain ⟨hq, h⟩ := gd_s h
  refine lv_aload_n hx hb d_A_isEmpty_0 rfl (lv_at hl 0 rfl) ?_
  refine cm_geti kx_A S hW (kA hq) 1 wd_162 (by decide) d_A_isEmpty_1 h (fun x1 h => ?_)
  refine rb_ne (tgt := 11) hx hb d_A_isEmpty_4 (by decide) h (fun h => ?_) (fun h => ?_)
  · refine lv_iconst (v := 0) hx hb d_A_isEmpty_11 (by decide) ?_
    exact t_A_isEmpty_12 S hq (0 : Int32) σ h (lv_sub hl [] rfl) hW
  · refine lv_iconst (v := 1) hx hb d_A_isEmpty_7 (by decide) ?_
    refine lv_goto (tgt := 12) hx hb d_A_isEmpty_8 (by decide) ?_
    exact t_A_isEmpty_12 S hq (1 : Int32) σ h (lv_sub hl [] rfl) hW
theorem c_A_isEmpty (q : Nat) (σ : CS) {x : Int32} {σ' : CS} (h : m_A_isEmpty q σ = some (x, σ')) : CMet l D tc b z y_A_isEmpty k_A_isEmpty 1 (Option.some Jvm.ClassFile.FieldType.boolean) 0 0 [.ref (b + q)] σ (some (.int x)) σ' := cm_met (by decide) (Nat.le_of_ble_eq_true rfl) fun p e s m args below meth c S hW ls hl => t_A_isEmpty_0 S q σ h hl hW
end

/-! java/util/ArrayList.elementData (I)Ljava/lang/Object; -/
abbrev k_A_elementData : ByteArray := prog_28_method_18_code
abbrev y_A_elementData : MethodName := ⟨cn_A, "elementData", "(I)Ljava/lang/Object;"⟩
theorem q_A_elementData : Calee y_A_elementData k_A_elementData 2 (Option.some (Jvm.ClassFile.FieldType.object "java/lang/Object")) 1 := ⟨wd_447, wd_84, by decide, by decide +kernel⟩
theorem d_A_elementData_0 : decode k_A_elementData 0 = .ok (.aload_n 0, 1) := by decide +kernel
theorem d_A_elementData_1 : decode k_A_elementData 1 = .ok (.getfield 9, 3) := by decide +kernel
theorem d_A_elementData_4 : decode k_A_elementData 4 = .ok (.iload_n 1, 1) := by decide +kernel
theorem d_A_elementData_5 : decode k_A_elementData 5 = .ok (.aaload, 1) := by decide +kernel
theorem d_A_elementData_6 : decode k_A_elementData 6 = .ok (.areturn, 1) := by decide +kernel
def m_A_elementData (q : Nat) (v1 : Int32) (σ : CS) : Option (Nat × CS) :=
  gd (q = 5 ∨ q = 6) <| bd (cR σ q 0) fun u1 => bc u1 fun a2 => gd (kd σ a2 = 25 ∧ inb v1 (cN σ a2)) <| bc (cR σ a2 v1.toNatClampNeg) fun a3 => some (a3, σ)
section
variable {p : Program} {l : Launch} {e : Env} {s : State} {m : MethodId} {args : Array Value} {below : List Frame} {meth : Method} {c : Code} {D : va_G} {tc : Nat → ClassId} {b z : Nat} {σ0 : CS}
theorem t_A_elementData_0 (S : CC p m c k_A_elementData 2 s args cn_A meth (Option.some (Jvm.ClassFile.FieldType.object "java/lang/Object")) D tc b z) (q : Nat) (v1 : Int32) (σ : CS) {B : Nat × CS} (h : m_A_elementData q v1 σ = some B) {ls : Array Slot} {H : Heap} {locs : List Loc} {cells slots : Nat} (hl : lv_has ls 2 [(0, .ref (b + q)), (1, .int v1)]) (hW : CWS D tc b z s σ0 σ H locs cells slots) : W p l e (CR 0 0 σ0) s m args below meth c H locs cells slots (CE D tc b z below args s σ0 (some (.ref (b + B.1))) B.2) (F0 m 0 ls []) := by
  have hx := S.1.1
  have hb := S.1.2.1
  unfold m_A_elementData at h
  obtain ⟨hq, h⟩ := gd_s h
  refine lv_aload_n hx hb d_A_elementData_0 rfl (lv_at hl 0 rfl) ?_
  refine cm_getd kx_A S hW (kA hq) 0 wd_161 (by decide) d_A_elementData_1 h (fun u1 h => ?_)
  refine cm_nnd h (fun a2 h => ?_)
  refine lv_iload_n hx hb d_A_elementData_4 rfl (lv_at hl 1 rfl) ?_
  refine cm_aaldr S hW d_A_elementData_5 h (fun a3 h => ?_)
  exact cm_rret S (by first | exact Or.inl ⟨_, rfl⟩ | exact Or.inr ⟨_, rfl⟩) hW d_A_elementData_6 h
theorem c_A_elementData (q : Nat) (v1 : Int32) (σ : CS) {x : Nat} {σ' : CS} (h : m_A_elementData q v1 σ = some (x, σ')) : CMet l D tc b z y_A_elementData k_A_elementData 2 (Option.some (Jvm.ClassFile.FieldType.object "java/lang/Object")) 0 0 [.ref (b + q), .int v1] σ (some (.ref (b + x))) σ' := cm_met (by decide) (Nat.le_of_ble_eq_true rfl) fun p e s m args below meth c S hW ls hl => t_A_elementData_0 S q v1 σ h hl hW
end

/-! java/util/ArrayList.get (I)Ljava/lang/Object; -/
abbrev k_A_get : ByteArray := prog_28_method_20_code
abbrev y_A_get : MethodName := ⟨cn_A, "get", "(I)Ljava/lang/Object;"⟩
theorem q_A_get : Calee y_A_get k_A_get 2 (Option.some (Jvm.ClassFile.FieldType.object "java/lang/Object")) 1 := ⟨wd_437, wd_84, by decide, by decide +kernel⟩
theorem d_A_get_0 : decode k_A_get 0 = .ok (.iload_n 1, 1) := by decide +kernel
theorem d_A_get_1 : decode k_A_get 1 = .ok (.aload_n 0, 1) := by decide +kernel
theorem d_A_get_2 : decode k_A_get 2 = .ok (.getfield 48, 3) := by decide +kernel
theorem d_A_get_5 : decode k_A_get 5 = .ok (.invokestatic 118, 3) := by decide +kernel
theorem d_A_get_8 : decode k_A_get 8 = .ok (.pop, 1) := by decide +kernel
theorem d_A_get_9 : decode k_A_get 9 = .ok (.aload_n 0, 1) := by decide +kernel
theorem d_A_get_10 : decode k_A_get 10 = .ok (.iload_n 1, 1) := by decide +kernel
theorem d_A_get_11 : decode k_A_get 11 = .ok (.invokevirtual 123, 3) := by decide +kernel
theorem d_A_get_14 : decode k_A_get 14 = .ok (.areturn, 1) := by decide +kernel
def m_A_get (q : Nat) (v1 : Int32) (σ : CS) : Option (Nat × CS) :=
  gd (q = 5 ∨ q = 6) <| bd (cI σ q 1) fun x1 => bc2 (m_H_checkIndex v1 x1 σ) fun x3 r2 => bc2 (m_A_elementData q v1 r2) fun x5 r4 => some (x5, r4)
section
variable {p : Program} {l : Launch} {e : Env} {s : State} {m : MethodId} {args : Array Value} {below : List Frame} {meth : Method} {c : Code} {D : va_G} {tc : Nat → ClassId} {b z : Nat} {σ0 : CS}
theorem t_A_get_0 (S : CC p m c k_A_get 2 s args cn_A meth (Option.some (Jvm.ClassFile.FieldType.object "java/lang/Object")) D tc b z) (q : Nat) (v1 : Int32) (σ : CS) {B : Nat × CS} (h : m_A_get q v1 σ = some B) {ls : Array Slot} {H : Heap} {locs : List Loc} {cells slots : Nat} (hl : lv_has ls 2 [(0, .ref (b + q)), (1, .int v1)]) (hW : CWS D tc b z s σ0 σ H locs cells slots) : W p l e (CR 2 43 σ0) s m args below meth c H locs cells slots (CE D tc b z below args s σ0 (some (.ref (b + B.1))) B.2) (F0 m 0 ls []) := by
  have hx := S.1.1
  have hb := S.1.2.1
  unfold m_A_get at h
  obtain ⟨hq, h⟩ := gd_s h
  refine lv_iload_n hx hb d_A_get_0 rfl (lv_at hl 1 rfl) ?_
  refine lv_aload_n hx hb d_A_get_1 rfl (lv_at hl 0 rfl) ?_
  refine cm_geti kx_A S hW (kA hq) 1 wd_162 (by decide) d_A_get_2 h (fun x1 h => ?_)
  refine cm_cSi [.int v1, .int x1] S hW (fun x σ' hc => c_H_checkIndex v1 x1 σ hc) q_H_checkIndex wd_439 wd_438 (by decide) hl.1 rfl rfl (Nat.le_of_ble_eq_true rfl) d_A_get_5 h (fun x3 r2 H locs cells slots h hW => ?_)
  refine lv_pop hx hb d_A_get_8 rfl ?_
  refine lv_aload_n hx hb d_A_get_9 rfl (lv_at hl 0 rfl) ?_
  refine lv_iload_n hx hb d_A_get_10 rfl (lv_at hl 1 rfl) ?_
  refine cm_cVr [.int v1] kx_A S hW (kA hq) (fun x σ' hc => c_A_elementData q v1 r2 hc) q_A_elementData wd_445 wd_446 wd_444 (by decide) hl.1 rfl rfl (Nat.le_of_ble_eq_true rfl) d_A_get_11 h (fun x5 r4 H locs cells slots h hW => ?_)
  exact cm_rret S (by first | exact Or.inl ⟨_, rfl⟩ | exact Or.inr ⟨_, rfl⟩) hW d_A_get_14 h
theorem c_A_get (q : Nat) (v1 : Int32) (σ : CS) {x : Nat} {σ' : CS} (h : m_A_get q v1 σ = some (x, σ')) : CMet l D tc b z y_A_get k_A_get 2 (Option.some (Jvm.ClassFile.FieldType.object "java/lang/Object")) 2 43 [.ref (b + q), .int v1] σ (some (.ref (b + x))) σ' := cm_met (by decide) (Nat.le_of_ble_eq_true rfl) fun p e s m args below meth c S hW ls hl => t_A_get_0 S q v1 σ h hl hW
end

/-! java/util/ArrayList.fastRemove ([Ljava/lang/Object;I)V -/
abbrev k_A_fastRemove : ByteArray := prog_28_method_39_code
abbrev y_A_fastRemove : MethodName := ⟨cn_A, "fastRemove", "([Ljava/lang/Object;I)V"⟩
theorem q_A_fastRemove : Calee y_A_fastRemove k_A_fastRemove 4 none 2 := ⟨wd_606, wd_84, by decide, by decide +kernel⟩
theorem d_A_fastRemove_0 : decode k_A_fastRemove 0 = .ok (.aload_n 0, 1) := by decide +kernel
theorem d_A_fastRemove_1 : decode k_A_fastRemove 1 = .ok (.dup, 1) := by decide +kernel
theorem d_A_fastRemove_2 : decode k_A_fastRemove 2 = .ok (.getfield 63, 3) := by decide +kernel
theorem d_A_fastRemove_5 : decode k_A_fastRemove 5 = .ok (.iconst 1, 1) := by decide +kernel
theorem d_A_fastRemove_6 : decode k_A_fastRemove 6 = .ok (.iadd, 1) := by decide +kernel
theorem d_A_fastRemove_7 : decode k_A_fastRemove 7 = .ok (.putfield 63, 3) := by decide +kernel
theorem d_A_fastRemove_10 : decode k_A_fastRemove 10 = .ok (.aload_n 0, 1) := by decide +kernel
theorem d_A_fastRemove_11 : decode k_A_fastRemove 11 = .ok (.getfield 48, 3) := by decide +kernel
theorem d_A_fastRemove_14 : decode k_A_fastRemove 14 = .ok (.iconst 1, 1) := by decide +kernel
theorem d_A_fastRemove_15 : decode k_A_fastRemove 15 = .ok (.isub, 1) := by decide +kernel
theorem d_A_fastRemove_16 : decode k_A_fastRemove 16 = .ok (.dup, 1) := by decide +kernel
theorem d_A_fastRemove_17 : decode k_A_fastRemove 17 = .ok (.istore_n 3, 1) := by decide +kernel
theorem d_A_fastRemove_18 : decode k_A_fastRemove 18 = .ok (.iload_n 2, 1) := by decide +kernel
theorem d_A_fastRemove_19 : decode k_A_fastRemove 19 = .ok (.if_icmp .le 15, 3) := by decide +kernel
theorem d_A_fastRemove_22 : decode k_A_fastRemove 22 = .ok (.aload_n 1, 1) := by decide +kernel
theorem d_A_fastRemove_23 : decode k_A_fastRemove 23 = .ok (.iload_n 2, 1) := by decide +kernel
theorem d_A_fastRemove_24 : decode k_A_fastRemove 24 = .ok (.iconst 1, 1) := by decide +kernel
theorem d_A_fastRemove_25 : decode k_A_fastRemove 25 = .ok (.iadd, 1) := by decide +kernel
theorem d_A_fastRemove_26 : decode k_A_fastRemove 26 = .ok (.aload_n 1, 1) := by decide +kernel
theorem d_A_fastRemove_27 : decode k_A_fastRemove 27 = .ok (.iload_n 2, 1) := by decide +kernel
theorem d_A_fastRemove_28 : decode k_A_fastRemove 28 = .ok (.iload_n 3, 1) := by decide +kernel
theorem d_A_fastRemove_29 : decode k_A_fastRemove 29 = .ok (.iload_n 2, 1) := by decide +kernel
theorem d_A_fastRemove_30 : decode k_A_fastRemove 30 = .ok (.isub, 1) := by decide +kernel
theorem d_A_fastRemove_31 : decode k_A_fastRemove 31 = .ok (.invokestatic 112, 3) := by decide +kernel
theorem d_A_fastRemove_34 : decode k_A_fastRemove 34 = .ok (.aload_n 1, 1) := by decide +kernel
theorem d_A_fastRemove_35 : decode k_A_fastRemove 35 = .ok (.aload_n 0, 1) := by decide +kernel
theorem d_A_fastRemove_36 : decode k_A_fastRemove 36 = .ok (.iload_n 3, 1) := by decide +kernel
theorem d_A_fastRemove_37 : decode k_A_fastRemove 37 = .ok (.dup_x1, 1) := by decide +kernel
theorem d_A_fastRemove_38 : decode k_A_fastRemove 38 = .ok (.putfield 48, 3) := by decide +kernel
theorem d_A_fastRemove_41 : decode k_A_fastRemove 41 = .ok (.aconst_null, 1) := by decide +kernel
theorem d_A_fastRemove_42 : decode k_A_fastRemove 42 = .ok (.aastore, 1) := by decide +kernel
theorem d_A_fastRemove_43 : decode k_A_fastRemove 43 = .ok (.return_, 1) := by decide +kernel
def b_A_fastRemove_34 (q : Nat) (v1 : Option Nat) (v3 : Int32) (σ : CS) : Option (CS) :=
  bc v1 fun a1 => bd (wi σ q 1 v3) fun r2 => gd (kd r2 a1 = 25 ∧ inb v3 (cN r2 a1)) <| bd (wr r2 a1 v3.toNatClampNeg none) fun r3 => some r3
def m_A_fastRemove (q : Nat) (v1 : Option Nat) (v2 : Int32) (σ : CS) : Option (CS) :=
  gd (q = 5 ∨ q = 6) <| bd (cI σ q 2) fun x1 => bd (wi σ q 2 (x1 + (1 : Int32))) fun r2 => bd (cI r2 q 1) fun x3 => bd (x3 - (1 : Int32)) fun x4 => if x4 ≤ v2 then
  (b_A_fastRemove_34 q v1 x4 r2)
 else
  (bc v1 fun a5 => bc v1 fun a6 => gd (kd r2 a5 = 25 ∧ kd r2 a6 = 25 ∧ ¬ (v2 + (1 : Int32)) < 0 ∧ ¬ v2 < 0 ∧ ¬ (x4 - v2) < 0 ∧ (v2 + (1 : Int32)).toNatClampNeg + (x4 - v2).toNatClampNeg ≤ cN r2 a5 ∧ v2.toNatClampNeg + (x4 - v2).toNatClampNeg ≤ cN r2 a6) <| bd (wcq r2 a5 a6 (v2 + (1 : Int32)).toNatClampNeg v2.toNatClampNeg (x4 - v2).toNatClampNeg) fun r7 => b_A_fastRemove_34 q v1 x4 r7)
section
variable {p : Program} {l : Launch} {e : Env} {s : State} {m : MethodId} {args : Array Value} {below : List Frame} {meth : Method} {c : Code} {D : va_G} {tc : Nat → ClassId} {b z : Nat} {σ0 : CS}
theorem t_A_fastRemove_34 {q : Nat} (S : CC p m c k_A_fastRemove 4 s args cn_A meth none D tc b z) (hq : q = 5 ∨ q = 6) (v1 : Option Nat) (v3 : Int32) (σ : CS) {B : CS} (h : b_A_fastRemove_34 q v1 v3 σ = some B) {ls : Array Slot} {H : Heap} {locs : List Loc} {cells slots : Nat} (hl : lv_has ls 4 [(0, .ref (b + q)), (1, lz b z v1), (3, .int v3)]) (hW : CWS D tc b z s σ0 σ H locs cells slots) : W p l e (CR 1 40 σ0) s m args below meth c H locs cells slots (CE D tc b z below args s σ0 none B) (F0 m 34 ls []) := by
  have hx := S.1.1
  have hb := S.1.2.1
  unfold b_A_fastRemove_34 at h
  refine lv_aload_n hx hb d_A_fastRemove_34 rfl (lv_at hl 1 rfl) ?_
  refine cm_nnd h (fun a1 h => ?_)
  refine lv_aload_n hx hb d_A_fastRemove_35 rfl (lv_at hl 0 rfl) ?_
  refine lv_iload_n hx hb d_A_fastRemove_36 rfl (lv_at hl 2 rfl) ?_
  refine lv_dup_x1 hx hb d_A_fastRemove_37 rfl rfl ?_
  refine cm_puti kx_A S hW (kA hq) 1 wd_162 (by decide) d_A_fastRemove_38 h (fun r2 H locs h hW => ?_)
  refine lv_null hx hb d_A_fastRemove_41 ?_
  refine cm_aastn S hW d_A_fastRemove_42 h (fun r3 H locs h hW => ?_)
  exact cm_vret S hW d_A_fastRemove_43 h
theorem t_A_fastRemove_0 (S : CC p m c k_A_fastRemove 4 s args cn_A meth none D tc b z) (q : Nat) (v1 : Option Nat) (v2 : Int32) (σ : CS) {B : CS} (h : m_A_fastRemove q v1 v2 σ = some B) {ls : Array Slot} {H : Heap} {locs : List Loc} {cells slots : Nat} (hl : lv_has ls 4 [(0, .ref (b + q)), (1, lz b z v1), (2, .int v2)]) (hW : CWS D tc b z s σ0 σ H locs cells slots) : W p l e (CR 1 40 σ0) s m args below meth c H locs cells slots (CE D tc b z below args s σ0 none B) (F0 m 0 ls []) := by
  have hx := S.1.1
  have hb := S.1.2.1
  unfold m_A_fastRemove at h
  obtain ⟨hq, h⟩ := gd_s h
  refine lv_aload_n hx hb d_A_fastRemove_0 rfl (lv_at hl 0 rfl) ?_
  refine lv_dup hx hb d_A_fastRemove_1 rfl ?_
  refine cm_getmod S hW (kA hq) wd_164 wd_165 d_A_fastRemove_2 h (fun x1 h => ?_)
  refine lv_iconst (v := 1) hx hb d_A_fastRemove_5 (by decide) ?_
  refine lv_iadd hx hb d_A_fastRemove_6 ?_
  refine cm_putmod S hW (kA hq) wd_164 wd_165 d_A_fastRemove_7 h (fun r2 H locs h hW => ?_)
  refine lv_aload_n hx hb d_A_fastRemove_10 rfl (lv_at hl 0 rfl) ?_
  refine cm_geti kx_A S hW (kA hq) 1 wd_162 (by decide) d_A_fastRemove_11 h (fun x3 h => ?_)
  refine lv_iconst (v := 1) hx hb d_A_fastRemove_14 (by decide) ?_
  refine lv_isub hx hb d_A_fastRemove_15 ?_
  refine rv_i h (fun x4 h => ?_)
  refine lv_dup hx hb d_A_fastRemove_16 rfl ?_
  refine lv_istore_n (lv' := [(3, .int x4), (0, .ref (b + q)), (1, lz b z v1), (2, .int v2)]) hx hb d_A_fastRemove_17 rfl hl (by decide) rfl (fun ls hl => ?_)
  refine lv_iload_n hx hb d_A_fastRemove_18 rfl (lv_at hl 3 rfl) ?_
  refine rc_le (tgt := 34) hx hb d_A_fastRemove_19 (by decide) h (fun h => ?_) (fun h => ?_)
  · exact t_A_fastRemove_34 S hq v1 x4 r2 h (lv_sub hl [1, 2, 0] rfl) hW
  · refine lv_aload_n hx hb d_A_fastRemove_22 rfl (lv_at hl 2 rfl) ?_
    refine cm_nnd h (fun a5 h => ?_)
    refine lv_iload_n hx hb d_A_fastRemove_23 rfl (lv_at hl 3 rfl) ?_
    refine lv_iconst (v := 1) hx hb d_A_fastRemove_24 (by decide) ?_
    refine lv_iadd hx hb d_A_fastRemove_25 ?_
    refine lv_aload_n hx hb d_A_fastRemove_26 rfl (lv_at hl 2 rfl) ?_
    refine cm_nnd h (fun a6 h => ?_)
    refine lv_iload_n hx hb d_A_fastRemove_27 rfl (lv_at hl 3 rfl) ?_
    refine lv_iload_n hx hb d_A_fastRemove_28 rfl (lv_at hl 0 rfl) ?_
    refine lv_iload_n hx hb d_A_fastRemove_29 rfl (lv_at hl 3 rfl) ?_
    refine lv_isub hx hb d_A_fastRemove_30 ?_
    refine cm_copyq S hW wd_607 wd_510 wd_509 wd_97 hl.1 (by decide) (by decide) d_A_fastRemove_31 h (fun r7 H locs h hW => ?_)
    exact t_A_fastRemove_34 S hq v1 x4 r7 h (lv_sub hl [1, 2, 0] rfl) hW
theorem c_A_fastRemove (q : Nat) (v1 : Option Nat) (v2 : Int32) (σ : CS) {B : CS} (h : m_A_fastRemove q v1 v2 σ = some B) : CMet l D tc b z y_A_fastRemove k_A_fastRemove 4 none 1 40 [.ref (b + q), lz b z v1, .int v2] σ none B := cm_met (by decide) (Nat.le_of_ble_eq_true rfl) fun p e s m args below meth c S hW ls hl => t_A_fastRemove_0 S q v1 v2 σ h hl hW
end

/-! java/util/ArrayList.remove (I)Ljava/lang/Object; -/
abbrev k_A_remove : ByteArray := prog_28_method_29_code
abbrev y_A_remove : MethodName := ⟨cn_A, "remove", "(I)Ljava/lang/Object;"⟩
theorem q_A_remove : Calee y_A_remove k_A_remove 4 (Option.some (Jvm.ClassFile.FieldType.object "java/lang/Object")) 1 := ⟨wd_602, wd_84, by decide, by decide +kernel⟩
theorem d_A_remove_0 : decode k_A_remove 0 = .ok (.iload_n 1, 1) := by decide +kernel
theorem d_A_remove_1 : decode k_A_remove 1 = .ok (.aload_n 0, 1) := by decide +kernel
theorem d_A_remove_2 : decode k_A_remove 2 = .ok (.getfield 48, 3) := by decide +kernel
theorem d_A_remove_5 : decode k_A_remove 5 = .ok (.invokestatic 118, 3) := by decide +kernel
theorem d_A_remove_8 : decode k_A_remove 8 = .ok (.pop, 1) := by decide +kernel
theorem d_A_remove_9 : decode k_A_remove 9 = .ok (.aload_n 0, 1) := by decide +kernel
theorem d_A_remove_10 : decode k_A_remove 10 = .ok (.getfield 9, 3) := by decide +kernel
theorem d_A_remove_13 : decode k_A_remove 13 = .ok (.astore_n 2, 1) := by decide +kernel
theorem d_A_remove_14 : decode k_A_remove 14 = .ok (.aload_n 2, 1) := by decide +kernel
theorem d_A_remove_15 : decode k_A_remove 15 = .ok (.iload_n 1, 1) := by decide +kernel
theorem d_A_remove_16 : decode k_A_remove 16 = .ok (.aaload, 1) := by decide +kernel
theorem d_A_remove_17 : decode k_A_remove 17 = .ok (.astore_n 3, 1) := by decide +kernel
theorem d_A_remove_18 : decode k_A_remove 18 = .ok (.aload_n 0, 1) := by decide +kernel
theorem d_A_remove_19 : decode k_A_remove 19 = .ok (.aload_n 2, 1) := by decide +kernel
theorem d_A_remove_20 : decode k_A_remove 20 = .ok (.iload_n 1, 1) := by decide +kernel
theorem d_A_remove_21 : decode k_A_remove 21 = .ok (.invokevirtual 144, 3) := by decide +kernel
theorem d_A_remove_24 : decode k_A_remove 24 = .ok (.aload_n 3, 1) := by decide +kernel
theorem d_A_remove_25 : decode k_A_remove 25 = .ok (.areturn, 1) := by decide +kernel
def m_A_remove (q : Nat) (v1 : Int32) (σ : CS) : Option (Nat × CS) :=
  gd (q = 5 ∨ q = 6) <| bd (cI σ q 1) fun x1 => bc2 (m_H_checkIndex v1 x1 σ) fun x3 r2 => bd (cR r2 q 0) fun u4 => bc u4 fun a5 => gd (kd r2 a5 = 25 ∧ inb v1 (cN r2 a5)) <| bc (cR r2 a5 v1.toNatClampNeg) fun a6 => bc u4 fun a7 => bc (m_A_fastRemove q (some a7) v1 r2) fun r8 => some (a6, r8)
section
variable {p : Program} {l : Launch} {e : Env} {s : State} {m : MethodId} {args : Array Value} {below : List Frame} {meth : Method} {c : Code} {D : va_G} {tc : Nat → ClassId} {b z : Nat} {σ0 : CS}
theorem t_A_remove_0 (S : CC p m c k_A_remove 4 s args cn_A meth (Option.some (Jvm.ClassFile.FieldType.object "java/lang/Object")) D tc b z) (q : Nat) (v1 : Int32) (σ : CS) {B : Nat × CS} (h : m_A_remove q v1 σ = some B) {ls : Array Slot} {H : Heap} {locs : List Loc} {cells slots : Nat} (hl : lv_has ls 4 [(0, .ref (b + q)), (1, .int v1)]) (hW : CWS D tc b z s σ0 σ H locs cells slots) : W p l e (CR 2 63 σ0) s m args below meth c H locs cells slots (CE D tc b z below args s σ0 (some (.ref (b + B.1))) B.2) (F0 m 0 ls []) := by
  have hx := S.1.1
  have hb := S.1.2.1
  unfold m_A_remove at h
  obtain ⟨hq, h⟩ := gd_s h
  refine lv_iload_n hx hb d_A_remove_0 rfl (lv_at hl 1 rfl) ?_
  refine lv_aload_n hx hb d_A_remove_1 rfl (lv_at hl 0 rfl) ?_
  refine cm_geti kx_A S hW (kA hq) 1 wd_162 (by decide) d_A_remove_2 h (fun x1 h => ?_)
  refine cm_cSi [.int v1, .int x1] S hW (fun x σ' hc => c_H_checkIndex v1 x1 σ hc) q_H_checkIndex wd_439 wd_438 (by decide) hl.1 rfl rfl (Nat.le_of_ble_eq_true rfl) d_A_remove_5 h (fun x3 r2 H locs cells slots h hW => ?_)
  refine lv_pop hx hb d_A_remove_8 rfl ?_
  refine lv_aload_n hx hb d_A_remove_9 rfl (lv_at hl 0 rfl) ?_
  refine cm_getd kx_A S hW (kA hq) 0 wd_161 (by decide) d_A_remove_10 h (fun u4 h => ?_)
  refine lv_astore_n (lv' := [(2, lz b z u4), (0, .ref (b + q)), (1, .int v1)]) hx hb d_A_remove_13 rfl hl (by decide) rfl (fun ls hl => ?_)
  refine lv_aload_n hx hb d_A_remove_14 rfl (lv_at hl 0 rfl) ?_
  refine cm_nnd h (fun a5 h => ?_)
  refine lv_iload_n hx hb d_A_remove_15 rfl (lv_at hl 2 rfl) ?_
  refine cm_aaldr S hW d_A_remove_16 h (fun a6 h => ?_)
  refine lv_astore_n (lv' := [(3, .ref (b + a6)), (2, lz b z u4), (0, .ref (b + q)), (1, .int v1)]) hx hb d_A_remove_17 rfl hl (by decide) rfl (fun ls hl => ?_)
  refine lv_aload_n hx hb d_A_remove_18 rfl (lv_at hl 2 rfl) ?_
  refine lv_aload_n hx hb d_A_remove_19 rfl (lv_at hl 1 rfl) ?_
  refine cm_nnd h (fun a7 h => ?_)
  refine lv_iload_n hx hb d_A_remove_20 rfl (lv_at hl 3 rfl) ?_
  refine cm_cVv [.ref (b + a7), .int v1] kx_A S hW (kA hq) (fun σ' hc => c_A_fastRemove q (some a7) v1 r2 hc) q_A_fastRemove wd_605 wd_6 wd_603 (by decide) hl.1 rfl rfl (Nat.le_of_ble_eq_true rfl) d_A_remove_21 h (fun r8 H locs cells slots h hW => ?_)
  refine lv_aload_n hx hb d_A_remove_24 rfl (lv_at hl 0 rfl) ?_
  exact cm_rret S (by first | exact Or.inl ⟨_, rfl⟩ | exact Or.inr ⟨_, rfl⟩) hW d_A_remove_25 h
theorem c_A_remove (q : Nat) (v1 : Int32) (σ : CS) {x : Nat} {σ' : CS} (h : m_A_remove q v1 σ = some (x, σ')) : CMet l D tc b z y_A_remove k_A_remove 4 (Option.some (Jvm.ClassFile.FieldType.object "java/lang/Object")) 2 63 [.ref (b + q), .int v1] σ (some (.ref (b + x))) σ' := cm_met (by decide) (Nat.le_of_ble_eq_true rfl) fun p e s m args below meth c S hW ls hl => t_A_remove_0 S q v1 σ h hl hW
end

/-! java/util/ArrayList.clear ()V -/
abbrev k_A_clear : ByteArray := prog_28_method_40_code
abbrev y_A_clear : MethodName := ⟨cn_A, "clear", "()V"⟩
theorem q_A_clear : Calee y_A_clear k_A_clear 4 none 0 := ⟨wd_516, wd_84, by decide, by decide +kernel⟩
theorem d_A_clear_0 : decode k_A_clear 0 = .ok (.aload_n 0, 1) := by decide +kernel
theorem d_A_clear_1 : decode k_A_clear 1 = .ok (.dup, 1) := by decide +kernel
theorem d_A_clear_2 : decode k_A_clear 2 = .ok (.getfield 63, 3) := by decide +kernel
theorem d_A_clear_5 : decode k_A_clear 5 = .ok (.iconst 1, 1) := by decide +kernel
theorem d_A_clear_6 : decode k_A_clear 6 = .ok (.iadd, 1) := by decide +kernel
theorem d_A_clear_7 : decode k_A_clear 7 = .ok (.putfield 63, 3) := by decide +kernel
theorem d_A_clear_10 : decode k_A_clear 10 = .ok (.aload_n 0, 1) := by decide +kernel
theorem d_A_clear_11 : decode k_A_clear 11 = .ok (.getfield 9, 3) := by decide +kernel
theorem d_A_clear_14 : decode k_A_clear 14 = .ok (.astore_n 1, 1) := by decide +kernel
theorem d_A_clear_15 : decode k_A_clear 15 = .ok (.aload_n 0, 1) := by decide +kernel
theorem d_A_clear_16 : decode k_A_clear 16 = .ok (.getfield 48, 3) := by decide +kernel
theorem d_A_clear_19 : decode k_A_clear 19 = .ok (.istore_n 2, 1) := by decide +kernel
theorem d_A_clear_20 : decode k_A_clear 20 = .ok (.aload_n 0, 1) := by decide +kernel
theorem d_A_clear_21 : decode k_A_clear 21 = .ok (.iconst 0, 1) := by decide +kernel
theorem d_A_clear_22 : decode k_A_clear 22 = .ok (.dup_x1, 1) := by decide +kernel
theorem d_A_clear_23 : decode k_A_clear 23 = .ok (.putfield 48, 3) := by decide +kernel
theorem d_A_clear_26 : decode k_A_clear 26 = .ok (.istore_n 3, 1) := by decide +kernel
theorem d_A_clear_27 : decode k_A_clear 27 = .ok (.iload_n 3, 1) := by decide +kernel
theorem d_A_clear_28 : decode k_A_clear 28 = .ok (.iload_n 2, 1) := by decide +kernel
theorem d_A_clear_29 : decode k_A_clear 29 = .ok (.if_icmp .ge 13, 3) := by decide +kernel
theorem d_A_clear_32 : decode k_A_clear 32 = .ok (.aload_n 1, 1) := by decide +kernel
theorem d_A_clear_33 : decode k_A_clear 33 = .ok (.iload_n 3, 1) := by decide +kernel
theorem d_A_clear_34 : decode k_A_clear 34 = .ok (.aconst_null, 1) := by decide +kernel
theorem d_A_clear_35 : decode k_A_clear 35 = .ok (.aastore, 1) := by decide +kernel
theorem d_A_clear_36 : decode k_A_clear 36 = .ok (.iinc 3 1, 3) := by decide +kernel
theorem d_A_clear_39 : decode k_A_clear 39 = .ok (.goto (-12), 3) := by decide +kernel
theorem d_A_clear_42 : decode k_A_clear 42 = .ok (.return_, 1) := by decide +kernel
def F_A_clear_27 (q : Nat) (rec27 : Option Nat → Int32 → Int32 → CS → Option (CS)) (v1 : Option Nat) (v2 : Int32) (v3 : Int32) (σ : CS) : Option (CS) :=
  if v2 ≤ v3 then
  (some σ)
 else
  (bc v1 fun a1 => gd (kd σ a1 = 25 ∧ inb v3 (cN σ a1)) <| bd (wr σ a1 v3.toNatClampNeg none) fun r2 => bd (v3 + (1 : Int32)) fun x3 => rec27 v1 v2 x3 r2)
def m_A_clear (q : Nat) (σ : CS) : Option (CS) :=
  gd (q = 5 ∨ q = 6) <| bd (cI σ q 2) fun x1 => bd (wi σ q 2 (x1 + (1 : Int32))) fun r2 => bd (cR r2 q 0) fun u3 => bd (cI r2 q 1) fun x4 => bd (wi r2 q 1 (0 : Int32)) fun r5 => lq4 (F_A_clear_27 q) fuel u3 x4 (0 : Int32) r5
def P_A_clear_27 (q : Nat) (p : Program) (l : Launch) (e : Env) (s : State) (m : MethodId) (args : Array Value) (below : List Frame) (meth : Method) (c : Code) (D : va_G) (tc : Nat → ClassId) (b z : Nat) (σ0 : CS) (v1 : Option Nat) (v2 : Int32) (v3 : Int32) (σ : CS) (B : CS) : Prop := ∀ (ls : Array Slot) (H : Heap) (locs : List Loc) (cells slots : Nat), lv_has ls 4 [(1, lz b z v1), (2, .int v2), (3, .int v3)] → CWS D tc b z s σ0 σ H locs cells slots → W p l e (CR 0 0 σ0) s m args below meth c H locs cells slots (CE D tc b z below args s σ0 none B) (F0 m 27 ls [])
section
variable {p : Program} {l : Launch} {e : Env} {s : State} {m : MethodId} {args : Array Value} {below : List Frame} {meth : Method} {c : Code} {D : va_G} {tc : Nat → ClassId} {b z : Nat} {σ0 : CS}
theorem tF_A_clear_27 {q : Nat} (S : CC p m c k_A_clear 4 s args cn_A meth none D tc b z) (hq : q = 5 ∨ q = 6) : ∀ (rec27 : Option Nat → Int32 → Int32 → CS → Option (CS)), (∀ (v1 : Option Nat) (v2 : Int32) (v3 : Int32) (σ : CS) (B : CS), rec27 v1 v2 v3 σ = some B → P_A_clear_27 q p l e s m args below meth c D tc b z σ0 v1 v2 v3 σ B) → ∀ (v1 : Option Nat) (v2 : Int32) (v3 : Int32) (σ : CS) (B : CS), F_A_clear_27 q rec27 v1 v2 v3 σ = some B → P_A_clear_27 q p l e s m args below meth c D tc b z σ0 v1 v2 v3 σ B := by
  intro rec27 hrec27 v1 v2 v3 σ B h ls H locs cells slots hl hW
  have hx := S.1.1
  have hb := S.1.2.1
  unfold F_A_clear_27 at h
  refine lv_iload_n hx hb d_A_clear_27 rfl (lv_at hl 2 rfl) ?_
  refine lv_iload_n hx hb d_A_clear_28 rfl (lv_at hl 1 rfl) ?_
  refine rc_ge (tgt := 42) hx hb d_A_clear_29 (by decide) h (fun h => ?_) (fun h => ?_)
  · exact cm_vret S hW d_A_clear_42 h
  · refine lv_aload_n hx hb d_A_clear_32 rfl (lv_at hl 0 rfl) ?_
    refine cm_nnd h (fun a1 h => ?_)
    refine lv_iload_n hx hb d_A_clear_33 rfl (lv_at hl 2 rfl) ?_
    refine lv_null hx hb d_A_clear_34 ?_
    refine cm_aastn S hW d_A_clear_35 h (fun r2 H locs h hW => ?_)
    refine rv_iinc (k := 2) (v := 1) (lv' := fun x3 => [(3, .int x3), (1, lz b z v1), (2, .int v2)]) hx hb d_A_clear_36 hl rfl (by decide) (by decide) (fun _ => rfl) h (fun x3 ls h hl => ?_)
    refine lv_goto (tgt := 27) hx hb d_A_clear_39 (by decide) ?_
    exact hrec27 v1 v2 x3 r2 _ h _ _ _ _ _ (lv_sub hl [1, 2, 0] rfl) hW
theorem t_A_clear_27 {q : Nat} (S : CC p m c k_A_clear 4 s args cn_A meth none D tc b z) (hq : q = 5 ∨ q = 6) : ∀ (n : Nat) (v1 : Option Nat) (v2 : Int32) (v3 : Int32) (σ : CS) (B : CS), lq4 (F_A_clear_27 q) n v1 v2 v3 σ = some B → P_A_clear_27 q p l e s m args below meth c D tc b z σ0 v1 v2 v3 σ B := lq4_s (tF_A_clear_27 S hq)
theorem t_A_clear_0 (S : CC p m c k_A_clear 4 s args cn_A meth none D tc b z) (q : Nat) (σ : CS) {B : CS} (h : m_A_clear q σ = some B) {ls : Array Slot} {H : Heap} {locs : List Loc} {cells slots : Nat} (hl : lv_has ls 4 [(0, .ref (b + q))]) (hW : CWS D tc b z s σ0 σ H locs cells slots) : W p l e (CR 0 0 σ0) s m args below meth c H locs cells slots (CE D tc b z below args s σ0 none B) (F0 m 0 ls []) := by
  have hx := S.1.1
  have hb := S.1.2.1
  unfold m_A_clear at h
  obtain ⟨hq, h⟩ := gd_s h
  refine lv_aload_n hx hb d_A_clear_0 rfl (lv_at hl 0 rfl) ?_
  refine lv_dup hx hb d_A_clear_1 rfl ?_
  refine cm_getmod S hW (kA hq) wd_164 wd_165 d_A_clear_2 h (fun x1 h => ?_)
  refine lv_iconst (v := 1) hx hb d_A_clear_5 (by decide) ?_
  refine lv_iadd hx hb d_A_clear_6 ?_
  refine cm_putmod S hW (kA hq) wd_164 wd_165 d_A_clear_7 h (fun r2 H locs h hW => ?_)
  refine lv_aload_n hx hb d_A_clear_10 rfl (lv_at hl 0 rfl) ?_
  refine cm_getd kx_A S hW (kA hq) 0 wd_161 (by decide) d_A_clear_11 h (fun u3 h => ?_)
  refine lv_astore_n (lv' := [(1, lz b z u3), (0, .ref (b + q))]) hx hb d_A_clear_14 rfl hl (by decide) rfl (fun ls hl => ?_)
  refine lv_aload_n hx hb d_A_clear_15 rfl (lv_at hl 1 rfl) ?_
  refine cm_geti kx_A S hW (kA hq) 1 wd_162 (by decide) d_A_clear_16 h (fun x4 h => ?_)
  refine lv_istore_n (lv' := [(2, .int x4), (1, lz b z u3), (0, .ref (b + q))]) hx hb d_A_clear_19 rfl hl (by decide) rfl (fun ls hl => ?_)
  refine lv_aload_n hx hb d_A_clear_20 rfl (lv_at hl 2 rfl) ?_
  refine lv_iconst (v := 0) hx hb d_A_clear_21 (by decide) ?_
  refine lv_dup_x1 hx hb d_A_clear_22 rfl rfl ?_
  refine cm_puti kx_A S hW (kA hq) 1 wd_162 (by decide) d_A_clear_23 h (fun r5 H locs h hW => ?_)
  refine lv_istore_n (lv' := [(3, .int (0 : Int32)), (2, .int x4), (1, lz b z u3), (0, .ref (b + q))]) hx hb d_A_clear_26 rfl hl (by decide) rfl (fun ls hl => ?_)
  exact t_A_clear_27 S hq fuel u3 x4 (0 : Int32) r5 _ h _ _ _ _ _ (lv_sub hl [2, 1, 0] rfl) hW
theorem c_A_clear (q : Nat) (σ : CS) {B : CS} (h : m_A_clear q σ = some B) : CMet l D tc b z y_A_clear k_A_clear 4 none 0 0 [.ref (b + q)] σ none B := cm_met (by decide) (Nat.le_of_ble_eq_true rfl) fun p e s m args below meth c S hW ls hl => t_A_clear_0 S q σ h hl hW
end

/-! java/util/ArrayList.grow (I)[Ljava/lang/Object; -/
abbrev k_A_grow_I : ByteArray := prog_28_method_6_code
abbrev y_A_grow_I : MethodName := ⟨cn_A, "grow", "(I)[Ljava/lang/Object;"⟩
theorem q_A_grow_I : Calee y_A_grow_I k_A_grow_I 4 (Option.some (Jvm.ClassFile.FieldType.array (Jvm.ClassFile.FieldType.object "java/lang/Object"))) 1 := ⟨wd_464, wd_84, by decide, by decide +kernel⟩
theorem d_A_grow_I_0 : decode k_A_grow_I 0 = .ok (.aload_n 0, 1) := by decide +kernel
theorem d_A_grow_I_1 : decode k_A_grow_I 1 = .ok (.getfield 9, 3) := by decide +kernel
theorem d_A_grow_I_4 : decode k_A_grow_I 4 = .ok (.arraylength, 1) := by decide +kernel
theorem d_A_grow_I_5 : decode k_A_grow_I 5 = .ok (.istore_n 2, 1) := by decide +kernel
theorem d_A_grow_I_6 : decode k_A_grow_I 6 = .ok (.iload_n 2, 1) := by decide +kernel
theorem d_A_grow_I_7 : decode k_A_grow_I 7 = .ok (.ifCond .gt 13, 3) := by decide +kernel
theorem d_A_grow_I_10 : decode k_A_grow_I 10 = .ok (.aload_n 0, 1) := by decide +kernel
theorem d_A_grow_I_11 : decode k_A_grow_I 11 = .ok (.getfield 9, 3) := by decide +kernel
theorem d_A_grow_I_14 : decode k_A_grow_I 14 = .ok (.getstatic 39, 3) := by decide +kernel
theorem d_A_grow_I_17 : decode k_A_grow_I 17 = .ok (.if_acmp .eq 28, 3) := by decide +kernel
theorem d_A_grow_I_20 : decode k_A_grow_I 20 = .ok (.iload_n 2, 1) := by decide +kernel
theorem d_A_grow_I_21 : decode k_A_grow_I 21 = .ok (.iload_n 1, 1) := by decide +kernel
theorem d_A_grow_I_22 : decode k_A_grow_I 22 = .ok (.iload_n 2, 1) := by decide +kernel
theorem d_A_grow_I_23 : decode k_A_grow_I 23 = .ok (.isub, 1) := by decide +kernel
theorem d_A_grow_I_24 : decode k_A_grow_I 24 = .ok (.iload_n 2, 1) := by decide +kernel
theorem d_A_grow_I_25 : decode k_A_grow_I 25 = .ok (.iconst 1, 1) := by decide +kernel
theorem d_A_grow_I_26 : decode k_A_grow_I 26 = .ok (.ishr, 1) := by decide +kernel
theorem d_A_grow_I_27 : decode k_A_grow_I 27 = .ok (.invokestatic 73, 3) := by decide +kernel
theorem d_A_grow_I_30 : decode k_A_grow_I 30 = .ok (.istore_n 3, 1) := by decide +kernel
theorem d_A_grow_I_31 : decode k_A_grow_I 31 = .ok (.aload_n 0, 1) := by decide +kernel
theorem d_A_grow_I_32 : decode k_A_grow_I 32 = .ok (.aload_n 0, 1) := by decide +kernel
theorem d_A_grow_I_33 : decode k_A_grow_I 33 = .ok (.getfield 9, 3) := by decide +kernel
theorem d_A_grow_I_36 : decode k_A_grow_I 36 = .ok (.iload_n 3, 1) := by decide +kernel
theorem d_A_grow_I_37 : decode k_A_grow_I 37 = .ok (.invokestatic 66, 3) := by decide +kernel
theorem d_A_grow_I_40 : decode k_A_grow_I 40 = .ok (.dup_x1, 1) := by decide +kernel
theorem d_A_grow_I_41 : decode k_A_grow_I 41 = .ok (.putfield 9, 3) := by decide +kernel
theorem d_A_grow_I_44 : decode k_A_grow_I 44 = .ok (.areturn, 1) := by decide +kernel
theorem d_A_grow_I_45 : decode k_A_grow_I 45 = .ok (.aload_n 0, 1) := by decide +kernel
theorem d_A_grow_I_46 : decode k_A_grow_I 46 = .ok (.bipush 10, 2) := by decide +kernel
theorem d_A_grow_I_48 : decode k_A_grow_I 48 = .ok (.iload_n 1, 1) := by decide +kernel
theorem d_A_grow_I_49 : decode k_A_grow_I 49 = .ok (.invokestatic 79, 3) := by decide +kernel
theorem d_A_grow_I_52 : decode k_A_grow_I 52 = .ok (.anewarray 7, 3) := by decide +kernel
theorem d_A_grow_I_55 : decode k_A_grow_I 55 = .ok (.dup_x1, 1) := by decide +kernel
theorem d_A_grow_I_56 : decode k_A_grow_I 56 = .ok (.putfield 9, 3) := by decide +kernel
theorem d_A_grow_I_59 : decode k_A_grow_I 59 = .ok (.areturn, 1) := by decide +kernel
def b_A_grow_I_20 (q : Nat) (v1 : Int32) (v2 : Int32) (σ : CS) : Option (Nat × CS) :=
  bc2 (m_Q_newLength v2 (v1 - v2) (v2 >>> ((1 : Int32) &&& 31)) σ) fun x2 r1 => bd (cR r1 q 0) fun u3 => bc u3 fun a4 => bc2 (m_K_copyOf_oI a4 x2 r1) fun x6 r5 => bd (wr r5 q 0 (some x6)) fun r7 => some (x6, r7)
def m_A_grow_I (q : Nat) (v1 : Int32) (σ : CS) : Option (Nat × CS) :=
  gd (q = 5 ∨ q = 6) <| bd (cR σ q 0) fun u1 => gd (u1.elim 25 (kd σ) = 25) <| bd (nI (u1.elim 0 (cN σ))) fun x2 => if 0 < x2 then
  (b_A_grow_I_20 q v1 x2 σ)
 else
  (bd (cR σ q 0) fun u3 => if u3 = none then
  (bd (if (10 : Int32) < v1 then v1 else (10 : Int32)) fun x4 => gd (¬ x4 < 0 ∧ cX σ + 1 ≤ 601024 ∧ cU σ + x4.toNatClampNeg ≤ 7293034) <| bd2 (cX σ) (wa σ 25 x4.toNatClampNeg x4.toNatClampNeg) fun a5 r6 => bd (wr r6 q 0 (some a5)) fun r7 => some (a5, r7))
 else
  (b_A_grow_I_20 q v1 x2 σ))
section
variable {p : Program} {l : Launch} {e : Env} {s : State} {m : MethodId} {args : Array Value} {below : List Frame} {meth : Method} {c : Code} {D : va_G} {tc : Nat → ClassId} {b z : Nat} {σ0 : CS}
theorem t_A_grow_I_20 {q : Nat} (S : CC p m c k_A_grow_I 4 s args cn_A meth (Option.some (Jvm.ClassFile.FieldType.array (Jvm.ClassFile.FieldType.object "java/lang/Object"))) D tc b z) (hq : q = 5 ∨ q = 6) (v1 : Int32) (v2 : Int32) (σ : CS) {B : Nat × CS} (h : b_A_grow_I_20 q v1 v2 σ = some B) {ls : Array Slot} {H : Heap} {locs : List Loc} {cells slots : Nat} (hl : lv_has ls 4 [(0, .ref (b + q)), (1, .int v1), (2, .int v2)]) (hW : CWS D tc b z s σ0 σ H locs cells slots) : W p l e (CR 3 84 σ0) s m args below meth c H locs cells slots (CE D tc b z below args s σ0 (some (.ref (b + B.1))) B.2) (F0 m 20 ls []) := by
  have hx := S.1.1
  have hb := S.1.2.1
  unfold b_A_grow_I_20 at h
  refine lv_iload_n hx hb d_A_grow_I_20 rfl (lv_at hl 2 rfl) ?_
  refine lv_iload_n hx hb d_A_grow_I_21 rfl (lv_at hl 1 rfl) ?_
  refine lv_iload_n hx hb d_A_grow_I_22 rfl (lv_at hl 2 rfl) ?_
  refine lv_isub hx hb d_A_grow_I_23 ?_
  refine lv_iload_n hx hb d_A_grow_I_24 rfl (lv_at hl 2 rfl) ?_
  refine lv_iconst (v := 1) hx hb d_A_grow_I_25 (by decide) ?_
  refine lv_ishr hx hb d_A_grow_I_26 ?_
  refine cm_cSi [.int v2, .int (v1 - v2), .int (v2 >>> ((1 : Int32) &&& 31))] S hW (fun x σ' hc => c_Q_newLength v2 (v1 - v2) (v2 >>> ((1 : Int32) &&& 31)) σ hc) q_Q_newLength wd_466 wd_465 (by decide) hl.1 rfl rfl (Nat.le_of_ble_eq_true rfl) d_A_grow_I_27 h (fun x2 r1 H locs cells slots h hW => ?_)
  refine lv_istore_n (lv' := [(3, .int x2), (0, .ref (b + q)), (1, .int v1), (2, .int v2)]) hx hb d_A_grow_I_30 rfl hl (by decide) rfl (fun ls hl => ?_)
  refine lv_aload_n hx hb d_A_grow_I_31 rfl (lv_at hl 1 rfl) ?_
  refine lv_aload_n hx hb d_A_grow_I_32 rfl (lv_at hl 1 rfl) ?_
  refine cm_getd kx_A S hW (kA hq) 0 wd_161 (by decide) d_A_grow_I_33 h (fun u3 h => ?_)
  refine cm_nnd h (fun a4 h => ?_)
  refine lv_iload_n hx hb d_A_grow_I_36 rfl (lv_at hl 0 rfl) ?_
  refine cm_cSr [.ref (b + a4), .int x2] S hW (fun x σ' hc => c_K_copyOf_oI a4 x2 r1 hc) q_K_copyOf_oI wd_476 wd_475 (by decide) hl.1 rfl rfl (Nat.le_of_ble_eq_true rfl) d_A_grow_I_37 h (fun x6 r5 H locs cells slots h hW => ?_)
  refine lv_dup_x1 hx hb d_A_grow_I_40 rfl rfl ?_
  refine cm_putr kx_A S hW (kA hq) 0 (t := .array (.object "java/lang/Object")) wd_161 (by decide) rfl (fun _ => rfl) (fun _ => rfl) d_A_grow_I_41 h (fun r7 H locs h hW => ?_)
  exact cm_rret S (by first | exact Or.inl ⟨_, rfl⟩ | exact Or.inr ⟨_, rfl⟩) hW d_A_grow_I_44 h
theorem t_A_grow_I_0 (S : CC p m c k_A_grow_I 4 s args cn_A meth (Option.some (Jvm.ClassFile.FieldType.array (Jvm.ClassFile.FieldType.object "java/lang/Object"))) D tc b z) (q : Nat) (v1 : Int32) (σ : CS) {B : Nat × CS} (h : m_A_grow_I q v1 σ = some B) {ls : Array Slot} {H : Heap} {locs : List Loc} {cells slots : Nat} (hl : lv_has ls 4 [(0, .ref (b + q)), (1, .int v1)]) (hW : CWS D tc b z s σ0 σ H locs cells slots) : W p l e (CR 3 84 σ0) s m args below meth c H locs cells slots (CE D tc b z below args s σ0 (some (.ref (b + B.1))) B.2) (F0 m 0 ls []) := by
  have hx := S.1.1
  have hb := S.1.2.1
  unfold m_A_grow_I at h
  obtain ⟨hq, h⟩ := gd_s h
  refine lv_aload_n hx hb d_A_grow_I_0 rfl (lv_at hl 0 rfl) ?_
  refine cm_getd kx_A S hW (kA hq) 0 wd_161 (by decide) d_A_grow_I_1 h (fun u1 h => ?_)
  refine cm_alend S hW d_A_grow_I_4 h (fun x2 h => ?_)
  refine lv_istore_n (lv' := [(2, .int x2), (0, .ref (b + q)), (1, .int v1)]) hx hb d_A_grow_I_5 rfl hl (by decide) rfl (fun ls hl => ?_)
  refine lv_iload_n hx hb d_A_grow_I_6 rfl (lv_at hl 0 rfl) ?_
  refine rb_gt (tgt := 20) hx hb d_A_grow_I_7 (by decide) h (fun h => ?_) (fun h => ?_)
  · exact t_A_grow_I_20 S hq v1 x2 σ h (lv_sub hl [1, 2, 0] rfl) hW
  · refine lv_aload_n hx hb d_A_grow_I_10 rfl (lv_at hl 1 rfl) ?_
    refine cm_getd kx_A S hW (kA hq) 0 wd_161 (by decide) d_A_grow_I_11 h (fun u3 h => ?_)
    refine cm_gets S hW wd_159 d_A_grow_I_14 ?_
    refine cm_acmpz (tgt := 45) S d_A_grow_I_17 (by decide) h (fun h => ?_) (fun h => ?_)
    · refine lv_aload_n hx hb d_A_grow_I_45 rfl (lv_at hl 1 rfl) ?_
      refine lv_bipush (v := 10) hx hb d_A_grow_I_46 (by decide) ?_
      refine lv_iload_n hx hb d_A_grow_I_48 rfl (lv_at hl 2 rfl) ?_
      refine cm_jmax S hW wd_511 wd_469 wd_96 wd_470 hl.1 (by decide) (Nat.le_of_ble_eq_true rfl) d_A_grow_I_49 ?_
      refine rv_i h (fun x4 h => ?_)
      refine cm_newo S hW d_A_grow_I_52 wd_512 h (fun a5 r6 H cells slots h hW => ?_)
      refine lv_dup_x1 hx hb d_A_grow_I_55 rfl rfl ?_
      refine cm_putr kx_A S hW (kA hq) 0 (t := .array (.object "java/lang/Object")) wd_161 (by decide) rfl (fun _ => rfl) (fun _ => rfl) d_A_grow_I_56 h (fun r7 H locs h hW => ?_)
      exact cm_rret S (by first | exact Or.inl ⟨_, rfl⟩ | exact Or.inr ⟨_, rfl⟩) hW d_A_grow_I_59 h
    · exact t_A_grow_I_20 S hq v1 x2 σ h (lv_sub hl [1, 2, 0] rfl) hW
theorem c_A_grow_I (q : Nat) (v1 : Int32) (σ : CS) {x : Nat} {σ' : CS} (h : m_A_grow_I q v1 σ = some (x, σ')) : CMet l D tc b z y_A_grow_I k_A_grow_I 4 (Option.some (Jvm.ClassFile.FieldType.array (Jvm.ClassFile.FieldType.object "java/lang/Object"))) 3 84 [.ref (b + q), .int v1] σ (some (.ref (b + x))) σ' := cm_met (by decide) (Nat.le_of_ble_eq_true rfl) fun p e s m args below meth c S hW ls hl => t_A_grow_I_0 S q v1 σ h hl hW
end

/-! java/util/ArrayList.grow ()[Ljava/lang/Object; -/
abbrev k_A_grow_ : ByteArray := prog_28_method_7_code
abbrev y_A_grow_ : MethodName := ⟨cn_A, "grow", "()[Ljava/lang/Object;"⟩
theorem q_A_grow_ : Calee y_A_grow_ k_A_grow_ 1 (Option.some (Jvm.ClassFile.FieldType.array (Jvm.ClassFile.FieldType.object "java/lang/Object"))) 0 := ⟨wd_460, wd_84, by decide, by decide +kernel⟩
theorem d_A_grow__0 : decode k_A_grow_ 0 = .ok (.aload_n 0, 1) := by decide +kernel
theorem d_A_grow__1 : decode k_A_grow_ 1 = .ok (.aload_n 0, 1) := by decide +kernel
theorem d_A_grow__2 : decode k_A_grow_ 2 = .ok (.getfield 48, 3) := by decide +kernel
theorem d_A_grow__5 : decode k_A_grow_ 5 = .ok (.iconst 1, 1) := by decide +kernel
theorem d_A_grow__6 : decode k_A_grow_ 6 = .ok (.iadd, 1) := by decide +kernel
theorem d_A_grow__7 : decode k_A_grow_ 7 = .ok (.invokevirtual 69, 3) := by decide +kernel
theorem d_A_grow__10 : decode k_A_grow_ 10 = .ok (.areturn, 1) := by decide +kernel
def m_A_grow_ (q : Nat) (σ : CS) : Option (Nat × CS) :=
  gd (q = 5 ∨ q = 6) <| bd (cI σ q 1) fun x1 => bc2 (m_A_grow_I q (x1 + (1 : Int32)) σ) fun x3 r2 => some (x3, r2)
section
variable {p : Program} {l : Launch} {e : Env} {s : State} {m : MethodId} {args : Array Value} {below : List Frame} {meth : Method} {c : Code} {D : va_G} {tc : Nat → ClassId} {b z : Nat} {σ0 : CS}
theorem t_A_grow__0 (S : CC p m c k_A_grow_ 1 s args cn_A meth (Option.some (Jvm.ClassFile.FieldType.array (Jvm.ClassFile.FieldType.object "java/lang/Object"))) D tc b z) (q : Nat) (σ : CS) {B : Nat × CS} (h : m_A_grow_ q σ = some B) {ls : Array Slot} {H : Heap} {locs : List Loc} {cells slots : Nat} (hl : lv_has ls 1 [(0, .ref (b + q))]) (hW : CWS D tc b z s σ0 σ H locs cells slots) : W p l e (CR 4 107 σ0) s m args below meth c H locs cells slots (CE D tc b z below args s σ0 (some (.ref (b + B.1))) B.2) (F0 m 0 ls []) := by
  have hx := S.1.1
  have hb := S.1.2.1
  unfold m_A_grow_ at h
  obtain ⟨hq, h⟩ := gd_s h
  refine lv_aload_n hx hb d_A_grow__0 rfl (lv_at hl 0 rfl) ?_
  refine lv_aload_n hx hb d_A_grow__1 rfl (lv_at hl 0 rfl) ?_
  refine cm_geti kx_A S hW (kA hq) 1 wd_162 (by decide) d_A_grow__2 h (fun x1 h => ?_)
  refine lv_iconst (v := 1) hx hb d_A_grow__5 (by decide) ?_
  refine lv_iadd hx hb d_A_grow__6 ?_
  refine cm_cVr [.int (x1 + (1 : Int32))] kx_A S hW (kA hq) (fun x σ' hc => c_A_grow_I q (x1 + (1 : Int32)) σ hc) q_A_grow_I wd_463 wd_2 wd_461 (by decide) hl.1 rfl rfl (Nat.le_of_ble_eq_true rfl) d_A_grow__7 h (fun x3 r2 H locs cells slots h hW => ?_)
  exact cm_rret S (by first | exact Or.inl ⟨_, rfl⟩ | exact Or.inr ⟨_, rfl⟩) hW d_A_grow__10 h
theorem c_A_grow_ (q : Nat) (σ : CS) {x : Nat} {σ' : CS} (h : m_A_grow_ q σ = some (x, σ')) : CMet l D tc b z y_A_grow_ k_A_grow_ 1 (Option.some (Jvm.ClassFile.FieldType.array (Jvm.ClassFile.FieldType.object "java/lang/Object"))) 4 107 [.ref (b + q)] σ (some (.ref (b + x))) σ' := cm_met (by decide) (Nat.le_of_ble_eq_true rfl) fun p e s m args below meth c S hW ls hl => t_A_grow__0 S q σ h hl hW
end

/-! java/util/ArrayList.add (Ljava/lang/Object;[Ljava/lang/Object;I)V -/
abbrev k_A_add_LoLoI : ByteArray := prog_28_method_24_code
abbrev y_A_add_LoLoI : MethodName := ⟨cn_A, "add", "(Ljava/lang/Object;[Ljava/lang/Object;I)V"⟩
theorem q_A_add_LoLoI : Calee y_A_add_LoLoI k_A_add_LoLoI 4 none 3 := ⟨wd_456, wd_84, by decide, by decide +kernel⟩
theorem d_A_add_LoLoI_0 : decode k_A_add_LoLoI 0 = .ok (.iload_n 3, 1) := by decide +kernel
theorem d_A_add_LoLoI_1 : decode k_A_add_LoLoI 1 = .ok (.aload_n 2, 1) := by decide +kernel
theorem d_A_add_LoLoI_2 : decode k_A_add_LoLoI 2 = .ok (.arraylength, 1) := by decide +kernel
theorem d_A_add_LoLoI_3 : decode k_A_add_LoLoI 3 = .ok (.if_icmp .ne 8, 3) := by decide +kernel
theorem d_A_add_LoLoI_6 : decode k_A_add_LoLoI 6 = .ok (.aload_n 0, 1) := by decide +kernel
theorem d_A_add_LoLoI_7 : decode k_A_add_LoLoI 7 = .ok (.invokevirtual 129, 3) := by decide +kernel
theorem d_A_add_LoLoI_10 : decode k_A_add_LoLoI 10 = .ok (.astore_n 2, 1) := by decide +kernel
theorem d_A_add_LoLoI_11 : decode k_A_add_LoLoI 11 = .ok (.aload_n 2, 1) := by decide +kernel
theorem d_A_add_LoLoI_12 : decode k_A_add_LoLoI 12 = .ok (.iload_n 3, 1) := by decide +kernel
theorem d_A_add_LoLoI_13 : decode k_A_add_LoLoI 13 = .ok (.aload_n 1, 1) := by decide +kernel
theorem d_A_add_LoLoI_14 : decode k_A_add_LoLoI 14 = .ok (.aastore, 1) := by decide +kernel
theorem d_A_add_LoLoI_15 : decode k_A_add_LoLoI 15 = .ok (.aload_n 0, 1) := by decide +kernel
theorem d_A_add_LoLoI_16 : decode k_A_add_LoLoI 16 = .ok (.iload_n 3, 1) := by decide +kernel
theorem d_A_add_LoLoI_17 : decode k_A_add_LoLoI 17 = .ok (.iconst 1, 1) := by decide +kernel
theorem d_A_add_LoLoI_18 : decode k_A_add_LoLoI 18 = .ok (.iadd, 1) := by decide +kernel
theorem d_A_add_LoLoI_19 : decode k_A_add_LoLoI 19 = .ok (.putfield 48, 3) := by decide +kernel
theorem d_A_add_LoLoI_22 : decode k_A_add_LoLoI 22 = .ok (.return_, 1) := by decide +kernel
def b_A_add_LoLoI_11 (q : Nat) (v1 : Nat) (v2 : Option Nat) (v3 : Int32) (σ : CS) : Option (CS) :=
  bc v2 fun a1 => gd (kd σ a1 = 25 ∧ inb v3 (cN σ a1) ∧ kd σ v1 = 11) <| bd (wr σ a1 v3.toNatClampNeg (some v1)) fun r2 => bd (wi r2 q 1 (v3 + (1 : Int32))) fun r3 => some r3
def m_A_add_LoLoI (q : Nat) (v1 : Nat) (v2 : Option Nat) (v3 : Int32) (σ : CS) : Option (CS) :=
  gd (q = 5 ∨ q = 6) <| gd (v2.elim 25 (kd σ) = 25) <| bd (nI (v2.elim 0 (cN σ))) fun x1 => if v3 = x1 then
  (bc2 (m_A_grow_ q σ) fun x3 r2 => b_A_add_LoLoI_11 q v1 (some x3) v3 r2)
 else
  (b_A_add_LoLoI_11 q v1 v2 v3 σ)
section
variable {p : Program} {l : Launch} {e : Env} {s : State} {m : MethodId} {args : Array Value} {below : List Frame} {meth : Method} {c : Code} {D : va_G} {tc : Nat → ClassId} {b z : Nat} {σ0 : CS}
theorem t_A_add_LoLoI_11 {q : Nat} (S : CC p m c k_A_add_LoLoI 4 s args cn_A meth none D tc b z) (hq : q = 5 ∨ q = 6) (v1 : Nat) (v2 : Option Nat) (v3 : Int32) (σ : CS) {B : CS} (h : b_A_add_LoLoI_11 q v1 v2 v3 σ = some B) {ls : Array Slot} {H : Heap} {locs : List Loc} {cells slots : Nat} (hl : lv_has ls 4 [(0, .ref (b + q)), (1, .ref (b + v1)), (2, lz b z v2), (3, .int v3)]) (hW : CWS D tc b z s σ0 σ H locs cells slots) : W p l e (CR 5 127 σ0) s m args below meth c H locs cells slots (CE D tc b z below args s σ0 none B) (F0 m 11 ls []) := by
  have hx := S.1.1
  have hb := S.1.2.1
  unfold b_A_add_LoLoI_11 at h
  refine lv_aload_n hx hb d_A_add_LoLoI_11 rfl (lv_at hl 2 rfl) ?_
  refine cm_nnd h (fun a1 h => ?_)
  refine lv_iload_n hx hb d_A_add_LoLoI_12 rfl (lv_at hl 3 rfl) ?_
  refine lv_aload_n hx hb d_A_add_LoLoI_13 rfl (lv_at hl 1 rfl) ?_
  refine cm_aast S hW d_A_add_LoLoI_14 h (fun r2 H locs h hW => ?_)
  refine lv_aload_n hx hb d_A_add_LoLoI_15 rfl (lv_at hl 0 rfl) ?_
  refine lv_iload_n hx hb d_A_add_LoLoI_16 rfl (lv_at hl 3 rfl) ?_
  refine lv_iconst (v := 1) hx hb d_A_add_LoLoI_17 (by decide) ?_
  refine lv_iadd hx hb d_A_add_LoLoI_18 ?_
  refine cm_puti kx_A S hW (kA hq) 1 wd_162 (by decide) d_A_add_LoLoI_19 h (fun r3 H locs h hW => ?_)
  exact cm_vret S hW d_A_add_LoLoI_22 h
theorem t_A_add_LoLoI_0 (S : CC p m c k_A_add_LoLoI 4 s args cn_A meth none D tc b z) (q : Nat) (v1 : Nat) (v2 : Option Nat) (v3 : Int32) (σ : CS) {B : CS} (h : m_A_add_LoLoI q v1 v2 v3 σ = some B) {ls : Array Slot} {H : Heap} {locs : List Loc} {cells slots : Nat} (hl : lv_has ls 4 [(0, .ref (b + q)), (1, .ref (b + v1)), (2, lz b z v2), (3, .int v3)]) (hW : CWS D tc b z s σ0 σ H locs cells slots) : W p l e (CR 5 127 σ0) s m args below meth c H locs cells slots (CE D tc b z below args s σ0 none B) (F0 m 0 ls []) := by
  have hx := S.1.1
  have hb := S.1.2.1
  unfold m_A_add_LoLoI at h
  obtain ⟨hq, h⟩ := gd_s h
  refine lv_iload_n hx hb d_A_add_LoLoI_0 rfl (lv_at hl 3 rfl) ?_
  refine lv_aload_n hx hb d_A_add_LoLoI_1 rfl (lv_at hl 2 rfl) ?_
  refine cm_alend S hW d_A_add_LoLoI_2 h (fun x1 h => ?_)
  refine rc_ne (tgt := 11) hx hb d_A_add_LoLoI_3 (by decide) h (fun h => ?_) (fun h => ?_)
  · exact t_A_add_LoLoI_11 S hq v1 v2 v3 σ h (lv_sub hl [0, 1, 2, 3] rfl) hW
  · refine lv_aload_n hx hb d_A_add_LoLoI_6 rfl (lv_at hl 0 rfl) ?_
    refine cm_cVr [] kx_A S hW (kA hq) (fun x σ' hc => c_A_grow_ q σ hc) q_A_grow_ wd_459 wd_1 wd_457 (by decide) hl.1 rfl rfl (Nat.le_of_ble_eq_true rfl) d_A_add_LoLoI_7 h (fun x3 r2 H locs cells slots h hW => ?_)
    refine lv_astore_n (lv' := [(2, lz b z ((some x3))), (0, .ref (b + q)), (1, .ref (b + v1)), (3, .int v3)]) hx hb d_A_add_LoLoI_10 rfl hl (by decide) rfl (fun ls hl => ?_)
    exact t_A_add_LoLoI_11 S hq v1 (some x3) v3 r2 h (lv_sub hl [1, 2, 0, 3] rfl) hW
theorem c_A_add_LoLoI (q : Nat) (v1 : Nat) (v2 : Option Nat) (v3 : Int32) (σ : CS) {B : CS} (h : m_A_add_LoLoI q v1 v2 v3 σ = some B) : CMet l D tc b z y_A_add_LoLoI k_A_add_LoLoI 4 none 5 127 [.ref (b + q), .ref (b + v1), lz b z v2, .int v3] σ none B := cm_met (by decide) (Nat.le_of_ble_eq_true rfl) fun p e s m args below meth c S hW ls hl => t_A_add_LoLoI_0 S q v1 v2 v3 σ h hl hW
end

/-! java/util/ArrayList.add (Ljava/lang/Object;)Z -/
abbrev k_A_add_Lo : ByteArray := prog_28_method_25_code
abbrev y_A_add_Lo : MethodName := ⟨cn_A, "add", "(Ljava/lang/Object;)Z"⟩
theorem q_A_add_Lo : Calee y_A_add_Lo k_A_add_Lo 2 (Option.some Jvm.ClassFile.FieldType.boolean) 1 := ⟨wd_452, wd_84, by decide, by decide +kernel⟩
theorem d_A_add_Lo_0 : decode k_A_add_Lo 0 = .ok (.aload_n 0, 1) := by decide +kernel
theorem d_A_add_Lo_1 : decode k_A_add_Lo 1 = .ok (.dup, 1) := by decide +kernel
theorem d_A_add_Lo_2 : decode k_A_add_Lo 2 = .ok (.getfield 63, 3) := by decide +kernel
theorem d_A_add_Lo_5 : decode k_A_add_Lo 5 = .ok (.iconst 1, 1) := by decide +kernel
theorem d_A_add_Lo_6 : decode k_A_add_Lo 6 = .ok (.iadd, 1) := by decide +kernel
theorem d_A_add_Lo_7 : decode k_A_add_Lo 7 = .ok (.putfield 63, 3) := by decide +kernel
theorem d_A_add_Lo_10 : decode k_A_add_Lo 10 = .ok (.aload_n 0, 1) := by decide +kernel
theorem d_A_add_Lo_11 : decode k_A_add_Lo 11 = .ok (.aload_n 1, 1) := by decide +kernel
theorem d_A_add_Lo_12 : decode k_A_add_Lo 12 = .ok (.aload_n 0, 1) := by decide +kernel
theorem d_A_add_Lo_13 : decode k_A_add_Lo 13 = .ok (.getfield 9, 3) := by decide +kernel
theorem d_A_add_Lo_16 : decode k_A_add_Lo 16 = .ok (.aload_n 0, 1) := by decide +kernel
theorem d_A_add_Lo_17 : decode k_A_add_Lo 17 = .ok (.getfield 48, 3) := by decide +kernel
theorem d_A_add_Lo_20 : decode k_A_add_Lo 20 = .ok (.invokevirtual 131, 3) := by decide +kernel
theorem d_A_add_Lo_23 : decode k_A_add_Lo 23 = .ok (.iconst 1, 1) := by decide +kernel
theorem d_A_add_Lo_24 : decode k_A_add_Lo 24 = .ok (.ireturn, 1) := by decide +kernel
def m_A_add_Lo (q : Nat) (v1 : Nat) (σ : CS) : Option (Int32 × CS) :=
  gd (q = 5 ∨ q = 6) <| bd (cI σ q 2) fun x1 => bd (wi σ q 2 (x1 + (1 : Int32))) fun r2 => bd (cR r2 q 0) fun u3 => bd (cI r2 q 1) fun x4 => bc (m_A_add_LoLoI q v1 u3 x4 r2) fun r5 => gd ((1 : Int32) = 0 ∨ (1 : Int32) = 1) (some ((1 : Int32), r5))
section
variable {p : Program} {l : Launch} {e : Env} {s : State} {m : MethodId} {args : Array Value} {below : List Frame} {meth : Method} {c : Code} {D : va_G} {tc : Nat → ClassId} {b z : Nat} {σ0 : CS}
theorem t_A_add_Lo_0 (S : CC p m c k_A_add_Lo 2 s args cn_A meth (Option.some Jvm.ClassFile.FieldType.boolean) D tc b z) (q : Nat) (v1 : Nat) (σ : CS) {B : Int32 × CS} (h : m_A_add_Lo q v1 σ = some B) {ls : Array Slot} {H : Heap} {locs : List Loc} {cells slots : Nat} (hl : lv_has ls 2 [(0, .ref (b + q)), (1, .ref (b + v1))]) (hW : CWS D tc b z s σ0 σ H locs cells slots) : W p l e (CR 6 150 σ0) s m args below meth c H locs cells slots (CE D tc b z below args s σ0 (some (.int B.1)) B.2) (F0 m 0 ls []) := by
  have hx := S.1.1
  have hb := S.1.2.1
  unfold m_A_add_Lo at h
  obtain ⟨hq, h⟩ := gd_s h
  refine lv_aload_n hx hb d_A_add_Lo_0 rfl (lv_at hl 0 rfl) ?_
  refine lv_dup hx hb d_A_add_Lo_1 rfl ?_
  refine cm_getmod S hW (kA hq) wd_164 wd_165 d_A_add_Lo_2 h (fun x1 h => ?_)
  refine lv_iconst (v := 1) hx hb d_A_add_Lo_5 (by decide) ?_
  refine lv_iadd hx hb d_A_add_Lo_6 ?_
  refine cm_putmod S hW (kA hq) wd_164 wd_165 d_A_add_Lo_7 h (fun r2 H locs h hW => ?_)
  refine lv_aload_n hx hb d_A_add_Lo_10 rfl (lv_at hl 0 rfl) ?_
  refine lv_aload_n hx hb d_A_add_Lo_11 rfl (lv_at hl 1 rfl) ?_
  refine lv_aload_n hx hb d_A_add_Lo_12 rfl (lv_at hl 0 rfl) ?_
  refine cm_getd kx_A S hW (kA hq) 0 wd_161 (by decide) d_A_add_Lo_13 h (fun u3 h => ?_)
  refine lv_aload_n hx hb d_A_add_Lo_16 rfl (lv_at hl 0 rfl) ?_
  refine cm_geti kx_A S hW (kA hq) 1 wd_162 (by decide) d_A_add_Lo_17 h (fun x4 h => ?_)
  refine cm_cVv [.ref (b + v1), lz b z u3, .int x4] kx_A S hW (kA hq) (fun σ' hc => c_A_add_LoLoI q v1 u3 x4 r2 hc) q_A_add_LoLoI wd_455 wd_0 wd_453 (by decide) hl.1 rfl rfl (Nat.le_of_ble_eq_true rfl) d_A_add_Lo_20 h (fun r5 H locs cells slots h hW => ?_)
  refine lv_iconst (v := 1) hx hb d_A_add_Lo_23 (by decide) ?_
  exact cm_zret S hW d_A_add_Lo_24 h
theorem c_A_add_Lo (q : Nat) (v1 : Nat) (σ : CS) {x : Int32} {σ' : CS} (h : m_A_add_Lo q v1 σ = some (x, σ')) : CMet l D tc b z y_A_add_Lo k_A_add_Lo 2 (Option.some Jvm.ClassFile.FieldType.boolean) 6 150 [.ref (b + q), .ref (b + v1)] σ (some (.int x)) σ' := cm_met (by decide) (Nat.le_of_ble_eq_true rfl) fun p e s m args below meth c S hW ls hl => t_A_add_Lo_0 S q v1 σ h hl hW
end
