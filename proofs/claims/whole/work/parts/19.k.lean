/-! java/util/Arrays.copyOf ([BI)[B -/
abbrev k_K_copyOf_BI : ByteArray := prog_29_method_121_code
abbrev y_K_copyOf_BI : MethodName := ⟨"java/util/Arrays", "copyOf", "([BI)[B"⟩
theorem q_K_copyOf_BI : Calee y_K_copyOf_BI k_K_copyOf_BI 3 (Option.some (Jvm.ClassFile.FieldType.array Jvm.ClassFile.FieldType.byte)) 2 := ⟨wd_734, wd_95, by decide, by decide +kernel⟩
theorem d_K_copyOf_BI_0 : decode k_K_copyOf_BI 0 = .ok (.iload_n 1, 1) := by decide +kernel
theorem d_K_copyOf_BI_1 : decode k_K_copyOf_BI 1 = .ok (.aload_n 0, 1) := by decide +kernel
theorem d_K_copyOf_BI_2 : decode k_K_copyOf_BI 2 = .ok (.arraylength, 1) := by decide +kernel
theorem d_K_copyOf_BI_3 : decode k_K_copyOf_BI 3 = .ok (.if_icmp .ne 11, 3) := by decide +kernel
theorem d_K_copyOf_BI_6 : decode k_K_copyOf_BI 6 = .ok (.aload_n 0, 1) := by decide +kernel
theorem d_K_copyOf_BI_14 : decode k_K_copyOf_BI 14 = .ok (.iload_n 1, 1) := by decide +kernel
theorem d_K_copyOf_BI_15 : decode k_K_copyOf_BI 15 = .ok (.newarray .byte, 2) := by decide +kernel
theorem d_K_copyOf_BI_17 : decode k_K_copyOf_BI 17 = .ok (.astore_n 2, 1) := by decide +kernel
theorem d_K_copyOf_BI_18 : decode k_K_copyOf_BI 18 = .ok (.aload_n 0, 1) := by decide +kernel
theorem d_K_copyOf_BI_19 : decode k_K_copyOf_BI 19 = .ok (.iconst 0, 1) := by decide +kernel
theorem d_K_copyOf_BI_20 : decode k_K_copyOf_BI 20 = .ok (.aload_n 2, 1) := by decide +kernel
theorem d_K_copyOf_BI_21 : decode k_K_copyOf_BI 21 = .ok (.iconst 0, 1) := by decide +kernel
theorem d_K_copyOf_BI_22 : decode k_K_copyOf_BI 22 = .ok (.aload_n 0, 1) := by decide +kernel
theorem d_K_copyOf_BI_23 : decode k_K_copyOf_BI 23 = .ok (.arraylength, 1) := by decide +kernel
theorem d_K_copyOf_BI_24 : decode k_K_copyOf_BI 24 = .ok (.iload_n 1, 1) := by decide +kernel
theorem d_K_copyOf_BI_25 : decode k_K_copyOf_BI 25 = .ok (.invokestatic 304, 3) := by decide +kernel
theorem d_K_copyOf_BI_28 : decode k_K_copyOf_BI 28 = .ok (.invokestatic 150, 3) := by decide +kernel
theorem d_K_copyOf_BI_31 : decode k_K_copyOf_BI 31 = .ok (.aload_n 2, 1) := by decide +kernel
theorem d_K_copyOf_BI_32 : decode k_K_copyOf_BI 32 = .ok (.areturn, 1) := by decide +kernel
def m_K_copyOf_BI (v0 : Nat) (v1 : Int32) (σ : CS) : Option (Nat × CS) :=
  gd (kd σ v0 = 21 ∨ kd σ v0 = 24 ∨ kd σ v0 = 25) <| bd (nI (cN σ v0)) fun x1 => if v1 = x1 then
  (none)
 else
  (gd (¬ v1 < 0 ∧ cX σ + 1 ≤ 601024 ∧ cU σ + v1.toNatClampNeg ≤ 7293034) <| bd2 (cX σ) (wa σ 21 v1.toNatClampNeg v1.toNatClampNeg) fun a2 r3 => gd (kd r3 v0 = 21 ∨ kd r3 v0 = 24 ∨ kd r3 v0 = 25) <| bd (nI (cN r3 v0)) fun x4 => bd (if v1 < x4 then v1 else x4) fun x5 => gd (kd r3 v0 = 21 ∧ kd r3 a2 = 21 ∧ ¬ (0 : Int32) < 0 ∧ ¬ (0 : Int32) < 0 ∧ ¬ x5 < 0 ∧ (0 : Int32).toNatClampNeg + x5.toNatClampNeg ≤ cN r3 v0 ∧ (0 : Int32).toNatClampNeg + x5.toNatClampNeg ≤ cN r3 a2) <| bd (wcp r3 v0 a2 (0 : Int32).toNatClampNeg (0 : Int32).toNatClampNeg x5.toNatClampNeg) fun r6 => some (a2, r6))
section
variable {p : Program} {l : Launch} {e : Env} {s : State} {m : MethodId} {args : Array Value} {below : List Frame} {meth : Method} {c : Code} {D : va_G} {tc : Nat → ClassId} {b z : Nat} {σ0 : CS}
theorem t_K_copyOf_BI_0 (S : CC p m c k_K_copyOf_BI 3 s args "java/util/Arrays" meth (Option.some (Jvm.ClassFile.FieldType.array Jvm.ClassFile.FieldType.byte)) D tc b z) (v0 : Nat) (v1 : Int32) (σ : CS) {B : Nat × CS} (h : m_K_copyOf_BI v0 v1 σ = some B) {ls : Array Slot} {H : Heap} {locs : List Loc} {cells slots : Nat} (hl : lv_has ls 3 [(0, .ref (b + v0)), (1, .int v1)]) (hW : CWS D tc b z s σ0 σ H locs cells slots) : W p l e (CR 1 40 σ0) s m args below meth c H locs cells slots (CE D tc b z below args s σ0 (some (.ref (b + B.1))) B.2) (F0 m 0 ls []) := by
  have hx := S.1.1
  have hb := S.1.2.1
  unfold m_K_copyOf_BI at h
  refine lv_iload_n hx hb d_K_copyOf_BI_0 rfl (lv_at hl 1 rfl) ?_
  refine lv_aload_n hx hb d_K_copyOf_BI_1 rfl (lv_at hl 0 rfl) ?_
  refine cm_alen S hW d_K_copyOf_BI_2 h (fun x1 h => ?_)
  refine rc_ne (tgt := 14) hx hb d_K_copyOf_BI_3 (by decide) h (fun h => ?_) (fun h => ?_)
  · refine lv_iload_n hx hb d_K_copyOf_BI_14 rfl (lv_at hl 1 rfl) ?_
    refine cm_newb S hW d_K_copyOf_BI_15 wd_129 h (fun a2 r3 H cells slots h hW => ?_)
    refine lv_astore_n (lv' := [(2, .ref (b + a2)), (0, .ref (b + v0)), (1, .int v1)]) hx hb d_K_copyOf_BI_17 rfl hl (by decide) rfl (fun ls hl => ?_)
    refine lv_aload_n hx hb d_K_copyOf_BI_18 rfl (lv_at hl 1 rfl) ?_
    refine lv_iconst (v := 0) hx hb d_K_copyOf_BI_19 (by decide) ?_
    refine lv_aload_n hx hb d_K_copyOf_BI_20 rfl (lv_at hl 0 rfl) ?_
    refine lv_iconst (v := 0) hx hb d_K_copyOf_BI_21 (by decide) ?_
    refine lv_aload_n hx hb d_K_copyOf_BI_22 rfl (lv_at hl 1 rfl) ?_
    refine cm_alen S hW d_K_copyOf_BI_23 h (fun x4 h => ?_)
    refine lv_iload_n hx hb d_K_copyOf_BI_24 rfl (lv_at hl 2 rfl) ?_
    refine cm_jmin S hW wd_505 wd_506 wd_96 wd_507 hl.1 (by decide) (Nat.le_of_ble_eq_true rfl) d_K_copyOf_BI_25 ?_
    refine rv_i h (fun x5 h => ?_)
    refine cm_copyb S hW wd_508 wd_510 wd_509 wd_97 hl.1 (by decide) (by decide) d_K_copyOf_BI_28 h (fun r6 H locs h hW => ?_)
    refine lv_aload_n hx hb d_K_copyOf_BI_31 rfl (lv_at hl 0 rfl) ?_
    exact cm_rret S (by first | exact Or.inl ⟨_, rfl⟩ | exact Or.inr ⟨_, rfl⟩) hW d_K_copyOf_BI_32 h
  · refine lv_aload_n hx hb d_K_copyOf_BI_6 rfl (lv_at hl 0 rfl) ?_
    exact absurd h (by simp)
theorem c_K_copyOf_BI (v0 : Nat) (v1 : Int32) (σ : CS) {x : Nat} {σ' : CS} (h : m_K_copyOf_BI v0 v1 σ = some (x, σ')) : CMet l D tc b z y_K_copyOf_BI k_K_copyOf_BI 3 (Option.some (Jvm.ClassFile.FieldType.array Jvm.ClassFile.FieldType.byte)) 1 40 [.ref (b + v0), .int v1] σ (some (.ref (b + x))) σ' := cm_met (by decide) (Nat.le_of_ble_eq_true rfl) fun p e s m args below meth c S hW ls hl => t_K_copyOf_BI_0 S v0 v1 σ h hl hW
end

/-! java/util/Arrays.fill ([SS)V -/
abbrev k_K_fill_SS : ByteArray := prog_29_method_105_code
abbrev y_K_fill_SS : MethodName := ⟨"java/util/Arrays", "fill", "([SS)V"⟩
theorem q_K_fill_SS : Calee y_K_fill_SS k_K_fill_SS 4 none 2 := ⟨wd_531, wd_95, by decide, by decide +kernel⟩
theorem d_K_fill_SS_0 : decode k_K_fill_SS 0 = .ok (.iconst 0, 1) := by decide +kernel
theorem d_K_fill_SS_1 : decode k_K_fill_SS 1 = .ok (.istore_n 2, 1) := by decide +kernel
theorem d_K_fill_SS_2 : decode k_K_fill_SS 2 = .ok (.aload_n 0, 1) := by decide +kernel
theorem d_K_fill_SS_3 : decode k_K_fill_SS 3 = .ok (.arraylength, 1) := by decide +kernel
theorem d_K_fill_SS_4 : decode k_K_fill_SS 4 = .ok (.istore_n 3, 1) := by decide +kernel
theorem d_K_fill_SS_5 : decode k_K_fill_SS 5 = .ok (.iload_n 2, 1) := by decide +kernel
theorem d_K_fill_SS_6 : decode k_K_fill_SS 6 = .ok (.iload_n 3, 1) := by decide +kernel
theorem d_K_fill_SS_7 : decode k_K_fill_SS 7 = .ok (.if_icmp .ge 13, 3) := by decide +kernel
theorem d_K_fill_SS_10 : decode k_K_fill_SS 10 = .ok (.aload_n 0, 1) := by decide +kernel
theorem d_K_fill_SS_11 : decode k_K_fill_SS 11 = .ok (.iload_n 2, 1) := by decide +kernel
theorem d_K_fill_SS_12 : decode k_K_fill_SS 12 = .ok (.iload_n 1, 1) := by decide +kernel
theorem d_K_fill_SS_13 : decode k_K_fill_SS 13 = .ok (.sastore, 1) := by decide +kernel
theorem d_K_fill_SS_14 : decode k_K_fill_SS 14 = .ok (.iinc 2 1, 3) := by decide +kernel
theorem d_K_fill_SS_17 : decode k_K_fill_SS 17 = .ok (.goto (-12), 3) := by decide +kernel
theorem d_K_fill_SS_20 : decode k_K_fill_SS 20 = .ok (.return_, 1) := by decide +kernel
def F_K_fill_SS_5 (rec5 : Nat → Int32 → Int32 → Int32 → CS → Option (CS)) (v0 : Nat) (v1 : Int32) (v2 : Int32) (v3 : Int32) (σ : CS) : Option (CS) :=
  if v3 ≤ v2 then
  (some σ)
 else
  (gd (kd σ v0 = 24 ∧ inb v2 (cN σ v0)) <| bd (wi σ v0 v2.toNatClampNeg (vp_nar .short v1)) fun r1 => bd (v2 + (1 : Int32)) fun x2 => rec5 v0 v1 x2 v3 r1)
def m_K_fill_SS (v0 : Nat) (v1 : Int32) (σ : CS) : Option (CS) :=
  gd (kd σ v0 = 21 ∨ kd σ v0 = 24 ∨ kd σ v0 = 25) <| bd (nI (cN σ v0)) fun x1 => lq5 (F_K_fill_SS_5) fuel v0 v1 (0 : Int32) x1 σ
def P_K_fill_SS_5 (p : Program) (l : Launch) (e : Env) (s : State) (m : MethodId) (args : Array Value) (below : List Frame) (meth : Method) (c : Code) (D : va_G) (tc : Nat → ClassId) (b z : Nat) (σ0 : CS) (v0 : Nat) (v1 : Int32) (v2 : Int32) (v3 : Int32) (σ : CS) (B : CS) : Prop := ∀ (ls : Array Slot) (H : Heap) (locs : List Loc) (cells slots : Nat), lv_has ls 4 [(0, .ref (b + v0)), (1, .int v1), (2, .int v2), (3, .int v3)] → CWS D tc b z s σ0 σ H locs cells slots → W p l e (CR 0 0 σ0) s m args below meth c H locs cells slots (CE D tc b z below args s σ0 none B) (F0 m 5 ls [])
section
variable {p : Program} {l : Launch} {e : Env} {s : State} {m : MethodId} {args : Array Value} {below : List Frame} {meth : Method} {c : Code} {D : va_G} {tc : Nat → ClassId} {b z : Nat} {σ0 : CS}
theorem tF_K_fill_SS_5 (S : CC p m c k_K_fill_SS 4 s args "java/util/Arrays" meth none D tc b z) : ∀ (rec5 : Nat → Int32 → Int32 → Int32 → CS → Option (CS)), (∀ (v0 : Nat) (v1 : Int32) (v2 : Int32) (v3 : Int32) (σ : CS) (B : CS), rec5 v0 v1 v2 v3 σ = some B → P_K_fill_SS_5 p l e s m args below meth c D tc b z σ0 v0 v1 v2 v3 σ B) → ∀ (v0 : Nat) (v1 : Int32) (v2 : Int32) (v3 : Int32) (σ : CS) (B : CS), F_K_fill_SS_5 rec5 v0 v1 v2 v3 σ = some B → P_K_fill_SS_5 p l e s m args below meth c D tc b z σ0 v0 v1 v2 v3 σ B := by
  intro rec5 hrec5 v0 v1 v2 v3 σ B h ls H locs cells slots hl hW
  have hx := S.1.1
  have hb := S.1.2.1
  unfold F_K_fill_SS_5 at h
  refine lv_iload_n hx hb d_K_fill_SS_5 rfl (lv_at hl 2 rfl) ?_
  refine lv_iload_n hx hb d_K_fill_SS_6 rfl (lv_at hl 3 rfl) ?_
  refine rc_ge (tgt := 20) hx hb d_K_fill_SS_7 (by decide) h (fun h => ?_) (fun h => ?_)
  · exact cm_vret S hW d_K_fill_SS_20 h
  · refine lv_aload_n hx hb d_K_fill_SS_10 rfl (lv_at hl 0 rfl) ?_
    refine lv_iload_n hx hb d_K_fill_SS_11 rfl (lv_at hl 2 rfl) ?_
    refine lv_iload_n hx hb d_K_fill_SS_12 rfl (lv_at hl 1 rfl) ?_
    refine cm_sast S hW d_K_fill_SS_13 h (fun r1 H locs h hW => ?_)
    refine rv_iinc (k := 2) (v := 1) (lv' := fun x2 => [(2, .int x2), (0, .ref (b + v0)), (1, .int v1), (3, .int v3)]) hx hb d_K_fill_SS_14 hl rfl (by decide) (by decide) (fun _ => rfl) h (fun x2 ls h hl => ?_)
    refine lv_goto (tgt := 5) hx hb d_K_fill_SS_17 (by decide) ?_
    exact hrec5 v0 v1 x2 v3 r1 _ h _ _ _ _ _ (lv_sub hl [1, 2, 0, 3] rfl) hW
theorem t_K_fill_SS_5 (S : CC p m c k_K_fill_SS 4 s args "java/util/Arrays" meth none D tc b z) : ∀ (n : Nat) (v0 : Nat) (v1 : Int32) (v2 : Int32) (v3 : Int32) (σ : CS) (B : CS), lq5 (F_K_fill_SS_5) n v0 v1 v2 v3 σ = some B → P_K_fill_SS_5 p l e s m args below meth c D tc b z σ0 v0 v1 v2 v3 σ B := lq5_s (tF_K_fill_SS_5 S)
theorem t_K_fill_SS_0 (S : CC p m c k_K_fill_SS 4 s args "java/util/Arrays" meth none D tc b z) (v0 : Nat) (v1 : Int32) (σ : CS) {B : CS} (h : m_K_fill_SS v0 v1 σ = some B) {ls : Array Slot} {H : Heap} {locs : List Loc} {cells slots : Nat} (hl : lv_has ls 4 [(0, .ref (b + v0)), (1, .int v1)]) (hW : CWS D tc b z s σ0 σ H locs cells slots) : W p l e (CR 0 0 σ0) s m args below meth c H locs cells slots (CE D tc b z below args s σ0 none B) (F0 m 0 ls []) := by
  have hx := S.1.1
  have hb := S.1.2.1
  unfold m_K_fill_SS at h
  refine lv_iconst (v := 0) hx hb d_K_fill_SS_0 (by decide) ?_
  refine lv_istore_n (lv' := [(2, .int (0 : Int32)), (0, .ref (b + v0)), (1, .int v1)]) hx hb d_K_fill_SS_1 rfl hl (by decide) rfl (fun ls hl => ?_)
  refine lv_aload_n hx hb d_K_fill_SS_2 rfl (lv_at hl 1 rfl) ?_
  refine cm_alen S hW d_K_fill_SS_3 h (fun x1 h => ?_)
  refine lv_istore_n (lv' := [(3, .int x1), (2, .int (0 : Int32)), (0, .ref (b + v0)), (1, .int v1)]) hx hb d_K_fill_SS_4 rfl hl (by decide) rfl (fun ls hl => ?_)
  exact t_K_fill_SS_5 S fuel v0 v1 (0 : Int32) x1 σ _ h _ _ _ _ _ (lv_sub hl [2, 3, 1, 0] rfl) hW
theorem c_K_fill_SS (v0 : Nat) (v1 : Int32) (σ : CS) {B : CS} (h : m_K_fill_SS v0 v1 σ = some B) : CMet l D tc b z y_K_fill_SS k_K_fill_SS 4 none 0 0 [.ref (b + v0), .int v1] σ none B := cm_met (by decide) (Nat.le_of_ble_eq_true rfl) fun p e s m args below meth c S hW ls hl => t_K_fill_SS_0 S v0 v1 σ h hl hW
end

/-! jdk/internal/util/ArraysSupport.newLength (III)I -/
abbrev k_Q_newLength : ByteArray := prog_36_method_27_code
abbrev y_Q_newLength : MethodName := ⟨"jdk/internal/util/ArraysSupport", "newLength", "(III)I"⟩
theorem q_Q_newLength : Calee y_Q_newLength k_Q_newLength 4 (Option.some Jvm.ClassFile.FieldType.int) 3 := ⟨wd_467, wd_101, by decide, by decide +kernel⟩
theorem d_Q_newLength_0 : decode k_Q_newLength 0 = .ok (.iload_n 0, 1) := by decide +kernel
theorem d_Q_newLength_1 : decode k_Q_newLength 1 = .ok (.iload_n 1, 1) := by decide +kernel
theorem d_Q_newLength_2 : decode k_Q_newLength 2 = .ok (.iload_n 2, 1) := by decide +kernel
theorem d_Q_newLength_3 : decode k_Q_newLength 3 = .ok (.invokestatic 194, 3) := by decide +kernel
theorem d_Q_newLength_6 : decode k_Q_newLength 6 = .ok (.iadd, 1) := by decide +kernel
theorem d_Q_newLength_7 : decode k_Q_newLength 7 = .ok (.istore_n 3, 1) := by decide +kernel
theorem d_Q_newLength_8 : decode k_Q_newLength 8 = .ok (.iconst 0, 1) := by decide +kernel
theorem d_Q_newLength_9 : decode k_Q_newLength 9 = .ok (.iload_n 3, 1) := by decide +kernel
theorem d_Q_newLength_10 : decode k_Q_newLength 10 = .ok (.if_icmp .ge 11, 3) := by decide +kernel
theorem d_Q_newLength_13 : decode k_Q_newLength 13 = .ok (.iload_n 3, 1) := by decide +kernel
theorem d_Q_newLength_14 : decode k_Q_newLength 14 = .ok (.ldc 200, 2) := by decide +kernel
theorem d_Q_newLength_16 : decode k_Q_newLength 16 = .ok (.if_icmp .gt 5, 3) := by decide +kernel
theorem d_Q_newLength_19 : decode k_Q_newLength 19 = .ok (.iload_n 3, 1) := by decide +kernel
theorem d_Q_newLength_20 : decode k_Q_newLength 20 = .ok (.ireturn, 1) := by decide +kernel
theorem d_Q_newLength_21 : decode k_Q_newLength 21 = .ok (.iload_n 0, 1) := by decide +kernel
theorem d_Q_newLength_22 : decode k_Q_newLength 22 = .ok (.iload_n 1, 1) := by decide +kernel
def b_Q_newLength_21 (v0 : Int32) (v1 : Int32) (σ : CS) : Option (Int32 × CS) :=
  none
def m_Q_newLength (v0 : Int32) (v1 : Int32) (v2 : Int32) (σ : CS) : Option (Int32 × CS) :=
  bd (if v1 < v2 then v2 else v1) fun x1 => bd (v0 + x1) fun x2 => if x2 ≤ (0 : Int32) then
  (b_Q_newLength_21 v0 v1 σ)
 else
  (if (2147483639 : Int32) < x2 then
  (b_Q_newLength_21 v0 v1 σ)
 else
  (some (x2, σ)))
section
variable {p : Program} {l : Launch} {e : Env} {s : State} {m : MethodId} {args : Array Value} {below : List Frame} {meth : Method} {c : Code} {D : va_G} {tc : Nat → ClassId} {b z : Nat} {σ0 : CS}
theorem t_Q_newLength_21 (S : CC p m c k_Q_newLength 4 s args "jdk/internal/util/ArraysSupport" meth (Option.some Jvm.ClassFile.FieldType.int) D tc b z) (v0 : Int32) (v1 : Int32) (σ : CS) {B : Int32 × CS} (h : b_Q_newLength_21 v0 v1 σ = some B) {ls : Array Slot} {H : Heap} {locs : List Loc} {cells slots : Nat} (hl : lv_has ls 4 [(0, .int v0), (1, .int v1)]) (hW : CWS D tc b z s σ0 σ H locs cells slots) : W p l e (CR 1 24 σ0) s m args below meth c H locs cells slots (CE D tc b z below args s σ0 (some (.int B.1)) B.2) (F0 m 21 ls []) := by
  have hx := S.1.1
  have hb := S.1.2.1
  unfold b_Q_newLength_21 at h
  refine lv_iload_n hx hb d_Q_newLength_21 rfl (lv_at hl 0 rfl) ?_
  refine lv_iload_n hx hb d_Q_newLength_22 rfl (lv_at hl 1 rfl) ?_
  exact absurd h (by simp)
theorem t_Q_newLength_0 (S : CC p m c k_Q_newLength 4 s args "jdk/internal/util/ArraysSupport" meth (Option.some Jvm.ClassFile.FieldType.int) D tc b z) (v0 : Int32) (v1 : Int32) (v2 : Int32) (σ : CS) {B : Int32 × CS} (h : m_Q_newLength v0 v1 v2 σ = some B) {ls : Array Slot} {H : Heap} {locs : List Loc} {cells slots : Nat} (hl : lv_has ls 4 [(0, .int v0), (1, .int v1), (2, .int v2)]) (hW : CWS D tc b z s σ0 σ H locs cells slots) : W p l e (CR 1 24 σ0) s m args below meth c H locs cells slots (CE D tc b z below args s σ0 (some (.int B.1)) B.2) (F0 m 0 ls []) := by
  have hx := S.1.1
  have hb := S.1.2.1
  unfold m_Q_newLength at h
  refine lv_iload_n hx hb d_Q_newLength_0 rfl (lv_at hl 0 rfl) ?_
  refine lv_iload_n hx hb d_Q_newLength_1 rfl (lv_at hl 1 rfl) ?_
  refine lv_iload_n hx hb d_Q_newLength_2 rfl (lv_at hl 2 rfl) ?_
  refine cm_jmax S hW wd_468 wd_469 wd_96 wd_470 hl.1 (by decide) (Nat.le_of_ble_eq_true rfl) d_Q_newLength_3 ?_
  refine rv_i h (fun x1 h => ?_)
  refine lv_iadd hx hb d_Q_newLength_6 ?_
  refine rv_i h (fun x2 h => ?_)
  refine lv_istore_n (lv' := [(3, .int x2), (0, .int v0), (1, .int v1), (2, .int v2)]) hx hb d_Q_newLength_7 rfl hl (by decide) rfl (fun ls hl => ?_)
  refine lv_iconst (v := 0) hx hb d_Q_newLength_8 (by decide) ?_
  refine lv_iload_n hx hb d_Q_newLength_9 rfl (lv_at hl 0 rfl) ?_
  refine rc_ge (tgt := 21) hx hb d_Q_newLength_10 (by decide) h (fun h => ?_) (fun h => ?_)
  · exact t_Q_newLength_21 S v0 v1 σ h (lv_sub hl [1, 2] rfl) hW
  · refine lv_iload_n hx hb d_Q_newLength_13 rfl (lv_at hl 0 rfl) ?_
    refine lv_ldc hx hb S.1.2.2.2.1 (S.1.2.2.2.2 _ (gi wd_471 rfl)) d_Q_newLength_14 ?_
    refine rc_gt (tgt := 21) hx hb d_Q_newLength_16 (by decide) h (fun h => ?_) (fun h => ?_)
    · exact t_Q_newLength_21 S v0 v1 σ h (lv_sub hl [1, 2] rfl) hW
    · refine lv_iload_n hx hb d_Q_newLength_19 rfl (lv_at hl 0 rfl) ?_
      exact cm_iret S hW d_Q_newLength_20 h
theorem c_Q_newLength (v0 : Int32) (v1 : Int32) (v2 : Int32) (σ : CS) {x : Int32} {σ' : CS} (h : m_Q_newLength v0 v1 v2 σ = some (x, σ')) : CMet l D tc b z y_Q_newLength k_Q_newLength 4 (Option.some Jvm.ClassFile.FieldType.int) 1 24 [.int v0, .int v1, .int v2] σ (some (.int x)) σ' := cm_met (by decide) (Nat.le_of_ble_eq_true rfl) fun p e s m args below meth c S hW ls hl => t_Q_newLength_0 S v0 v1 v2 σ h hl hW
end

/-! jdk/internal/util/Preconditions.checkIndex (IILjava/util/function/BiFunction;)I -/
abbrev k_X_checkIndex : ByteArray := prog_37_method_11_code
abbrev y_X_checkIndex : MethodName := ⟨"jdk/internal/util/Preconditions", "checkIndex", "(IILjava/util/function/BiFunction;)I"⟩
theorem q_X_checkIndex : Calee y_X_checkIndex k_X_checkIndex 3 (Option.some Jvm.ClassFile.FieldType.int) 3 := ⟨wd_443, wd_100, by decide, by decide +kernel⟩
theorem d_X_checkIndex_0 : decode k_X_checkIndex 0 = .ok (.iload_n 0, 1) := by decide +kernel
theorem d_X_checkIndex_1 : decode k_X_checkIndex 1 = .ok (.ifCond .lt 8, 3) := by decide +kernel
theorem d_X_checkIndex_4 : decode k_X_checkIndex 4 = .ok (.iload_n 0, 1) := by decide +kernel
theorem d_X_checkIndex_5 : decode k_X_checkIndex 5 = .ok (.iload_n 1, 1) := by decide +kernel
theorem d_X_checkIndex_6 : decode k_X_checkIndex 6 = .ok (.if_icmp .lt 10, 3) := by decide +kernel
theorem d_X_checkIndex_9 : decode k_X_checkIndex 9 = .ok (.aload_n 2, 1) := by decide +kernel
theorem d_X_checkIndex_10 : decode k_X_checkIndex 10 = .ok (.iload_n 0, 1) := by decide +kernel
theorem d_X_checkIndex_11 : decode k_X_checkIndex 11 = .ok (.iload_n 1, 1) := by decide +kernel
theorem d_X_checkIndex_16 : decode k_X_checkIndex 16 = .ok (.iload_n 0, 1) := by decide +kernel
theorem d_X_checkIndex_17 : decode k_X_checkIndex 17 = .ok (.ireturn, 1) := by decide +kernel
def b_X_checkIndex_9 (v0 : Int32) (v1 : Int32) (σ : CS) : Option (Int32 × CS) :=
  none
def m_X_checkIndex (v0 : Int32) (v1 : Int32) (σ : CS) : Option (Int32 × CS) :=
  if v0 < 0 then
  (b_X_checkIndex_9 v0 v1 σ)
 else
  (if v0 < v1 then
  (some (v0, σ))
 else
  (b_X_checkIndex_9 v0 v1 σ))
section
variable {p : Program} {l : Launch} {e : Env} {s : State} {m : MethodId} {args : Array Value} {below : List Frame} {meth : Method} {c : Code} {D : va_G} {tc : Nat → ClassId} {b z : Nat} {σ0 : CS}
theorem t_X_checkIndex_9 (S : CC p m c k_X_checkIndex 3 s args "jdk/internal/util/Preconditions" meth (Option.some Jvm.ClassFile.FieldType.int) D tc b z) (v0 : Int32) (v1 : Int32) (σ : CS) {B : Int32 × CS} (h : b_X_checkIndex_9 v0 v1 σ = some B) {ls : Array Slot} {H : Heap} {locs : List Loc} {cells slots : Nat} (hl : lv_has ls 3 [(0, .int v0), (1, .int v1), (2, .null)]) (hW : CWS D tc b z s σ0 σ H locs cells slots) : W p l e (CR 0 0 σ0) s m args below meth c H locs cells slots (CE D tc b z below args s σ0 (some (.int B.1)) B.2) (F0 m 9 ls []) := by
  have hx := S.1.1
  have hb := S.1.2.1
  unfold b_X_checkIndex_9 at h
  refine lv_aload_nN hx hb d_X_checkIndex_9 rfl (lv_at hl 2 rfl) ?_
  refine lv_iload_n hx hb d_X_checkIndex_10 rfl (lv_at hl 0 rfl) ?_
  refine lv_iload_n hx hb d_X_checkIndex_11 rfl (lv_at hl 1 rfl) ?_
  exact absurd h (by simp)
theorem t_X_checkIndex_0 (S : CC p m c k_X_checkIndex 3 s args "jdk/internal/util/Preconditions" meth (Option.some Jvm.ClassFile.FieldType.int) D tc b z) (v0 : Int32) (v1 : Int32) (σ : CS) {B : Int32 × CS} (h : m_X_checkIndex v0 v1 σ = some B) {ls : Array Slot} {H : Heap} {locs : List Loc} {cells slots : Nat} (hl : lv_has ls 3 [(0, .int v0), (1, .int v1), (2, .null)]) (hW : CWS D tc b z s σ0 σ H locs cells slots) : W p l e (CR 0 0 σ0) s m args below meth c H locs cells slots (CE D tc b z below args s σ0 (some (.int B.1)) B.2) (F0 m 0 ls []) := by
  have hx := S.1.1
  have hb := S.1.2.1
  unfold m_X_checkIndex at h
  refine lv_iload_n hx hb d_X_checkIndex_0 rfl (lv_at hl 0 rfl) ?_
  refine rb_lt (tgt := 9) hx hb d_X_checkIndex_1 (by decide) h (fun h => ?_) (fun h => ?_)
  · exact t_X_checkIndex_9 S v0 v1 σ h (lv_sub hl [0, 1, 2] rfl) hW
  · refine lv_iload_n hx hb d_X_checkIndex_4 rfl (lv_at hl 0 rfl) ?_
    refine lv_iload_n hx hb d_X_checkIndex_5 rfl (lv_at hl 1 rfl) ?_
    refine rc_lt (tgt := 16) hx hb d_X_checkIndex_6 (by decide) h (fun h => ?_) (fun h => ?_)
    · refine lv_iload_n hx hb d_X_checkIndex_16 rfl (lv_at hl 0 rfl) ?_
      exact cm_iret S hW d_X_checkIndex_17 h
    · exact t_X_checkIndex_9 S v0 v1 σ h (lv_sub hl [0, 1, 2] rfl) hW
theorem c_X_checkIndex (v0 : Int32) (v1 : Int32) (σ : CS) {x : Int32} {σ' : CS} (h : m_X_checkIndex v0 v1 σ = some (x, σ')) : CMet l D tc b z y_X_checkIndex k_X_checkIndex 3 (Option.some Jvm.ClassFile.FieldType.int) 0 0 [.int v0, .int v1, .null] σ (some (.int x)) σ' := cm_met (by decide) (Nat.le_of_ble_eq_true rfl) fun p e s m args below meth c S hW ls hl => t_X_checkIndex_0 S v0 v1 σ h hl hW
end

/-! java/util/Objects.checkIndex (II)I -/
abbrev k_H_checkIndex : ByteArray := prog_33_method_17_code
abbrev y_H_checkIndex : MethodName := ⟨"java/util/Objects", "checkIndex", "(II)I"⟩
theorem q_H_checkIndex : Calee y_H_checkIndex k_H_checkIndex 2 (Option.some Jvm.ClassFile.FieldType.int) 2 := ⟨wd_440, wd_99, by decide, by decide +kernel⟩
theorem d_H_checkIndex_0 : decode k_H_checkIndex 0 = .ok (.iload_n 0, 1) := by decide +kernel
theorem d_H_checkIndex_1 : decode k_H_checkIndex 1 = .ok (.iload_n 1, 1) := by decide +kernel
theorem d_H_checkIndex_2 : decode k_H_checkIndex 2 = .ok (.aconst_null, 1) := by decide +kernel
theorem d_H_checkIndex_3 : decode k_H_checkIndex 3 = .ok (.invokestatic 105, 3) := by decide +kernel
theorem d_H_checkIndex_6 : decode k_H_checkIndex 6 = .ok (.ireturn, 1) := by decide +kernel
def m_H_checkIndex (v0 : Int32) (v1 : Int32) (σ : CS) : Option (Int32 × CS) :=
  bc2 (m_X_checkIndex v0 v1 σ) fun x2 r1 => some (x2, r1)
section
variable {p : Program} {l : Launch} {e : Env} {s : State} {m : MethodId} {args : Array Value} {below : List Frame} {meth : Method} {c : Code} {D : va_G} {tc : Nat → ClassId} {b z : Nat} {σ0 : CS}
theorem t_H_checkIndex_0 (S : CC p m c k_H_checkIndex 2 s args "java/util/Objects" meth (Option.some Jvm.ClassFile.FieldType.int) D tc b z) (v0 : Int32) (v1 : Int32) (σ : CS) {B : Int32 × CS} (h : m_H_checkIndex v0 v1 σ = some B) {ls : Array Slot} {H : Heap} {locs : List Loc} {cells slots : Nat} (hl : lv_has ls 2 [(0, .int v0), (1, .int v1)]) (hW : CWS D tc b z s σ0 σ H locs cells slots) : W p l e (CR 1 22 σ0) s m args below meth c H locs cells slots (CE D tc b z below args s σ0 (some (.int B.1)) B.2) (F0 m 0 ls []) := by
  have hx := S.1.1
  have hb := S.1.2.1
  unfold m_H_checkIndex at h
  refine lv_iload_n hx hb d_H_checkIndex_0 rfl (lv_at hl 0 rfl) ?_
  refine lv_iload_n hx hb d_H_checkIndex_1 rfl (lv_at hl 1 rfl) ?_
  refine lv_null hx hb d_H_checkIndex_2 ?_
  refine cm_cSi [.int v0, .int v1, .null] S hW (fun x σ' hc => c_X_checkIndex v0 v1 σ hc) q_X_checkIndex wd_442 wd_441 (by decide) hl.1 rfl rfl (Nat.le_of_ble_eq_true rfl) d_H_checkIndex_3 h (fun x2 r1 H locs cells slots h hW => ?_)
  exact cm_iret S hW d_H_checkIndex_6 h
theorem c_H_checkIndex (v0 : Int32) (v1 : Int32) (σ : CS) {x : Int32} {σ' : CS} (h : m_H_checkIndex v0 v1 σ = some (x, σ')) : CMet l D tc b z y_H_checkIndex k_H_checkIndex 2 (Option.some Jvm.ClassFile.FieldType.int) 1 22 [.int v0, .int v1] σ (some (.int x)) σ' := cm_met (by decide) (Nat.le_of_ble_eq_true rfl) fun p e s m args below meth c S hW ls hl => t_H_checkIndex_0 S v0 v1 σ h hl hW
end

/-! StreamPair$Tape.addNumber (I)V -/
abbrev k_T_addNumber : ByteArray := prog_10_method_2_code
abbrev y_T_addNumber : MethodName := ⟨cn_T, "addNumber", "(I)V"⟩
theorem q_T_addNumber : Calee y_T_addNumber k_T_addNumber 2 none 1 := ⟨wd_731, wd_79, by decide, by decide +kernel⟩
theorem d_T_addNumber_0 : decode k_T_addNumber 0 = .ok (.aload_n 0, 1) := by decide +kernel
theorem d_T_addNumber_1 : decode k_T_addNumber 1 = .ok (.getfield 15, 3) := by decide +kernel
theorem d_T_addNumber_4 : decode k_T_addNumber 4 = .ok (.iconst 4, 1) := by decide +kernel
theorem d_T_addNumber_5 : decode k_T_addNumber 5 = .ok (.iadd, 1) := by decide +kernel
theorem d_T_addNumber_6 : decode k_T_addNumber 6 = .ok (.aload_n 0, 1) := by decide +kernel
theorem d_T_addNumber_7 : decode k_T_addNumber 7 = .ok (.getfield 9, 3) := by decide +kernel
theorem d_T_addNumber_10 : decode k_T_addNumber 10 = .ok (.arraylength, 1) := by decide +kernel
theorem d_T_addNumber_11 : decode k_T_addNumber 11 = .ok (.if_icmp .le 21, 3) := by decide +kernel
theorem d_T_addNumber_14 : decode k_T_addNumber 14 = .ok (.aload_n 0, 1) := by decide +kernel
theorem d_T_addNumber_15 : decode k_T_addNumber 15 = .ok (.aload_n 0, 1) := by decide +kernel
theorem d_T_addNumber_16 : decode k_T_addNumber 16 = .ok (.getfield 9, 3) := by decide +kernel
theorem d_T_addNumber_19 : decode k_T_addNumber 19 = .ok (.iconst 2, 1) := by decide +kernel
theorem d_T_addNumber_20 : decode k_T_addNumber 20 = .ok (.aload_n 0, 1) := by decide +kernel
theorem d_T_addNumber_21 : decode k_T_addNumber 21 = .ok (.getfield 9, 3) := by decide +kernel
theorem d_T_addNumber_24 : decode k_T_addNumber 24 = .ok (.arraylength, 1) := by decide +kernel
theorem d_T_addNumber_25 : decode k_T_addNumber 25 = .ok (.imul, 1) := by decide +kernel
theorem d_T_addNumber_26 : decode k_T_addNumber 26 = .ok (.invokestatic 19, 3) := by decide +kernel
theorem d_T_addNumber_29 : decode k_T_addNumber 29 = .ok (.putfield 9, 3) := by decide +kernel
theorem d_T_addNumber_32 : decode k_T_addNumber 32 = .ok (.aload_n 0, 1) := by decide +kernel
theorem d_T_addNumber_33 : decode k_T_addNumber 33 = .ok (.getfield 9, 3) := by decide +kernel
theorem d_T_addNumber_36 : decode k_T_addNumber 36 = .ok (.aload_n 0, 1) := by decide +kernel
theorem d_T_addNumber_37 : decode k_T_addNumber 37 = .ok (.getfield 15, 3) := by decide +kernel
theorem d_T_addNumber_40 : decode k_T_addNumber 40 = .ok (.iload_n 1, 1) := by decide +kernel
theorem d_T_addNumber_41 : decode k_T_addNumber 41 = .ok (.bipush 24, 2) := by decide +kernel
theorem d_T_addNumber_43 : decode k_T_addNumber 43 = .ok (.iushr, 1) := by decide +kernel
theorem d_T_addNumber_44 : decode k_T_addNumber 44 = .ok (.i2b, 1) := by decide +kernel
theorem d_T_addNumber_45 : decode k_T_addNumber 45 = .ok (.bastore, 1) := by decide +kernel
theorem d_T_addNumber_46 : decode k_T_addNumber 46 = .ok (.aload_n 0, 1) := by decide +kernel
theorem d_T_addNumber_47 : decode k_T_addNumber 47 = .ok (.getfield 9, 3) := by decide +kernel
theorem d_T_addNumber_50 : decode k_T_addNumber 50 = .ok (.aload_n 0, 1) := by decide +kernel
theorem d_T_addNumber_51 : decode k_T_addNumber 51 = .ok (.getfield 15, 3) := by decide +kernel
theorem d_T_addNumber_54 : decode k_T_addNumber 54 = .ok (.iconst 1, 1) := by decide +kernel
theorem d_T_addNumber_55 : decode k_T_addNumber 55 = .ok (.iadd, 1) := by decide +kernel
theorem d_T_addNumber_56 : decode k_T_addNumber 56 = .ok (.iload_n 1, 1) := by decide +kernel
theorem d_T_addNumber_57 : decode k_T_addNumber 57 = .ok (.bipush 16, 2) := by decide +kernel
theorem d_T_addNumber_59 : decode k_T_addNumber 59 = .ok (.iushr, 1) := by decide +kernel
theorem d_T_addNumber_60 : decode k_T_addNumber 60 = .ok (.i2b, 1) := by decide +kernel
theorem d_T_addNumber_61 : decode k_T_addNumber 61 = .ok (.bastore, 1) := by decide +kernel
theorem d_T_addNumber_62 : decode k_T_addNumber 62 = .ok (.aload_n 0, 1) := by decide +kernel
theorem d_T_addNumber_63 : decode k_T_addNumber 63 = .ok (.getfield 9, 3) := by decide +kernel
theorem d_T_addNumber_66 : decode k_T_addNumber 66 = .ok (.aload_n 0, 1) := by decide +kernel
theorem d_T_addNumber_67 : decode k_T_addNumber 67 = .ok (.getfield 15, 3) := by decide +kernel
theorem d_T_addNumber_70 : decode k_T_addNumber 70 = .ok (.iconst 2, 1) := by decide +kernel
theorem d_T_addNumber_71 : decode k_T_addNumber 71 = .ok (.iadd, 1) := by decide +kernel
theorem d_T_addNumber_72 : decode k_T_addNumber 72 = .ok (.iload_n 1, 1) := by decide +kernel
theorem d_T_addNumber_73 : decode k_T_addNumber 73 = .ok (.bipush 8, 2) := by decide +kernel
theorem d_T_addNumber_75 : decode k_T_addNumber 75 = .ok (.iushr, 1) := by decide +kernel
theorem d_T_addNumber_76 : decode k_T_addNumber 76 = .ok (.i2b, 1) := by decide +kernel
theorem d_T_addNumber_77 : decode k_T_addNumber 77 = .ok (.bastore, 1) := by decide +kernel
theorem d_T_addNumber_78 : decode k_T_addNumber 78 = .ok (.aload_n 0, 1) := by decide +kernel
theorem d_T_addNumber_79 : decode k_T_addNumber 79 = .ok (.getfield 9, 3) := by decide +kernel
theorem d_T_addNumber_82 : decode k_T_addNumber 82 = .ok (.aload_n 0, 1) := by decide +kernel
theorem d_T_addNumber_83 : decode k_T_addNumber 83 = .ok (.getfield 15, 3) := by decide +kernel
theorem d_T_addNumber_86 : decode k_T_addNumber 86 = .ok (.iconst 3, 1) := by decide +kernel
theorem d_T_addNumber_87 : decode k_T_addNumber 87 = .ok (.iadd, 1) := by decide +kernel
theorem d_T_addNumber_88 : decode k_T_addNumber 88 = .ok (.iload_n 1, 1) := by decide +kernel
theorem d_T_addNumber_89 : decode k_T_addNumber 89 = .ok (.i2b, 1) := by decide +kernel
theorem d_T_addNumber_90 : decode k_T_addNumber 90 = .ok (.bastore, 1) := by decide +kernel
theorem d_T_addNumber_91 : decode k_T_addNumber 91 = .ok (.aload_n 0, 1) := by decide +kernel
theorem d_T_addNumber_92 : decode k_T_addNumber 92 = .ok (.dup, 1) := by decide +kernel
theorem d_T_addNumber_93 : decode k_T_addNumber 93 = .ok (.getfield 15, 3) := by decide +kernel
theorem d_T_addNumber_96 : decode k_T_addNumber 96 = .ok (.iconst 4, 1) := by decide +kernel
theorem d_T_addNumber_97 : decode k_T_addNumber 97 = .ok (.iadd, 1) := by decide +kernel
theorem d_T_addNumber_98 : decode k_T_addNumber 98 = .ok (.putfield 15, 3) := by decide +kernel
theorem d_T_addNumber_101 : decode k_T_addNumber 101 = .ok (.return_, 1) := by decide +kernel
def b_T_addNumber_32 (v1 : Int32) (σ : CS) : Option (CS) :=
  bc (cR σ 1 0) fun a1 => bd (cI σ 1 1) fun x2 => gd (kd σ a1 = 21 ∧ inb x2 (cN σ a1)) <| bd (wi σ a1 x2.toNatClampNeg (vp_nar .byte (((v1.toUInt32 >>> ((24 : Int32).toUInt32 &&& Int32.toUInt32 31)).toInt32).toInt8.toInt32))) fun r3 => bc (cR r3 1 0) fun a4 => bd (cI r3 1 1) fun x5 => gd (kd r3 a4 = 21 ∧ inb (x5 + (1 : Int32)) (cN r3 a4)) <| bd (wi r3 a4 (x5 + (1 : Int32)).toNatClampNeg (vp_nar .byte (((v1.toUInt32 >>> ((16 : Int32).toUInt32 &&& Int32.toUInt32 31)).toInt32).toInt8.toInt32))) fun r6 => bc (cR r6 1 0) fun a7 => bd (cI r6 1 1) fun x8 => gd (kd r6 a7 = 21 ∧ inb (x8 + (2 : Int32)) (cN r6 a7)) <| bd (wi r6 a7 (x8 + (2 : Int32)).toNatClampNeg (vp_nar .byte (((v1.toUInt32 >>> ((8 : Int32).toUInt32 &&& Int32.toUInt32 31)).toInt32).toInt8.toInt32))) fun r9 => bc (cR r9 1 0) fun a10 => bd (cI r9 1 1) fun x11 => gd (kd r9 a10 = 21 ∧ inb (x11 + (3 : Int32)) (cN r9 a10)) <| bd (wi r9 a10 (x11 + (3 : Int32)).toNatClampNeg (vp_nar .byte (v1.toInt8.toInt32))) fun r12 => bd (cI r12 1 1) fun x13 => bd (wi r12 1 1 (x13 + (4 : Int32))) fun r14 => some r14
def m_T_addNumber (v1 : Int32) (σ : CS) : Option (CS) :=
  bd (cI σ 1 1) fun x1 => bc (cR σ 1 0) fun a2 => gd (kd σ a2 = 21 ∨ kd σ a2 = 24 ∨ kd σ a2 = 25) <| bd (nI (cN σ a2)) fun x3 => if (x1 + (4 : Int32)) ≤ x3 then
  (b_T_addNumber_32 v1 σ)
 else
  (bc (cR σ 1 0) fun a4 => bc (cR σ 1 0) fun a5 => gd (kd σ a5 = 21 ∨ kd σ a5 = 24 ∨ kd σ a5 = 25) <| bd (nI (cN σ a5)) fun x6 => bc2 (m_K_copyOf_BI a4 ((2 : Int32) * x6) σ) fun x8 r7 => bd (wr r7 1 0 (some x8)) fun r9 => b_T_addNumber_32 v1 r9)
section
variable {p : Program} {l : Launch} {e : Env} {s : State} {m : MethodId} {args : Array Value} {below : List Frame} {meth : Method} {c : Code} {D : va_G} {tc : Nat → ClassId} {b z : Nat} {σ0 : CS}
theorem t_T_addNumber_32 (S : CC p m c k_T_addNumber 2 s args cn_T meth none D tc b z) (v1 : Int32) (σ : CS) {B : CS} (h : b_T_addNumber_32 v1 σ = some B) {ls : Array Slot} {H : Heap} {locs : List Loc} {cells slots : Nat} (hl : lv_has ls 2 [(0, .ref (b + 1)), (1, .int v1)]) (hW : CWS D tc b z s σ0 σ H locs cells slots) : W p l e (CR 2 62 σ0) s m args below meth c H locs cells slots (CE D tc b z below args s σ0 none B) (F0 m 32 ls []) := by
  have hx := S.1.1
  have hb := S.1.2.1
  unfold b_T_addNumber_32 at h
  refine lv_aload_n hx hb d_T_addNumber_32 rfl (lv_at hl 0 rfl) ?_
  refine cm_getr kx_T S hW rfl 0 wd_120 (by decide) d_T_addNumber_33 h (fun a1 h => ?_)
  refine lv_aload_n hx hb d_T_addNumber_36 rfl (lv_at hl 0 rfl) ?_
  refine cm_geti kx_T S hW rfl 1 wd_122 (by decide) d_T_addNumber_37 h (fun x2 h => ?_)
  refine lv_iload_n hx hb d_T_addNumber_40 rfl (lv_at hl 1 rfl) ?_
  refine lv_bipush (v := 24) hx hb d_T_addNumber_41 (by decide) ?_
  refine lv_iushr hx hb d_T_addNumber_43 rfl ?_
  refine lv_i2b hx hb d_T_addNumber_44 rfl ?_
  refine cm_bast S hW d_T_addNumber_45 h (fun r3 H locs h hW => ?_)
  refine lv_aload_n hx hb d_T_addNumber_46 rfl (lv_at hl 0 rfl) ?_
  refine cm_getr kx_T S hW rfl 0 wd_120 (by decide) d_T_addNumber_47 h (fun a4 h => ?_)
  refine lv_aload_n hx hb d_T_addNumber_50 rfl (lv_at hl 0 rfl) ?_
  refine cm_geti kx_T S hW rfl 1 wd_122 (by decide) d_T_addNumber_51 h (fun x5 h => ?_)
  refine lv_iconst (v := 1) hx hb d_T_addNumber_54 (by decide) ?_
  refine lv_iadd hx hb d_T_addNumber_55 ?_
  refine lv_iload_n hx hb d_T_addNumber_56 rfl (lv_at hl 1 rfl) ?_
  refine lv_bipush (v := 16) hx hb d_T_addNumber_57 (by decide) ?_
  refine lv_iushr hx hb d_T_addNumber_59 rfl ?_
  refine lv_i2b hx hb d_T_addNumber_60 rfl ?_
  refine cm_bast S hW d_T_addNumber_61 h (fun r6 H locs h hW => ?_)
  refine lv_aload_n hx hb d_T_addNumber_62 rfl (lv_at hl 0 rfl) ?_
  refine cm_getr kx_T S hW rfl 0 wd_120 (by decide) d_T_addNumber_63 h (fun a7 h => ?_)
  refine lv_aload_n hx hb d_T_addNumber_66 rfl (lv_at hl 0 rfl) ?_
  refine cm_geti kx_T S hW rfl 1 wd_122 (by decide) d_T_addNumber_67 h (fun x8 h => ?_)
  refine lv_iconst (v := 2) hx hb d_T_addNumber_70 (by decide) ?_
  refine lv_iadd hx hb d_T_addNumber_71 ?_
  refine lv_iload_n hx hb d_T_addNumber_72 rfl (lv_at hl 1 rfl) ?_
  refine lv_bipush (v := 8) hx hb d_T_addNumber_73 (by decide) ?_
  refine lv_iushr hx hb d_T_addNumber_75 rfl ?_
  refine lv_i2b hx hb d_T_addNumber_76 rfl ?_
  refine cm_bast S hW d_T_addNumber_77 h (fun r9 H locs h hW => ?_)
  refine lv_aload_n hx hb d_T_addNumber_78 rfl (lv_at hl 0 rfl) ?_
  refine cm_getr kx_T S hW rfl 0 wd_120 (by decide) d_T_addNumber_79 h (fun a10 h => ?_)
  refine lv_aload_n hx hb d_T_addNumber_82 rfl (lv_at hl 0 rfl) ?_
  refine cm_geti kx_T S hW rfl 1 wd_122 (by decide) d_T_addNumber_83 h (fun x11 h => ?_)
  refine lv_iconst (v := 3) hx hb d_T_addNumber_86 (by decide) ?_
  refine lv_iadd hx hb d_T_addNumber_87 ?_
  refine lv_iload_n hx hb d_T_addNumber_88 rfl (lv_at hl 1 rfl) ?_
  refine lv_i2b hx hb d_T_addNumber_89 rfl ?_
  refine cm_bast S hW d_T_addNumber_90 h (fun r12 H locs h hW => ?_)
  refine lv_aload_n hx hb d_T_addNumber_91 rfl (lv_at hl 0 rfl) ?_
  refine lv_dup hx hb d_T_addNumber_92 rfl ?_
  refine cm_geti kx_T S hW rfl 1 wd_122 (by decide) d_T_addNumber_93 h (fun x13 h => ?_)
  refine lv_iconst (v := 4) hx hb d_T_addNumber_96 (by decide) ?_
  refine lv_iadd hx hb d_T_addNumber_97 ?_
  refine cm_puti kx_T S hW rfl 1 wd_122 (by decide) d_T_addNumber_98 h (fun r14 H locs h hW => ?_)
  exact cm_vret S hW d_T_addNumber_101 h
theorem t_T_addNumber_0 (S : CC p m c k_T_addNumber 2 s args cn_T meth none D tc b z) (v1 : Int32) (σ : CS) {B : CS} (h : m_T_addNumber v1 σ = some B) {ls : Array Slot} {H : Heap} {locs : List Loc} {cells slots : Nat} (hl : lv_has ls 2 [(0, .ref (b + 1)), (1, .int v1)]) (hW : CWS D tc b z s σ0 σ H locs cells slots) : W p l e (CR 2 62 σ0) s m args below meth c H locs cells slots (CE D tc b z below args s σ0 none B) (F0 m 0 ls []) := by
  have hx := S.1.1
  have hb := S.1.2.1
  unfold m_T_addNumber at h
  refine lv_aload_n hx hb d_T_addNumber_0 rfl (lv_at hl 0 rfl) ?_
  refine cm_geti kx_T S hW rfl 1 wd_122 (by decide) d_T_addNumber_1 h (fun x1 h => ?_)
  refine lv_iconst (v := 4) hx hb d_T_addNumber_4 (by decide) ?_
  refine lv_iadd hx hb d_T_addNumber_5 ?_
  refine lv_aload_n hx hb d_T_addNumber_6 rfl (lv_at hl 0 rfl) ?_
  refine cm_getr kx_T S hW rfl 0 wd_120 (by decide) d_T_addNumber_7 h (fun a2 h => ?_)
  refine cm_alen S hW d_T_addNumber_10 h (fun x3 h => ?_)
  refine rc_le (tgt := 32) hx hb d_T_addNumber_11 (by decide) h (fun h => ?_) (fun h => ?_)
  · exact t_T_addNumber_32 S v1 σ h (lv_sub hl [0, 1] rfl) hW
  · refine lv_aload_n hx hb d_T_addNumber_14 rfl (lv_at hl 0 rfl) ?_
    refine lv_aload_n hx hb d_T_addNumber_15 rfl (lv_at hl 0 rfl) ?_
    refine cm_getr kx_T S hW rfl 0 wd_120 (by decide) d_T_addNumber_16 h (fun a4 h => ?_)
    refine lv_iconst (v := 2) hx hb d_T_addNumber_19 (by decide) ?_
    refine lv_aload_n hx hb d_T_addNumber_20 rfl (lv_at hl 0 rfl) ?_
    refine cm_getr kx_T S hW rfl 0 wd_120 (by decide) d_T_addNumber_21 h (fun a5 h => ?_)
    refine cm_alen S hW d_T_addNumber_24 h (fun x6 h => ?_)
    refine lv_imul hx hb d_T_addNumber_25 ?_
    refine cm_cSr [.ref (b + a4), .int ((2 : Int32) * x6)] S hW (fun x σ' hc => c_K_copyOf_BI a4 ((2 : Int32) * x6) σ hc) q_K_copyOf_BI wd_733 wd_732 (by decide) hl.1 rfl rfl (Nat.le_of_ble_eq_true rfl) d_T_addNumber_26 h (fun x8 r7 H locs cells slots h hW => ?_)
    refine cm_putr kx_T S hW rfl 0 (t := .array .byte) wd_120 (by decide) rfl (fun _ => rfl) (fun _ => rfl) d_T_addNumber_29 h (fun r9 H locs h hW => ?_)
    exact t_T_addNumber_32 S v1 r9 h (lv_sub hl [0, 1] rfl) hW
theorem c_T_addNumber (v1 : Int32) (σ : CS) {B : CS} (h : m_T_addNumber v1 σ = some B) : CMet l D tc b z y_T_addNumber k_T_addNumber 2 none 2 62 [.ref (b + 1), .int v1] σ none B := cm_met (by decide) (Nat.le_of_ble_eq_true rfl) fun p e s m args below meth c S hW ls hl => t_T_addNumber_0 S v1 σ h hl hW
end
