/-! java/util/ArrayList.size ()I, writing nothing -/
def n_A_size (q : Nat) (σ : CS) : Option (Int32) :=
  gd (q = 5 ∨ q = 6) <| bd (cI σ q 1) fun x1 => some x1
section
variable {p : Program} {l : Launch} {e : Env} {s : State} {m : MethodId} {args : Array Value} {below : List Frame} {meth : Method} {c : Code} {D : va_G} {tc : Nat → ClassId} {b z : Nat}
theorem nt_A_size_0 (S : CC p m c k_A_size 1 s args cn_A meth (Option.some Jvm.ClassFile.FieldType.int) D tc b z) (q : Nat) (σ : CS) {B : Int32} (h : n_A_size q σ = some B) {ls : Array Slot} (hl : lv_has ls 1 [(0, .ref (b + q))]) (hW : CWS D tc b z s σ σ s.heap [] 0 0) : W p l e (CR 0 0 σ) s m args below meth c s.heap [] 0 0 (YE below args s (some (.int B))) (F0 m 0 ls []) := by
  have hx := S.1.1
  have hb := S.1.2.1
  unfold n_A_size at h
  obtain ⟨hq, h⟩ := gd_s h
  refine lv_aload_n hx hb d_A_size_0 rfl (lv_at hl 0 rfl) ?_
  refine cm_geti kx_A S hW (kA hq) 1 wd_162 (by decide) d_A_size_1 h (fun x1 h => ?_)
  exact yr_i S d_A_size_4 h
theorem cy_A_size (q : Nat) (σ : CS) {x : Int32} (h : n_A_size q σ = some x) : YMet l y_A_size k_A_size 1 (Option.some Jvm.ClassFile.FieldType.int) 0 0 [.ref (b + q)] σ (CP D tc b z σ) (some (.int x)) := ym_met (by decide) (Nat.le_of_ble_eq_true rfl) fun p e s m args below meth c S hW ls hl => nt_A_size_0 S q σ h hl hW
end

/-! jdk/internal/util/Preconditions.checkIndex (IILjava/util/function/BiFunction;)I, writing nothing -/
def nb_X_checkIndex_9 (v0 : Int32) (v1 : Int32) (σ : CS) : Option (Int32) :=
  none
def n_X_checkIndex (v0 : Int32) (v1 : Int32) (σ : CS) : Option (Int32) :=
  if v0 < 0 then
  (nb_X_checkIndex_9 v0 v1 σ)
 else
  (if v0 < v1 then
  (some v0)
 else
  (nb_X_checkIndex_9 v0 v1 σ))
section
variable {p : Program} {l : Launch} {e : Env} {s : State} {m : MethodId} {args : Array Value} {below : List Frame} {meth : Method} {c : Code} {D : va_G} {tc : Nat → ClassId} {b z : Nat}
theorem nt_X_checkIndex_9 (S : CC p m c k_X_checkIndex 3 s args "jdk/internal/util/Preconditions" meth (Option.some Jvm.ClassFile.FieldType.int) D tc b z) (v0 : Int32) (v1 : Int32) (σ : CS) {B : Int32} (h : nb_X_checkIndex_9 v0 v1 σ = some B) {ls : Array Slot} (hl : lv_has ls 3 [(0, .int v0), (1, .int v1), (2, .null)]) (hW : CWS D tc b z s σ σ s.heap [] 0 0) : W p l e (CR 0 0 σ) s m args below meth c s.heap [] 0 0 (YE below args s (some (.int B))) (F0 m 9 ls []) := by
  have hx := S.1.1
  have hb := S.1.2.1
  unfold nb_X_checkIndex_9 at h
  refine lv_aload_nN hx hb d_X_checkIndex_9 rfl (lv_at hl 2 rfl) ?_
  refine lv_iload_n hx hb d_X_checkIndex_10 rfl (lv_at hl 0 rfl) ?_
  refine lv_iload_n hx hb d_X_checkIndex_11 rfl (lv_at hl 1 rfl) ?_
  exact absurd h (by simp)
theorem nt_X_checkIndex_0 (S : CC p m c k_X_checkIndex 3 s args "jdk/internal/util/Preconditions" meth (Option.some Jvm.ClassFile.FieldType.int) D tc b z) (v0 : Int32) (v1 : Int32) (σ : CS) {B : Int32} (h : n_X_checkIndex v0 v1 σ = some B) {ls : Array Slot} (hl : lv_has ls 3 [(0, .int v0), (1, .int v1), (2, .null)]) (hW : CWS D tc b z s σ σ s.heap [] 0 0) : W p l e (CR 0 0 σ) s m args below meth c s.heap [] 0 0 (YE below args s (some (.int B))) (F0 m 0 ls []) := by
  have hx := S.1.1
  have hb := S.1.2.1
  unfold n_X_checkIndex at h
  refine lv_iload_n hx hb d_X_checkIndex_0 rfl (lv_at hl 0 rfl) ?_
  refine rb_lt (tgt := 9) hx hb d_X_checkIndex_1 (by decide) h (fun h => ?_) (fun h => ?_)
  · exact nt_X_checkIndex_9 S v0 v1 σ h (lv_sub hl [0, 1, 2] rfl) hW
  · refine lv_iload_n hx hb d_X_checkIndex_4 rfl (lv_at hl 0 rfl) ?_
    refine lv_iload_n hx hb d_X_checkIndex_5 rfl (lv_at hl 1 rfl) ?_
    refine rc_lt (tgt := 16) hx hb d_X_checkIndex_6 (by decide) h (fun h => ?_) (fun h => ?_)
    · refine lv_iload_n hx hb d_X_checkIndex_16 rfl (lv_at hl 0 rfl) ?_
      exact yr_i S d_X_checkIndex_17 h
    · exact nt_X_checkIndex_9 S v0 v1 σ h (lv_sub hl [0, 1, 2] rfl) hW
theorem cy_X_checkIndex (v0 : Int32) (v1 : Int32) (σ : CS) {x : Int32} (h : n_X_checkIndex v0 v1 σ = some x) : YMet l y_X_checkIndex k_X_checkIndex 3 (Option.some Jvm.ClassFile.FieldType.int) 0 0 [.int v0, .int v1, .null] σ (CP D tc b z σ) (some (.int x)) := ym_met (by decide) (Nat.le_of_ble_eq_true rfl) fun p e s m args below meth c S hW ls hl => nt_X_checkIndex_0 S v0 v1 σ h hl hW
end

/-! java/util/Objects.checkIndex (II)I, writing nothing -/
def n_H_checkIndex (v0 : Int32) (v1 : Int32) (σ : CS) : Option (Int32) :=
  bc (n_X_checkIndex v0 v1 σ) fun x1 => some x1
section
variable {p : Program} {l : Launch} {e : Env} {s : State} {m : MethodId} {args : Array Value} {below : List Frame} {meth : Method} {c : Code} {D : va_G} {tc : Nat → ClassId} {b z : Nat}
theorem nt_H_checkIndex_0 (S : CC p m c k_H_checkIndex 2 s args "java/util/Objects" meth (Option.some Jvm.ClassFile.FieldType.int) D tc b z) (v0 : Int32) (v1 : Int32) (σ : CS) {B : Int32} (h : n_H_checkIndex v0 v1 σ = some B) {ls : Array Slot} (hl : lv_has ls 2 [(0, .int v0), (1, .int v1)]) (hW : CWS D tc b z s σ σ s.heap [] 0 0) : W p l e (CR 1 22 σ) s m args below meth c s.heap [] 0 0 (YE below args s (some (.int B))) (F0 m 0 ls []) := by
  have hx := S.1.1
  have hb := S.1.2.1
  unfold n_H_checkIndex at h
  refine lv_iload_n hx hb d_H_checkIndex_0 rfl (lv_at hl 0 rfl) ?_
  refine lv_iload_n hx hb d_H_checkIndex_1 rfl (lv_at hl 1 rfl) ?_
  refine lv_null hx hb d_H_checkIndex_2 ?_
  refine ym_cSi (As := [.int v0, .int v1, .null]) S hW (fun x hc => cy_X_checkIndex v0 v1 σ hc) q_X_checkIndex wd_442 wd_441 (by decide) hl.1 rfl rfl (Nat.le_of_ble_eq_true rfl) d_H_checkIndex_3 h (fun x1 h => ?_)
  exact yr_i S d_H_checkIndex_6 h
theorem cy_H_checkIndex (v0 : Int32) (v1 : Int32) (σ : CS) {x : Int32} (h : n_H_checkIndex v0 v1 σ = some x) : YMet l y_H_checkIndex k_H_checkIndex 2 (Option.some Jvm.ClassFile.FieldType.int) 1 22 [.int v0, .int v1] σ (CP D tc b z σ) (some (.int x)) := ym_met (by decide) (Nat.le_of_ble_eq_true rfl) fun p e s m args below meth c S hW ls hl => nt_H_checkIndex_0 S v0 v1 σ h hl hW
end

/-! java/util/ArrayList.elementData (I)Ljava/lang/Object;, writing nothing -/
def n_A_elementData (q : Nat) (v1 : Int32) (σ : CS) : Option (Nat) :=
  gd (q = 5 ∨ q = 6) <| bd (cR σ q 0) fun u1 => bc u1 fun a2 => gd (kd σ a2 = 25 ∧ inb v1 (cN σ a2)) <| bc (cR σ a2 v1.toNatClampNeg) fun a3 => some a3
section
variable {p : Program} {l : Launch} {e : Env} {s : State} {m : MethodId} {args : Array Value} {below : List Frame} {meth : Method} {c : Code} {D : va_G} {tc : Nat → ClassId} {b z : Nat}
theorem nt_A_elementData_0 (S : CC p m c k_A_elementData 2 s args cn_A meth (Option.some (Jvm.ClassFile.FieldType.object "java/lang/Object")) D tc b z) (q : Nat) (v1 : Int32) (σ : CS) {B : Nat} (h : n_A_elementData q v1 σ = some B) {ls : Array Slot} (hl : lv_has ls 2 [(0, .ref (b + q)), (1, .int v1)]) (hW : CWS D tc b z s σ σ s.heap [] 0 0) : W p l e (CR 0 0 σ) s m args below meth c s.heap [] 0 0 (YE below args s (some (.ref (b + B)))) (F0 m 0 ls []) := by
  have hx := S.1.1
  have hb := S.1.2.1
  unfold n_A_elementData at h
  obtain ⟨hq, h⟩ := gd_s h
  refine lv_aload_n hx hb d_A_elementData_0 rfl (lv_at hl 0 rfl) ?_
  refine cm_getd kx_A S hW (kA hq) 0 wd_161 (by decide) d_A_elementData_1 h (fun u1 h => ?_)
  refine cm_nnd h (fun a2 h => ?_)
  refine lv_iload_n hx hb d_A_elementData_4 rfl (lv_at hl 1 rfl) ?_
  refine cm_aaldr S hW d_A_elementData_5 h (fun a3 h => ?_)
  exact yr_r S (by first | exact Or.inl ⟨_, rfl⟩ | exact Or.inr ⟨_, rfl⟩) d_A_elementData_6 h
theorem cy_A_elementData (q : Nat) (v1 : Int32) (σ : CS) {x : Nat} (h : n_A_elementData q v1 σ = some x) : YMet l y_A_elementData k_A_elementData 2 (Option.some (Jvm.ClassFile.FieldType.object "java/lang/Object")) 0 0 [.ref (b + q), .int v1] σ (CP D tc b z σ) (some (.ref (b + x))) := ym_met (by decide) (Nat.le_of_ble_eq_true rfl) fun p e s m args below meth c S hW ls hl => nt_A_elementData_0 S q v1 σ h hl hW
end

/-! java/util/ArrayList.get (I)Ljava/lang/Object;, writing nothing -/
def n_A_get (q : Nat) (v1 : Int32) (σ : CS) : Option (Nat) :=
  gd (q = 5 ∨ q = 6) <| bd (cI σ q 1) fun x1 => bc (n_H_checkIndex v1 x1 σ) fun x2 => bc (n_A_elementData q v1 σ) fun x3 => some x3
section
variable {p : Program} {l : Launch} {e : Env} {s : State} {m : MethodId} {args : Array Value} {below : List Frame} {meth : Method} {c : Code} {D : va_G} {tc : Nat → ClassId} {b z : Nat}
theorem nt_A_get_0 (S : CC p m c k_A_get 2 s args cn_A meth (Option.some (Jvm.ClassFile.FieldType.object "java/lang/Object")) D tc b z) (q : Nat) (v1 : Int32) (σ : CS) {B : Nat} (h : n_A_get q v1 σ = some B) {ls : Array Slot} (hl : lv_has ls 2 [(0, .ref (b + q)), (1, .int v1)]) (hW : CWS D tc b z s σ σ s.heap [] 0 0) : W p l e (CR 2 43 σ) s m args below meth c s.heap [] 0 0 (YE below args s (some (.ref (b + B)))) (F0 m 0 ls []) := by
  have hx := S.1.1
  have hb := S.1.2.1
  unfold n_A_get at h
  obtain ⟨hq, h⟩ := gd_s h
  refine lv_iload_n hx hb d_A_get_0 rfl (lv_at hl 1 rfl) ?_
  refine lv_aload_n hx hb d_A_get_1 rfl (lv_at hl 0 rfl) ?_
  refine cm_geti kx_A S hW (kA hq) 1 wd_162 (by decide) d_A_get_2 h (fun x1 h => ?_)
  refine ym_cSi (As := [.int v1, .int x1]) S hW (fun x hc => cy_H_checkIndex v1 x1 σ hc) q_H_checkIndex wd_439 wd_438 (by decide) hl.1 rfl rfl (Nat.le_of_ble_eq_true rfl) d_A_get_5 h (fun x2 h => ?_)
  refine lv_pop hx hb d_A_get_8 rfl ?_
  refine lv_aload_n hx hb d_A_get_9 rfl (lv_at hl 0 rfl) ?_
  refine lv_iload_n hx hb d_A_get_10 rfl (lv_at hl 1 rfl) ?_
  refine ym_cVr (As := [.int v1]) kx_A S hW (kA hq) (fun x hc => cy_A_elementData q v1 σ hc) q_A_elementData wd_445 wd_446 wd_444 (by decide) hl.1 rfl rfl (Nat.le_of_ble_eq_true rfl) d_A_get_11 h (fun x3 h => ?_)
  exact yr_r S (by first | exact Or.inl ⟨_, rfl⟩ | exact Or.inr ⟨_, rfl⟩) d_A_get_14 h
theorem cy_A_get (q : Nat) (v1 : Int32) (σ : CS) {x : Nat} (h : n_A_get q v1 σ = some x) : YMet l y_A_get k_A_get 2 (Option.some (Jvm.ClassFile.FieldType.object "java/lang/Object")) 2 43 [.ref (b + q), .int v1] σ (CP D tc b z σ) (some (.ref (b + x))) := ym_met (by decide) (Nat.le_of_ble_eq_true rfl) fun p e s m args below meth c S hW ls hl => nt_A_get_0 S q v1 σ h hl hW
end

/-! StreamPair$End.mayClose ()Z, writing nothing -/
def nb_E_mayClose_38 (q : Nat) (w0 : Int32) (σ : CS) : Option (Int32) :=
  gd (w0 = 0 ∨ w0 = 1) (some w0)
def nb_E_mayClose_33 (q : Nat) (σ : CS) : Option (Int32) :=
  nb_E_mayClose_38 q (1 : Int32) σ
def n_E_mayClose (q : Nat) (σ : CS) : Option (Int32) :=
  gd (q = 7 ∨ q = 14) <| bd (cI σ q 8) fun x1 => if x1 = (1 : Int32) then
  (nb_E_mayClose_33 q  σ)
 else
  (bd (cI σ q 8) fun x2 => if x2 = (2 : Int32) then
  (nb_E_mayClose_33 q  σ)
 else
  (bd (cI σ q 8) fun x3 => if x3 = (4 : Int32) then
  (nb_E_mayClose_33 q  σ)
 else
  (bd (cI σ q 8) fun x4 => if x4 = (7 : Int32) then
  (nb_E_mayClose_33 q  σ)
 else
  (nb_E_mayClose_38 q (0 : Int32) σ))))
section
variable {p : Program} {l : Launch} {e : Env} {s : State} {m : MethodId} {args : Array Value} {below : List Frame} {meth : Method} {c : Code} {D : va_G} {tc : Nat → ClassId} {b z : Nat}
theorem nt_E_mayClose_38 {q : Nat} (S : CC p m c k_E_mayClose 1 s args cn_E meth (Option.some Jvm.ClassFile.FieldType.boolean) D tc b z) (hq : q = 7 ∨ q = 14) (w0 : Int32) (σ : CS) {B : Int32} (h : nb_E_mayClose_38 q w0 σ = some B) {ls : Array Slot} (hl : lv_has ls 1 []) (hW : CWS D tc b z s σ σ s.heap [] 0 0) : W p l e (CR 0 0 σ) s m args below meth c s.heap [] 0 0 (YE below args s (some (.int B))) (F0 m 38 ls [.int w0]) := by
  have hx := S.1.1
  have hb := S.1.2.1
  unfold nb_E_mayClose_38 at h
  exact yr_z S d_E_mayClose_38 h
theorem nt_E_mayClose_33 {q : Nat} (S : CC p m c k_E_mayClose 1 s args cn_E meth (Option.some Jvm.ClassFile.FieldType.boolean) D tc b z) (hq : q = 7 ∨ q = 14) (σ : CS) {B : Int32} (h : nb_E_mayClose_33 q  σ = some B) {ls : Array Slot} (hl : lv_has ls 1 []) (hW : CWS D tc b z s σ σ s.heap [] 0 0) : W p l e (CR 0 0 σ) s m args below meth c s.heap [] 0 0 (YE below args s (some (.int B))) (F0 m 33 ls []) := by
  have hx := S.1.1
  have hb := S.1.2.1
  unfold nb_E_mayClose_33 at h
  refine lv_iconst (v := 1) hx hb d_E_mayClose_33 (by decide) ?_
  refine lv_goto (tgt := 38) hx hb d_E_mayClose_34 (by decide) ?_
  exact nt_E_mayClose_38 S hq (1 : Int32) σ h (lv_sub hl [] rfl) hW
theorem nt_E_mayClose_0 (S : CC p m c k_E_mayClose 1 s args cn_E meth (Option.some Jvm.ClassFile.FieldType.boolean) D tc b z) (q : Nat) (σ : CS) {B : Int32} (h : n_E_mayClose q σ = some B) {ls : Array Slot} (hl : lv_has ls 1 [(0, .ref (b + q))]) (hW : CWS D tc b z s σ σ s.heap [] 0 0) : W p l e (CR 0 0 σ) s m args below meth c s.heap [] 0 0 (YE below args s (some (.int B))) (F0 m 0 ls []) := by
  have hx := S.1.1
  have hb := S.1.2.1
  unfold n_E_mayClose at h
  obtain ⟨hq, h⟩ := gd_s h
  refine lv_aload_n hx hb d_E_mayClose_0 rfl (lv_at hl 0 rfl) ?_
  refine cm_geti kx_E S hW (kE hq) 8 wd_362 (by decide) d_E_mayClose_1 h (fun x1 h => ?_)
  refine lv_iconst (v := 1) hx hb d_E_mayClose_4 (by decide) ?_
  refine rc_eq (tgt := 33) hx hb d_E_mayClose_5 (by decide) h (fun h => ?_) (fun h => ?_)
  · exact nt_E_mayClose_33 S hq  σ h (lv_sub hl [] rfl) hW
  · refine lv_aload_n hx hb d_E_mayClose_8 rfl (lv_at hl 0 rfl) ?_
    refine cm_geti kx_E S hW (kE hq) 8 wd_362 (by decide) d_E_mayClose_9 h (fun x2 h => ?_)
    refine lv_iconst (v := 2) hx hb d_E_mayClose_12 (by decide) ?_
    refine rc_eq (tgt := 33) hx hb d_E_mayClose_13 (by decide) h (fun h => ?_) (fun h => ?_)
    · exact nt_E_mayClose_33 S hq  σ h (lv_sub hl [] rfl) hW
    · refine lv_aload_n hx hb d_E_mayClose_16 rfl (lv_at hl 0 rfl) ?_
      refine cm_geti kx_E S hW (kE hq) 8 wd_362 (by decide) d_E_mayClose_17 h (fun x3 h => ?_)
      refine lv_iconst (v := 4) hx hb d_E_mayClose_20 (by decide) ?_
      refine rc_eq (tgt := 33) hx hb d_E_mayClose_21 (by decide) h (fun h => ?_) (fun h => ?_)
      · exact nt_E_mayClose_33 S hq  σ h (lv_sub hl [] rfl) hW
      · refine lv_aload_n hx hb d_E_mayClose_24 rfl (lv_at hl 0 rfl) ?_
        refine cm_geti kx_E S hW (kE hq) 8 wd_362 (by decide) d_E_mayClose_25 h (fun x4 h => ?_)
        refine lv_bipush (v := 7) hx hb d_E_mayClose_28 (by decide) ?_
        refine rc_ne (tgt := 37) hx hb d_E_mayClose_30 (by decide) h (fun h => ?_) (fun h => ?_)
        · refine lv_iconst (v := 0) hx hb d_E_mayClose_37 (by decide) ?_
          exact nt_E_mayClose_38 S hq (0 : Int32) σ h (lv_sub hl [] rfl) hW
        · exact nt_E_mayClose_33 S hq  σ h (lv_sub hl [] rfl) hW
theorem cy_E_mayClose (q : Nat) (σ : CS) {x : Int32} (h : n_E_mayClose q σ = some x) : YMet l y_E_mayClose k_E_mayClose 1 (Option.some Jvm.ClassFile.FieldType.boolean) 0 0 [.ref (b + q)] σ (CP D tc b z σ) (some (.int x)) := ym_met (by decide) (Nat.le_of_ble_eq_true rfl) fun p e s m args below meth c S hW ls hl => nt_E_mayClose_0 S q σ h hl hW
end

/-! StreamPair.sideOf (I)LStreamPair$End;, writing nothing -/
abbrev k_P_sideOf : ByteArray := prog_1_method_19_code
abbrev y_P_sideOf : MethodName := ⟨cn_P, "sideOf", "(I)LStreamPair$End;"⟩
theorem q_P_sideOf : Calee y_P_sideOf k_P_sideOf 2 (Option.some (Jvm.ClassFile.FieldType.object "StreamPair$End")) 1 := ⟨wd_777, wd_78, by decide, by decide +kernel⟩
theorem d_P_sideOf_0 : decode k_P_sideOf 0 = .ok (.iload_n 1, 1) := by decide +kernel
theorem d_P_sideOf_1 : decode k_P_sideOf 1 = .ok (.ifCond .ne 8, 3) := by decide +kernel
theorem d_P_sideOf_4 : decode k_P_sideOf 4 = .ok (.aload_n 0, 1) := by decide +kernel
theorem d_P_sideOf_5 : decode k_P_sideOf 5 = .ok (.getfield 35, 3) := by decide +kernel
theorem d_P_sideOf_8 : decode k_P_sideOf 8 = .ok (.areturn, 1) := by decide +kernel
theorem d_P_sideOf_9 : decode k_P_sideOf 9 = .ok (.iload_n 1, 1) := by decide +kernel
theorem d_P_sideOf_10 : decode k_P_sideOf 10 = .ok (.iconst 1, 1) := by decide +kernel
theorem d_P_sideOf_11 : decode k_P_sideOf 11 = .ok (.if_icmp .ne 8, 3) := by decide +kernel
theorem d_P_sideOf_14 : decode k_P_sideOf 14 = .ok (.aload_n 0, 1) := by decide +kernel
theorem d_P_sideOf_15 : decode k_P_sideOf 15 = .ok (.getfield 39, 3) := by decide +kernel
theorem d_P_sideOf_18 : decode k_P_sideOf 18 = .ok (.areturn, 1) := by decide +kernel
theorem d_P_sideOf_19 : decode k_P_sideOf 19 = .ok (.new 259, 3) := by decide +kernel
theorem d_P_sideOf_22 : decode k_P_sideOf 22 = .ok (.dup, 1) := by decide +kernel
theorem d_P_sideOf_23 : decode k_P_sideOf 23 = .ok (.ldc_w 261, 3) := by decide +kernel
theorem d_P_sideOf_26 : decode k_P_sideOf 26 = .ok (.invokespecial 263, 3) := by decide +kernel
theorem d_P_sideOf_29 : decode k_P_sideOf 29 = .ok (.athrow, 1) := by decide +kernel
def n_P_sideOf (v1 : Int32) (σ : CS) : Option (Nat ⊕ Nat) :=
  if v1 = 0 then
  (some (.inr 7))
 else
  (if v1 = (1 : Int32) then
  (some (.inr 14))
 else
  (gd (cX σ + 1 ≤ 601024 ∧ cU σ + 6 ≤ 7293034) <| some (.inl 3)))
section
variable {p : Program} {l : Launch} {e : Env} {s : State} {m : MethodId} {args : Array Value} {below : List Frame} {meth : Method} {c : Code} {D : va_G} {tc : Nat → ClassId} {b z : Nat}
theorem nt_P_sideOf_0 (S : CC p m c k_P_sideOf 2 s args cn_P meth (Option.some (Jvm.ClassFile.FieldType.object "StreamPair$End")) D tc b z) (hT : TK b s) (hfl : l.flags = flags0) (hex : c.exceptionTable.toList = []) (v1 : Int32) (σ : CS) {B : Nat ⊕ Nat} (h : n_P_sideOf v1 σ = some B) {ls : Array Slot} (hl : lv_has ls 2 [(0, .ref (b + 0)), (1, .int v1)]) (hW : CWS D tc b z s σ σ s.heap [] 0 0) : W p l e (CR 6 83 σ) s m args below meth c s.heap [] 0 0 (NQ b below args s B) (F0 m 0 ls []) := by
  have hx := S.1.1
  have hb := S.1.2.1
  unfold n_P_sideOf at h
  refine lv_iload_n hx hb d_P_sideOf_0 rfl (lv_at hl 1 rfl) ?_
  refine rb_ne (tgt := 9) hx hb d_P_sideOf_1 (by decide) h (fun h => ?_) (fun h => ?_)
  · refine lv_iload_n hx hb d_P_sideOf_9 rfl (lv_at hl 1 rfl) ?_
    refine lv_iconst (v := 1) hx hb d_P_sideOf_10 (by decide) ?_
    refine rc_ne (tgt := 19) hx hb d_P_sideOf_11 (by decide) h (fun h => ?_) (fun h => ?_)
    · refine xm_new (k := 3) (by decide) S hW d_P_sideOf_19 h (fun H1 cC kC h hfc hkC hcell => ?_)
      refine lv_dup hx hb d_P_sideOf_22 rfl ?_
      obtain ⟨q9, hq9⟩ := hT.2.2.2.2.2 (261, "no such end") (by decide)
      refine xm_ldcw hx hb S.1.2.2.2.1 hq9 d_P_sideOf_23 ?_
      cases h
      exact xm_end (k := 3) (by decide) S hT hfl hex hfc hkC hcell hl.1 (by decide) (by decide) d_P_sideOf_26 d_P_sideOf_29
    · refine lv_aload_n hx hb d_P_sideOf_14 rfl (lv_at hl 0 rfl) ?_
      refine cm_getf kx_P S hW rfl 4 (14) rfl wd_403 (by decide) d_P_sideOf_15 ?_
      exact nr_r S (by first | exact Or.inl ⟨_, rfl⟩ | exact Or.inr ⟨_, rfl⟩) d_P_sideOf_18 h
  · refine lv_aload_n hx hb d_P_sideOf_4 rfl (lv_at hl 0 rfl) ?_
    refine cm_getf kx_P S hW rfl 3 (7) rfl wd_402 (by decide) d_P_sideOf_5 ?_
    exact nr_r S (by first | exact Or.inl ⟨_, rfl⟩ | exact Or.inr ⟨_, rfl⟩) d_P_sideOf_8 h
theorem cyx_P_sideOf (v1 : Int32) (σ : CS) (hfl : l.flags = flags0) {j : Nat} (h : n_P_sideOf v1 σ = some (.inl j)) : XMet l D tc b z y_P_sideOf k_P_sideOf 2 (Option.some (Jvm.ClassFile.FieldType.object "StreamPair$End")) 6 83 [.ref (b + 0), .int v1] σ j := xm_met (by decide) (Nat.le_of_ble_eq_true rfl) fun p e s m args below meth c S hT hex hW ls hl => nt_P_sideOf_0 S hT hfl hex v1 σ h hl hW
theorem cyr_P_sideOf (v1 : Int32) (σ : CS) (hfl : l.flags = flags0) {x : Nat} (h : n_P_sideOf v1 σ = some (.inr x)) : YMet l y_P_sideOf k_P_sideOf 2 (Option.some (Jvm.ClassFile.FieldType.object "StreamPair$End")) 6 83 [.ref (b + 0), .int v1] σ (CPX D tc b z σ) (some (.ref (b + x))) := ymx_met (by decide) (Nat.le_of_ble_eq_true rfl) fun p e s m args below meth c S hT hex hW ls hl => nt_P_sideOf_0 S hT hfl hex v1 σ h hl hW
end

/-! StreamPair.segmentOf (I)LStreamPair$Segment;, writing nothing -/
abbrev k_P_segmentOf : ByteArray := prog_1_method_20_code
abbrev y_P_segmentOf : MethodName := ⟨cn_P, "segmentOf", "(I)LStreamPair$Segment;"⟩
theorem q_P_segmentOf : Calee y_P_segmentOf k_P_segmentOf 2 (Option.some (Jvm.ClassFile.FieldType.object "StreamPair$Segment")) 1 := ⟨wd_960, wd_78, by decide, by decide +kernel⟩
theorem d_P_segmentOf_0 : decode k_P_segmentOf 0 = .ok (.iload_n 1, 1) := by decide +kernel
theorem d_P_segmentOf_1 : decode k_P_segmentOf 1 = .ok (.ifCond .lt 17, 3) := by decide +kernel
theorem d_P_segmentOf_4 : decode k_P_segmentOf 4 = .ok (.iload_n 1, 1) := by decide +kernel
theorem d_P_segmentOf_5 : decode k_P_segmentOf 5 = .ok (.aload_n 0, 1) := by decide +kernel
theorem d_P_segmentOf_6 : decode k_P_segmentOf 6 = .ok (.getfield 26, 3) := by decide +kernel
theorem d_P_segmentOf_9 : decode k_P_segmentOf 9 = .ok (.getfield 219, 3) := by decide +kernel
theorem d_P_segmentOf_12 : decode k_P_segmentOf 12 = .ok (.invokevirtual 222, 3) := by decide +kernel
theorem d_P_segmentOf_15 : decode k_P_segmentOf 15 = .ok (.if_icmp .lt 14, 3) := by decide +kernel
theorem d_P_segmentOf_18 : decode k_P_segmentOf 18 = .ok (.new 259, 3) := by decide +kernel
theorem d_P_segmentOf_21 : decode k_P_segmentOf 21 = .ok (.dup, 1) := by decide +kernel
theorem d_P_segmentOf_22 : decode k_P_segmentOf 22 = .ok (.ldc_w 264, 3) := by decide +kernel
theorem d_P_segmentOf_25 : decode k_P_segmentOf 25 = .ok (.invokespecial 263, 3) := by decide +kernel
theorem d_P_segmentOf_28 : decode k_P_segmentOf 28 = .ok (.athrow, 1) := by decide +kernel
theorem d_P_segmentOf_29 : decode k_P_segmentOf 29 = .ok (.aload_n 0, 1) := by decide +kernel
theorem d_P_segmentOf_30 : decode k_P_segmentOf 30 = .ok (.getfield 26, 3) := by decide +kernel
theorem d_P_segmentOf_33 : decode k_P_segmentOf 33 = .ok (.getfield 219, 3) := by decide +kernel
theorem d_P_segmentOf_36 : decode k_P_segmentOf 36 = .ok (.iload_n 1, 1) := by decide +kernel
theorem d_P_segmentOf_37 : decode k_P_segmentOf 37 = .ok (.invokevirtual 266, 3) := by decide +kernel
theorem d_P_segmentOf_40 : decode k_P_segmentOf 40 = .ok (.checkcast 202, 3) := by decide +kernel
theorem d_P_segmentOf_43 : decode k_P_segmentOf 43 = .ok (.areturn, 1) := by decide +kernel
def nb_P_segmentOf_18 (σ : CS) : Option (Nat ⊕ Nat) :=
  gd (cX σ + 1 ≤ 601024 ∧ cU σ + 6 ≤ 7293034) <| some (.inl 3)
def n_P_segmentOf (v1 : Int32) (σ : CS) : Option (Nat ⊕ Nat) :=
  if v1 < 0 then
  (nb_P_segmentOf_18  σ)
 else
  (bc (n_A_size 5 σ) fun x1 => if v1 < x1 then
  (bc (n_A_get 5 v1 σ) fun x2 => gd (kd σ x2 = 11) <| some (.inr x2))
 else
  (nb_P_segmentOf_18  σ))
section
variable {p : Program} {l : Launch} {e : Env} {s : State} {m : MethodId} {args : Array Value} {below : List Frame} {meth : Method} {c : Code} {D : va_G} {tc : Nat → ClassId} {b z : Nat}
theorem nt_P_segmentOf_18 (S : CC p m c k_P_segmentOf 2 s args cn_P meth (Option.some (Jvm.ClassFile.FieldType.object "StreamPair$Segment")) D tc b z) (hT : TK b s) (hfl : l.flags = flags0) (hex : c.exceptionTable.toList = []) (σ : CS) {B : Nat ⊕ Nat} (h : nb_P_segmentOf_18  σ = some B) {ls : Array Slot} (hl : lv_has ls 2 []) (hW : CWS D tc b z s σ σ s.heap [] 0 0) : W p l e (CR 6 83 σ) s m args below meth c s.heap [] 0 0 (NQ b below args s B) (F0 m 18 ls []) := by
  have hx := S.1.1
  have hb := S.1.2.1
  unfold nb_P_segmentOf_18 at h
  refine xm_new (k := 3) (by decide) S hW d_P_segmentOf_18 h (fun H1 cC kC h hfc hkC hcell => ?_)
  refine lv_dup hx hb d_P_segmentOf_21 rfl ?_
  obtain ⟨q9, hq9⟩ := hT.2.2.2.2.2 (264, "no such segment") (by decide)
  refine xm_ldcw hx hb S.1.2.2.2.1 hq9 d_P_segmentOf_22 ?_
  cases h
  exact xm_end (k := 3) (by decide) S hT hfl hex hfc hkC hcell hl.1 (by decide) (by decide) d_P_segmentOf_25 d_P_segmentOf_28
theorem nt_P_segmentOf_0 (S : CC p m c k_P_segmentOf 2 s args cn_P meth (Option.some (Jvm.ClassFile.FieldType.object "StreamPair$Segment")) D tc b z) (hT : TK b s) (hfl : l.flags = flags0) (hex : c.exceptionTable.toList = []) (v1 : Int32) (σ : CS) {B : Nat ⊕ Nat} (h : n_P_segmentOf v1 σ = some B) {ls : Array Slot} (hl : lv_has ls 2 [(0, .ref (b + 0)), (1, .int v1)]) (hW : CWS D tc b z s σ σ s.heap [] 0 0) : W p l e (CR 6 83 σ) s m args below meth c s.heap [] 0 0 (NQ b below args s B) (F0 m 0 ls []) := by
  have hx := S.1.1
  have hb := S.1.2.1
  unfold n_P_segmentOf at h
  refine lv_iload_n hx hb d_P_segmentOf_0 rfl (lv_at hl 1 rfl) ?_
  refine rb_lt (tgt := 18) hx hb d_P_segmentOf_1 (by decide) h (fun h => ?_) (fun h => ?_)
  · exact nt_P_segmentOf_18 S hT hfl hex  σ h (lv_sub hl [] rfl) hW
  · refine lv_iload_n hx hb d_P_segmentOf_4 rfl (lv_at hl 1 rfl) ?_
    refine lv_aload_n hx hb d_P_segmentOf_5 rfl (lv_at hl 0 rfl) ?_
    refine cm_getf kx_P S hW rfl 2 (4) rfl wd_401 (by decide) d_P_segmentOf_6 ?_
    refine cm_getf kx_N S hW rfl 0 (5) rfl wd_174 (by decide) d_P_segmentOf_9 ?_
    refine ym_cVi (As := []) kx_A S hW rfl (fun x hc => cy_A_size 5 σ hc) q_A_size wd_431 wd_432 wd_649 (by decide) hl.1 rfl rfl (Nat.le_of_ble_eq_true rfl) d_P_segmentOf_12 h (fun x1 h => ?_)
    refine rc_lt (tgt := 29) hx hb d_P_segmentOf_15 (by decide) h (fun h => ?_) (fun h => ?_)
    · refine lv_aload_n hx hb d_P_segmentOf_29 rfl (lv_at hl 0 rfl) ?_
      refine cm_getf kx_P S hW rfl 2 (4) rfl wd_401 (by decide) d_P_segmentOf_30 ?_
      refine cm_getf kx_N S hW rfl 0 (5) rfl wd_174 (by decide) d_P_segmentOf_33 ?_
      refine lv_iload_n hx hb d_P_segmentOf_36 rfl (lv_at hl 1 rfl) ?_
      refine ym_cVr (As := [.int v1]) kx_A S hW rfl (fun x hc => cy_A_get 5 v1 σ hc) q_A_get wd_435 wd_436 wd_962 (by decide) hl.1 rfl rfl (Nat.le_of_ble_eq_true rfl) d_P_segmentOf_37 h (fun x2 h => ?_)
      refine cm_cast S hW wd_963 d_P_segmentOf_40 h (fun h => ?_)
      exact nr_r S (by first | exact Or.inl ⟨_, rfl⟩ | exact Or.inr ⟨_, rfl⟩) d_P_segmentOf_43 h
    · exact nt_P_segmentOf_18 S hT hfl hex  σ h (lv_sub hl [] rfl) hW
theorem cyx_P_segmentOf (v1 : Int32) (σ : CS) (hfl : l.flags = flags0) {j : Nat} (h : n_P_segmentOf v1 σ = some (.inl j)) : XMet l D tc b z y_P_segmentOf k_P_segmentOf 2 (Option.some (Jvm.ClassFile.FieldType.object "StreamPair$Segment")) 6 83 [.ref (b + 0), .int v1] σ j := xm_met (by decide) (Nat.le_of_ble_eq_true rfl) fun p e s m args below meth c S hT hex hW ls hl => nt_P_segmentOf_0 S hT hfl hex v1 σ h hl hW
theorem cyr_P_segmentOf (v1 : Int32) (σ : CS) (hfl : l.flags = flags0) {x : Nat} (h : n_P_segmentOf v1 σ = some (.inr x)) : YMet l y_P_segmentOf k_P_segmentOf 2 (Option.some (Jvm.ClassFile.FieldType.object "StreamPair$Segment")) 6 83 [.ref (b + 0), .int v1] σ (CPX D tc b z σ) (some (.ref (b + x))) := ymx_met (by decide) (Nat.le_of_ble_eq_true rfl) fun p e s m args below meth c S hT hex hW ls hl => nt_P_segmentOf_0 S hT hfl hex v1 σ h hl hW
end
