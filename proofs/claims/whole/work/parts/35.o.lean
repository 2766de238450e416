/-! java/lang/Math.floorMod (II)I -/
abbrev k_J_floorMod_II : ByteArray := prog_20_method_50_code
abbrev y_J_floorMod_II : MethodName := ⟨"java/lang/Math", "floorMod", "(II)I"⟩
theorem q_J_floorMod_II : Calee y_J_floorMod_II k_J_floorMod_II 3 (Option.some Jvm.ClassFile.FieldType.int) 2 := ⟨wd_425, wd_96, by decide, by decide +kernel⟩
theorem d_J_floorMod_II_0 : decode k_J_floorMod_II 0 = .ok (.iload_n 0, 1) := by decide +kernel
theorem d_J_floorMod_II_1 : decode k_J_floorMod_II 1 = .ok (.iload_n 1, 1) := by decide +kernel
theorem d_J_floorMod_II_2 : decode k_J_floorMod_II 2 = .ok (.irem, 1) := by decide +kernel
theorem d_J_floorMod_II_3 : decode k_J_floorMod_II 3 = .ok (.istore_n 2, 1) := by decide +kernel
theorem d_J_floorMod_II_4 : decode k_J_floorMod_II 4 = .ok (.iload_n 0, 1) := by decide +kernel
theorem d_J_floorMod_II_5 : decode k_J_floorMod_II 5 = .ok (.iload_n 1, 1) := by decide +kernel
theorem d_J_floorMod_II_6 : decode k_J_floorMod_II 6 = .ok (.ixor, 1) := by decide +kernel
theorem d_J_floorMod_II_7 : decode k_J_floorMod_II 7 = .ok (.ifCond .ge 11, 3) := by decide +kernel
theorem d_J_floorMod_II_10 : decode k_J_floorMod_II 10 = .ok (.iload_n 2, 1) := by decide +kernel
theorem d_J_floorMod_II_11 : decode k_J_floorMod_II 11 = .ok (.ifCond .eq 7, 3) := by decide +kernel
theorem d_J_floorMod_II_14 : decode k_J_floorMod_II 14 = .ok (.iload_n 2, 1) := by decide +kernel
theorem d_J_floorMod_II_15 : decode k_J_floorMod_II 15 = .ok (.iload_n 1, 1) := by decide +kernel
theorem d_J_floorMod_II_16 : decode k_J_floorMod_II 16 = .ok (.iadd, 1) := by decide +kernel
theorem d_J_floorMod_II_17 : decode k_J_floorMod_II 17 = .ok (.ireturn, 1) := by decide +kernel
theorem d_J_floorMod_II_18 : decode k_J_floorMod_II 18 = .ok (.iload_n 2, 1) := by decide +kernel
theorem d_J_floorMod_II_19 : decode k_J_floorMod_II 19 = .ok (.ireturn, 1) := by decide +kernel
def b_J_floorMod_II_18 (v2 : Int32) (σ : CS) : Option (Int32 × CS) :=
  some (v2, σ)
def m_J_floorMod_II (v0 : Int32) (v1 : Int32) (σ : CS) : Option (Int32 × CS) :=
  gd (¬ v1 = 0) <| bd (v0 - v0 / v1 * v1) fun x1 => if 0 ≤ (v0 ^^^ v1) then
  (b_J_floorMod_II_18 x1 σ)
 else
  (if x1 = 0 then
  (b_J_floorMod_II_18 x1 σ)
 else
  (some (x1 + v1, σ)))
section
variable {p : Program} {l : Launch} {e : Env} {s : State} {m : MethodId} {args : Array Value} {below : List Frame} {meth : Method} {c : Code} {D : va_G} {tc : Nat → ClassId} {b z : Nat} {σ0 : CS}
theorem t_J_floorMod_II_18 (S : CC p m c k_J_floorMod_II 3 s args "java/lang/Math" meth (Option.some Jvm.ClassFile.FieldType.int) D tc b z) (v2 : Int32) (σ : CS) {B : Int32 × CS} (h : b_J_floorMod_II_18 v2 σ = some B) {ls : Array Slot} {H : Heap} {locs : List Loc} {cells slots : Nat} (hl : lv_has ls 3 [(2, .int v2)]) (hW : CWS D tc b z s σ0 σ H locs cells slots) : W p l e (CR 0 0 σ0) s m args below meth c H locs cells slots (CE D tc b z below args s σ0 (some (.int B.1)) B.2) (F0 m 18 ls []) := by
  have hx := S.1.1
  have hb := S.1.2.1
  unfold b_J_floorMod_II_18 at h
  refine lv_iload_n hx hb d_J_floorMod_II_18 rfl (lv_at hl 0 rfl) ?_
  exact cm_iret S hW d_J_floorMod_II_19 h
theorem t_J_floorMod_II_0 (S : CC p m c k_J_floorMod_II 3 s args "java/lang/Math" meth (Option.some Jvm.ClassFile.FieldType.int) D tc b z) (v0 : Int32) (v1 : Int32) (σ : CS) {B : Int32 × CS} (h : m_J_floorMod_II v0 v1 σ = some B) {ls : Array Slot} {H : Heap} {locs : List Loc} {cells slots : Nat} (hl : lv_has ls 3 [(0, .int v0), (1, .int v1)]) (hW : CWS D tc b z s σ0 σ H locs cells slots) : W p l e (CR 0 0 σ0) s m args below meth c H locs cells slots (CE D tc b z below args s σ0 (some (.int B.1)) B.2) (F0 m 0 ls []) := by
  have hx := S.1.1
  have hb := S.1.2.1
  unfold m_J_floorMod_II at h
  refine lv_iload_n hx hb d_J_floorMod_II_0 rfl (lv_at hl 0 rfl) ?_
  refine lv_iload_n hx hb d_J_floorMod_II_1 rfl (lv_at hl 1 rfl) ?_
  refine rv_irem hx hb d_J_floorMod_II_2 h (fun h => ?_)
  refine rv_i h (fun x1 h => ?_)
  refine lv_istore_n (lv' := [(2, .int x1), (0, .int v0), (1, .int v1)]) hx hb d_J_floorMod_II_3 rfl hl (by decide) rfl (fun ls hl => ?_)
  refine lv_iload_n hx hb d_J_floorMod_II_4 rfl (lv_at hl 1 rfl) ?_
  refine lv_iload_n hx hb d_J_floorMod_II_5 rfl (lv_at hl 2 rfl) ?_
  refine lv_ixor hx hb d_J_floorMod_II_6 ?_
  refine rb_ge (tgt := 18) hx hb d_J_floorMod_II_7 (by decide) h (fun h => ?_) (fun h => ?_)
  · exact t_J_floorMod_II_18 S x1 σ h (lv_sub hl [0] rfl) hW
  · refine lv_iload_n hx hb d_J_floorMod_II_10 rfl (lv_at hl 0 rfl) ?_
    refine rb_eq (tgt := 18) hx hb d_J_floorMod_II_11 (by decide) h (fun h => ?_) (fun h => ?_)
    · exact t_J_floorMod_II_18 S x1 σ h (lv_sub hl [0] rfl) hW
    · refine lv_iload_n hx hb d_J_floorMod_II_14 rfl (lv_at hl 0 rfl) ?_
      refine lv_iload_n hx hb d_J_floorMod_II_15 rfl (lv_at hl 2 rfl) ?_
      refine lv_iadd hx hb d_J_floorMod_II_16 ?_
      exact cm_iret S hW d_J_floorMod_II_17 h
theorem c_J_floorMod_II (v0 : Int32) (v1 : Int32) (σ : CS) {x : Int32} {σ' : CS} (h : m_J_floorMod_II v0 v1 σ = some (x, σ')) : CMet l D tc b z y_J_floorMod_II k_J_floorMod_II 3 (Option.some Jvm.ClassFile.FieldType.int) 0 0 [.int v0, .int v1] σ (some (.int x)) σ' := cm_metF (by decide +kernel) (Nat.le_of_ble_eq_true rfl) fun p e s m args below meth c S hW ls hl => t_J_floorMod_II_0 S v0 v1 σ h hl hW
end

/-! StreamPair.open (II)I -/
abbrev k_P_open : ByteArray := prog_1_method_4_code
abbrev y_P_open : MethodName := ⟨cn_P, "open", "(II)I"⟩
theorem q_P_open : Calee y_P_open k_P_open 5 (Option.some Jvm.ClassFile.FieldType.int) 2 := ⟨wd_421, wd_78, by decide, by decide +kernel⟩
theorem d_P_open_0 : decode k_P_open 0 = .ok (.aload_n 0, 1) := by decide +kernel
theorem d_P_open_1 : decode k_P_open 1 = .ok (.getfield 63, 3) := by decide +kernel
theorem d_P_open_4 : decode k_P_open 4 = .ok (.istore_n 3, 1) := by decide +kernel
theorem d_P_open_5 : decode k_P_open 5 = .ok (.aload_n 0, 1) := by decide +kernel
theorem d_P_open_6 : decode k_P_open 6 = .ok (.iload_n 3, 1) := by decide +kernel
theorem d_P_open_7 : decode k_P_open 7 = .ok (.iconst 1, 1) := by decide +kernel
theorem d_P_open_8 : decode k_P_open 8 = .ok (.iadd, 1) := by decide +kernel
theorem d_P_open_9 : decode k_P_open 9 = .ok (.putfield 63, 3) := by decide +kernel
theorem d_P_open_12 : decode k_P_open 12 = .ok (.ldc 66, 2) := by decide +kernel
theorem d_P_open_14 : decode k_P_open 14 = .ok (.iload_n 3, 1) := by decide +kernel
theorem d_P_open_15 : decode k_P_open 15 = .ok (.sipush 20000, 3) := by decide +kernel
theorem d_P_open_18 : decode k_P_open 18 = .ok (.invokestatic 67, 3) := by decide +kernel
theorem d_P_open_21 : decode k_P_open 21 = .ok (.iadd, 1) := by decide +kernel
theorem d_P_open_22 : decode k_P_open 22 = .ok (.istore 4, 2) := by decide +kernel
theorem d_P_open_24 : decode k_P_open 24 = .ok (.aload_n 0, 1) := by decide +kernel
theorem d_P_open_25 : decode k_P_open 25 = .ok (.getfield 26, 3) := by decide +kernel
theorem d_P_open_28 : decode k_P_open 28 = .ok (.invokevirtual 73, 3) := by decide +kernel
theorem d_P_open_31 : decode k_P_open 31 = .ok (.aload_n 0, 1) := by decide +kernel
theorem d_P_open_32 : decode k_P_open 32 = .ok (.getfield 35, 3) := by decide +kernel
theorem d_P_open_35 : decode k_P_open 35 = .ok (.iconst 2, 1) := by decide +kernel
theorem d_P_open_36 : decode k_P_open 36 = .ok (.iload_n 1, 1) := by decide +kernel
theorem d_P_open_37 : decode k_P_open 37 = .ok (.iload 4, 2) := by decide +kernel
theorem d_P_open_39 : decode k_P_open 39 = .ok (.sipush 443, 3) := by decide +kernel
theorem d_P_open_42 : decode k_P_open 42 = .ok (.invokevirtual 76, 3) := by decide +kernel
theorem d_P_open_45 : decode k_P_open 45 = .ok (.aload_n 0, 1) := by decide +kernel
theorem d_P_open_46 : decode k_P_open 46 = .ok (.getfield 39, 3) := by decide +kernel
theorem d_P_open_49 : decode k_P_open 49 = .ok (.iconst 1, 1) := by decide +kernel
theorem d_P_open_50 : decode k_P_open 50 = .ok (.iload_n 2, 1) := by decide +kernel
theorem d_P_open_51 : decode k_P_open 51 = .ok (.sipush 443, 3) := by decide +kernel
theorem d_P_open_54 : decode k_P_open 54 = .ok (.iload 4, 2) := by decide +kernel
theorem d_P_open_56 : decode k_P_open 56 = .ok (.invokevirtual 76, 3) := by decide +kernel
theorem d_P_open_59 : decode k_P_open 59 = .ok (.aload_n 0, 1) := by decide +kernel
theorem d_P_open_60 : decode k_P_open 60 = .ok (.getfield 35, 3) := by decide +kernel
theorem d_P_open_63 : decode k_P_open 63 = .ok (.invokevirtual 80, 3) := by decide +kernel
theorem d_P_open_66 : decode k_P_open 66 = .ok (.iload_n 3, 1) := by decide +kernel
theorem d_P_open_67 : decode k_P_open 67 = .ok (.ireturn, 1) := by decide +kernel
def m_P_open (v1 : Int32) (v2 : Int32) (σ : CS) : Option (Int32 × CS) :=
  bd (cI σ 0 5) fun x1 => bd (wi σ 0 5 (x1 + (1 : Int32))) fun r2 => bc2 (m_J_floorMod_II x1 (20000 : Int32) r2) fun x4 r3 => bd ((40000 : Int32) + x4) fun x5 => bc (m_N_forgetAll r3) fun r6 => bc (m_E_begin 7 (2 : Int32) v1 x5 (443 : Int32) r6) fun r7 => bc (m_E_begin 14 (1 : Int32) v2 (443 : Int32) x5 r7) fun r8 => bc (m_E_sendFirstSyn 7 r8) fun r9 => some (x1, r9)
section
variable {p : Program} {l : Launch} {e : Env} {s : State} {m : MethodId} {args : Array Value} {below : List Frame} {meth : Method} {c : Code} {D : va_G} {tc : Nat → ClassId} {b z : Nat} {σ0 : CS}
theorem t_P_open_0 (S : CC p m c k_P_open 5 s args cn_P meth (Option.some Jvm.ClassFile.FieldType.int) D tc b z) (v1 : Int32) (v2 : Int32) (σ : CS) {B : Int32 × CS} (h : m_P_open v1 v2 σ = some B) {ls : Array Slot} {H : Heap} {locs : List Loc} {cells slots : Nat} (hl : lv_has ls 5 [(0, .ref (b + 0)), (1, .int v1), (2, .int v2)]) (hW : CWS D tc b z s σ0 σ H locs cells slots) : W p l e (CR 12 291 σ0) s m args below meth c H locs cells slots (CE D tc b z below args s σ0 (some (.int B.1)) B.2) (F0 m 0 ls []) := by
  have hx := S.1.1
  have hb := S.1.2.1
  unfold m_P_open at h
  refine lv_aload_n hx hb d_P_open_0 rfl (lv_at hl 0 rfl) ?_
  refine cm_geti kx_P S hW rfl 5 wd_404 (by decide) d_P_open_1 h (fun x1 h => ?_)
  refine lv_istore_n (lv' := [(3, .int x1), (0, .ref (b + 0)), (1, .int v1), (2, .int v2)]) hx hb d_P_open_4 rfl hl (by decide) rfl (fun ls hl => ?_)
  refine lv_aload_n hx hb d_P_open_5 rfl (lv_at hl 1 rfl) ?_
  refine lv_iload_n hx hb d_P_open_6 rfl (lv_at hl 0 rfl) ?_
  refine lv_iconst (v := 1) hx hb d_P_open_7 (by decide) ?_
  refine lv_iadd hx hb d_P_open_8 ?_
  refine cm_puti kx_P S hW rfl 5 wd_404 (by decide) d_P_open_9 h (fun r2 H locs h hW => ?_)
  refine lv_ldc hx hb S.1.2.2.2.1 (S.1.2.2.2.2 _ (gi wd_422 rfl)) d_P_open_12 ?_
  refine lv_iload_n hx hb d_P_open_14 rfl (lv_at hl 0 rfl) ?_
  refine lv_sipush (v := 20000) hx hb d_P_open_15 (by decide) ?_
  refine cm_cSi [.int x1, .int (20000 : Int32)] S hW (fun x σ' hc => c_J_floorMod_II x1 (20000 : Int32) r2 hc) q_J_floorMod_II wd_424 wd_423 (by decide) hl.1 rfl rfl (Nat.le_of_ble_eq_true rfl) d_P_open_18 h (fun x4 r3 H locs cells slots h hW => ?_)
  refine lv_iadd hx hb d_P_open_21 ?_
  refine rv_i h (fun x5 h => ?_)
  refine lv_istore (lv' := [(4, .int x5), (3, .int x1), (0, .ref (b + 0)), (1, .int v1), (2, .int v2)]) hx hb d_P_open_22 hl (by decide) rfl (fun ls hl => ?_)
  refine lv_aload_n hx hb d_P_open_24 rfl (lv_at hl 2 rfl) ?_
  refine cm_getf kx_P S hW rfl 2 (4) rfl wd_401 (by decide) d_P_open_25 ?_
  refine cm_cVv [] kx_N S hW rfl (fun σ' hc => c_N_forgetAll r3 hc) q_N_forgetAll wd_427 wd_428 wd_426 (by decide) hl.1 rfl rfl (Nat.le_of_ble_eq_true rfl) d_P_open_28 h (fun r6 H locs cells slots h hW => ?_)
  refine lv_aload_n hx hb d_P_open_31 rfl (lv_at hl 2 rfl) ?_
  refine cm_getf kx_P S hW rfl 3 (7) rfl wd_402 (by decide) d_P_open_32 ?_
  refine lv_iconst (v := 2) hx hb d_P_open_35 (by decide) ?_
  refine lv_iload_n hx hb d_P_open_36 rfl (lv_at hl 3 rfl) ?_
  refine lv_iload hx hb d_P_open_37 (lv_at hl 0 rfl) ?_
  refine lv_sipush (v := 443) hx hb d_P_open_39 (by decide) ?_
  refine cm_cVv [.int (2 : Int32), .int v1, .int x5, .int (443 : Int32)] kx_E S hW rfl (fun σ' hc => c_E_begin 7 (2 : Int32) v1 x5 (443 : Int32) r6 hc) q_E_begin wd_518 wd_519 wd_517 (by decide) hl.1 rfl rfl (Nat.le_of_ble_eq_true rfl) d_P_open_42 h (fun r7 H locs cells slots h hW => ?_)
  refine lv_aload_n hx hb d_P_open_45 rfl (lv_at hl 2 rfl) ?_
  refine cm_getf kx_P S hW rfl 4 (14) rfl wd_403 (by decide) d_P_open_46 ?_
  refine lv_iconst (v := 1) hx hb d_P_open_49 (by decide) ?_
  refine lv_iload_n hx hb d_P_open_50 rfl (lv_at hl 4 rfl) ?_
  refine lv_sipush (v := 443) hx hb d_P_open_51 (by decide) ?_
  refine lv_iload hx hb d_P_open_54 (lv_at hl 0 rfl) ?_
  refine cm_cVv [.int (1 : Int32), .int v2, .int (443 : Int32), .int x5] kx_E S hW rfl (fun σ' hc => c_E_begin 14 (1 : Int32) v2 (443 : Int32) x5 r7 hc) q_E_begin wd_518 wd_519 wd_517 (by decide) hl.1 rfl rfl (Nat.le_of_ble_eq_true rfl) d_P_open_56 h (fun r8 H locs cells slots h hW => ?_)
  refine lv_aload_n hx hb d_P_open_59 rfl (lv_at hl 2 rfl) ?_
  refine cm_getf kx_P S hW rfl 3 (7) rfl wd_402 (by decide) d_P_open_60 ?_
  refine cm_cVv [] kx_E S hW rfl (fun σ' hc => c_E_sendFirstSyn 7 r8 hc) q_E_sendFirstSyn wd_541 wd_542 wd_540 (by decide) hl.1 rfl rfl (Nat.le_of_ble_eq_true rfl) d_P_open_63 h (fun r9 H locs cells slots h hW => ?_)
  refine lv_iload_n hx hb d_P_open_66 rfl (lv_at hl 1 rfl) ?_
  exact cm_iret S hW d_P_open_67 h
theorem c_P_open (v1 : Int32) (v2 : Int32) (σ : CS) {x : Int32} {σ' : CS} (h : m_P_open v1 v2 σ = some (x, σ')) : CMet l D tc b z y_P_open k_P_open 5 (Option.some Jvm.ClassFile.FieldType.int) 12 291 [.ref (b + 0), .int v1, .int v2] σ (some (.int x)) σ' := cm_met (by decide) (Nat.le_of_ble_eq_true rfl) fun p e s m args below meth c S hW ls hl => t_P_open_0 S v1 v2 σ h hl hW
end
