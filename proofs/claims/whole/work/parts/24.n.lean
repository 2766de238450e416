/-! StreamPair$Network.place (II)LStreamPair$Segment; -/
abbrev k_N_place : ByteArray := prog_6_method_2_code
abbrev y_N_place : MethodName := ⟨cn_N, "place", "(II)LStreamPair$Segment;"⟩
theorem q_N_place : Calee y_N_place k_N_place 4 (Option.some (Jvm.ClassFile.FieldType.object "StreamPair$Segment")) 2 := ⟨wd_572, wd_81, by decide, by decide +kernel⟩
theorem d_N_place_0 : decode k_N_place 0 = .ok (.aload_n 0, 1) := by decide +kernel
theorem d_N_place_1 : decode k_N_place 1 = .ok (.getfield 10, 3) := by decide +kernel
theorem d_N_place_4 : decode k_N_place 4 = .ok (.invokevirtual 19, 3) := by decide +kernel
theorem d_N_place_7 : decode k_N_place 7 = .ok (.sipush 512, 3) := by decide +kernel
theorem d_N_place_10 : decode k_N_place 10 = .ok (.if_icmp .lt 15, 3) := by decide +kernel
theorem d_N_place_13 : decode k_N_place 13 = .ok (.aload_n 0, 1) := by decide +kernel
theorem d_N_place_14 : decode k_N_place 14 = .ok (.dup, 1) := by decide +kernel
theorem d_N_place_15 : decode k_N_place 15 = .ok (.getfield 23, 3) := by decide +kernel
theorem d_N_place_18 : decode k_N_place 18 = .ok (.iconst 1, 1) := by decide +kernel
theorem d_N_place_19 : decode k_N_place 19 = .ok (.iadd, 1) := by decide +kernel
theorem d_N_place_20 : decode k_N_place 20 = .ok (.putfield 23, 3) := by decide +kernel
theorem d_N_place_23 : decode k_N_place 23 = .ok (.aconst_null, 1) := by decide +kernel
theorem d_N_place_24 : decode k_N_place 24 = .ok (.areturn, 1) := by decide +kernel
theorem d_N_place_25 : decode k_N_place 25 = .ok (.aload_n 0, 1) := by decide +kernel
theorem d_N_place_26 : decode k_N_place 26 = .ok (.getfield 16, 3) := by decide +kernel
theorem d_N_place_29 : decode k_N_place 29 = .ok (.invokevirtual 27, 3) := by decide +kernel
theorem d_N_place_32 : decode k_N_place 32 = .ok (.ifCond .eq 13, 3) := by decide +kernel
theorem d_N_place_35 : decode k_N_place 35 = .ok (.new 31, 3) := by decide +kernel
theorem d_N_place_38 : decode k_N_place 38 = .ok (.dup, 1) := by decide +kernel
theorem d_N_place_39 : decode k_N_place 39 = .ok (.invokespecial 33, 3) := by decide +kernel
theorem d_N_place_42 : decode k_N_place 42 = .ok (.goto 22, 3) := by decide +kernel
theorem d_N_place_45 : decode k_N_place 45 = .ok (.aload_n 0, 1) := by decide +kernel
theorem d_N_place_46 : decode k_N_place 46 = .ok (.getfield 16, 3) := by decide +kernel
theorem d_N_place_49 : decode k_N_place 49 = .ok (.aload_n 0, 1) := by decide +kernel
theorem d_N_place_50 : decode k_N_place 50 = .ok (.getfield 16, 3) := by decide +kernel
theorem d_N_place_53 : decode k_N_place 53 = .ok (.invokevirtual 19, 3) := by decide +kernel
theorem d_N_place_56 : decode k_N_place 56 = .ok (.iconst 1, 1) := by decide +kernel
theorem d_N_place_57 : decode k_N_place 57 = .ok (.isub, 1) := by decide +kernel
theorem d_N_place_58 : decode k_N_place 58 = .ok (.invokevirtual 34, 3) := by decide +kernel
theorem d_N_place_61 : decode k_N_place 61 = .ok (.checkcast 31, 3) := by decide +kernel
theorem d_N_place_64 : decode k_N_place 64 = .ok (.astore_n 3, 1) := by decide +kernel
theorem d_N_place_65 : decode k_N_place 65 = .ok (.aload_n 3, 1) := by decide +kernel
theorem d_N_place_66 : decode k_N_place 66 = .ok (.iload_n 1, 1) := by decide +kernel
theorem d_N_place_67 : decode k_N_place 67 = .ok (.iload_n 2, 1) := by decide +kernel
theorem d_N_place_68 : decode k_N_place 68 = .ok (.invokevirtual 38, 3) := by decide +kernel
theorem d_N_place_71 : decode k_N_place 71 = .ok (.aload_n 0, 1) := by decide +kernel
theorem d_N_place_72 : decode k_N_place 72 = .ok (.getfield 10, 3) := by decide +kernel
theorem d_N_place_75 : decode k_N_place 75 = .ok (.aload_n 3, 1) := by decide +kernel
theorem d_N_place_76 : decode k_N_place 76 = .ok (.invokevirtual 42, 3) := by decide +kernel
theorem d_N_place_79 : decode k_N_place 79 = .ok (.pop, 1) := by decide +kernel
theorem d_N_place_80 : decode k_N_place 80 = .ok (.aload_n 3, 1) := by decide +kernel
theorem d_N_place_81 : decode k_N_place 81 = .ok (.areturn, 1) := by decide +kernel
def b_N_place_64 (v1 : Int32) (v2 : Int32) (w0 : Nat) (σ : CS) : Option (Option Nat × CS) :=
  gd (kd σ w0 = 11) <| bc (m_G_begin w0 v1 v2 σ) fun r1 => bc2 (m_A_add_Lo 5 w0 r1) fun x3 r2 => some (some w0, r2)
def m_N_place (v1 : Int32) (v2 : Int32) (σ : CS) : Option (Option Nat × CS) :=
  bc2 (m_A_size 5 σ) fun x2 r1 => if x2 < (512 : Int32) then
  (bc2 (m_A_isEmpty 6 r1) fun x4 r3 => if x4 = 0 then
  (bc2 (m_A_size 6 r3) fun x6 r5 => bc2 (m_A_remove 6 (x6 - (1 : Int32)) r5) fun x8 r7 => gd (kd r7 x8 = 11) <| b_N_place_64 v1 v2 x8 r7)
 else
  (gd (cX r3 + 1 ≤ 601024 ∧ cU r3 + 3 ≤ 7293034) <| bd2 (cX r3) (wa r3 11 0 3) fun a9 r10 => bc (m_G_init a9 r10) fun r11 => b_N_place_64 v1 v2 a9 r11))
 else
  (bd (cI r1 4 2) fun x12 => bd (wi r1 4 2 (x12 + (1 : Int32))) fun r13 => some (none, r13))
section
variable {p : Program} {l : Launch} {e : Env} {s : State} {m : MethodId} {args : Array Value} {below : List Frame} {meth : Method} {c : Code} {D : va_G} {tc : Nat → ClassId} {b z : Nat} {σ0 : CS}
theorem t_N_place_64 (S : CC p m c k_N_place 4 s args cn_N meth (Option.some (Jvm.ClassFile.FieldType.object "StreamPair$Segment")) D tc b z) (v1 : Int32) (v2 : Int32) (w0 : Nat) (σ : CS) {B : Option Nat × CS} (h : b_N_place_64 v1 v2 w0 σ = some B) {ls : Array Slot} {H : Heap} {locs : List Loc} {cells slots : Nat} (hl : lv_has ls 4 [(0, .ref (b + 4)), (1, .int v1), (2, .int v2)]) (hW : CWS D tc b z s σ0 σ H locs cells slots) : W p l e (CR 7 171 σ0) s m args below meth c H locs cells slots (CE D tc b z below args s σ0 (some (vq b B.1)) B.2) (F0 m 64 ls [.ref (b + w0)]) := by
  have hx := S.1.1
  have hb := S.1.2.1
  unfold b_N_place_64 at h
  refine lv_astore_n (lv' := [(3, .ref (b + w0)), (0, .ref (b + 4)), (1, .int v1), (2, .int v2)]) hx hb d_N_place_64 rfl hl (by decide) rfl (fun ls hl => ?_)
  refine lv_aload_n hx hb d_N_place_65 rfl (lv_at hl 0 rfl) ?_
  refine lv_iload_n hx hb d_N_place_66 rfl (lv_at hl 2 rfl) ?_
  refine lv_iload_n hx hb d_N_place_67 rfl (lv_at hl 3 rfl) ?_
  obtain ⟨hg, h⟩ := gd_s h
  refine cm_cVv [.int v1, .int v2] kx_G S hW hg (fun σ' hc => c_G_begin w0 v1 v2 σ hc) q_G_begin wd_609 wd_610 wd_608 (by decide) hl.1 rfl rfl (Nat.le_of_ble_eq_true rfl) d_N_place_68 h (fun r1 H locs cells slots h hW => ?_)
  refine lv_aload_n hx hb d_N_place_71 rfl (lv_at hl 1 rfl) ?_
  refine cm_getf kx_N S hW rfl 0 (5) rfl wd_173 (by decide) d_N_place_72 ?_
  refine lv_aload_n hx hb d_N_place_75 rfl (lv_at hl 0 rfl) ?_
  refine cm_cVi [.ref (b + w0)] kx_A S hW rfl (fun x σ' hc => c_A_add_Lo 5 w0 r1 hc) q_A_add_Lo wd_450 wd_451 wd_449 (by decide) hl.1 rfl rfl (Nat.le_of_ble_eq_true rfl) d_N_place_76 h (fun x3 r2 H locs cells slots h hW => ?_)
  refine lv_pop hx hb d_N_place_79 rfl ?_
  refine lv_aload_n hx hb d_N_place_80 rfl (lv_at hl 0 rfl) ?_
  refine cm_qof (b := b) ?_
  exact cm_qret S (by first | exact Or.inl ⟨_, rfl⟩ | exact Or.inr ⟨_, rfl⟩) hW d_N_place_81 h
theorem t_N_place_0 (S : CC p m c k_N_place 4 s args cn_N meth (Option.some (Jvm.ClassFile.FieldType.object "StreamPair$Segment")) D tc b z) (v1 : Int32) (v2 : Int32) (σ : CS) {B : Option Nat × CS} (h : m_N_place v1 v2 σ = some B) {ls : Array Slot} {H : Heap} {locs : List Loc} {cells slots : Nat} (hl : lv_has ls 4 [(0, .ref (b + 4)), (1, .int v1), (2, .int v2)]) (hW : CWS D tc b z s σ0 σ H locs cells slots) : W p l e (CR 7 171 σ0) s m args below meth c H locs cells slots (CE D tc b z below args s σ0 (some (vq b B.1)) B.2) (F0 m 0 ls []) := by
  have hx := S.1.1
  have hb := S.1.2.1
  unfold m_N_place at h
  refine lv_aload_n hx hb d_N_place_0 rfl (lv_at hl 0 rfl) ?_
  refine cm_getf kx_N S hW rfl 0 (5) rfl wd_173 (by decide) d_N_place_1 ?_
  refine cm_cVi [] kx_A S hW rfl (fun x σ' hc => c_A_size 5 σ hc) q_A_size wd_431 wd_432 wd_430 (by decide) hl.1 rfl rfl (Nat.le_of_ble_eq_true rfl) d_N_place_4 h (fun x2 r1 H locs cells slots h hW => ?_)
  refine lv_sipush (v := 512) hx hb d_N_place_7 (by decide) ?_
  refine rc_lt (tgt := 25) hx hb d_N_place_10 (by decide) h (fun h => ?_) (fun h => ?_)
  · refine lv_aload_n hx hb d_N_place_25 rfl (lv_at hl 0 rfl) ?_
    refine cm_getf kx_N S hW rfl 1 (6) rfl wd_175 (by decide) d_N_place_26 ?_
    refine cm_cVi [] kx_A S hW rfl (fun x σ' hc => c_A_isEmpty 6 r1 hc) q_A_isEmpty wd_574 wd_575 wd_573 (by decide) hl.1 rfl rfl (Nat.le_of_ble_eq_true rfl) d_N_place_29 h (fun x4 r3 H locs cells slots h hW => ?_)
    refine rb_eq (tgt := 45) hx hb d_N_place_32 (by decide) h (fun h => ?_) (fun h => ?_)
    · refine lv_aload_n hx hb d_N_place_45 rfl (lv_at hl 0 rfl) ?_
      refine cm_getf kx_N S hW rfl 1 (6) rfl wd_175 (by decide) d_N_place_46 ?_
      refine lv_aload_n hx hb d_N_place_49 rfl (lv_at hl 0 rfl) ?_
      refine cm_getf kx_N S hW rfl 1 (6) rfl wd_175 (by decide) d_N_place_50 ?_
      refine cm_cVi [] kx_A S hW rfl (fun x σ' hc => c_A_size 6 r3 hc) q_A_size wd_431 wd_432 wd_430 (by decide) hl.1 rfl rfl (Nat.le_of_ble_eq_true rfl) d_N_place_53 h (fun x6 r5 H locs cells slots h hW => ?_)
      refine lv_iconst (v := 1) hx hb d_N_place_56 (by decide) ?_
      refine lv_isub hx hb d_N_place_57 ?_
      refine cm_cVr [.int (x6 - (1 : Int32))] kx_A S hW rfl (fun x σ' hc => c_A_remove 6 (x6 - (1 : Int32)) r5 hc) q_A_remove wd_600 wd_601 wd_599 (by decide) hl.1 rfl rfl (Nat.le_of_ble_eq_true rfl) d_N_place_58 h (fun x8 r7 H locs cells slots h hW => ?_)
      refine cm_cast S hW wd_448 d_N_place_61 h (fun h => ?_)
      exact t_N_place_64 S v1 v2 x8 r7 h (lv_sub hl [0, 1, 2] rfl) hW
    · refine cm_newg S hW d_N_place_35 wd_448 wd_577 wd_102 h (fun a9 r10 H cells slots h hW => ?_)
      refine lv_dup hx hb d_N_place_38 rfl ?_
      refine cm_newI S hW rfl (fun σ' hc => c_G_init a9 r10 hc) q_G_init wd_579 (by decide) hl.1 (Nat.le_of_ble_eq_true rfl) d_N_place_39 h (fun r11 H locs cells slots h hW => ?_)
      refine lv_goto (tgt := 64) hx hb d_N_place_42 (by decide) ?_
      exact t_N_place_64 S v1 v2 a9 r11 h (lv_sub hl [0, 1, 2] rfl) hW
  · refine lv_aload_n hx hb d_N_place_13 rfl (lv_at hl 0 rfl) ?_
    refine lv_dup hx hb d_N_place_14 rfl ?_
    refine cm_geti kx_N S hW rfl 2 wd_177 (by decide) d_N_place_15 h (fun x12 h => ?_)
    refine lv_iconst (v := 1) hx hb d_N_place_18 (by decide) ?_
    refine lv_iadd hx hb d_N_place_19 ?_
    refine cm_puti kx_N S hW rfl 2 wd_177 (by decide) d_N_place_20 h (fun r13 H locs h hW => ?_)
    refine lv_null hx hb d_N_place_23 ?_
    refine cm_qnull (b := b) ?_
    exact cm_qret S (by first | exact Or.inl ⟨_, rfl⟩ | exact Or.inr ⟨_, rfl⟩) hW d_N_place_24 h
theorem c_N_place (v1 : Int32) (v2 : Int32) (σ : CS) {x : Option Nat} {σ' : CS} (h : m_N_place v1 v2 σ = some (x, σ')) : CMet l D tc b z y_N_place k_N_place 4 (Option.some (Jvm.ClassFile.FieldType.object "StreamPair$Segment")) 7 171 [.ref (b + 4), .int v1, .int v2] σ (some (vq b x)) σ' := cm_met (by decide) (Nat.le_of_ble_eq_true rfl) fun p e s m args below meth c S hW ls hl => t_N_place_0 S v1 v2 σ h hl hW
end

/-! StreamPair$Network.placeBytes (I[BI)V -/
abbrev k_N_placeBytes : ByteArray := prog_6_method_3_code
abbrev y_N_placeBytes : MethodName := ⟨cn_N, "placeBytes", "(I[BI)V"⟩
theorem q_N_placeBytes : Calee y_N_placeBytes k_N_placeBytes 5 none 3 := ⟨wd_1184, wd_81, by decide, by decide +kernel⟩
theorem d_N_placeBytes_0 : decode k_N_placeBytes 0 = .ok (.aload_n 0, 1) := by decide +kernel
theorem d_N_placeBytes_1 : decode k_N_placeBytes 1 = .ok (.iload_n 1, 1) := by decide +kernel
theorem d_N_placeBytes_2 : decode k_N_placeBytes 2 = .ok (.iload_n 3, 1) := by decide +kernel
theorem d_N_placeBytes_3 : decode k_N_placeBytes 3 = .ok (.invokevirtual 46, 3) := by decide +kernel
theorem d_N_placeBytes_6 : decode k_N_placeBytes 6 = .ok (.astore 4, 2) := by decide +kernel
theorem d_N_placeBytes_8 : decode k_N_placeBytes 8 = .ok (.aload 4, 2) := by decide +kernel
theorem d_N_placeBytes_10 : decode k_N_placeBytes 10 = .ok (.ifnull 15, 3) := by decide +kernel
theorem d_N_placeBytes_13 : decode k_N_placeBytes 13 = .ok (.aload_n 2, 1) := by decide +kernel
theorem d_N_placeBytes_14 : decode k_N_placeBytes 14 = .ok (.iconst 0, 1) := by decide +kernel
theorem d_N_placeBytes_15 : decode k_N_placeBytes 15 = .ok (.aload 4, 2) := by decide +kernel
theorem d_N_placeBytes_17 : decode k_N_placeBytes 17 = .ok (.getfield 50, 3) := by decide +kernel
theorem d_N_placeBytes_20 : decode k_N_placeBytes 20 = .ok (.iconst 0, 1) := by decide +kernel
theorem d_N_placeBytes_21 : decode k_N_placeBytes 21 = .ok (.iload_n 3, 1) := by decide +kernel
theorem d_N_placeBytes_22 : decode k_N_placeBytes 22 = .ok (.invokestatic 54, 3) := by decide +kernel
theorem d_N_placeBytes_25 : decode k_N_placeBytes 25 = .ok (.return_, 1) := by decide +kernel
def b_N_placeBytes_25 (σ : CS) : Option (CS) :=
  some σ
def m_N_placeBytes (v1 : Int32) (v2 : Nat) (v3 : Int32) (σ : CS) : Option (CS) :=
  bc2 (m_N_place v1 v3 σ) fun u2 r1 => bq u2
  (b_N_placeBytes_25  r1)
  (fun a3 => gd (kd r1 a3 = 11) <| bc (cR r1 a3 0) fun a4 => gd (kd r1 v2 = 21 ∧ kd r1 a4 = 21 ∧ ¬ (0 : Int32) < 0 ∧ ¬ (0 : Int32) < 0 ∧ ¬ v3 < 0 ∧ (0 : Int32).toNatClampNeg + v3.toNatClampNeg ≤ cN r1 v2 ∧ (0 : Int32).toNatClampNeg + v3.toNatClampNeg ≤ cN r1 a4) <| bd (wcp r1 v2 a4 (0 : Int32).toNatClampNeg (0 : Int32).toNatClampNeg v3.toNatClampNeg) fun r5 => b_N_placeBytes_25  r5)
section
variable {p : Program} {l : Launch} {e : Env} {s : State} {m : MethodId} {args : Array Value} {below : List Frame} {meth : Method} {c : Code} {D : va_G} {tc : Nat → ClassId} {b z : Nat} {σ0 : CS}
theorem t_N_placeBytes_25 (S : CC p m c k_N_placeBytes 5 s args cn_N meth none D tc b z) (σ : CS) {B : CS} (h : b_N_placeBytes_25  σ = some B) {ls : Array Slot} {H : Heap} {locs : List Loc} {cells slots : Nat} (hl : lv_has ls 5 []) (hW : CWS D tc b z s σ0 σ H locs cells slots) : W p l e (CR 8 194 σ0) s m args below meth c H locs cells slots (CE D tc b z below args s σ0 none B) (F0 m 25 ls []) := by
  have hx := S.1.1
  have hb := S.1.2.1
  unfold b_N_placeBytes_25 at h
  exact cm_vret S hW d_N_placeBytes_25 h
theorem t_N_placeBytes_0 (S : CC p m c k_N_placeBytes 5 s args cn_N meth none D tc b z) (v1 : Int32) (v2 : Nat) (v3 : Int32) (σ : CS) {B : CS} (h : m_N_placeBytes v1 v2 v3 σ = some B) {ls : Array Slot} {H : Heap} {locs : List Loc} {cells slots : Nat} (hl : lv_has ls 5 [(0, .ref (b + 4)), (1, .int v1), (2, .ref (b + v2)), (3, .int v3)]) (hW : CWS D tc b z s σ0 σ H locs cells slots) : W p l e (CR 8 194 σ0) s m args below meth c H locs cells slots (CE D tc b z below args s σ0 none B) (F0 m 0 ls []) := by
  have hx := S.1.1
  have hb := S.1.2.1
  unfold m_N_placeBytes at h
  refine lv_aload_n hx hb d_N_placeBytes_0 rfl (lv_at hl 0 rfl) ?_
  refine lv_iload_n hx hb d_N_placeBytes_1 rfl (lv_at hl 1 rfl) ?_
  refine lv_iload_n hx hb d_N_placeBytes_2 rfl (lv_at hl 3 rfl) ?_
  refine cm_cVq [.int v1, .int v3] kx_N S hW rfl (fun x σ' hc => c_N_place v1 v3 σ hc) q_N_place wd_570 wd_571 wd_1185 (by decide) hl.1 rfl rfl (Nat.le_of_ble_eq_true rfl) d_N_placeBytes_3 h (fun u2 r1 H locs cells slots h hW => ?_)
  refine cm_qcase h (fun h => ?_) (fun a3 h => ?_)
  · refine lv_astoreN (lv' := [(4, .null), (0, .ref (b + 4)), (1, .int v1), (2, .ref (b + v2)), (3, .int v3)]) hx hb d_N_placeBytes_6 hl (by decide) rfl (fun ls hl => ?_)
    refine lv_aloadN hx hb d_N_placeBytes_8 (lv_at hl 0 rfl) ?_
    refine lv_ifnullN (tgt := 25) hx hb d_N_placeBytes_10 (by decide) ?_
    exact t_N_placeBytes_25 S  r1 h (lv_sub hl [] rfl) hW
  · refine lv_astore (lv' := [(4, .ref (b + a3)), (0, .ref (b + 4)), (1, .int v1), (2, .ref (b + v2)), (3, .int v3)]) hx hb d_N_placeBytes_6 hl (by decide) rfl (fun ls hl => ?_)
    refine lv_aload hx hb d_N_placeBytes_8 (lv_at hl 0 rfl) ?_
    refine lv_ifnull hx hb d_N_placeBytes_10 ?_
    refine lv_aload_n hx hb d_N_placeBytes_13 rfl (lv_at hl 3 rfl) ?_
    refine lv_iconst (v := 0) hx hb d_N_placeBytes_14 (by decide) ?_
    refine lv_aload hx hb d_N_placeBytes_15 (lv_at hl 0 rfl) ?_
    obtain ⟨hg, h⟩ := gd_s h
    refine cm_getr kx_G S hW hg 0 wd_583 (by decide) d_N_placeBytes_17 h (fun a4 h => ?_)
    refine lv_iconst (v := 0) hx hb d_N_placeBytes_20 (by decide) ?_
    refine lv_iload_n hx hb d_N_placeBytes_21 rfl (lv_at hl 4 rfl) ?_
    refine cm_copyb S hW wd_1186 wd_510 wd_509 wd_97 hl.1 (by decide) (by decide) d_N_placeBytes_22 h (fun r5 H locs h hW => ?_)
    exact t_N_placeBytes_25 S  r5 h (lv_sub hl [] rfl) hW
theorem c_N_placeBytes (v1 : Int32) (v2 : Nat) (v3 : Int32) (σ : CS) {B : CS} (h : m_N_placeBytes v1 v2 v3 σ = some B) : CMet l D tc b z y_N_placeBytes k_N_placeBytes 5 none 8 194 [.ref (b + 4), .int v1, .ref (b + v2), .int v3] σ none B := cm_met (by decide) (Nat.le_of_ble_eq_true rfl) fun p e s m args below meth c S hW ls hl => t_N_placeBytes_0 S v1 v2 v3 σ h hl hW
end

/-! StreamPair$Network.takeOut (I)V -/
abbrev k_N_takeOut : ByteArray := prog_6_method_4_code
abbrev y_N_takeOut : MethodName := ⟨cn_N, "takeOut", "(I)V"⟩
theorem q_N_takeOut : Calee y_N_takeOut k_N_takeOut 2 none 1 := ⟨wd_967, wd_81, by decide, by decide +kernel⟩
theorem d_N_takeOut_0 : decode k_N_takeOut 0 = .ok (.iload_n 1, 1) := by decide +kernel
theorem d_N_takeOut_1 : decode k_N_takeOut 1 = .ok (.ifCond .lt 23, 3) := by decide +kernel
theorem d_N_takeOut_4 : decode k_N_takeOut 4 = .ok (.iload_n 1, 1) := by decide +kernel
theorem d_N_takeOut_5 : decode k_N_takeOut 5 = .ok (.aload_n 0, 1) := by decide +kernel
theorem d_N_takeOut_6 : decode k_N_takeOut 6 = .ok (.getfield 10, 3) := by decide +kernel
theorem d_N_takeOut_9 : decode k_N_takeOut 9 = .ok (.invokevirtual 19, 3) := by decide +kernel
theorem d_N_takeOut_12 : decode k_N_takeOut 12 = .ok (.if_icmp .ge 12, 3) := by decide +kernel
theorem d_N_takeOut_15 : decode k_N_takeOut 15 = .ok (.aload_n 0, 1) := by decide +kernel
theorem d_N_takeOut_16 : decode k_N_takeOut 16 = .ok (.getfield 10, 3) := by decide +kernel
theorem d_N_takeOut_19 : decode k_N_takeOut 19 = .ok (.iload_n 1, 1) := by decide +kernel
theorem d_N_takeOut_20 : decode k_N_takeOut 20 = .ok (.invokevirtual 34, 3) := by decide +kernel
theorem d_N_takeOut_23 : decode k_N_takeOut 23 = .ok (.pop, 1) := by decide +kernel
theorem d_N_takeOut_24 : decode k_N_takeOut 24 = .ok (.return_, 1) := by decide +kernel
def b_N_takeOut_24 (σ : CS) : Option (CS) :=
  some σ
def m_N_takeOut (v1 : Int32) (σ : CS) : Option (CS) :=
  if v1 < 0 then
  (b_N_takeOut_24  σ)
 else
  (bc2 (m_A_size 5 σ) fun x2 r1 => if x2 ≤ v1 then
  (b_N_takeOut_24  r1)
 else
  (bc2 (m_A_remove 5 v1 r1) fun x4 r3 => b_N_takeOut_24  r3))
section
variable {p : Program} {l : Launch} {e : Env} {s : State} {m : MethodId} {args : Array Value} {below : List Frame} {meth : Method} {c : Code} {D : va_G} {tc : Nat → ClassId} {b z : Nat} {σ0 : CS}
theorem t_N_takeOut_24 (S : CC p m c k_N_takeOut 2 s args cn_N meth none D tc b z) (σ : CS) {B : CS} (h : b_N_takeOut_24  σ = some B) {ls : Array Slot} {H : Heap} {locs : List Loc} {cells slots : Nat} (hl : lv_has ls 2 []) (hW : CWS D tc b z s σ0 σ H locs cells slots) : W p l e (CR 3 86 σ0) s m args below meth c H locs cells slots (CE D tc b z below args s σ0 none B) (F0 m 24 ls []) := by
  have hx := S.1.1
  have hb := S.1.2.1
  unfold b_N_takeOut_24 at h
  exact cm_vret S hW d_N_takeOut_24 h
theorem t_N_takeOut_0 (S : CC p m c k_N_takeOut 2 s args cn_N meth none D tc b z) (v1 : Int32) (σ : CS) {B : CS} (h : m_N_takeOut v1 σ = some B) {ls : Array Slot} {H : Heap} {locs : List Loc} {cells slots : Nat} (hl : lv_has ls 2 [(0, .ref (b + 4)), (1, .int v1)]) (hW : CWS D tc b z s σ0 σ H locs cells slots) : W p l e (CR 3 86 σ0) s m args below meth c H locs cells slots (CE D tc b z below args s σ0 none B) (F0 m 0 ls []) := by
  have hx := S.1.1
  have hb := S.1.2.1
  unfold m_N_takeOut at h
  refine lv_iload_n hx hb d_N_takeOut_0 rfl (lv_at hl 1 rfl) ?_
  refine rb_lt (tgt := 24) hx hb d_N_takeOut_1 (by decide) h (fun h => ?_) (fun h => ?_)
  · exact t_N_takeOut_24 S  σ h (lv_sub hl [] rfl) hW
  · refine lv_iload_n hx hb d_N_takeOut_4 rfl (lv_at hl 1 rfl) ?_
    refine lv_aload_n hx hb d_N_takeOut_5 rfl (lv_at hl 0 rfl) ?_
    refine cm_getf kx_N S hW rfl 0 (5) rfl wd_173 (by decide) d_N_takeOut_6 ?_
    refine cm_cVi [] kx_A S hW rfl (fun x σ' hc => c_A_size 5 σ hc) q_A_size wd_431 wd_432 wd_430 (by decide) hl.1 rfl rfl (Nat.le_of_ble_eq_true rfl) d_N_takeOut_9 h (fun x2 r1 H locs cells slots h hW => ?_)
    refine rc_ge (tgt := 24) hx hb d_N_takeOut_12 (by decide) h (fun h => ?_) (fun h => ?_)
    · exact t_N_takeOut_24 S  r1 h (lv_sub hl [] rfl) hW
    · refine lv_aload_n hx hb d_N_takeOut_15 rfl (lv_at hl 0 rfl) ?_
      refine cm_getf kx_N S hW rfl 0 (5) rfl wd_173 (by decide) d_N_takeOut_16 ?_
      refine lv_iload_n hx hb d_N_takeOut_19 rfl (lv_at hl 1 rfl) ?_
      refine cm_cVr [.int v1] kx_A S hW rfl (fun x σ' hc => c_A_remove 5 v1 r1 hc) q_A_remove wd_600 wd_601 wd_599 (by decide) hl.1 rfl rfl (Nat.le_of_ble_eq_true rfl) d_N_takeOut_20 h (fun x4 r3 H locs cells slots h hW => ?_)
      refine lv_pop hx hb d_N_takeOut_23 rfl ?_
      exact t_N_takeOut_24 S  r3 h (lv_sub hl [] rfl) hW
theorem c_N_takeOut (v1 : Int32) (σ : CS) {B : CS} (h : m_N_takeOut v1 σ = some B) : CMet l D tc b z y_N_takeOut k_N_takeOut 2 none 3 86 [.ref (b + 4), .int v1] σ none B := cm_met (by decide) (Nat.le_of_ble_eq_true rfl) fun p e s m args below meth c S hW ls hl => t_N_takeOut_0 S v1 σ h hl hW
end

/-! StreamPair$Network.forgetAll ()V -/
abbrev k_N_forgetAll : ByteArray := prog_6_method_5_code
abbrev y_N_forgetAll : MethodName := ⟨cn_N, "forgetAll", "()V"⟩
theorem q_N_forgetAll : Calee y_N_forgetAll k_N_forgetAll 2 none 0 := ⟨wd_429, wd_81, by decide, by decide +kernel⟩
theorem d_N_forgetAll_0 : decode k_N_forgetAll 0 = .ok (.iconst 0, 1) := by decide +kernel
theorem d_N_forgetAll_1 : decode k_N_forgetAll 1 = .ok (.istore_n 1, 1) := by decide +kernel
theorem d_N_forgetAll_2 : decode k_N_forgetAll 2 = .ok (.iload_n 1, 1) := by decide +kernel
theorem d_N_forgetAll_3 : decode k_N_forgetAll 3 = .ok (.aload_n 0, 1) := by decide +kernel
theorem d_N_forgetAll_4 : decode k_N_forgetAll 4 = .ok (.getfield 10, 3) := by decide +kernel
theorem d_N_forgetAll_7 : decode k_N_forgetAll 7 = .ok (.invokevirtual 19, 3) := by decide +kernel
theorem d_N_forgetAll_10 : decode k_N_forgetAll 10 = .ok (.if_icmp .ge 28, 3) := by decide +kernel
theorem d_N_forgetAll_13 : decode k_N_forgetAll 13 = .ok (.aload_n 0, 1) := by decide +kernel
theorem d_N_forgetAll_14 : decode k_N_forgetAll 14 = .ok (.getfield 16, 3) := by decide +kernel
theorem d_N_forgetAll_17 : decode k_N_forgetAll 17 = .ok (.aload_n 0, 1) := by decide +kernel
theorem d_N_forgetAll_18 : decode k_N_forgetAll 18 = .ok (.getfield 10, 3) := by decide +kernel
theorem d_N_forgetAll_21 : decode k_N_forgetAll 21 = .ok (.iload_n 1, 1) := by decide +kernel
theorem d_N_forgetAll_22 : decode k_N_forgetAll 22 = .ok (.invokevirtual 60, 3) := by decide +kernel
theorem d_N_forgetAll_25 : decode k_N_forgetAll 25 = .ok (.checkcast 31, 3) := by decide +kernel
theorem d_N_forgetAll_28 : decode k_N_forgetAll 28 = .ok (.invokevirtual 42, 3) := by decide +kernel
theorem d_N_forgetAll_31 : decode k_N_forgetAll 31 = .ok (.pop, 1) := by decide +kernel
theorem d_N_forgetAll_32 : decode k_N_forgetAll 32 = .ok (.iinc 1 1, 3) := by decide +kernel
theorem d_N_forgetAll_35 : decode k_N_forgetAll 35 = .ok (.goto (-33), 3) := by decide +kernel
theorem d_N_forgetAll_38 : decode k_N_forgetAll 38 = .ok (.aload_n 0, 1) := by decide +kernel
theorem d_N_forgetAll_39 : decode k_N_forgetAll 39 = .ok (.getfield 10, 3) := by decide +kernel
theorem d_N_forgetAll_42 : decode k_N_forgetAll 42 = .ok (.invokevirtual 63, 3) := by decide +kernel
theorem d_N_forgetAll_45 : decode k_N_forgetAll 45 = .ok (.return_, 1) := by decide +kernel
def F_N_forgetAll_2 (rec2 : Int32 → CS → Option (CS)) (v1 : Int32) (σ : CS) : Option (CS) :=
  bc2 (m_A_size 5 σ) fun x2 r1 => if x2 ≤ v1 then
  (bc (m_A_clear 5 r1) fun r3 => some r3)
 else
  (bc2 (m_A_get 5 v1 r1) fun x5 r4 => gd (kd r4 x5 = 11) <| bc2 (m_A_add_Lo 6 x5 r4) fun x7 r6 => bd (v1 + (1 : Int32)) fun x8 => rec2 x8 r6)
def m_N_forgetAll (σ : CS) : Option (CS) :=
  lq2 (F_N_forgetAll_2) fuel (0 : Int32) σ
def P_N_forgetAll_2 (p : Program) (l : Launch) (e : Env) (s : State) (m : MethodId) (args : Array Value) (below : List Frame) (meth : Method) (c : Code) (D : va_G) (tc : Nat → ClassId) (b z : Nat) (σ0 : CS) (v1 : Int32) (σ : CS) (B : CS) : Prop := ∀ (ls : Array Slot) (H : Heap) (locs : List Loc) (cells slots : Nat), lv_has ls 2 [(0, .ref (b + 4)), (1, .int v1)] → CWS D tc b z s σ0 σ H locs cells slots → W p l e (CR 7 171 σ0) s m args below meth c H locs cells slots (CE D tc b z below args s σ0 none B) (F0 m 2 ls [])
section
variable {p : Program} {l : Launch} {e : Env} {s : State} {m : MethodId} {args : Array Value} {below : List Frame} {meth : Method} {c : Code} {D : va_G} {tc : Nat → ClassId} {b z : Nat} {σ0 : CS}
theorem tF_N_forgetAll_2 (S : CC p m c k_N_forgetAll 2 s args cn_N meth none D tc b z) : ∀ (rec2 : Int32 → CS → Option (CS)), (∀ (v1 : Int32) (σ : CS) (B : CS), rec2 v1 σ = some B → P_N_forgetAll_2 p l e s m args below meth c D tc b z σ0 v1 σ B) → ∀ (v1 : Int32) (σ : CS) (B : CS), F_N_forgetAll_2 rec2 v1 σ = some B → P_N_forgetAll_2 p l e s m args below meth c D tc b z σ0 v1 σ B := by
  intro rec2 hrec2 v1 σ B h ls H locs cells slots hl hW
  have hx := S.1.1
  have hb := S.1.2.1
  unfold F_N_forgetAll_2 at h
  refine lv_iload_n hx hb d_N_forgetAll_2 rfl (lv_at hl 1 rfl) ?_
  refine lv_aload_n hx hb d_N_forgetAll_3 rfl (lv_at hl 0 rfl) ?_
  refine cm_getf kx_N S hW rfl 0 (5) rfl wd_173 (by decide) d_N_forgetAll_4 ?_
  refine cm_cVi [] kx_A S hW rfl (fun x σ' hc => c_A_size 5 σ hc) q_A_size wd_431 wd_432 wd_430 (by decide) hl.1 rfl rfl (Nat.le_of_ble_eq_true rfl) d_N_forgetAll_7 h (fun x2 r1 H locs cells slots h hW => ?_)
  refine rc_ge (tgt := 38) hx hb d_N_forgetAll_10 (by decide) h (fun h => ?_) (fun h => ?_)
  · refine lv_aload_n hx hb d_N_forgetAll_38 rfl (lv_at hl 0 rfl) ?_
    refine cm_getf kx_N S hW rfl 0 (5) rfl wd_173 (by decide) d_N_forgetAll_39 ?_
    refine cm_cVv [] kx_A S hW rfl (fun σ' hc => c_A_clear 5 r1 hc) q_A_clear wd_514 wd_515 wd_513 (by decide) hl.1 rfl rfl (Nat.le_of_ble_eq_true rfl) d_N_forgetAll_42 h (fun r3 H locs cells slots h hW => ?_)
    exact cm_vret S hW d_N_forgetAll_45 h
  · refine lv_aload_n hx hb d_N_forgetAll_13 rfl (lv_at hl 0 rfl) ?_
    refine cm_getf kx_N S hW rfl 1 (6) rfl wd_175 (by decide) d_N_forgetAll_14 ?_
    refine lv_aload_n hx hb d_N_forgetAll_17 rfl (lv_at hl 0 rfl) ?_
    refine cm_getf kx_N S hW rfl 0 (5) rfl wd_173 (by decide) d_N_forgetAll_18 ?_
    refine lv_iload_n hx hb d_N_forgetAll_21 rfl (lv_at hl 1 rfl) ?_
    refine cm_cVr [.int v1] kx_A S hW rfl (fun x σ' hc => c_A_get 5 v1 r1 hc) q_A_get wd_435 wd_436 wd_434 (by decide) hl.1 rfl rfl (Nat.le_of_ble_eq_true rfl) d_N_forgetAll_22 h (fun x5 r4 H locs cells slots h hW => ?_)
    refine cm_cast S hW wd_448 d_N_forgetAll_25 h (fun h => ?_)
    refine cm_cVi [.ref (b + x5)] kx_A S hW rfl (fun x σ' hc => c_A_add_Lo 6 x5 r4 hc) q_A_add_Lo wd_450 wd_451 wd_449 (by decide) hl.1 rfl rfl (Nat.le_of_ble_eq_true rfl) d_N_forgetAll_28 h (fun x7 r6 H locs cells slots h hW => ?_)
    refine lv_pop hx hb d_N_forgetAll_31 rfl ?_
    refine rv_iinc (k := 1) (v := 1) (lv' := fun x8 => [(1, .int x8), (0, .ref (b + 4))]) hx hb d_N_forgetAll_32 hl rfl (by decide) (by decide) (fun _ => rfl) h (fun x8 ls h hl => ?_)
    refine lv_goto (tgt := 2) hx hb d_N_forgetAll_35 (by decide) ?_
    exact hrec2 x8 r6 _ h _ _ _ _ _ (lv_sub hl [1, 0] rfl) hW
theorem t_N_forgetAll_2 (S : CC p m c k_N_forgetAll 2 s args cn_N meth none D tc b z) : ∀ (n : Nat) (v1 : Int32) (σ : CS) (B : CS), lq2 (F_N_forgetAll_2) n v1 σ = some B → P_N_forgetAll_2 p l e s m args below meth c D tc b z σ0 v1 σ B := lq2_s (tF_N_forgetAll_2 S)
theorem t_N_forgetAll_0 (S : CC p m c k_N_forgetAll 2 s args cn_N meth none D tc b z) (σ : CS) {B : CS} (h : m_N_forgetAll  σ = some B) {ls : Array Slot} {H : Heap} {locs : List Loc} {cells slots : Nat} (hl : lv_has ls 2 [(0, .ref (b + 4))]) (hW : CWS D tc b z s σ0 σ H locs cells slots) : W p l e (CR 7 171 σ0) s m args below meth c H locs cells slots (CE D tc b z below args s σ0 none B) (F0 m 0 ls []) := by
  have hx := S.1.1
  have hb := S.1.2.1
  unfold m_N_forgetAll at h
  refine lv_iconst (v := 0) hx hb d_N_forgetAll_0 (by decide) ?_
  refine lv_istore_n (lv' := [(1, .int (0 : Int32)), (0, .ref (b + 4))]) hx hb d_N_forgetAll_1 rfl hl (by decide) rfl (fun ls hl => ?_)
  exact t_N_forgetAll_2 S fuel (0 : Int32) σ _ h _ _ _ _ _ (lv_sub hl [1, 0] rfl) hW
theorem c_N_forgetAll (σ : CS) {B : CS} (h : m_N_forgetAll  σ = some B) : CMet l D tc b z y_N_forgetAll k_N_forgetAll 2 none 7 171 [.ref (b + 4)] σ none B := cm_met (by decide) (Nat.le_of_ble_eq_true rfl) fun p e s m args below meth c S hW ls hl => t_N_forgetAll_0 S  σ h hl hW
end
