/-! StreamPair$End.takeIn (LStreamPair$Segment;)V -/
abbrev k_E_takeIn : ByteArray := prog_5_method_32_code
abbrev y_E_takeIn : MethodName := ⟨cn_E, "takeIn", "(LStreamPair$Segment;)V"⟩
theorem q_E_takeIn : Calee y_E_takeIn k_E_takeIn 3 none 1 := ⟨wd_1144, wd_85, by decide, by decide +kernel⟩
theorem d_E_takeIn_0 : decode k_E_takeIn 0 = .ok (.aload_n 1, 1) := by decide +kernel
theorem d_E_takeIn_1 : decode k_E_takeIn 1 = .ok (.invokevirtual 325, 3) := by decide +kernel
theorem d_E_takeIn_4 : decode k_E_takeIn 4 = .ok (.istore_n 2, 1) := by decide +kernel
theorem d_E_takeIn_5 : decode k_E_takeIn 5 = .ok (.iload_n 2, 1) := by decide +kernel
theorem d_E_takeIn_6 : decode k_E_takeIn 6 = .ok (.ifCond .le 11, 3) := by decide +kernel
theorem d_E_takeIn_9 : decode k_E_takeIn 9 = .ok (.aload_n 0, 1) := by decide +kernel
theorem d_E_takeIn_10 : decode k_E_takeIn 10 = .ok (.getfield 21, 3) := by decide +kernel
theorem d_E_takeIn_13 : decode k_E_takeIn 13 = .ok (.aload_n 1, 1) := by decide +kernel
theorem d_E_takeIn_14 : decode k_E_takeIn 14 = .ok (.invokevirtual 328, 3) := by decide +kernel
theorem d_E_takeIn_17 : decode k_E_takeIn 17 = .ok (.aload_n 1, 1) := by decide +kernel
theorem d_E_takeIn_18 : decode k_E_takeIn 18 = .ok (.iconst 1, 1) := by decide +kernel
theorem d_E_takeIn_19 : decode k_E_takeIn 19 = .ok (.invokevirtual 244, 3) := by decide +kernel
theorem d_E_takeIn_22 : decode k_E_takeIn 22 = .ok (.ifCond .eq 19, 3) := by decide +kernel
theorem d_E_takeIn_25 : decode k_E_takeIn 25 = .ok (.aload_n 1, 1) := by decide +kernel
theorem d_E_takeIn_26 : decode k_E_takeIn 26 = .ok (.invokevirtual 251, 3) := by decide +kernel
theorem d_E_takeIn_29 : decode k_E_takeIn 29 = .ok (.iload_n 2, 1) := by decide +kernel
theorem d_E_takeIn_30 : decode k_E_takeIn 30 = .ok (.iadd, 1) := by decide +kernel
theorem d_E_takeIn_31 : decode k_E_takeIn 31 = .ok (.aload_n 0, 1) := by decide +kernel
theorem d_E_takeIn_32 : decode k_E_takeIn 32 = .ok (.getfield 21, 3) := by decide +kernel
theorem d_E_takeIn_35 : decode k_E_takeIn 35 = .ok (.getfield 153, 3) := by decide +kernel
theorem d_E_takeIn_38 : decode k_E_takeIn 38 = .ok (.if_icmp .eq 4, 3) := by decide +kernel
theorem d_E_takeIn_41 : decode k_E_takeIn 41 = .ok (.return_, 1) := by decide +kernel
theorem d_E_takeIn_42 : decode k_E_takeIn 42 = .ok (.aload_n 0, 1) := by decide +kernel
theorem d_E_takeIn_43 : decode k_E_takeIn 43 = .ok (.getfield 21, 3) := by decide +kernel
theorem d_E_takeIn_46 : decode k_E_takeIn 46 = .ok (.invokevirtual 331, 3) := by decide +kernel
theorem d_E_takeIn_49 : decode k_E_takeIn 49 = .ok (.aload_n 0, 1) := by decide +kernel
theorem d_E_takeIn_50 : decode k_E_takeIn 50 = .ok (.getfield 54, 3) := by decide +kernel
theorem d_E_takeIn_53 : decode k_E_takeIn 53 = .ok (.iconst 4, 1) := by decide +kernel
theorem d_E_takeIn_54 : decode k_E_takeIn 54 = .ok (.if_icmp .ne 12, 3) := by decide +kernel
theorem d_E_takeIn_57 : decode k_E_takeIn 57 = .ok (.aload_n 0, 1) := by decide +kernel
theorem d_E_takeIn_58 : decode k_E_takeIn 58 = .ok (.bipush 7, 2) := by decide +kernel
theorem d_E_takeIn_60 : decode k_E_takeIn 60 = .ok (.putfield 54, 3) := by decide +kernel
theorem d_E_takeIn_63 : decode k_E_takeIn 63 = .ok (.goto 26, 3) := by decide +kernel
theorem d_E_takeIn_66 : decode k_E_takeIn 66 = .ok (.aload_n 0, 1) := by decide +kernel
theorem d_E_takeIn_67 : decode k_E_takeIn 67 = .ok (.getfield 54, 3) := by decide +kernel
theorem d_E_takeIn_70 : decode k_E_takeIn 70 = .ok (.iconst 5, 1) := by decide +kernel
theorem d_E_takeIn_71 : decode k_E_takeIn 71 = .ok (.if_icmp .ne 12, 3) := by decide +kernel
theorem d_E_takeIn_74 : decode k_E_takeIn 74 = .ok (.aload_n 0, 1) := by decide +kernel
theorem d_E_takeIn_75 : decode k_E_takeIn 75 = .ok (.bipush 8, 2) := by decide +kernel
theorem d_E_takeIn_77 : decode k_E_takeIn 77 = .ok (.putfield 54, 3) := by decide +kernel
theorem d_E_takeIn_80 : decode k_E_takeIn 80 = .ok (.goto 9, 3) := by decide +kernel
theorem d_E_takeIn_83 : decode k_E_takeIn 83 = .ok (.aload_n 0, 1) := by decide +kernel
theorem d_E_takeIn_84 : decode k_E_takeIn 84 = .ok (.bipush 10, 2) := by decide +kernel
theorem d_E_takeIn_86 : decode k_E_takeIn 86 = .ok (.putfield 54, 3) := by decide +kernel
theorem d_E_takeIn_89 : decode k_E_takeIn 89 = .ok (.return_, 1) := by decide +kernel
def b_E_takeIn_89 (q : Nat) (σ : CS) : Option (CS) :=
  some σ
def b_E_takeIn_41 (q : Nat) (σ : CS) : Option (CS) :=
  some σ
def b_E_takeIn_17 (q : Nat) (v1 : Nat) (v2 : Int32) (σ : CS) : Option (CS) :=
  gd (kd σ v1 = 11) <| bc2 (m_G_has v1 (1 : Int32) σ) fun x2 r1 => if x2 = 0 then
  (b_E_takeIn_41 q  r1)
 else
  (gd (kd r1 v1 = 11) <| bc2 (m_G_seq v1 r1) fun x4 r3 => bd (cI r3 (q + 3) 1) fun x5 => if (x4 + v2) = x5 then
  (bc (m_V_takeFin (q + 3) r3) fun r6 => bd (cI r6 q 8) fun x7 => if x7 = (4 : Int32) then
  (bd (wi r6 q 8 (7 : Int32)) fun r11 => b_E_takeIn_89 q  r11)
 else
  (bd (cI r6 q 8) fun x8 => if x8 = (5 : Int32) then
  (bd (wi r6 q 8 (8 : Int32)) fun r10 => b_E_takeIn_89 q  r10)
 else
  (bd (wi r6 q 8 (10 : Int32)) fun r9 => b_E_takeIn_89 q  r9)))
 else
  (b_E_takeIn_41 q  r3))
def m_E_takeIn (q : Nat) (v1 : Nat) (σ : CS) : Option (CS) :=
  gd (q = 7 ∨ q = 14) <| gd (kd σ v1 = 11) <| bc2 (m_G_dataLength v1 σ) fun x2 r1 => if x2 ≤ 0 then
  (b_E_takeIn_17 q v1 x2 r1)
 else
  (bc (m_V_keep (q + 3) v1 r1) fun r3 => b_E_takeIn_17 q v1 x2 r3)
section
variable {p : Program} {l : Launch} {e : Env} {s : State} {m : MethodId} {args : Array Value} {below : List Frame} {meth : Method} {c : Code} {D : va_G} {tc : Nat → ClassId} {b z : Nat} {σ0 : CS}
theorem t_E_takeIn_89 {q : Nat} (S : CC p m c k_E_takeIn 3 s args cn_E meth none D tc b z) (hq : q = 7 ∨ q = 14) (σ : CS) {B : CS} (h : b_E_takeIn_89 q  σ = some B) {ls : Array Slot} {H : Heap} {locs : List Loc} {cells slots : Nat} (hl : lv_has ls 3 []) (hW : CWS D tc b z s σ0 σ H locs cells slots) : W p l e (CR 3 70 σ0) s m args below meth c H locs cells slots (CE D tc b z below args s σ0 none B) (F0 m 89 ls []) := by
  have hx := S.1.1
  have hb := S.1.2.1
  unfold b_E_takeIn_89 at h
  exact cm_vret S hW d_E_takeIn_89 h
theorem t_E_takeIn_41 {q : Nat} (S : CC p m c k_E_takeIn 3 s args cn_E meth none D tc b z) (hq : q = 7 ∨ q = 14) (σ : CS) {B : CS} (h : b_E_takeIn_41 q  σ = some B) {ls : Array Slot} {H : Heap} {locs : List Loc} {cells slots : Nat} (hl : lv_has ls 3 []) (hW : CWS D tc b z s σ0 σ H locs cells slots) : W p l e (CR 3 70 σ0) s m args below meth c H locs cells slots (CE D tc b z below args s σ0 none B) (F0 m 41 ls []) := by
  have hx := S.1.1
  have hb := S.1.2.1
  unfold b_E_takeIn_41 at h
  exact cm_vret S hW d_E_takeIn_41 h
theorem t_E_takeIn_17 {q : Nat} (S : CC p m c k_E_takeIn 3 s args cn_E meth none D tc b z) (hq : q = 7 ∨ q = 14) (v1 : Nat) (v2 : Int32) (σ : CS) {B : CS} (h : b_E_takeIn_17 q v1 v2 σ = some B) {ls : Array Slot} {H : Heap} {locs : List Loc} {cells slots : Nat} (hl : lv_has ls 3 [(0, .ref (b + q)), (1, .ref (b + v1)), (2, .int v2)]) (hW : CWS D tc b z s σ0 σ H locs cells slots) : W p l e (CR 3 70 σ0) s m args below meth c H locs cells slots (CE D tc b z below args s σ0 none B) (F0 m 17 ls []) := by
  have hx := S.1.1
  have hb := S.1.2.1
  unfold b_E_takeIn_17 at h
  refine lv_aload_n hx hb d_E_takeIn_17 rfl (lv_at hl 1 rfl) ?_
  refine lv_iconst (v := 1) hx hb d_E_takeIn_18 (by decide) ?_
  obtain ⟨hg, h⟩ := gd_s h
  refine cm_cVi [.int (1 : Int32)] kx_G S hW hg (fun x σ' hc => c_G_has v1 (1 : Int32) σ hc) q_G_has wd_994 wd_995 wd_993 (by decide) hl.1 rfl rfl (Nat.le_of_ble_eq_true rfl) d_E_takeIn_19 h (fun x2 r1 H locs cells slots h hW => ?_)
  refine rb_eq (tgt := 41) hx hb d_E_takeIn_22 (by decide) h (fun h => ?_) (fun h => ?_)
  · exact t_E_takeIn_41 S hq  r1 h (lv_sub hl [] rfl) hW
  · refine lv_aload_n hx hb d_E_takeIn_25 rfl (lv_at hl 1 rfl) ?_
    obtain ⟨hg, h⟩ := gd_s h
    refine cm_cVi [] kx_G S hW hg (fun x σ' hc => c_G_seq v1 r1 hc) q_G_seq wd_1002 wd_1003 wd_1001 (by decide) hl.1 rfl rfl (Nat.le_of_ble_eq_true rfl) d_E_takeIn_26 h (fun x4 r3 H locs cells slots h hW => ?_)
    refine lv_iload_n hx hb d_E_takeIn_29 rfl (lv_at hl 2 rfl) ?_
    refine lv_iadd hx hb d_E_takeIn_30 ?_
    refine lv_aload_n hx hb d_E_takeIn_31 rfl (lv_at hl 0 rfl) ?_
    refine cm_getf kx_E S hW (kE hq) 4 (q + 3) rfl wd_355 (by decide) d_E_takeIn_32 ?_
    refine cm_geti kx_V S hW (kEV hq) 1 wd_254 (by decide) d_E_takeIn_35 h (fun x5 h => ?_)
    refine rc_eq (tgt := 42) hx hb d_E_takeIn_38 (by decide) h (fun h => ?_) (fun h => ?_)
    · refine lv_aload_n hx hb d_E_takeIn_42 rfl (lv_at hl 0 rfl) ?_
      refine cm_getf kx_E S hW (kE hq) 4 (q + 3) rfl wd_355 (by decide) d_E_takeIn_43 ?_
      refine cm_cVv [] kx_V S hW (kEV hq) (fun σ' hc => c_V_takeFin (q + 3) r3 hc) q_V_takeFin wd_1158 wd_1159 wd_1157 (by decide) hl.1 rfl rfl (Nat.le_of_ble_eq_true rfl) d_E_takeIn_46 h (fun r6 H locs cells slots h hW => ?_)
      refine lv_aload_n hx hb d_E_takeIn_49 rfl (lv_at hl 0 rfl) ?_
      refine cm_geti kx_E S hW (kE hq) 8 wd_362 (by decide) d_E_takeIn_50 h (fun x7 h => ?_)
      refine lv_iconst (v := 4) hx hb d_E_takeIn_53 (by decide) ?_
      refine rc_ne (tgt := 66) hx hb d_E_takeIn_54 (by decide) h (fun h => ?_) (fun h => ?_)
      · refine lv_aload_n hx hb d_E_takeIn_66 rfl (lv_at hl 0 rfl) ?_
        refine cm_geti kx_E S hW (kE hq) 8 wd_362 (by decide) d_E_takeIn_67 h (fun x8 h => ?_)
        refine lv_iconst (v := 5) hx hb d_E_takeIn_70 (by decide) ?_
        refine rc_ne (tgt := 83) hx hb d_E_takeIn_71 (by decide) h (fun h => ?_) (fun h => ?_)
        · refine lv_aload_n hx hb d_E_takeIn_83 rfl (lv_at hl 0 rfl) ?_
          refine lv_bipush (v := 10) hx hb d_E_takeIn_84 (by decide) ?_
          refine cm_puti kx_E S hW (kE hq) 8 wd_362 (by decide) d_E_takeIn_86 h (fun r9 H locs h hW => ?_)
          exact t_E_takeIn_89 S hq  r9 h (lv_sub hl [] rfl) hW
        · refine lv_aload_n hx hb d_E_takeIn_74 rfl (lv_at hl 0 rfl) ?_
          refine lv_bipush (v := 8) hx hb d_E_takeIn_75 (by decide) ?_
          refine cm_puti kx_E S hW (kE hq) 8 wd_362 (by decide) d_E_takeIn_77 h (fun r10 H locs h hW => ?_)
          refine lv_goto (tgt := 89) hx hb d_E_takeIn_80 (by decide) ?_
          exact t_E_takeIn_89 S hq  r10 h (lv_sub hl [] rfl) hW
      · refine lv_aload_n hx hb d_E_takeIn_57 rfl (lv_at hl 0 rfl) ?_
        refine lv_bipush (v := 7) hx hb d_E_takeIn_58 (by decide) ?_
        refine cm_puti kx_E S hW (kE hq) 8 wd_362 (by decide) d_E_takeIn_60 h (fun r11 H locs h hW => ?_)
        refine lv_goto (tgt := 89) hx hb d_E_takeIn_63 (by decide) ?_
        exact t_E_takeIn_89 S hq  r11 h (lv_sub hl [] rfl) hW
    · exact t_E_takeIn_41 S hq  r3 h (lv_sub hl [] rfl) hW
theorem t_E_takeIn_0 (S : CC p m c k_E_takeIn 3 s args cn_E meth none D tc b z) (q : Nat) (v1 : Nat) (σ : CS) {B : CS} (h : m_E_takeIn q v1 σ = some B) {ls : Array Slot} {H : Heap} {locs : List Loc} {cells slots : Nat} (hl : lv_has ls 3 [(0, .ref (b + q)), (1, .ref (b + v1))]) (hW : CWS D tc b z s σ0 σ H locs cells slots) : W p l e (CR 3 70 σ0) s m args below meth c H locs cells slots (CE D tc b z below args s σ0 none B) (F0 m 0 ls []) := by
  have hx := S.1.1
  have hb := S.1.2.1
  unfold m_E_takeIn at h
  obtain ⟨hq, h⟩ := gd_s h
  refine lv_aload_n hx hb d_E_takeIn_0 rfl (lv_at hl 1 rfl) ?_
  obtain ⟨hg, h⟩ := gd_s h
  refine cm_cVi [] kx_G S hW hg (fun x σ' hc => c_G_dataLength v1 σ hc) q_G_dataLength wd_1079 wd_1080 wd_1145 (by decide) hl.1 rfl rfl (Nat.le_of_ble_eq_true rfl) d_E_takeIn_1 h (fun x2 r1 H locs cells slots h hW => ?_)
  refine lv_istore_n (lv' := [(2, .int x2), (0, .ref (b + q)), (1, .ref (b + v1))]) hx hb d_E_takeIn_4 rfl hl (by decide) rfl (fun ls hl => ?_)
  refine lv_iload_n hx hb d_E_takeIn_5 rfl (lv_at hl 0 rfl) ?_
  refine rb_le (tgt := 17) hx hb d_E_takeIn_6 (by decide) h (fun h => ?_) (fun h => ?_)
  · exact t_E_takeIn_17 S hq v1 x2 r1 h (lv_sub hl [1, 2, 0] rfl) hW
  · refine lv_aload_n hx hb d_E_takeIn_9 rfl (lv_at hl 1 rfl) ?_
    refine cm_getf kx_E S hW (kE hq) 4 (q + 3) rfl wd_355 (by decide) d_E_takeIn_10 ?_
    refine lv_aload_n hx hb d_E_takeIn_13 rfl (lv_at hl 2 rfl) ?_
    refine cm_cVv [.ref (b + v1)] kx_V S hW (kEV hq) (fun σ' hc => c_V_keep (q + 3) v1 r1 hc) q_V_keep wd_1147 wd_1148 wd_1146 (by decide) hl.1 rfl rfl (Nat.le_of_ble_eq_true rfl) d_E_takeIn_14 h (fun r3 H locs cells slots h hW => ?_)
    exact t_E_takeIn_17 S hq v1 x2 r3 h (lv_sub hl [1, 2, 0] rfl) hW
theorem c_E_takeIn (q : Nat) (v1 : Nat) (σ : CS) {B : CS} (h : m_E_takeIn q v1 σ = some B) : CMet l D tc b z y_E_takeIn k_E_takeIn 3 none 3 70 [.ref (b + q), .ref (b + v1)] σ none B := cm_met (by decide) (Nat.le_of_ble_eq_true rfl) fun p e s m args below meth c S hW ls hl => t_E_takeIn_0 S q v1 σ h hl hW
end

/-! StreamPair$End.heedInOthers (LStreamPair$Segment;)I -/
abbrev k_E_heedInOthers : ByteArray := prog_5_method_26_code
abbrev y_E_heedInOthers : MethodName := ⟨cn_E, "heedInOthers", "(LStreamPair$Segment;)I"⟩
theorem q_E_heedInOthers : Calee y_E_heedInOthers k_E_heedInOthers 4 (Option.some Jvm.ClassFile.FieldType.int) 1 := ⟨wd_1069, wd_85, by decide, by decide +kernel⟩
theorem d_E_heedInOthers_0 : decode k_E_heedInOthers 0 = .ok (.aload_n 0, 1) := by decide +kernel
theorem d_E_heedInOthers_1 : decode k_E_heedInOthers 1 = .ok (.aload_n 1, 1) := by decide +kernel
theorem d_E_heedInOthers_2 : decode k_E_heedInOthers 2 = .ok (.invokevirtual 284, 3) := by decide +kernel
theorem d_E_heedInOthers_5 : decode k_E_heedInOthers 5 = .ok (.istore_n 2, 1) := by decide +kernel
theorem d_E_heedInOthers_6 : decode k_E_heedInOthers 6 = .ok (.iload_n 2, 1) := by decide +kernel
theorem d_E_heedInOthers_7 : decode k_E_heedInOthers 7 = .ok (.bipush 6, 2) := by decide +kernel
theorem d_E_heedInOthers_9 : decode k_E_heedInOthers 9 = .ok (.if_icmp .eq 5, 3) := by decide +kernel
theorem d_E_heedInOthers_12 : decode k_E_heedInOthers 12 = .ok (.iload_n 2, 1) := by decide +kernel
theorem d_E_heedInOthers_13 : decode k_E_heedInOthers 13 = .ok (.ireturn, 1) := by decide +kernel
theorem d_E_heedInOthers_14 : decode k_E_heedInOthers 14 = .ok (.aload_n 1, 1) := by decide +kernel
theorem d_E_heedInOthers_15 : decode k_E_heedInOthers 15 = .ok (.invokevirtual 248, 3) := by decide +kernel
theorem d_E_heedInOthers_18 : decode k_E_heedInOthers 18 = .ok (.istore_n 3, 1) := by decide +kernel
theorem d_E_heedInOthers_19 : decode k_E_heedInOthers 19 = .ok (.iload_n 3, 1) := by decide +kernel
theorem d_E_heedInOthers_20 : decode k_E_heedInOthers 20 = .ok (.aload_n 0, 1) := by decide +kernel
theorem d_E_heedInOthers_21 : decode k_E_heedInOthers 21 = .ok (.getfield 12, 3) := by decide +kernel
theorem d_E_heedInOthers_24 : decode k_E_heedInOthers 24 = .ok (.getfield 134, 3) := by decide +kernel
theorem d_E_heedInOthers_27 : decode k_E_heedInOthers 27 = .ok (.isub, 1) := by decide +kernel
theorem d_E_heedInOthers_28 : decode k_E_heedInOthers 28 = .ok (.ifCond .le 5, 3) := by decide +kernel
theorem d_E_heedInOthers_31 : decode k_E_heedInOthers 31 = .ok (.iconst 2, 1) := by decide +kernel
theorem d_E_heedInOthers_32 : decode k_E_heedInOthers 32 = .ok (.ireturn, 1) := by decide +kernel
theorem d_E_heedInOthers_33 : decode k_E_heedInOthers 33 = .ok (.iload_n 3, 1) := by decide +kernel
theorem d_E_heedInOthers_34 : decode k_E_heedInOthers 34 = .ok (.aload_n 0, 1) := by decide +kernel
theorem d_E_heedInOthers_35 : decode k_E_heedInOthers 35 = .ok (.getfield 12, 3) := by decide +kernel
theorem d_E_heedInOthers_38 : decode k_E_heedInOthers 38 = .ok (.getfield 214, 3) := by decide +kernel
theorem d_E_heedInOthers_41 : decode k_E_heedInOthers 41 = .ok (.isub, 1) := by decide +kernel
theorem d_E_heedInOthers_42 : decode k_E_heedInOthers 42 = .ok (.ifCond .le 11, 3) := by decide +kernel
theorem d_E_heedInOthers_45 : decode k_E_heedInOthers 45 = .ok (.aload_n 0, 1) := by decide +kernel
theorem d_E_heedInOthers_46 : decode k_E_heedInOthers 46 = .ok (.iload_n 3, 1) := by decide +kernel
theorem d_E_heedInOthers_47 : decode k_E_heedInOthers 47 = .ok (.invokevirtual 287, 3) := by decide +kernel
theorem d_E_heedInOthers_50 : decode k_E_heedInOthers 50 = .ok (.goto 15, 3) := by decide +kernel
theorem d_E_heedInOthers_53 : decode k_E_heedInOthers 53 = .ok (.aload_n 0, 1) := by decide +kernel
theorem d_E_heedInOthers_54 : decode k_E_heedInOthers 54 = .ok (.aload_n 1, 1) := by decide +kernel
theorem d_E_heedInOthers_55 : decode k_E_heedInOthers 55 = .ok (.invokevirtual 290, 3) := by decide +kernel
theorem d_E_heedInOthers_58 : decode k_E_heedInOthers 58 = .ok (.ifCond .eq 7, 3) := by decide +kernel
theorem d_E_heedInOthers_61 : decode k_E_heedInOthers 61 = .ok (.aload_n 0, 1) := by decide +kernel
theorem d_E_heedInOthers_62 : decode k_E_heedInOthers 62 = .ok (.invokevirtual 293, 3) := by decide +kernel
theorem d_E_heedInOthers_65 : decode k_E_heedInOthers 65 = .ok (.aload_n 0, 1) := by decide +kernel
theorem d_E_heedInOthers_66 : decode k_E_heedInOthers 66 = .ok (.aload_n 1, 1) := by decide +kernel
theorem d_E_heedInOthers_67 : decode k_E_heedInOthers 67 = .ok (.invokevirtual 296, 3) := by decide +kernel
theorem d_E_heedInOthers_70 : decode k_E_heedInOthers 70 = .ok (.aload_n 0, 1) := by decide +kernel
theorem d_E_heedInOthers_71 : decode k_E_heedInOthers 71 = .ok (.getfield 12, 3) := by decide +kernel
theorem d_E_heedInOthers_74 : decode k_E_heedInOthers 74 = .ok (.invokevirtual 297, 3) := by decide +kernel
theorem d_E_heedInOthers_77 : decode k_E_heedInOthers 77 = .ok (.ifCond .eq 7, 3) := by decide +kernel
theorem d_E_heedInOthers_80 : decode k_E_heedInOthers 80 = .ok (.aload_n 0, 1) := by decide +kernel
theorem d_E_heedInOthers_81 : decode k_E_heedInOthers 81 = .ok (.invokevirtual 300, 3) := by decide +kernel
theorem d_E_heedInOthers_84 : decode k_E_heedInOthers 84 = .ok (.aload_n 0, 1) := by decide +kernel
theorem d_E_heedInOthers_85 : decode k_E_heedInOthers 85 = .ok (.getfield 54, 3) := by decide +kernel
theorem d_E_heedInOthers_88 : decode k_E_heedInOthers 88 = .ok (.ifCond .ne 5, 3) := by decide +kernel
theorem d_E_heedInOthers_91 : decode k_E_heedInOthers 91 = .ok (.iconst 0, 1) := by decide +kernel
theorem d_E_heedInOthers_92 : decode k_E_heedInOthers 92 = .ok (.ireturn, 1) := by decide +kernel
theorem d_E_heedInOthers_93 : decode k_E_heedInOthers 93 = .ok (.aload_n 0, 1) := by decide +kernel
theorem d_E_heedInOthers_94 : decode k_E_heedInOthers 94 = .ok (.invokevirtual 105, 3) := by decide +kernel
theorem d_E_heedInOthers_97 : decode k_E_heedInOthers 97 = .ok (.ifCond .eq 8, 3) := by decide +kernel
theorem d_E_heedInOthers_100 : decode k_E_heedInOthers 100 = .ok (.aload_n 0, 1) := by decide +kernel
theorem d_E_heedInOthers_101 : decode k_E_heedInOthers 101 = .ok (.aload_n 1, 1) := by decide +kernel
theorem d_E_heedInOthers_102 : decode k_E_heedInOthers 102 = .ok (.invokevirtual 303, 3) := by decide +kernel
theorem d_E_heedInOthers_105 : decode k_E_heedInOthers 105 = .ok (.aload_n 0, 1) := by decide +kernel
theorem d_E_heedInOthers_106 : decode k_E_heedInOthers 106 = .ok (.getfield 54, 3) := by decide +kernel
theorem d_E_heedInOthers_109 : decode k_E_heedInOthers 109 = .ok (.bipush 10, 2) := by decide +kernel
theorem d_E_heedInOthers_111 : decode k_E_heedInOthers 111 = .ok (.if_icmp .ne 20, 3) := by decide +kernel
theorem d_E_heedInOthers_114 : decode k_E_heedInOthers 114 = .ok (.aload_n 0, 1) := by decide +kernel
theorem d_E_heedInOthers_115 : decode k_E_heedInOthers 115 = .ok (.getfield 28, 3) := by decide +kernel
theorem d_E_heedInOthers_118 : decode k_E_heedInOthers 118 = .ok (.aload_n 0, 1) := by decide +kernel
theorem d_E_heedInOthers_119 : decode k_E_heedInOthers 119 = .ok (.getfield 46, 3) := by decide +kernel
theorem d_E_heedInOthers_122 : decode k_E_heedInOthers 122 = .ok (.getfield 121, 3) := by decide +kernel
theorem d_E_heedInOthers_125 : decode k_E_heedInOthers 125 = .ok (.sipush 4000, 3) := by decide +kernel
theorem d_E_heedInOthers_128 : decode k_E_heedInOthers 128 = .ok (.invokevirtual 130, 3) := by decide +kernel
theorem d_E_heedInOthers_131 : decode k_E_heedInOthers 131 = .ok (.aload_n 1, 1) := by decide +kernel
theorem d_E_heedInOthers_132 : decode k_E_heedInOthers 132 = .ok (.invokevirtual 254, 3) := by decide +kernel
theorem d_E_heedInOthers_135 : decode k_E_heedInOthers 135 = .ok (.ifCond .le 7, 3) := by decide +kernel
theorem d_E_heedInOthers_138 : decode k_E_heedInOthers 138 = .ok (.iconst 5, 1) := by decide +kernel
theorem d_E_heedInOthers_139 : decode k_E_heedInOthers 139 = .ok (.goto 4, 3) := by decide +kernel
theorem d_E_heedInOthers_142 : decode k_E_heedInOthers 142 = .ok (.iconst 4, 1) := by decide +kernel
theorem d_E_heedInOthers_143 : decode k_E_heedInOthers 143 = .ok (.ireturn, 1) := by decide +kernel
def b_E_heedInOthers_143 (q : Nat) (w0 : Int32) (σ : CS) : Option (Int32 × CS) :=
  some (w0, σ)
def b_E_heedInOthers_131 (q : Nat) (v1 : Nat) (σ : CS) : Option (Int32 × CS) :=
  gd (kd σ v1 = 11) <| bc2 (m_G_span v1 σ) fun x2 r1 => if x2 ≤ 0 then
  (b_E_heedInOthers_143 q (4 : Int32) r1)
 else
  (b_E_heedInOthers_143 q (5 : Int32) r1)
def b_E_heedInOthers_105 (q : Nat) (v1 : Nat) (σ : CS) : Option (Int32 × CS) :=
  bd (cI σ q 8) fun x1 => if x1 = (10 : Int32) then
  (bd (cJ σ 3 0) fun x2 => bc (m_Z_startTimer (q + 5) x2 (4000 : Int32) σ) fun r3 => b_E_heedInOthers_131 q v1 r3)
 else
  (b_E_heedInOthers_131 q v1 σ)
def b_E_heedInOthers_84 (q : Nat) (v1 : Nat) (σ : CS) : Option (Int32 × CS) :=
  bd (cI σ q 8) fun x1 => if x1 = 0 then
  (some ((0 : Int32), σ))
 else
  (bc2 (m_E_takesData q σ) fun x3 r2 => if x3 = 0 then
  (b_E_heedInOthers_105 q v1 r2)
 else
  (bc (m_E_takeIn q v1 r2) fun r4 => b_E_heedInOthers_105 q v1 r4))
def b_E_heedInOthers_65 (q : Nat) (v1 : Nat) (σ : CS) : Option (Int32 × CS) :=
  bc (m_E_heedWindow q v1 σ) fun r1 => bc2 (m_U_finIsAcknowledged (q + 1) r1) fun x3 r2 => if x3 = 0 then
  (b_E_heedInOthers_84 q v1 r2)
 else
  (bc (m_E_heedFinAcknowledged q r2) fun r4 => b_E_heedInOthers_84 q v1 r4)
def m_E_heedInOthers (q : Nat) (v1 : Nat) (σ : CS) : Option (Int32 × CS) :=
  gd (q = 7 ∨ q = 14) <| bc2 (m_E_letIn q v1 σ) fun x2 r1 => if x2 = (6 : Int32) then
  (gd (kd r1 v1 = 11) <| bc2 (m_G_ack v1 r1) fun x4 r3 => bd (cI r3 (q + 1) 6) fun x5 => if (x4 - x5) ≤ 0 then
  (bd (cI r3 (q + 1) 4) fun x6 => if (x4 - x6) ≤ 0 then
  (bc2 (m_E_isSameAgain q v1 r3) fun x8 r7 => if x8 = 0 then
  (b_E_heedInOthers_65 q v1 r7)
 else
  (bc (m_E_heedSameAgain q r7) fun r9 => b_E_heedInOthers_65 q v1 r9))
 else
  (bc (m_E_heedProgress q x4 r3) fun r10 => b_E_heedInOthers_65 q v1 r10))
 else
  (some ((2 : Int32), r3)))
 else
  (some (x2, r1))
section
variable {p : Program} {l : Launch} {e : Env} {s : State} {m : MethodId} {args : Array Value} {below : List Frame} {meth : Method} {c : Code} {D : va_G} {tc : Nat → ClassId} {b z : Nat} {σ0 : CS}
theorem t_E_heedInOthers_143 {q : Nat} (S : CC p m c k_E_heedInOthers 4 s args cn_E meth (Option.some Jvm.ClassFile.FieldType.int) D tc b z) (hq : q = 7 ∨ q = 14) (w0 : Int32) (σ : CS) {B : Int32 × CS} (h : b_E_heedInOthers_143 q w0 σ = some B) {ls : Array Slot} {H : Heap} {locs : List Loc} {cells slots : Nat} (hl : lv_has ls 4 []) (hW : CWS D tc b z s σ0 σ H locs cells slots) : W p l e (CR 11 268 σ0) s m args below meth c H locs cells slots (CE D tc b z below args s σ0 (some (.int B.1)) B.2) (F0 m 143 ls [.int w0]) := by
  have hx := S.1.1
  have hb := S.1.2.1
  unfold b_E_heedInOthers_143 at h
  exact cm_iret S hW d_E_heedInOthers_143 h
theorem t_E_heedInOthers_131 {q : Nat} (S : CC p m c k_E_heedInOthers 4 s args cn_E meth (Option.some Jvm.ClassFile.FieldType.int) D tc b z) (hq : q = 7 ∨ q = 14) (v1 : Nat) (σ : CS) {B : Int32 × CS} (h : b_E_heedInOthers_131 q v1 σ = some B) {ls : Array Slot} {H : Heap} {locs : List Loc} {cells slots : Nat} (hl : lv_has ls 4 [(1, .ref (b + v1))]) (hW : CWS D tc b z s σ0 σ H locs cells slots) : W p l e (CR 11 268 σ0) s m args below meth c H locs cells slots (CE D tc b z below args s σ0 (some (.int B.1)) B.2) (F0 m 131 ls []) := by
  have hx := S.1.1
  have hb := S.1.2.1
  unfold b_E_heedInOthers_131 at h
  refine lv_aload_n hx hb d_E_heedInOthers_131 rfl (lv_at hl 0 rfl) ?_
  obtain ⟨hg, h⟩ := gd_s h
  refine cm_cVi [] kx_G S hW hg (fun x σ' hc => c_G_span v1 σ hc) q_G_span wd_1075 wd_1076 wd_1074 (by decide) hl.1 rfl rfl (Nat.le_of_ble_eq_true rfl) d_E_heedInOthers_132 h (fun x2 r1 H locs cells slots h hW => ?_)
  refine rb_le (tgt := 142) hx hb d_E_heedInOthers_135 (by decide) h (fun h => ?_) (fun h => ?_)
  · refine lv_iconst (v := 4) hx hb d_E_heedInOthers_142 (by decide) ?_
    exact t_E_heedInOthers_143 S hq (4 : Int32) r1 h (lv_sub hl [] rfl) hW
  · refine lv_iconst (v := 5) hx hb d_E_heedInOthers_138 (by decide) ?_
    refine lv_goto (tgt := 143) hx hb d_E_heedInOthers_139 (by decide) ?_
    exact t_E_heedInOthers_143 S hq (5 : Int32) r1 h (lv_sub hl [] rfl) hW
theorem t_E_heedInOthers_105 {q : Nat} (S : CC p m c k_E_heedInOthers 4 s args cn_E meth (Option.some Jvm.ClassFile.FieldType.int) D tc b z) (hq : q = 7 ∨ q = 14) (v1 : Nat) (σ : CS) {B : Int32 × CS} (h : b_E_heedInOthers_105 q v1 σ = some B) {ls : Array Slot} {H : Heap} {locs : List Loc} {cells slots : Nat} (hl : lv_has ls 4 [(0, .ref (b + q)), (1, .ref (b + v1))]) (hW : CWS D tc b z s σ0 σ H locs cells slots) : W p l e (CR 11 268 σ0) s m args below meth c H locs cells slots (CE D tc b z below args s σ0 (some (.int B.1)) B.2) (F0 m 105 ls []) := by
  have hx := S.1.1
  have hb := S.1.2.1
  unfold b_E_heedInOthers_105 at h
  refine lv_aload_n hx hb d_E_heedInOthers_105 rfl (lv_at hl 0 rfl) ?_
  refine cm_geti kx_E S hW (kE hq) 8 wd_362 (by decide) d_E_heedInOthers_106 h (fun x1 h => ?_)
  refine lv_bipush (v := 10) hx hb d_E_heedInOthers_109 (by decide) ?_
  refine rc_ne (tgt := 131) hx hb d_E_heedInOthers_111 (by decide) h (fun h => ?_) (fun h => ?_)
  · exact t_E_heedInOthers_131 S hq v1 σ h (lv_sub hl [1] rfl) hW
  · refine lv_aload_n hx hb d_E_heedInOthers_114 rfl (lv_at hl 0 rfl) ?_
    refine cm_getf kx_E S hW (kE hq) 5 (q + 5) rfl wd_357 (by decide) d_E_heedInOthers_115 ?_
    refine lv_aload_n hx hb d_E_heedInOthers_118 rfl (lv_at hl 0 rfl) ?_
    refine cm_getf kx_E S hW (kE hq) 1 (3) rfl wd_351 (by decide) d_E_heedInOthers_119 ?_
    refine cm_getl kx_C S hW rfl 0 wd_136 (by decide) d_E_heedInOthers_122 h (fun x2 h => ?_)
    refine lv_sipush (v := 4000) hx hb d_E_heedInOthers_125 (by decide) ?_
    refine cm_cVv [.long x2, .int (4000 : Int32)] kx_Z S hW (kEZ hq) (fun σ' hc => c_Z_startTimer (q + 5) x2 (4000 : Int32) σ hc) q_Z_startTimer wd_641 wd_642 wd_640 (by decide) hl.1 rfl rfl (Nat.le_of_ble_eq_true rfl) d_E_heedInOthers_128 h (fun r3 H locs cells slots h hW => ?_)
    exact t_E_heedInOthers_131 S hq v1 r3 h (lv_sub hl [1] rfl) hW
theorem t_E_heedInOthers_84 {q : Nat} (S : CC p m c k_E_heedInOthers 4 s args cn_E meth (Option.some Jvm.ClassFile.FieldType.int) D tc b z) (hq : q = 7 ∨ q = 14) (v1 : Nat) (σ : CS) {B : Int32 × CS} (h : b_E_heedInOthers_84 q v1 σ = some B) {ls : Array Slot} {H : Heap} {locs : List Loc} {cells slots : Nat} (hl : lv_has ls 4 [(0, .ref (b + q)), (1, .ref (b + v1))]) (hW : CWS D tc b z s σ0 σ H locs cells slots) : W p l e (CR 11 268 σ0) s m args below meth c H locs cells slots (CE D tc b z below args s σ0 (some (.int B.1)) B.2) (F0 m 84 ls []) := by
  have hx := S.1.1
  have hb := S.1.2.1
  unfold b_E_heedInOthers_84 at h
  refine lv_aload_n hx hb d_E_heedInOthers_84 rfl (lv_at hl 0 rfl) ?_
  refine cm_geti kx_E S hW (kE hq) 8 wd_362 (by decide) d_E_heedInOthers_85 h (fun x1 h => ?_)
  refine rb_ne (tgt := 93) hx hb d_E_heedInOthers_88 (by decide) h (fun h => ?_) (fun h => ?_)
  · refine lv_aload_n hx hb d_E_heedInOthers_93 rfl (lv_at hl 0 rfl) ?_
    refine cm_cVi [] kx_E S hW (kE hq) (fun x σ' hc => c_E_takesData q σ hc) q_E_takesData wd_879 wd_12 wd_877 (by decide) hl.1 rfl rfl (Nat.le_of_ble_eq_true rfl) d_E_heedInOthers_94 h (fun x3 r2 H locs cells slots h hW => ?_)
    refine rb_eq (tgt := 105) hx hb d_E_heedInOthers_97 (by decide) h (fun h => ?_) (fun h => ?_)
    · exact t_E_heedInOthers_105 S hq v1 r2 h (lv_sub hl [0, 1] rfl) hW
    · refine lv_aload_n hx hb d_E_heedInOthers_100 rfl (lv_at hl 0 rfl) ?_
      refine lv_aload_n hx hb d_E_heedInOthers_101 rfl (lv_at hl 1 rfl) ?_
      refine cm_cVv [.ref (b + v1)] kx_E S hW (kE hq) (fun σ' hc => c_E_takeIn q v1 r2 hc) q_E_takeIn wd_1143 wd_31 wd_1141 (by decide) hl.1 rfl rfl (Nat.le_of_ble_eq_true rfl) d_E_heedInOthers_102 h (fun r4 H locs cells slots h hW => ?_)
      exact t_E_heedInOthers_105 S hq v1 r4 h (lv_sub hl [0, 1] rfl) hW
  · refine lv_iconst (v := 0) hx hb d_E_heedInOthers_91 (by decide) ?_
    exact cm_iret S hW d_E_heedInOthers_92 h
theorem t_E_heedInOthers_65 {q : Nat} (S : CC p m c k_E_heedInOthers 4 s args cn_E meth (Option.some Jvm.ClassFile.FieldType.int) D tc b z) (hq : q = 7 ∨ q = 14) (v1 : Nat) (σ : CS) {B : Int32 × CS} (h : b_E_heedInOthers_65 q v1 σ = some B) {ls : Array Slot} {H : Heap} {locs : List Loc} {cells slots : Nat} (hl : lv_has ls 4 [(0, .ref (b + q)), (1, .ref (b + v1))]) (hW : CWS D tc b z s σ0 σ H locs cells slots) : W p l e (CR 11 268 σ0) s m args below meth c H locs cells slots (CE D tc b z below args s σ0 (some (.int B.1)) B.2) (F0 m 65 ls []) := by
  have hx := S.1.1
  have hb := S.1.2.1
  unfold b_E_heedInOthers_65 at h
  refine lv_aload_n hx hb d_E_heedInOthers_65 rfl (lv_at hl 0 rfl) ?_
  refine lv_aload_n hx hb d_E_heedInOthers_66 rfl (lv_at hl 1 rfl) ?_
  refine cm_cVv [.ref (b + v1)] kx_E S hW (kE hq) (fun σ' hc => c_E_heedWindow q v1 σ hc) q_E_heedWindow wd_1127 wd_29 wd_1125 (by decide) hl.1 rfl rfl (Nat.le_of_ble_eq_true rfl) d_E_heedInOthers_67 h (fun r1 H locs cells slots h hW => ?_)
  refine lv_aload_n hx hb d_E_heedInOthers_70 rfl (lv_at hl 0 rfl) ?_
  refine cm_getf kx_E S hW (kE hq) 3 (q + 1) rfl wd_353 (by decide) d_E_heedInOthers_71 ?_
  refine cm_cVi [] kx_U S hW (kEU hq) (fun x σ' hc => c_U_finIsAcknowledged (q + 1) r1 hc) q_U_finIsAcknowledged wd_1134 wd_1135 wd_1133 (by decide) hl.1 rfl rfl (Nat.le_of_ble_eq_true rfl) d_E_heedInOthers_74 h (fun x3 r2 H locs cells slots h hW => ?_)
  refine rb_eq (tgt := 84) hx hb d_E_heedInOthers_77 (by decide) h (fun h => ?_) (fun h => ?_)
  · exact t_E_heedInOthers_84 S hq v1 r2 h (lv_sub hl [0, 1] rfl) hW
  · refine lv_aload_n hx hb d_E_heedInOthers_80 rfl (lv_at hl 0 rfl) ?_
    refine cm_cVv [] kx_E S hW (kE hq) (fun σ' hc => c_E_heedFinAcknowledged q r2 hc) q_E_heedFinAcknowledged wd_1139 wd_30 wd_1137 (by decide) hl.1 rfl rfl (Nat.le_of_ble_eq_true rfl) d_E_heedInOthers_81 h (fun r4 H locs cells slots h hW => ?_)
    exact t_E_heedInOthers_84 S hq v1 r4 h (lv_sub hl [0, 1] rfl) hW
theorem t_E_heedInOthers_0 (S : CC p m c k_E_heedInOthers 4 s args cn_E meth (Option.some Jvm.ClassFile.FieldType.int) D tc b z) (q : Nat) (v1 : Nat) (σ : CS) {B : Int32 × CS} (h : m_E_heedInOthers q v1 σ = some B) {ls : Array Slot} {H : Heap} {locs : List Loc} {cells slots : Nat} (hl : lv_has ls 4 [(0, .ref (b + q)), (1, .ref (b + v1))]) (hW : CWS D tc b z s σ0 σ H locs cells slots) : W p l e (CR 11 268 σ0) s m args below meth c H locs cells slots (CE D tc b z below args s σ0 (some (.int B.1)) B.2) (F0 m 0 ls []) := by
  have hx := S.1.1
  have hb := S.1.2.1
  unfold m_E_heedInOthers at h
  obtain ⟨hq, h⟩ := gd_s h
  refine lv_aload_n hx hb d_E_heedInOthers_0 rfl (lv_at hl 0 rfl) ?_
  refine lv_aload_n hx hb d_E_heedInOthers_1 rfl (lv_at hl 1 rfl) ?_
  refine cm_cVi [.ref (b + v1)] kx_E S hW (kE hq) (fun x σ' hc => c_E_letIn q v1 σ hc) q_E_letIn wd_1072 wd_24 wd_1070 (by decide) hl.1 rfl rfl (Nat.le_of_ble_eq_true rfl) d_E_heedInOthers_2 h (fun x2 r1 H locs cells slots h hW => ?_)
  refine lv_istore_n (lv' := [(2, .int x2), (0, .ref (b + q)), (1, .ref (b + v1))]) hx hb d_E_heedInOthers_5 rfl hl (by decide) rfl (fun ls hl => ?_)
  refine lv_iload_n hx hb d_E_heedInOthers_6 rfl (lv_at hl 0 rfl) ?_
  refine lv_bipush (v := 6) hx hb d_E_heedInOthers_7 (by decide) ?_
  refine rc_eq (tgt := 14) hx hb d_E_heedInOthers_9 (by decide) h (fun h => ?_) (fun h => ?_)
  · refine lv_aload_n hx hb d_E_heedInOthers_14 rfl (lv_at hl 2 rfl) ?_
    obtain ⟨hg, h⟩ := gd_s h
    refine cm_cVi [] kx_G S hW hg (fun x σ' hc => c_G_ack v1 r1 hc) q_G_ack wd_1019 wd_1020 wd_1036 (by decide) hl.1 rfl rfl (Nat.le_of_ble_eq_true rfl) d_E_heedInOthers_15 h (fun x4 r3 H locs cells slots h hW => ?_)
    refine lv_istore_n (lv' := [(3, .int x4), (2, .int x2), (0, .ref (b + q)), (1, .ref (b + v1))]) hx hb d_E_heedInOthers_18 rfl hl (by decide) rfl (fun ls hl => ?_)
    refine lv_iload_n hx hb d_E_heedInOthers_19 rfl (lv_at hl 0 rfl) ?_
    refine lv_aload_n hx hb d_E_heedInOthers_20 rfl (lv_at hl 2 rfl) ?_
    refine cm_getf kx_E S hW (kE hq) 3 (q + 1) rfl wd_353 (by decide) d_E_heedInOthers_21 ?_
    refine cm_geti kx_U S hW (kEU hq) 6 wd_210 (by decide) d_E_heedInOthers_24 h (fun x5 h => ?_)
    refine lv_isub hx hb d_E_heedInOthers_27 ?_
    refine rb_le (tgt := 33) hx hb d_E_heedInOthers_28 (by decide) h (fun h => ?_) (fun h => ?_)
    · refine lv_iload_n hx hb d_E_heedInOthers_33 rfl (lv_at hl 0 rfl) ?_
      refine lv_aload_n hx hb d_E_heedInOthers_34 rfl (lv_at hl 2 rfl) ?_
      refine cm_getf kx_E S hW (kE hq) 3 (q + 1) rfl wd_353 (by decide) d_E_heedInOthers_35 ?_
      refine cm_geti kx_U S hW (kEU hq) 4 wd_206 (by decide) d_E_heedInOthers_38 h (fun x6 h => ?_)
      refine lv_isub hx hb d_E_heedInOthers_41 ?_
      refine rb_le (tgt := 53) hx hb d_E_heedInOthers_42 (by decide) h (fun h => ?_) (fun h => ?_)
      · refine lv_aload_n hx hb d_E_heedInOthers_53 rfl (lv_at hl 2 rfl) ?_
        refine lv_aload_n hx hb d_E_heedInOthers_54 rfl (lv_at hl 3 rfl) ?_
        refine cm_cVi [.ref (b + v1)] kx_E S hW (kE hq) (fun x σ' hc => c_E_isSameAgain q v1 r3 hc) q_E_isSameAgain wd_1106 wd_27 wd_1104 (by decide) hl.1 rfl rfl (Nat.le_of_ble_eq_true rfl) d_E_heedInOthers_55 h (fun x8 r7 H locs cells slots h hW => ?_)
        refine rb_eq (tgt := 65) hx hb d_E_heedInOthers_58 (by decide) h (fun h => ?_) (fun h => ?_)
        · exact t_E_heedInOthers_65 S hq v1 r7 h (lv_sub hl [2, 3] rfl) hW
        · refine lv_aload_n hx hb d_E_heedInOthers_61 rfl (lv_at hl 2 rfl) ?_
          refine cm_cVv [] kx_E S hW (kE hq) (fun σ' hc => c_E_heedSameAgain q r7 hc) q_E_heedSameAgain wd_1111 wd_28 wd_1109 (by decide) hl.1 rfl rfl (Nat.le_of_ble_eq_true rfl) d_E_heedInOthers_62 h (fun r9 H locs cells slots h hW => ?_)
          exact t_E_heedInOthers_65 S hq v1 r9 h (lv_sub hl [2, 3] rfl) hW
      · refine lv_aload_n hx hb d_E_heedInOthers_45 rfl (lv_at hl 2 rfl) ?_
        refine lv_iload_n hx hb d_E_heedInOthers_46 rfl (lv_at hl 0 rfl) ?_
        refine cm_cVv [.int x4] kx_E S hW (kE hq) (fun σ' hc => c_E_heedProgress q x4 r3 hc) q_E_heedProgress wd_1097 wd_26 wd_1095 (by decide) hl.1 rfl rfl (Nat.le_of_ble_eq_true rfl) d_E_heedInOthers_47 h (fun r10 H locs cells slots h hW => ?_)
        refine lv_goto (tgt := 65) hx hb d_E_heedInOthers_50 (by decide) ?_
        exact t_E_heedInOthers_65 S hq v1 r10 h (lv_sub hl [2, 3] rfl) hW
    · refine lv_iconst (v := 2) hx hb d_E_heedInOthers_31 (by decide) ?_
      exact cm_iret S hW d_E_heedInOthers_32 h
  · refine lv_iload_n hx hb d_E_heedInOthers_12 rfl (lv_at hl 0 rfl) ?_
    exact cm_iret S hW d_E_heedInOthers_13 h
theorem c_E_heedInOthers (q : Nat) (v1 : Nat) (σ : CS) {x : Int32} {σ' : CS} (h : m_E_heedInOthers q v1 σ = some (x, σ')) : CMet l D tc b z y_E_heedInOthers k_E_heedInOthers 4 (Option.some Jvm.ClassFile.FieldType.int) 11 268 [.ref (b + q), .ref (b + v1)] σ (some (.int x)) σ' := cm_met (by decide) (Nat.le_of_ble_eq_true rfl) fun p e s m args below meth c S hW ls hl => t_E_heedInOthers_0 S q v1 σ h hl hW
end

/-! StreamPair$End.comes (LStreamPair$Segment;)V -/
abbrev k_E_comes : ByteArray := prog_5_method_18_code
abbrev y_E_comes : MethodName := ⟨cn_E, "comes", "(LStreamPair$Segment;)V"⟩
theorem q_E_comes : Calee y_E_comes k_E_comes 3 none 1 := ⟨wd_971, wd_85, by decide, by decide +kernel⟩
theorem d_E_comes_0 : decode k_E_comes 0 = .ok (.aload_n 0, 1) := by decide +kernel
theorem d_E_comes_1 : decode k_E_comes 1 = .ok (.aload_n 1, 1) := by decide +kernel
theorem d_E_comes_2 : decode k_E_comes 2 = .ok (.invokevirtual 217, 3) := by decide +kernel
theorem d_E_comes_5 : decode k_E_comes 5 = .ok (.ifCond .ne 14, 3) := by decide +kernel
theorem d_E_comes_8 : decode k_E_comes 8 = .ok (.aload_n 0, 1) := by decide +kernel
theorem d_E_comes_9 : decode k_E_comes 9 = .ok (.dup, 1) := by decide +kernel
theorem d_E_comes_10 : decode k_E_comes 10 = .ok (.getfield 71, 3) := by decide +kernel
theorem d_E_comes_13 : decode k_E_comes 13 = .ok (.iconst 1, 1) := by decide +kernel
theorem d_E_comes_14 : decode k_E_comes 14 = .ok (.iadd, 1) := by decide +kernel
theorem d_E_comes_15 : decode k_E_comes 15 = .ok (.putfield 71, 3) := by decide +kernel
theorem d_E_comes_18 : decode k_E_comes 18 = .ok (.return_, 1) := by decide +kernel
theorem d_E_comes_19 : decode k_E_comes 19 = .ok (.aload_n 0, 1) := by decide +kernel
theorem d_E_comes_20 : decode k_E_comes 20 = .ok (.getfield 54, 3) := by decide +kernel
theorem d_E_comes_23 : decode k_E_comes 23 = .ok (.ifCond .ne 8, 3) := by decide +kernel
theorem d_E_comes_26 : decode k_E_comes 26 = .ok (.iconst 1, 1) := by decide +kernel
theorem d_E_comes_27 : decode k_E_comes 27 = .ok (.istore_n 2, 1) := by decide +kernel
theorem d_E_comes_28 : decode k_E_comes 28 = .ok (.goto 43, 3) := by decide +kernel
theorem d_E_comes_31 : decode k_E_comes 31 = .ok (.aload_n 0, 1) := by decide +kernel
theorem d_E_comes_32 : decode k_E_comes 32 = .ok (.getfield 54, 3) := by decide +kernel
theorem d_E_comes_35 : decode k_E_comes 35 = .ok (.iconst 1, 1) := by decide +kernel
theorem d_E_comes_36 : decode k_E_comes 36 = .ok (.if_icmp .ne 12, 3) := by decide +kernel
theorem d_E_comes_39 : decode k_E_comes 39 = .ok (.aload_n 0, 1) := by decide +kernel
theorem d_E_comes_40 : decode k_E_comes 40 = .ok (.aload_n 1, 1) := by decide +kernel
theorem d_E_comes_41 : decode k_E_comes 41 = .ok (.invokevirtual 221, 3) := by decide +kernel
theorem d_E_comes_44 : decode k_E_comes 44 = .ok (.istore_n 2, 1) := by decide +kernel
theorem d_E_comes_45 : decode k_E_comes 45 = .ok (.goto 26, 3) := by decide +kernel
theorem d_E_comes_48 : decode k_E_comes 48 = .ok (.aload_n 0, 1) := by decide +kernel
theorem d_E_comes_49 : decode k_E_comes 49 = .ok (.getfield 54, 3) := by decide +kernel
theorem d_E_comes_52 : decode k_E_comes 52 = .ok (.iconst 2, 1) := by decide +kernel
theorem d_E_comes_53 : decode k_E_comes 53 = .ok (.if_icmp .ne 12, 3) := by decide +kernel
theorem d_E_comes_56 : decode k_E_comes 56 = .ok (.aload_n 0, 1) := by decide +kernel
theorem d_E_comes_57 : decode k_E_comes 57 = .ok (.aload_n 1, 1) := by decide +kernel
theorem d_E_comes_58 : decode k_E_comes 58 = .ok (.invokevirtual 225, 3) := by decide +kernel
theorem d_E_comes_61 : decode k_E_comes 61 = .ok (.istore_n 2, 1) := by decide +kernel
theorem d_E_comes_62 : decode k_E_comes 62 = .ok (.goto 9, 3) := by decide +kernel
theorem d_E_comes_65 : decode k_E_comes 65 = .ok (.aload_n 0, 1) := by decide +kernel
theorem d_E_comes_66 : decode k_E_comes 66 = .ok (.aload_n 1, 1) := by decide +kernel
theorem d_E_comes_67 : decode k_E_comes 67 = .ok (.invokevirtual 228, 3) := by decide +kernel
theorem d_E_comes_70 : decode k_E_comes 70 = .ok (.istore_n 2, 1) := by decide +kernel
theorem d_E_comes_71 : decode k_E_comes 71 = .ok (.iload_n 2, 1) := by decide +kernel
theorem d_E_comes_72 : decode k_E_comes 72 = .ok (.tableswitch 80 1 5 #[36, 44, 51, 58, 66], 36) := by decide +kernel
theorem d_E_comes_108 : decode k_E_comes 108 = .ok (.aload_n 0, 1) := by decide +kernel
theorem d_E_comes_109 : decode k_E_comes 109 = .ok (.aload_n 1, 1) := by decide +kernel
theorem d_E_comes_110 : decode k_E_comes 110 = .ok (.invokevirtual 231, 3) := by decide +kernel
theorem d_E_comes_113 : decode k_E_comes 113 = .ok (.goto 39, 3) := by decide +kernel
theorem d_E_comes_116 : decode k_E_comes 116 = .ok (.aload_n 0, 1) := by decide +kernel
theorem d_E_comes_117 : decode k_E_comes 117 = .ok (.invokevirtual 114, 3) := by decide +kernel
theorem d_E_comes_120 : decode k_E_comes 120 = .ok (.goto 32, 3) := by decide +kernel
theorem d_E_comes_123 : decode k_E_comes 123 = .ok (.aload_n 0, 1) := by decide +kernel
theorem d_E_comes_124 : decode k_E_comes 124 = .ok (.invokevirtual 235, 3) := by decide +kernel
theorem d_E_comes_127 : decode k_E_comes 127 = .ok (.goto 25, 3) := by decide +kernel
theorem d_E_comes_130 : decode k_E_comes 130 = .ok (.aload_n 0, 1) := by decide +kernel
theorem d_E_comes_131 : decode k_E_comes 131 = .ok (.invokevirtual 87, 3) := by decide +kernel
theorem d_E_comes_134 : decode k_E_comes 134 = .ok (.pop, 1) := by decide +kernel
theorem d_E_comes_135 : decode k_E_comes 135 = .ok (.goto 17, 3) := by decide +kernel
theorem d_E_comes_138 : decode k_E_comes 138 = .ok (.aload_n 0, 1) := by decide +kernel
theorem d_E_comes_139 : decode k_E_comes 139 = .ok (.invokevirtual 87, 3) := by decide +kernel
theorem d_E_comes_142 : decode k_E_comes 142 = .ok (.ifCond .ne 10, 3) := by decide +kernel
theorem d_E_comes_145 : decode k_E_comes 145 = .ok (.aload_n 0, 1) := by decide +kernel
theorem d_E_comes_146 : decode k_E_comes 146 = .ok (.invokevirtual 114, 3) := by decide +kernel
theorem d_E_comes_149 : decode k_E_comes 149 = .ok (.goto 3, 3) := by decide +kernel
theorem d_E_comes_152 : decode k_E_comes 152 = .ok (.return_, 1) := by decide +kernel
def b_E_comes_152 (q : Nat) (σ : CS) : Option (CS) :=
  some σ
def b_E_comes_71 (q : Nat) (v1 : Nat) (v2 : Int32) (σ : CS) : Option (CS) :=
  if v2 = 1 then
  (bc (m_E_answer q v1 σ) fun r1 => b_E_comes_152 q  r1)
 else (
if v2 = 2 then
  (bc (m_E_sendAck q σ) fun r2 => b_E_comes_152 q  r2)
 else (
if v2 = 3 then
  (bc (m_E_sendFirstSyn q σ) fun r3 => b_E_comes_152 q  r3)
 else (
if v2 = 4 then
  (bc2 (m_E_output q σ) fun x5 r4 => b_E_comes_152 q  r4)
 else (
if v2 = 5 then
  (bc2 (m_E_output q σ) fun x7 r6 => if x7 = 0 then
  (bc (m_E_sendAck q r6) fun r8 => b_E_comes_152 q  r8)
 else
  (b_E_comes_152 q  r6))
 else (
b_E_comes_152 q  σ)))))
def m_E_comes (q : Nat) (v1 : Nat) (σ : CS) : Option (CS) :=
  gd (q = 7 ∨ q = 14) <| bc2 (m_E_isOfThisConnection q v1 σ) fun x2 r1 => if x2 = 0 then
  (bd (cI r1 q 11) fun x12 => bd (wi r1 q 11 (x12 + (1 : Int32))) fun r13 => some r13)
 else
  (bd (cI r1 q 8) fun x3 => if x3 = 0 then
  (b_E_comes_71 q v1 (1 : Int32) r1)
 else
  (bd (cI r1 q 8) fun x4 => if x4 = (1 : Int32) then
  (bc2 (m_E_heedInListen q v1 r1) fun x11 r10 => b_E_comes_71 q v1 x11 r10)
 else
  (bd (cI r1 q 8) fun x5 => if x5 = (2 : Int32) then
  (bc2 (m_E_heedInSynSent q v1 r1) fun x9 r8 => b_E_comes_71 q v1 x9 r8)
 else
  (bc2 (m_E_heedInOthers q v1 r1) fun x7 r6 => b_E_comes_71 q v1 x7 r6))))
section
variable {p : Program} {l : Launch} {e : Env} {s : State} {m : MethodId} {args : Array Value} {below : List Frame} {meth : Method} {c : Code} {D : va_G} {tc : Nat → ClassId} {b z : Nat} {σ0 : CS}
theorem t_E_comes_152 {q : Nat} (S : CC p m c k_E_comes 3 s args cn_E meth none D tc b z) (hq : q = 7 ∨ q = 14) (σ : CS) {B : CS} (h : b_E_comes_152 q  σ = some B) {ls : Array Slot} {H : Heap} {locs : List Loc} {cells slots : Nat} (hl : lv_has ls 3 []) (hW : CWS D tc b z s σ0 σ H locs cells slots) : W p l e (CR 12 294 σ0) s m args below meth c H locs cells slots (CE D tc b z below args s σ0 none B) (F0 m 152 ls []) := by
  have hx := S.1.1
  have hb := S.1.2.1
  unfold b_E_comes_152 at h
  exact cm_vret S hW d_E_comes_152 h
theorem t_E_comes_71 {q : Nat} (S : CC p m c k_E_comes 3 s args cn_E meth none D tc b z) (hq : q = 7 ∨ q = 14) (v1 : Nat) (v2 : Int32) (σ : CS) {B : CS} (h : b_E_comes_71 q v1 v2 σ = some B) {ls : Array Slot} {H : Heap} {locs : List Loc} {cells slots : Nat} (hl : lv_has ls 3 [(0, .ref (b + q)), (1, .ref (b + v1)), (2, .int v2)]) (hW : CWS D tc b z s σ0 σ H locs cells slots) : W p l e (CR 12 294 σ0) s m args below meth c H locs cells slots (CE D tc b z below args s σ0 none B) (F0 m 71 ls []) := by
  have hx := S.1.1
  have hb := S.1.2.1
  unfold b_E_comes_71 at h
  refine lv_iload_n hx hb d_E_comes_71 rfl (lv_at hl 2 rfl) ?_
  by_cases z1 : v2 = 1
  · rw [if_pos z1] at h
    refine lv_tableIn (tgt := 108) (off := 36) hx hb d_E_comes_72 (by rw [z1]; decide) (by rw [z1]; decide) (by rw [z1]; decide) (by decide) ?_
    refine lv_aload_n hx hb d_E_comes_108 rfl (lv_at hl 0 rfl) ?_
    refine lv_aload_n hx hb d_E_comes_109 rfl (lv_at hl 1 rfl) ?_
    refine cm_cVv [.ref (b + v1)] kx_E S hW (kE hq) (fun σ' hc => c_E_answer q v1 σ hc) q_E_answer wd_1163 wd_33 wd_1161 (by decide) hl.1 rfl rfl (Nat.le_of_ble_eq_true rfl) d_E_comes_110 h (fun r1 H locs cells slots h hW => ?_)
    refine lv_goto (tgt := 152) hx hb d_E_comes_113 (by decide) ?_
    exact t_E_comes_152 S hq  r1 h (lv_sub hl [] rfl) hW
  rw [if_neg z1] at h
  by_cases z2 : v2 = 2
  · rw [if_pos z2] at h
    refine lv_tableIn (tgt := 116) (off := 44) hx hb d_E_comes_72 (by rw [z2]; decide) (by rw [z2]; decide) (by rw [z2]; decide) (by decide) ?_
    refine lv_aload_n hx hb d_E_comes_116 rfl (lv_at hl 0 rfl) ?_
    refine cm_cVv [] kx_E S hW (kE hq) (fun σ' hc => c_E_sendAck q σ hc) q_E_sendAck wd_884 wd_13 wd_882 (by decide) hl.1 rfl rfl (Nat.le_of_ble_eq_true rfl) d_E_comes_117 h (fun r2 H locs cells slots h hW => ?_)
    refine lv_goto (tgt := 152) hx hb d_E_comes_120 (by decide) ?_
    exact t_E_comes_152 S hq  r2 h (lv_sub hl [] rfl) hW
  rw [if_neg z2] at h
  by_cases z3 : v2 = 3
  · rw [if_pos z3] at h
    refine lv_tableIn (tgt := 123) (off := 51) hx hb d_E_comes_72 (by rw [z3]; decide) (by rw [z3]; decide) (by rw [z3]; decide) (by decide) ?_
    refine lv_aload_n hx hb d_E_comes_123 rfl (lv_at hl 0 rfl) ?_
    refine cm_cVv [] kx_E S hW (kE hq) (fun σ' hc => c_E_sendFirstSyn q σ hc) q_E_sendFirstSyn wd_541 wd_542 wd_1165 (by decide) hl.1 rfl rfl (Nat.le_of_ble_eq_true rfl) d_E_comes_124 h (fun r3 H locs cells slots h hW => ?_)
    refine lv_goto (tgt := 152) hx hb d_E_comes_127 (by decide) ?_
    exact t_E_comes_152 S hq  r3 h (lv_sub hl [] rfl) hW
  rw [if_neg z3] at h
  by_cases z4 : v2 = 4
  · rw [if_pos z4] at h
    refine lv_tableIn (tgt := 130) (off := 58) hx hb d_E_comes_72 (by rw [z4]; decide) (by rw [z4]; decide) (by rw [z4]; decide) (by decide) ?_
    refine lv_aload_n hx hb d_E_comes_130 rfl (lv_at hl 0 rfl) ?_
    refine cm_cVi [] kx_E S hW (kE hq) (fun x σ' hc => c_E_output q σ hc) q_E_output wd_832 wd_833 wd_906 (by decide) hl.1 rfl rfl (Nat.le_of_ble_eq_true rfl) d_E_comes_131 h (fun x5 r4 H locs cells slots h hW => ?_)
    refine lv_pop hx hb d_E_comes_134 rfl ?_
    refine lv_goto (tgt := 152) hx hb d_E_comes_135 (by decide) ?_
    exact t_E_comes_152 S hq  r4 h (lv_sub hl [] rfl) hW
  rw [if_neg z4] at h
  by_cases z5 : v2 = 5
  · rw [if_pos z5] at h
    refine lv_tableIn (tgt := 138) (off := 66) hx hb d_E_comes_72 (by rw [z5]; decide) (by rw [z5]; decide) (by rw [z5]; decide) (by decide) ?_
    refine lv_aload_n hx hb d_E_comes_138 rfl (lv_at hl 0 rfl) ?_
    refine cm_cVi [] kx_E S hW (kE hq) (fun x σ' hc => c_E_output q σ hc) q_E_output wd_832 wd_833 wd_906 (by decide) hl.1 rfl rfl (Nat.le_of_ble_eq_true rfl) d_E_comes_139 h (fun x7 r6 H locs cells slots h hW => ?_)
    refine rb_ne (tgt := 152) hx hb d_E_comes_142 (by decide) h (fun h => ?_) (fun h => ?_)
    · exact t_E_comes_152 S hq  r6 h (lv_sub hl [] rfl) hW
    · refine lv_aload_n hx hb d_E_comes_145 rfl (lv_at hl 0 rfl) ?_
      refine cm_cVv [] kx_E S hW (kE hq) (fun σ' hc => c_E_sendAck q r6 hc) q_E_sendAck wd_884 wd_13 wd_882 (by decide) hl.1 rfl rfl (Nat.le_of_ble_eq_true rfl) d_E_comes_146 h (fun r8 H locs cells slots h hW => ?_)
      refine lv_goto (tgt := 152) hx hb d_E_comes_149 (by decide) ?_
      exact t_E_comes_152 S hq  r8 h (lv_sub hl [] rfl) hW
  rw [if_neg z5] at h
  refine lv_tableOut (tgt := 152) hx hb d_E_comes_72 (tab_out 1 5 (fun k h1 h2 hk => ?_)) (by decide) ?_
  · have hq : k = 1 ∨ k = 2 ∨ k = 3 ∨ k = 4 ∨ k = 5 := by omega
    rcases hq with rfl | rfl | rfl | rfl | rfl
    · exact z1 (Int32.toInt_inj.mp (hk.trans (by decide)))
    · exact z2 (Int32.toInt_inj.mp (hk.trans (by decide)))
    · exact z3 (Int32.toInt_inj.mp (hk.trans (by decide)))
    · exact z4 (Int32.toInt_inj.mp (hk.trans (by decide)))
    · exact z5 (Int32.toInt_inj.mp (hk.trans (by decide)))
  exact t_E_comes_152 S hq  σ h (lv_sub hl [] rfl) hW
theorem t_E_comes_0 (S : CC p m c k_E_comes 3 s args cn_E meth none D tc b z) (q : Nat) (v1 : Nat) (σ : CS) {B : CS} (h : m_E_comes q v1 σ = some B) {ls : Array Slot} {H : Heap} {locs : List Loc} {cells slots : Nat} (hl : lv_has ls 3 [(0, .ref (b + q)), (1, .ref (b + v1))]) (hW : CWS D tc b z s σ0 σ H locs cells slots) : W p l e (CR 12 294 σ0) s m args below meth c H locs cells slots (CE D tc b z below args s σ0 none B) (F0 m 0 ls []) := by
  have hx := S.1.1
  have hb := S.1.2.1
  unfold m_E_comes at h
  obtain ⟨hq, h⟩ := gd_s h
  refine lv_aload_n hx hb d_E_comes_0 rfl (lv_at hl 0 rfl) ?_
  refine lv_aload_n hx hb d_E_comes_1 rfl (lv_at hl 1 rfl) ?_
  refine cm_cVi [.ref (b + v1)] kx_E S hW (kE hq) (fun x σ' hc => c_E_isOfThisConnection q v1 σ hc) q_E_isOfThisConnection wd_974 wd_18 wd_972 (by decide) hl.1 rfl rfl (Nat.le_of_ble_eq_true rfl) d_E_comes_2 h (fun x2 r1 H locs cells slots h hW => ?_)
  refine rb_ne (tgt := 19) hx hb d_E_comes_5 (by decide) h (fun h => ?_) (fun h => ?_)
  · refine lv_aload_n hx hb d_E_comes_19 rfl (lv_at hl 0 rfl) ?_
    refine cm_geti kx_E S hW (kE hq) 8 wd_362 (by decide) d_E_comes_20 h (fun x3 h => ?_)
    refine rb_ne (tgt := 31) hx hb d_E_comes_23 (by decide) h (fun h => ?_) (fun h => ?_)
    · refine lv_aload_n hx hb d_E_comes_31 rfl (lv_at hl 0 rfl) ?_
      refine cm_geti kx_E S hW (kE hq) 8 wd_362 (by decide) d_E_comes_32 h (fun x4 h => ?_)
      refine lv_iconst (v := 1) hx hb d_E_comes_35 (by decide) ?_
      refine rc_ne (tgt := 48) hx hb d_E_comes_36 (by decide) h (fun h => ?_) (fun h => ?_)
      · refine lv_aload_n hx hb d_E_comes_48 rfl (lv_at hl 0 rfl) ?_
        refine cm_geti kx_E S hW (kE hq) 8 wd_362 (by decide) d_E_comes_49 h (fun x5 h => ?_)
        refine lv_iconst (v := 2) hx hb d_E_comes_52 (by decide) ?_
        refine rc_ne (tgt := 65) hx hb d_E_comes_53 (by decide) h (fun h => ?_) (fun h => ?_)
        · refine lv_aload_n hx hb d_E_comes_65 rfl (lv_at hl 0 rfl) ?_
          refine lv_aload_n hx hb d_E_comes_66 rfl (lv_at hl 1 rfl) ?_
          refine cm_cVi [.ref (b + v1)] kx_E S hW (kE hq) (fun x σ' hc => c_E_heedInOthers q v1 r1 hc) q_E_heedInOthers wd_1068 wd_23 wd_1066 (by decide) hl.1 rfl rfl (Nat.le_of_ble_eq_true rfl) d_E_comes_67 h (fun x7 r6 H locs cells slots h hW => ?_)
          refine lv_istore_n (lv' := [(2, .int x7), (0, .ref (b + q)), (1, .ref (b + v1))]) hx hb d_E_comes_70 rfl hl (by decide) rfl (fun ls hl => ?_)
          exact t_E_comes_71 S hq v1 x7 r6 h (lv_sub hl [1, 2, 0] rfl) hW
        · refine lv_aload_n hx hb d_E_comes_56 rfl (lv_at hl 0 rfl) ?_
          refine lv_aload_n hx hb d_E_comes_57 rfl (lv_at hl 1 rfl) ?_
          refine cm_cVi [.ref (b + v1)] kx_E S hW (kE hq) (fun x σ' hc => c_E_heedInSynSent q v1 r1 hc) q_E_heedInSynSent wd_1034 wd_21 wd_1032 (by decide) hl.1 rfl rfl (Nat.le_of_ble_eq_true rfl) d_E_comes_58 h (fun x9 r8 H locs cells slots h hW => ?_)
          refine lv_istore_n (lv' := [(2, .int x9), (0, .ref (b + q)), (1, .ref (b + v1))]) hx hb d_E_comes_61 rfl hl (by decide) rfl (fun ls hl => ?_)
          refine lv_goto (tgt := 71) hx hb d_E_comes_62 (by decide) ?_
          exact t_E_comes_71 S hq v1 x9 r8 h (lv_sub hl [1, 2, 0] rfl) hW
      · refine lv_aload_n hx hb d_E_comes_39 rfl (lv_at hl 0 rfl) ?_
        refine lv_aload_n hx hb d_E_comes_40 rfl (lv_at hl 1 rfl) ?_
        refine cm_cVi [.ref (b + v1)] kx_E S hW (kE hq) (fun x σ' hc => c_E_heedInListen q v1 r1 hc) q_E_heedInListen wd_991 wd_19 wd_989 (by decide) hl.1 rfl rfl (Nat.le_of_ble_eq_true rfl) d_E_comes_41 h (fun x11 r10 H locs cells slots h hW => ?_)
        refine lv_istore_n (lv' := [(2, .int x11), (0, .ref (b + q)), (1, .ref (b + v1))]) hx hb d_E_comes_44 rfl hl (by decide) rfl (fun ls hl => ?_)
        refine lv_goto (tgt := 71) hx hb d_E_comes_45 (by decide) ?_
        exact t_E_comes_71 S hq v1 x11 r10 h (lv_sub hl [1, 2, 0] rfl) hW
    · refine lv_iconst (v := 1) hx hb d_E_comes_26 (by decide) ?_
      refine lv_istore_n (lv' := [(2, .int (1 : Int32)), (0, .ref (b + q)), (1, .ref (b + v1))]) hx hb d_E_comes_27 rfl hl (by decide) rfl (fun ls hl => ?_)
      refine lv_goto (tgt := 71) hx hb d_E_comes_28 (by decide) ?_
      exact t_E_comes_71 S hq v1 (1 : Int32) r1 h (lv_sub hl [1, 2, 0] rfl) hW
  · refine lv_aload_n hx hb d_E_comes_8 rfl (lv_at hl 0 rfl) ?_
    refine lv_dup hx hb d_E_comes_9 rfl ?_
    refine cm_geti kx_E S hW (kE hq) 11 wd_367 (by decide) d_E_comes_10 h (fun x12 h => ?_)
    refine lv_iconst (v := 1) hx hb d_E_comes_13 (by decide) ?_
    refine lv_iadd hx hb d_E_comes_14 ?_
    refine cm_puti kx_E S hW (kE hq) 11 wd_367 (by decide) d_E_comes_15 h (fun r13 H locs h hW => ?_)
    exact cm_vret S hW d_E_comes_18 h
theorem c_E_comes (q : Nat) (v1 : Nat) (σ : CS) {B : CS} (h : m_E_comes q v1 σ = some B) : CMet l D tc b z y_E_comes k_E_comes 3 none 12 294 [.ref (b + q), .ref (b + v1)] σ none B := cm_met (by decide) (Nat.le_of_ble_eq_true rfl) fun p e s m args below meth c S hW ls hl => t_E_comes_0 S q v1 σ h hl hW
end

/-! StreamPair$End.fact (I)I -/
abbrev k_E_fact : ByteArray := prog_5_method_33_code
abbrev y_E_fact : MethodName := ⟨cn_E, "fact", "(I)I"⟩
theorem q_E_fact : Calee y_E_fact k_E_fact 2 (Option.some Jvm.ClassFile.FieldType.int) 1 := ⟨wd_1239, wd_85, by decide, by decide +kernel⟩
theorem d_E_fact_0 : decode k_E_fact 0 = .ok (.iload_n 1, 1) := by decide +kernel
theorem d_E_fact_1 : decode k_E_fact 1 = .ok (.tableswitch 222 0 15 #[79, 84, 89, 97, 105, 113, 121, 129, 137, 145, 153, 158, 189, 197, 206, 214], 79) := by decide +kernel
theorem d_E_fact_80 : decode k_E_fact 80 = .ok (.aload_n 0, 1) := by decide +kernel
theorem d_E_fact_81 : decode k_E_fact 81 = .ok (.getfield 54, 3) := by decide +kernel
theorem d_E_fact_84 : decode k_E_fact 84 = .ok (.ireturn, 1) := by decide +kernel
theorem d_E_fact_85 : decode k_E_fact 85 = .ok (.aload_n 0, 1) := by decide +kernel
theorem d_E_fact_86 : decode k_E_fact 86 = .ok (.getfield 65, 3) := by decide +kernel
theorem d_E_fact_89 : decode k_E_fact 89 = .ok (.ireturn, 1) := by decide +kernel
theorem d_E_fact_90 : decode k_E_fact 90 = .ok (.aload_n 0, 1) := by decide +kernel
theorem d_E_fact_91 : decode k_E_fact 91 = .ok (.getfield 21, 3) := by decide +kernel
theorem d_E_fact_94 : decode k_E_fact 94 = .ok (.getfield 334, 3) := by decide +kernel
theorem d_E_fact_97 : decode k_E_fact 97 = .ok (.ireturn, 1) := by decide +kernel
theorem d_E_fact_98 : decode k_E_fact 98 = .ok (.aload_n 0, 1) := by decide +kernel
theorem d_E_fact_99 : decode k_E_fact 99 = .ok (.getfield 12, 3) := by decide +kernel
theorem d_E_fact_102 : decode k_E_fact 102 = .ok (.getfield 337, 3) := by decide +kernel
theorem d_E_fact_105 : decode k_E_fact 105 = .ok (.ireturn, 1) := by decide +kernel
theorem d_E_fact_106 : decode k_E_fact 106 = .ok (.aload_n 0, 1) := by decide +kernel
theorem d_E_fact_107 : decode k_E_fact 107 = .ok (.getfield 35, 3) := by decide +kernel
theorem d_E_fact_110 : decode k_E_fact 110 = .ok (.getfield 190, 3) := by decide +kernel
theorem d_E_fact_113 : decode k_E_fact 113 = .ok (.ireturn, 1) := by decide +kernel
theorem d_E_fact_114 : decode k_E_fact 114 = .ok (.aload_n 0, 1) := by decide +kernel
theorem d_E_fact_115 : decode k_E_fact 115 = .ok (.getfield 35, 3) := by decide +kernel
theorem d_E_fact_118 : decode k_E_fact 118 = .ok (.getfield 340, 3) := by decide +kernel
theorem d_E_fact_121 : decode k_E_fact 121 = .ok (.ireturn, 1) := by decide +kernel
theorem d_E_fact_122 : decode k_E_fact 122 = .ok (.aload_n 0, 1) := by decide +kernel
theorem d_E_fact_123 : decode k_E_fact 123 = .ok (.getfield 28, 3) := by decide +kernel
theorem d_E_fact_126 : decode k_E_fact 126 = .ok (.getfield 127, 3) := by decide +kernel
theorem d_E_fact_129 : decode k_E_fact 129 = .ok (.ireturn, 1) := by decide +kernel
theorem d_E_fact_130 : decode k_E_fact 130 = .ok (.aload_n 0, 1) := by decide +kernel
theorem d_E_fact_131 : decode k_E_fact 131 = .ok (.getfield 28, 3) := by decide +kernel
theorem d_E_fact_134 : decode k_E_fact 134 = .ok (.getfield 202, 3) := by decide +kernel
theorem d_E_fact_137 : decode k_E_fact 137 = .ok (.ireturn, 1) := by decide +kernel
theorem d_E_fact_138 : decode k_E_fact 138 = .ok (.aload_n 0, 1) := by decide +kernel
theorem d_E_fact_139 : decode k_E_fact 139 = .ok (.getfield 12, 3) := by decide +kernel
theorem d_E_fact_142 : decode k_E_fact 142 = .ok (.getfield 193, 3) := by decide +kernel
theorem d_E_fact_145 : decode k_E_fact 145 = .ok (.ireturn, 1) := by decide +kernel
theorem d_E_fact_146 : decode k_E_fact 146 = .ok (.aload_n 0, 1) := by decide +kernel
theorem d_E_fact_147 : decode k_E_fact 147 = .ok (.getfield 21, 3) := by decide +kernel
theorem d_E_fact_150 : decode k_E_fact 150 = .ok (.invokevirtual 101, 3) := by decide +kernel
theorem d_E_fact_153 : decode k_E_fact 153 = .ok (.ireturn, 1) := by decide +kernel
theorem d_E_fact_154 : decode k_E_fact 154 = .ok (.aload_n 0, 1) := by decide +kernel
theorem d_E_fact_155 : decode k_E_fact 155 = .ok (.getfield 68, 3) := by decide +kernel
theorem d_E_fact_158 : decode k_E_fact 158 = .ok (.ireturn, 1) := by decide +kernel
theorem d_E_fact_159 : decode k_E_fact 159 = .ok (.aload_n 0, 1) := by decide +kernel
theorem d_E_fact_160 : decode k_E_fact 160 = .ok (.getfield 28, 3) := by decide +kernel
theorem d_E_fact_163 : decode k_E_fact 163 = .ok (.getfield 98, 3) := by decide +kernel
theorem d_E_fact_166 : decode k_E_fact 166 = .ok (.ifCond .eq 22, 3) := by decide +kernel
theorem d_E_fact_169 : decode k_E_fact 169 = .ok (.aload_n 0, 1) := by decide +kernel
theorem d_E_fact_170 : decode k_E_fact 170 = .ok (.getfield 28, 3) := by decide +kernel
theorem d_E_fact_173 : decode k_E_fact 173 = .ok (.getfield 343, 3) := by decide +kernel
theorem d_E_fact_176 : decode k_E_fact 176 = .ok (.aload_n 0, 1) := by decide +kernel
theorem d_E_fact_177 : decode k_E_fact 177 = .ok (.getfield 46, 3) := by decide +kernel
theorem d_E_fact_180 : decode k_E_fact 180 = .ok (.getfield 121, 3) := by decide +kernel
theorem d_E_fact_183 : decode k_E_fact 183 = .ok (.lsub, 1) := by decide +kernel
theorem d_E_fact_184 : decode k_E_fact 184 = .ok (.l2i, 1) := by decide +kernel
theorem d_E_fact_185 : decode k_E_fact 185 = .ok (.goto 4, 3) := by decide +kernel
theorem d_E_fact_188 : decode k_E_fact 188 = .ok (.iconst (-1), 1) := by decide +kernel
theorem d_E_fact_189 : decode k_E_fact 189 = .ok (.ireturn, 1) := by decide +kernel
theorem d_E_fact_190 : decode k_E_fact 190 = .ok (.aload_n 0, 1) := by decide +kernel
theorem d_E_fact_191 : decode k_E_fact 191 = .ok (.getfield 35, 3) := by decide +kernel
theorem d_E_fact_194 : decode k_E_fact 194 = .ok (.getfield 309, 3) := by decide +kernel
theorem d_E_fact_197 : decode k_E_fact 197 = .ok (.ireturn, 1) := by decide +kernel
theorem d_E_fact_198 : decode k_E_fact 198 = .ok (.aload_n 0, 1) := by decide +kernel
theorem d_E_fact_199 : decode k_E_fact 199 = .ok (.getfield 28, 3) := by decide +kernel
theorem d_E_fact_202 : decode k_E_fact 202 = .ok (.getfield 346, 3) := by decide +kernel
theorem d_E_fact_205 : decode k_E_fact 205 = .ok (.l2i, 1) := by decide +kernel
theorem d_E_fact_206 : decode k_E_fact 206 = .ok (.ireturn, 1) := by decide +kernel
theorem d_E_fact_207 : decode k_E_fact 207 = .ok (.aload_n 0, 1) := by decide +kernel
theorem d_E_fact_208 : decode k_E_fact 208 = .ok (.getfield 12, 3) := by decide +kernel
theorem d_E_fact_211 : decode k_E_fact 211 = .ok (.invokevirtual 184, 3) := by decide +kernel
theorem d_E_fact_214 : decode k_E_fact 214 = .ok (.ireturn, 1) := by decide +kernel
theorem d_E_fact_215 : decode k_E_fact 215 = .ok (.aload_n 0, 1) := by decide +kernel
theorem d_E_fact_216 : decode k_E_fact 216 = .ok (.getfield 21, 3) := by decide +kernel
theorem d_E_fact_219 : decode k_E_fact 219 = .ok (.getfield 349, 3) := by decide +kernel
theorem d_E_fact_222 : decode k_E_fact 222 = .ok (.ireturn, 1) := by decide +kernel
theorem d_E_fact_223 : decode k_E_fact 223 = .ok (.aload_n 0, 1) := by decide +kernel
theorem d_E_fact_224 : decode k_E_fact 224 = .ok (.getfield 71, 3) := by decide +kernel
theorem d_E_fact_227 : decode k_E_fact 227 = .ok (.ireturn, 1) := by decide +kernel
def b_E_fact_189 (q : Nat) (w0 : Int32) (σ : CS) : Option (Int32 × CS) :=
  some (w0, σ)
def m_E_fact (q : Nat) (v1 : Int32) (σ : CS) : Option (Int32 × CS) :=
  gd (q = 7 ∨ q = 14) <| if v1 = 0 then
  (bd (cI σ q 8) fun x1 => some (x1, σ))
 else (
if v1 = 1 then
  (bd (cI σ q 9) fun x2 => some (x2, σ))
 else (
if v1 = 2 then
  (bd (cI σ (q + 3) 4) fun x3 => some (x3, σ))
 else (
if v1 = 3 then
  (bd (cI σ (q + 1) 2) fun x4 => some (x4, σ))
 else (
if v1 = 4 then
  (bd (cI σ (q + 6) 1) fun x5 => some (x5, σ))
 else (
if v1 = 5 then
  (bd (cI σ (q + 6) 2) fun x6 => some (x6, σ))
 else (
if v1 = 6 then
  (bd (cI σ (q + 5) 0) fun x7 => some (x7, σ))
 else (
if v1 = 7 then
  (bd (cI σ (q + 5) 1) fun x8 => some (x8, σ))
 else (
if v1 = 8 then
  (bd (cI σ (q + 1) 9) fun x9 => some (x9, σ))
 else (
if v1 = 9 then
  (bc2 (m_V_window (q + 3) σ) fun x11 r10 => some (x11, r10))
 else (
if v1 = 10 then
  (bd (cI σ q 10) fun x12 => some (x12, σ))
 else (
if v1 = 11 then
  (bd (cI σ (q + 5) 2) fun x13 => if x13 = 0 then
  (b_E_fact_189 q (-1 : Int32) σ)
 else
  (bd (cJ σ (q + 5) 3) fun x14 => bd (cJ σ 3 0) fun x15 => b_E_fact_189 q (x14 - x15).toInt32 σ))
 else (
if v1 = 12 then
  (bd (cI σ (q + 6) 3) fun x16 => some (x16, σ))
 else (
if v1 = 13 then
  (bd (cJ σ (q + 5) 4) fun x17 => some (x17.toInt32, σ))
 else (
if v1 = 14 then
  (bc2 (m_U_flight (q + 1) σ) fun x19 r18 => some (x19, r18))
 else (
if v1 = 15 then
  (bd (cI σ (q + 3) 5) fun x20 => some (x20, σ))
 else (
bd (cI σ q 11) fun x21 => some (x21, σ)))))))))))))))))
section
variable {p : Program} {l : Launch} {e : Env} {s : State} {m : MethodId} {args : Array Value} {below : List Frame} {meth : Method} {c : Code} {D : va_G} {tc : Nat → ClassId} {b z : Nat} {σ0 : CS}
theorem t_E_fact_189 {q : Nat} (S : CC p m c k_E_fact 2 s args cn_E meth (Option.some Jvm.ClassFile.FieldType.int) D tc b z) (hq : q = 7 ∨ q = 14) (w0 : Int32) (σ : CS) {B : Int32 × CS} (h : b_E_fact_189 q w0 σ = some B) {ls : Array Slot} {H : Heap} {locs : List Loc} {cells slots : Nat} (hl : lv_has ls 2 []) (hW : CWS D tc b z s σ0 σ H locs cells slots) : W p l e (CR 1 20 σ0) s m args below meth c H locs cells slots (CE D tc b z below args s σ0 (some (.int B.1)) B.2) (F0 m 189 ls [.int w0]) := by
  have hx := S.1.1
  have hb := S.1.2.1
  unfold b_E_fact_189 at h
  exact cm_iret S hW d_E_fact_189 h
theorem t_E_fact_0 (S : CC p m c k_E_fact 2 s args cn_E meth (Option.some Jvm.ClassFile.FieldType.int) D tc b z) (q : Nat) (v1 : Int32) (σ : CS) {B : Int32 × CS} (h : m_E_fact q v1 σ = some B) {ls : Array Slot} {H : Heap} {locs : List Loc} {cells slots : Nat} (hl : lv_has ls 2 [(0, .ref (b + q)), (1, .int v1)]) (hW : CWS D tc b z s σ0 σ H locs cells slots) : W p l e (CR 1 20 σ0) s m args below meth c H locs cells slots (CE D tc b z below args s σ0 (some (.int B.1)) B.2) (F0 m 0 ls []) := by
  have hx := S.1.1
  have hb := S.1.2.1
  unfold m_E_fact at h
  obtain ⟨hq, h⟩ := gd_s h
  refine lv_iload_n hx hb d_E_fact_0 rfl (lv_at hl 1 rfl) ?_
  by_cases z0 : v1 = 0
  · rw [if_pos z0] at h
    refine lv_tableIn (tgt := 80) (off := 79) hx hb d_E_fact_1 (by rw [z0]; decide) (by rw [z0]; decide) (by rw [z0]; decide) (by decide) ?_
    refine lv_aload_n hx hb d_E_fact_80 rfl (lv_at hl 0 rfl) ?_
    refine cm_geti kx_E S hW (kE hq) 8 wd_362 (by decide) d_E_fact_81 h (fun x1 h => ?_)
    exact cm_iret S hW d_E_fact_84 h
  rw [if_neg z0] at h
  by_cases z1 : v1 = 1
  · rw [if_pos z1] at h
    refine lv_tableIn (tgt := 85) (off := 84) hx hb d_E_fact_1 (by rw [z1]; decide) (by rw [z1]; decide) (by rw [z1]; decide) (by decide) ?_
    refine lv_aload_n hx hb d_E_fact_85 rfl (lv_at hl 0 rfl) ?_
    refine cm_geti kx_E S hW (kE hq) 9 wd_364 (by decide) d_E_fact_86 h (fun x2 h => ?_)
    exact cm_iret S hW d_E_fact_89 h
  rw [if_neg z1] at h
  by_cases z2 : v1 = 2
  · rw [if_pos z2] at h
    refine lv_tableIn (tgt := 90) (off := 89) hx hb d_E_fact_1 (by rw [z2]; decide) (by rw [z2]; decide) (by rw [z2]; decide) (by decide) ?_
    refine lv_aload_n hx hb d_E_fact_90 rfl (lv_at hl 0 rfl) ?_
    refine cm_getf kx_E S hW (kE hq) 4 (q + 3) rfl wd_355 (by decide) d_E_fact_91 ?_
    refine cm_geti kx_V S hW (kEV hq) 4 wd_260 (by decide) d_E_fact_94 h (fun x3 h => ?_)
    exact cm_iret S hW d_E_fact_97 h
  rw [if_neg z2] at h
  by_cases z3 : v1 = 3
  · rw [if_pos z3] at h
    refine lv_tableIn (tgt := 98) (off := 97) hx hb d_E_fact_1 (by rw [z3]; decide) (by rw [z3]; decide) (by rw [z3]; decide) (by decide) ?_
    refine lv_aload_n hx hb d_E_fact_98 rfl (lv_at hl 0 rfl) ?_
    refine cm_getf kx_E S hW (kE hq) 3 (q + 1) rfl wd_353 (by decide) d_E_fact_99 ?_
    refine cm_geti kx_U S hW (kEU hq) 2 wd_202 (by decide) d_E_fact_102 h (fun x4 h => ?_)
    exact cm_iret S hW d_E_fact_105 h
  rw [if_neg z3] at h
  by_cases z4 : v1 = 4
  · rw [if_pos z4] at h
    refine lv_tableIn (tgt := 106) (off := 105) hx hb d_E_fact_1 (by rw [z4]; decide) (by rw [z4]; decide) (by rw [z4]; decide) (by decide) ?_
    refine lv_aload_n hx hb d_E_fact_106 rfl (lv_at hl 0 rfl) ?_
    refine cm_getf kx_E S hW (kE hq) 6 (q + 6) rfl wd_359 (by decide) d_E_fact_107 ?_
    refine cm_geti kx_O S hW (kEO hq) 1 wd_335 (by decide) d_E_fact_110 h (fun x5 h => ?_)
    exact cm_iret S hW d_E_fact_113 h
  rw [if_neg z4] at h
  by_cases z5 : v1 = 5
  · rw [if_pos z5] at h
    refine lv_tableIn (tgt := 114) (off := 113) hx hb d_E_fact_1 (by rw [z5]; decide) (by rw [z5]; decide) (by rw [z5]; decide) (by decide) ?_
    refine lv_aload_n hx hb d_E_fact_114 rfl (lv_at hl 0 rfl) ?_
    refine cm_getf kx_E S hW (kE hq) 6 (q + 6) rfl wd_359 (by decide) d_E_fact_115 ?_
    refine cm_geti kx_O S hW (kEO hq) 2 wd_337 (by decide) d_E_fact_118 h (fun x6 h => ?_)
    exact cm_iret S hW d_E_fact_121 h
  rw [if_neg z5] at h
  by_cases z6 : v1 = 6
  · rw [if_pos z6] at h
    refine lv_tableIn (tgt := 122) (off := 121) hx hb d_E_fact_1 (by rw [z6]; decide) (by rw [z6]; decide) (by rw [z6]; decide) (by decide) ?_
    refine lv_aload_n hx hb d_E_fact_122 rfl (lv_at hl 0 rfl) ?_
    refine cm_getf kx_E S hW (kE hq) 5 (q + 5) rfl wd_357 (by decide) d_E_fact_123 ?_
    refine cm_geti kx_Z S hW (kEZ hq) 0 wd_291 (by decide) d_E_fact_126 h (fun x7 h => ?_)
    exact cm_iret S hW d_E_fact_129 h
  rw [if_neg z6] at h
  by_cases z7 : v1 = 7
  · rw [if_pos z7] at h
    refine lv_tableIn (tgt := 130) (off := 129) hx hb d_E_fact_1 (by rw [z7]; decide) (by rw [z7]; decide) (by rw [z7]; decide) (by decide) ?_
    refine lv_aload_n hx hb d_E_fact_130 rfl (lv_at hl 0 rfl) ?_
    refine cm_getf kx_E S hW (kE hq) 5 (q + 5) rfl wd_357 (by decide) d_E_fact_131 ?_
    refine cm_geti kx_Z S hW (kEZ hq) 1 wd_293 (by decide) d_E_fact_134 h (fun x8 h => ?_)
    exact cm_iret S hW d_E_fact_137 h
  rw [if_neg z7] at h
  by_cases z8 : v1 = 8
  · rw [if_pos z8] at h
    refine lv_tableIn (tgt := 138) (off := 137) hx hb d_E_fact_1 (by rw [z8]; decide) (by rw [z8]; decide) (by rw [z8]; decide) (by decide) ?_
    refine lv_aload_n hx hb d_E_fact_138 rfl (lv_at hl 0 rfl) ?_
    refine cm_getf kx_E S hW (kE hq) 3 (q + 1) rfl wd_353 (by decide) d_E_fact_139 ?_
    refine cm_geti kx_U S hW (kEU hq) 9 wd_216 (by decide) d_E_fact_142 h (fun x9 h => ?_)
    exact cm_iret S hW d_E_fact_145 h
  rw [if_neg z8] at h
  by_cases z9 : v1 = 9
  · rw [if_pos z9] at h
    refine lv_tableIn (tgt := 146) (off := 145) hx hb d_E_fact_1 (by rw [z9]; decide) (by rw [z9]; decide) (by rw [z9]; decide) (by decide) ?_
    refine lv_aload_n hx hb d_E_fact_146 rfl (lv_at hl 0 rfl) ?_
    refine cm_getf kx_E S hW (kE hq) 4 (q + 3) rfl wd_355 (by decide) d_E_fact_147 ?_
    refine cm_cVi [] kx_V S hW (kEV hq) (fun x σ' hc => c_V_window (q + 3) σ hc) q_V_window wd_562 wd_563 wd_876 (by decide) hl.1 rfl rfl (Nat.le_of_ble_eq_true rfl) d_E_fact_150 h (fun x11 r10 H locs cells slots h hW => ?_)
    exact cm_iret S hW d_E_fact_153 h
  rw [if_neg z9] at h
  by_cases z10 : v1 = 10
  · rw [if_pos z10] at h
    refine lv_tableIn (tgt := 154) (off := 153) hx hb d_E_fact_1 (by rw [z10]; decide) (by rw [z10]; decide) (by rw [z10]; decide) (by decide) ?_
    refine lv_aload_n hx hb d_E_fact_154 rfl (lv_at hl 0 rfl) ?_
    refine cm_geti kx_E S hW (kE hq) 10 wd_366 (by decide) d_E_fact_155 h (fun x12 h => ?_)
    exact cm_iret S hW d_E_fact_158 h
  rw [if_neg z10] at h
  by_cases z11 : v1 = 11
  · rw [if_pos z11] at h
    refine lv_tableIn (tgt := 159) (off := 158) hx hb d_E_fact_1 (by rw [z11]; decide) (by rw [z11]; decide) (by rw [z11]; decide) (by decide) ?_
    refine lv_aload_n hx hb d_E_fact_159 rfl (lv_at hl 0 rfl) ?_
    refine cm_getf kx_E S hW (kE hq) 5 (q + 5) rfl wd_357 (by decide) d_E_fact_160 ?_
    refine cm_geti kx_Z S hW (kEZ hq) 2 wd_295 (by decide) d_E_fact_163 h (fun x13 h => ?_)
    refine rb_eq (tgt := 188) hx hb d_E_fact_166 (by decide) h (fun h => ?_) (fun h => ?_)
    · refine lv_iconst (v := -1) hx hb d_E_fact_188 (by decide) ?_
      exact t_E_fact_189 S hq (-1 : Int32) σ h (lv_sub hl [] rfl) hW
    · refine lv_aload_n hx hb d_E_fact_169 rfl (lv_at hl 0 rfl) ?_
      refine cm_getf kx_E S hW (kE hq) 5 (q + 5) rfl wd_357 (by decide) d_E_fact_170 ?_
      refine cm_getl kx_Z S hW (kEZ hq) 3 wd_299 (by decide) d_E_fact_173 h (fun x14 h => ?_)
      refine lv_aload_n hx hb d_E_fact_176 rfl (lv_at hl 0 rfl) ?_
      refine cm_getf kx_E S hW (kE hq) 1 (3) rfl wd_351 (by decide) d_E_fact_177 ?_
      refine cm_getl kx_C S hW rfl 0 wd_136 (by decide) d_E_fact_180 h (fun x15 h => ?_)
      refine lv_lsub hx hb d_E_fact_183 ?_
      refine lv_l2i hx hb d_E_fact_184 rfl ?_
      refine lv_goto (tgt := 189) hx hb d_E_fact_185 (by decide) ?_
      exact t_E_fact_189 S hq (x14 - x15).toInt32 σ h (lv_sub hl [] rfl) hW
  rw [if_neg z11] at h
  by_cases z12 : v1 = 12
  · rw [if_pos z12] at h
    refine lv_tableIn (tgt := 190) (off := 189) hx hb d_E_fact_1 (by rw [z12]; decide) (by rw [z12]; decide) (by rw [z12]; decide) (by decide) ?_
    refine lv_aload_n hx hb d_E_fact_190 rfl (lv_at hl 0 rfl) ?_
    refine cm_getf kx_E S hW (kE hq) 6 (q + 6) rfl wd_359 (by decide) d_E_fact_191 ?_
    refine cm_geti kx_O S hW (kEO hq) 3 wd_339 (by decide) d_E_fact_194 h (fun x16 h => ?_)
    exact cm_iret S hW d_E_fact_197 h
  rw [if_neg z12] at h
  by_cases z13 : v1 = 13
  · rw [if_pos z13] at h
    refine lv_tableIn (tgt := 198) (off := 197) hx hb d_E_fact_1 (by rw [z13]; decide) (by rw [z13]; decide) (by rw [z13]; decide) (by decide) ?_
    refine lv_aload_n hx hb d_E_fact_198 rfl (lv_at hl 0 rfl) ?_
    refine cm_getf kx_E S hW (kE hq) 5 (q + 5) rfl wd_357 (by decide) d_E_fact_199 ?_
    refine cm_getl kx_Z S hW (kEZ hq) 4 wd_301 (by decide) d_E_fact_202 h (fun x17 h => ?_)
    refine lv_l2i hx hb d_E_fact_205 rfl ?_
    exact cm_iret S hW d_E_fact_206 h
  rw [if_neg z13] at h
  by_cases z14 : v1 = 14
  · rw [if_pos z14] at h
    refine lv_tableIn (tgt := 207) (off := 206) hx hb d_E_fact_1 (by rw [z14]; decide) (by rw [z14]; decide) (by rw [z14]; decide) (by decide) ?_
    refine lv_aload_n hx hb d_E_fact_207 rfl (lv_at hl 0 rfl) ?_
    refine cm_getf kx_E S hW (kE hq) 3 (q + 1) rfl wd_353 (by decide) d_E_fact_208 ?_
    refine cm_cVi [] kx_U S hW (kEU hq) (fun x σ' hc => c_U_flight (q + 1) σ hc) q_U_flight wd_849 wd_850 wd_848 (by decide) hl.1 rfl rfl (Nat.le_of_ble_eq_true rfl) d_E_fact_211 h (fun x19 r18 H locs cells slots h hW => ?_)
    exact cm_iret S hW d_E_fact_214 h
  rw [if_neg z14] at h
  by_cases z15 : v1 = 15
  · rw [if_pos z15] at h
    refine lv_tableIn (tgt := 215) (off := 214) hx hb d_E_fact_1 (by rw [z15]; decide) (by rw [z15]; decide) (by rw [z15]; decide) (by decide) ?_
    refine lv_aload_n hx hb d_E_fact_215 rfl (lv_at hl 0 rfl) ?_
    refine cm_getf kx_E S hW (kE hq) 4 (q + 3) rfl wd_355 (by decide) d_E_fact_216 ?_
    refine cm_geti kx_V S hW (kEV hq) 5 wd_262 (by decide) d_E_fact_219 h (fun x20 h => ?_)
    exact cm_iret S hW d_E_fact_222 h
  rw [if_neg z15] at h
  refine lv_tableOut (tgt := 223) hx hb d_E_fact_1 (tab_out 0 15 (fun k h1 h2 hk => ?_)) (by decide) ?_
  · have hq : k = 0 ∨ k = 1 ∨ k = 2 ∨ k = 3 ∨ k = 4 ∨ k = 5 ∨ k = 6 ∨ k = 7 ∨ k = 8 ∨ k = 9 ∨ k = 10 ∨ k = 11 ∨ k = 12 ∨ k = 13 ∨ k = 14 ∨ k = 15 := by omega
    rcases hq with rfl | rfl | rfl | rfl | rfl | rfl | rfl | rfl | rfl | rfl | rfl | rfl | rfl | rfl | rfl | rfl
    · exact z0 (Int32.toInt_inj.mp (hk.trans (by decide)))
    · exact z1 (Int32.toInt_inj.mp (hk.trans (by decide)))
    · exact z2 (Int32.toInt_inj.mp (hk.trans (by decide)))
    · exact z3 (Int32.toInt_inj.mp (hk.trans (by decide)))
    · exact z4 (Int32.toInt_inj.mp (hk.trans (by decide)))
    · exact z5 (Int32.toInt_inj.mp (hk.trans (by decide)))
    · exact z6 (Int32.toInt_inj.mp (hk.trans (by decide)))
    · exact z7 (Int32.toInt_inj.mp (hk.trans (by decide)))
    · exact z8 (Int32.toInt_inj.mp (hk.trans (by decide)))
    · exact z9 (Int32.toInt_inj.mp (hk.trans (by decide)))
    · exact z10 (Int32.toInt_inj.mp (hk.trans (by decide)))
    · exact z11 (Int32.toInt_inj.mp (hk.trans (by decide)))
    · exact z12 (Int32.toInt_inj.mp (hk.trans (by decide)))
    · exact z13 (Int32.toInt_inj.mp (hk.trans (by decide)))
    · exact z14 (Int32.toInt_inj.mp (hk.trans (by decide)))
    · exact z15 (Int32.toInt_inj.mp (hk.trans (by decide)))
  refine lv_aload_n hx hb d_E_fact_223 rfl (lv_at hl 0 rfl) ?_
  refine cm_geti kx_E S hW (kE hq) 11 wd_367 (by decide) d_E_fact_224 h (fun x21 h => ?_)
  exact cm_iret S hW d_E_fact_227 h
theorem c_E_fact (q : Nat) (v1 : Int32) (σ : CS) {x : Int32} {σ' : CS} (h : m_E_fact q v1 σ = some (x, σ')) : CMet l D tc b z y_E_fact k_E_fact 2 (Option.some Jvm.ClassFile.FieldType.int) 1 20 [.ref (b + q), .int v1] σ (some (.int x)) σ' := cm_met (by decide) (Nat.le_of_ble_eq_true rfl) fun p e s m args below meth c S hW ls hl => t_E_fact_0 S q v1 σ h hl hW
end

