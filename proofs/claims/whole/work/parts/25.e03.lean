/-! StreamPair$End.heedInListen (LStreamPair$Segment;)I -/
abbrev k_E_heedInListen : ByteArray := prog_5_method_21_code
abbrev y_E_heedInListen : MethodName := ⟨cn_E, "heedInListen", "(LStreamPair$Segment;)I"⟩
theorem q_E_heedInListen : Calee y_E_heedInListen k_E_heedInListen 2 (Option.some Jvm.ClassFile.FieldType.int) 1 := ⟨wd_992, wd_85, by decide, by decide +kernel⟩
theorem d_E_heedInListen_0 : decode k_E_heedInListen 0 = .ok (.aload_n 1, 1) := by decide +kernel
theorem d_E_heedInListen_1 : decode k_E_heedInListen 1 = .ok (.iconst 4, 1) := by decide +kernel
theorem d_E_heedInListen_2 : decode k_E_heedInListen 2 = .ok (.invokevirtual 244, 3) := by decide +kernel
theorem d_E_heedInListen_5 : decode k_E_heedInListen 5 = .ok (.ifCond .eq 5, 3) := by decide +kernel
theorem d_E_heedInListen_8 : decode k_E_heedInListen 8 = .ok (.iconst 0, 1) := by decide +kernel
theorem d_E_heedInListen_9 : decode k_E_heedInListen 9 = .ok (.ireturn, 1) := by decide +kernel
theorem d_E_heedInListen_10 : decode k_E_heedInListen 10 = .ok (.aload_n 1, 1) := by decide +kernel
theorem d_E_heedInListen_11 : decode k_E_heedInListen 11 = .ok (.bipush 16, 2) := by decide +kernel
theorem d_E_heedInListen_13 : decode k_E_heedInListen 13 = .ok (.invokevirtual 244, 3) := by decide +kernel
theorem d_E_heedInListen_16 : decode k_E_heedInListen 16 = .ok (.ifCond .eq 5, 3) := by decide +kernel
theorem d_E_heedInListen_19 : decode k_E_heedInListen 19 = .ok (.iconst 1, 1) := by decide +kernel
theorem d_E_heedInListen_20 : decode k_E_heedInListen 20 = .ok (.ireturn, 1) := by decide +kernel
theorem d_E_heedInListen_21 : decode k_E_heedInListen 21 = .ok (.aload_n 1, 1) := by decide +kernel
theorem d_E_heedInListen_22 : decode k_E_heedInListen 22 = .ok (.iconst 2, 1) := by decide +kernel
theorem d_E_heedInListen_23 : decode k_E_heedInListen 23 = .ok (.invokevirtual 244, 3) := by decide +kernel
theorem d_E_heedInListen_26 : decode k_E_heedInListen 26 = .ok (.ifCond .ne 5, 3) := by decide +kernel
theorem d_E_heedInListen_29 : decode k_E_heedInListen 29 = .ok (.iconst 0, 1) := by decide +kernel
theorem d_E_heedInListen_30 : decode k_E_heedInListen 30 = .ok (.ireturn, 1) := by decide +kernel
theorem d_E_heedInListen_31 : decode k_E_heedInListen 31 = .ok (.aload_n 0, 1) := by decide +kernel
theorem d_E_heedInListen_32 : decode k_E_heedInListen 32 = .ok (.aload_n 1, 1) := by decide +kernel
theorem d_E_heedInListen_33 : decode k_E_heedInListen 33 = .ok (.invokevirtual 257, 3) := by decide +kernel
theorem d_E_heedInListen_36 : decode k_E_heedInListen 36 = .ok (.aload_n 0, 1) := by decide +kernel
theorem d_E_heedInListen_37 : decode k_E_heedInListen 37 = .ok (.iconst 3, 1) := by decide +kernel
theorem d_E_heedInListen_38 : decode k_E_heedInListen 38 = .ok (.putfield 54, 3) := by decide +kernel
theorem d_E_heedInListen_41 : decode k_E_heedInListen 41 = .ok (.iconst 3, 1) := by decide +kernel
theorem d_E_heedInListen_42 : decode k_E_heedInListen 42 = .ok (.ireturn, 1) := by decide +kernel
def m_E_heedInListen (q : Nat) (v1 : Nat) (σ : CS) : Option (Int32 × CS) :=
  gd (q = 7 ∨ q = 14) <| gd (kd σ v1 = 11) <| bc2 (m_G_has v1 (4 : Int32) σ) fun x2 r1 => if x2 = 0 then
  (gd (kd r1 v1 = 11) <| bc2 (m_G_has v1 (16 : Int32) r1) fun x4 r3 => if x4 = 0 then
  (gd (kd r3 v1 = 11) <| bc2 (m_G_has v1 (2 : Int32) r3) fun x6 r5 => if x6 = 0 then
  (some ((0 : Int32), r5))
 else
  (bc (m_E_heedSyn q v1 r5) fun r7 => bd (wi r7 q 8 (3 : Int32)) fun r8 => some ((3 : Int32), r8)))
 else
  (some ((1 : Int32), r3)))
 else
  (some ((0 : Int32), r1))
section
variable {p : Program} {l : Launch} {e : Env} {s : State} {m : MethodId} {args : Array Value} {below : List Frame} {meth : Method} {c : Code} {D : va_G} {tc : Nat → ClassId} {b z : Nat} {σ0 : CS}
theorem t_E_heedInListen_0 (S : CC p m c k_E_heedInListen 2 s args cn_E meth (Option.some Jvm.ClassFile.FieldType.int) D tc b z) (q : Nat) (v1 : Nat) (σ : CS) {B : Int32 × CS} (h : m_E_heedInListen q v1 σ = some B) {ls : Array Slot} {H : Heap} {locs : List Loc} {cells slots : Nat} (hl : lv_has ls 2 [(0, .ref (b + q)), (1, .ref (b + v1))]) (hW : CWS D tc b z s σ0 σ H locs cells slots) : W p l e (CR 4 90 σ0) s m args below meth c H locs cells slots (CE D tc b z below args s σ0 (some (.int B.1)) B.2) (F0 m 0 ls []) := by
  have hx := S.1.1
  have hb := S.1.2.1
  unfold m_E_heedInListen at h
  obtain ⟨hq, h⟩ := gd_s h
  refine lv_aload_n hx hb d_E_heedInListen_0 rfl (lv_at hl 1 rfl) ?_
  refine lv_iconst (v := 4) hx hb d_E_heedInListen_1 (by decide) ?_
  obtain ⟨hg, h⟩ := gd_s h
  refine cm_cVi [.int (4 : Int32)] kx_G S hW hg (fun x σ' hc => c_G_has v1 (4 : Int32) σ hc) q_G_has wd_994 wd_995 wd_993 (by decide) hl.1 rfl rfl (Nat.le_of_ble_eq_true rfl) d_E_heedInListen_2 h (fun x2 r1 H locs cells slots h hW => ?_)
  refine rb_eq (tgt := 10) hx hb d_E_heedInListen_5 (by decide) h (fun h => ?_) (fun h => ?_)
  · refine lv_aload_n hx hb d_E_heedInListen_10 rfl (lv_at hl 1 rfl) ?_
    refine lv_bipush (v := 16) hx hb d_E_heedInListen_11 (by decide) ?_
    obtain ⟨hg, h⟩ := gd_s h
    refine cm_cVi [.int (16 : Int32)] kx_G S hW hg (fun x σ' hc => c_G_has v1 (16 : Int32) r1 hc) q_G_has wd_994 wd_995 wd_993 (by decide) hl.1 rfl rfl (Nat.le_of_ble_eq_true rfl) d_E_heedInListen_13 h (fun x4 r3 H locs cells slots h hW => ?_)
    refine rb_eq (tgt := 21) hx hb d_E_heedInListen_16 (by decide) h (fun h => ?_) (fun h => ?_)
    · refine lv_aload_n hx hb d_E_heedInListen_21 rfl (lv_at hl 1 rfl) ?_
      refine lv_iconst (v := 2) hx hb d_E_heedInListen_22 (by decide) ?_
      obtain ⟨hg, h⟩ := gd_s h
      refine cm_cVi [.int (2 : Int32)] kx_G S hW hg (fun x σ' hc => c_G_has v1 (2 : Int32) r3 hc) q_G_has wd_994 wd_995 wd_993 (by decide) hl.1 rfl rfl (Nat.le_of_ble_eq_true rfl) d_E_heedInListen_23 h (fun x6 r5 H locs cells slots h hW => ?_)
      refine rb_ne (tgt := 31) hx hb d_E_heedInListen_26 (by decide) h (fun h => ?_) (fun h => ?_)
      · refine lv_aload_n hx hb d_E_heedInListen_31 rfl (lv_at hl 0 rfl) ?_
        refine lv_aload_n hx hb d_E_heedInListen_32 rfl (lv_at hl 1 rfl) ?_
        refine cm_cVv [.ref (b + v1)] kx_E S hW (kE hq) (fun σ' hc => c_E_heedSyn q v1 r5 hc) q_E_heedSyn wd_999 wd_20 wd_997 (by decide) hl.1 rfl rfl (Nat.le_of_ble_eq_true rfl) d_E_heedInListen_33 h (fun r7 H locs cells slots h hW => ?_)
        refine lv_aload_n hx hb d_E_heedInListen_36 rfl (lv_at hl 0 rfl) ?_
        refine lv_iconst (v := 3) hx hb d_E_heedInListen_37 (by decide) ?_
        refine cm_puti kx_E S hW (kE hq) 8 wd_362 (by decide) d_E_heedInListen_38 h (fun r8 H locs h hW => ?_)
        refine lv_iconst (v := 3) hx hb d_E_heedInListen_41 (by decide) ?_
        exact cm_iret S hW d_E_heedInListen_42 h
      · refine lv_iconst (v := 0) hx hb d_E_heedInListen_29 (by decide) ?_
        exact cm_iret S hW d_E_heedInListen_30 h
    · refine lv_iconst (v := 1) hx hb d_E_heedInListen_19 (by decide) ?_
      exact cm_iret S hW d_E_heedInListen_20 h
  · refine lv_iconst (v := 0) hx hb d_E_heedInListen_8 (by decide) ?_
    exact cm_iret S hW d_E_heedInListen_9 h
theorem c_E_heedInListen (q : Nat) (v1 : Nat) (σ : CS) {x : Int32} {σ' : CS} (h : m_E_heedInListen q v1 σ = some (x, σ')) : CMet l D tc b z y_E_heedInListen k_E_heedInListen 2 (Option.some Jvm.ClassFile.FieldType.int) 4 90 [.ref (b + q), .ref (b + v1)] σ (some (.int x)) σ' := cm_met (by decide) (Nat.le_of_ble_eq_true rfl) fun p e s m args below meth c S hW ls hl => t_E_heedInListen_0 S q v1 σ h hl hW
end

/-! StreamPair$End.heedInSynSent (LStreamPair$Segment;)I -/
abbrev k_E_heedInSynSent : ByteArray := prog_5_method_23_code
abbrev y_E_heedInSynSent : MethodName := ⟨cn_E, "heedInSynSent", "(LStreamPair$Segment;)I"⟩
theorem q_E_heedInSynSent : Calee y_E_heedInSynSent k_E_heedInSynSent 3 (Option.some Jvm.ClassFile.FieldType.int) 1 := ⟨wd_1035, wd_85, by decide, by decide +kernel⟩
theorem d_E_heedInSynSent_0 : decode k_E_heedInSynSent 0 = .ok (.aload_n 1, 1) := by decide +kernel
theorem d_E_heedInSynSent_1 : decode k_E_heedInSynSent 1 = .ok (.bipush 16, 2) := by decide +kernel
theorem d_E_heedInSynSent_3 : decode k_E_heedInSynSent 3 = .ok (.invokevirtual 244, 3) := by decide +kernel
theorem d_E_heedInSynSent_6 : decode k_E_heedInSynSent 6 = .ok (.istore_n 2, 1) := by decide +kernel
theorem d_E_heedInSynSent_7 : decode k_E_heedInSynSent 7 = .ok (.iload_n 2, 1) := by decide +kernel
theorem d_E_heedInSynSent_8 : decode k_E_heedInSynSent 8 = .ok (.ifCond .eq 21, 3) := by decide +kernel
theorem d_E_heedInSynSent_11 : decode k_E_heedInSynSent 11 = .ok (.aload_n 1, 1) := by decide +kernel
theorem d_E_heedInSynSent_12 : decode k_E_heedInSynSent 12 = .ok (.invokevirtual 248, 3) := by decide +kernel
theorem d_E_heedInSynSent_15 : decode k_E_heedInSynSent 15 = .ok (.aload_n 0, 1) := by decide +kernel
theorem d_E_heedInSynSent_16 : decode k_E_heedInSynSent 16 = .ok (.getfield 12, 3) := by decide +kernel
theorem d_E_heedInSynSent_19 : decode k_E_heedInSynSent 19 = .ok (.getfield 208, 3) := by decide +kernel
theorem d_E_heedInSynSent_22 : decode k_E_heedInSynSent 22 = .ok (.iconst 1, 1) := by decide +kernel
theorem d_E_heedInSynSent_23 : decode k_E_heedInSynSent 23 = .ok (.iadd, 1) := by decide +kernel
theorem d_E_heedInSynSent_24 : decode k_E_heedInSynSent 24 = .ok (.if_icmp .eq 5, 3) := by decide +kernel
theorem d_E_heedInSynSent_27 : decode k_E_heedInSynSent 27 = .ok (.iconst 1, 1) := by decide +kernel
theorem d_E_heedInSynSent_28 : decode k_E_heedInSynSent 28 = .ok (.ireturn, 1) := by decide +kernel
theorem d_E_heedInSynSent_29 : decode k_E_heedInSynSent 29 = .ok (.aload_n 1, 1) := by decide +kernel
theorem d_E_heedInSynSent_30 : decode k_E_heedInSynSent 30 = .ok (.iconst 4, 1) := by decide +kernel
theorem d_E_heedInSynSent_31 : decode k_E_heedInSynSent 31 = .ok (.invokevirtual 244, 3) := by decide +kernel
theorem d_E_heedInSynSent_34 : decode k_E_heedInSynSent 34 = .ok (.ifCond .eq 14, 3) := by decide +kernel
theorem d_E_heedInSynSent_37 : decode k_E_heedInSynSent 37 = .ok (.iload_n 2, 1) := by decide +kernel
theorem d_E_heedInSynSent_38 : decode k_E_heedInSynSent 38 = .ok (.ifCond .eq 8, 3) := by decide +kernel
theorem d_E_heedInSynSent_41 : decode k_E_heedInSynSent 41 = .ok (.aload_n 0, 1) := by decide +kernel
theorem d_E_heedInSynSent_42 : decode k_E_heedInSynSent 42 = .ok (.iconst 1, 1) := by decide +kernel
theorem d_E_heedInSynSent_43 : decode k_E_heedInSynSent 43 = .ok (.invokevirtual 80, 3) := by decide +kernel
theorem d_E_heedInSynSent_46 : decode k_E_heedInSynSent 46 = .ok (.iconst 0, 1) := by decide +kernel
theorem d_E_heedInSynSent_47 : decode k_E_heedInSynSent 47 = .ok (.ireturn, 1) := by decide +kernel
theorem d_E_heedInSynSent_48 : decode k_E_heedInSynSent 48 = .ok (.iload_n 2, 1) := by decide +kernel
theorem d_E_heedInSynSent_49 : decode k_E_heedInSynSent 49 = .ok (.ifCond .eq 11, 3) := by decide +kernel
theorem d_E_heedInSynSent_52 : decode k_E_heedInSynSent 52 = .ok (.aload_n 1, 1) := by decide +kernel
theorem d_E_heedInSynSent_53 : decode k_E_heedInSynSent 53 = .ok (.iconst 2, 1) := by decide +kernel
theorem d_E_heedInSynSent_54 : decode k_E_heedInSynSent 54 = .ok (.invokevirtual 244, 3) := by decide +kernel
theorem d_E_heedInSynSent_57 : decode k_E_heedInSynSent 57 = .ok (.ifCond .ne 5, 3) := by decide +kernel
theorem d_E_heedInSynSent_60 : decode k_E_heedInSynSent 60 = .ok (.iconst 0, 1) := by decide +kernel
theorem d_E_heedInSynSent_61 : decode k_E_heedInSynSent 61 = .ok (.ireturn, 1) := by decide +kernel
theorem d_E_heedInSynSent_62 : decode k_E_heedInSynSent 62 = .ok (.aload_n 0, 1) := by decide +kernel
theorem d_E_heedInSynSent_63 : decode k_E_heedInSynSent 63 = .ok (.getfield 12, 3) := by decide +kernel
theorem d_E_heedInSynSent_66 : decode k_E_heedInSynSent 66 = .ok (.aload_n 1, 1) := by decide +kernel
theorem d_E_heedInSynSent_67 : decode k_E_heedInSynSent 67 = .ok (.invokevirtual 248, 3) := by decide +kernel
theorem d_E_heedInSynSent_70 : decode k_E_heedInSynSent 70 = .ok (.invokevirtual 271, 3) := by decide +kernel
theorem d_E_heedInSynSent_73 : decode k_E_heedInSynSent 73 = .ok (.aload_n 0, 1) := by decide +kernel
theorem d_E_heedInSynSent_74 : decode k_E_heedInSynSent 74 = .ok (.aload_n 1, 1) := by decide +kernel
theorem d_E_heedInSynSent_75 : decode k_E_heedInSynSent 75 = .ok (.invokevirtual 257, 3) := by decide +kernel
theorem d_E_heedInSynSent_78 : decode k_E_heedInSynSent 78 = .ok (.aload_n 0, 1) := by decide +kernel
theorem d_E_heedInSynSent_79 : decode k_E_heedInSynSent 79 = .ok (.getfield 28, 3) := by decide +kernel
theorem d_E_heedInSynSent_82 : decode k_E_heedInSynSent 82 = .ok (.iconst 0, 1) := by decide +kernel
theorem d_E_heedInSynSent_83 : decode k_E_heedInSynSent 83 = .ok (.putfield 98, 3) := by decide +kernel
theorem d_E_heedInSynSent_86 : decode k_E_heedInSynSent 86 = .ok (.aload_n 0, 1) := by decide +kernel
theorem d_E_heedInSynSent_87 : decode k_E_heedInSynSent 87 = .ok (.getfield 28, 3) := by decide +kernel
theorem d_E_heedInSynSent_90 : decode k_E_heedInSynSent 90 = .ok (.aload_n 1, 1) := by decide +kernel
theorem d_E_heedInSynSent_91 : decode k_E_heedInSynSent 91 = .ok (.invokevirtual 248, 3) := by decide +kernel
theorem d_E_heedInSynSent_94 : decode k_E_heedInSynSent 94 = .ok (.aload_n 0, 1) := by decide +kernel
theorem d_E_heedInSynSent_95 : decode k_E_heedInSynSent 95 = .ok (.getfield 46, 3) := by decide +kernel
theorem d_E_heedInSynSent_98 : decode k_E_heedInSynSent 98 = .ok (.getfield 121, 3) := by decide +kernel
theorem d_E_heedInSynSent_101 : decode k_E_heedInSynSent 101 = .ok (.invokevirtual 274, 3) := by decide +kernel
theorem d_E_heedInSynSent_104 : decode k_E_heedInSynSent 104 = .ok (.aload_n 0, 1) := by decide +kernel
theorem d_E_heedInSynSent_105 : decode k_E_heedInSynSent 105 = .ok (.getfield 28, 3) := by decide +kernel
theorem d_E_heedInSynSent_108 : decode k_E_heedInSynSent 108 = .ok (.iconst 0, 1) := by decide +kernel
theorem d_E_heedInSynSent_109 : decode k_E_heedInSynSent 109 = .ok (.putfield 202, 3) := by decide +kernel
theorem d_E_heedInSynSent_112 : decode k_E_heedInSynSent 112 = .ok (.aload_n 0, 1) := by decide +kernel
theorem d_E_heedInSynSent_113 : decode k_E_heedInSynSent 113 = .ok (.iconst 4, 1) := by decide +kernel
theorem d_E_heedInSynSent_114 : decode k_E_heedInSynSent 114 = .ok (.putfield 54, 3) := by decide +kernel
theorem d_E_heedInSynSent_117 : decode k_E_heedInSynSent 117 = .ok (.iconst 5, 1) := by decide +kernel
theorem d_E_heedInSynSent_118 : decode k_E_heedInSynSent 118 = .ok (.ireturn, 1) := by decide +kernel
def b_E_heedInSynSent_60 (q : Nat) (σ : CS) : Option (Int32 × CS) :=
  some ((0 : Int32), σ)
def b_E_heedInSynSent_46 (q : Nat) (σ : CS) : Option (Int32 × CS) :=
  some ((0 : Int32), σ)
def b_E_heedInSynSent_29 (q : Nat) (v1 : Nat) (v2 : Int32) (σ : CS) : Option (Int32 × CS) :=
  gd (kd σ v1 = 11) <| bc2 (m_G_has v1 (4 : Int32) σ) fun x2 r1 => if x2 = 0 then
  (if v2 = 0 then
  (b_E_heedInSynSent_60 q  r1)
 else
  (gd (kd r1 v1 = 11) <| bc2 (m_G_has v1 (2 : Int32) r1) fun x4 r3 => if x4 = 0 then
  (b_E_heedInSynSent_60 q  r3)
 else
  (gd (kd r3 v1 = 11) <| bc2 (m_G_ack v1 r3) fun x6 r5 => bc (m_U_acknowledge (q + 1) x6 r5) fun r7 => bc (m_E_heedSyn q v1 r7) fun r8 => gd ((0 : Int32) = 0 ∨ (0 : Int32) = 1) <| bd (wi r8 (q + 5) 2 (0 : Int32)) fun r9 => gd (kd r9 v1 = 11) <| bc2 (m_G_ack v1 r9) fun x11 r10 => bd (cJ r10 3 0) fun x12 => bc (m_Z_heedAck (q + 5) x11 x12 r10) fun r13 => bd (wi r13 (q + 5) 1 (0 : Int32)) fun r14 => bd (wi r14 q 8 (4 : Int32)) fun r15 => some ((5 : Int32), r15))))
 else
  (if v2 = 0 then
  (b_E_heedInSynSent_46 q  r1)
 else
  (bc (m_E_shut q (1 : Int32) r1) fun r16 => b_E_heedInSynSent_46 q  r16))
def m_E_heedInSynSent (q : Nat) (v1 : Nat) (σ : CS) : Option (Int32 × CS) :=
  gd (q = 7 ∨ q = 14) <| gd (kd σ v1 = 11) <| bc2 (m_G_has v1 (16 : Int32) σ) fun x2 r1 => if x2 = 0 then
  (b_E_heedInSynSent_29 q v1 x2 r1)
 else
  (gd (kd r1 v1 = 11) <| bc2 (m_G_ack v1 r1) fun x4 r3 => bd (cI r3 (q + 1) 3) fun x5 => if x4 = (x5 + (1 : Int32)) then
  (b_E_heedInSynSent_29 q v1 x2 r3)
 else
  (some ((1 : Int32), r3)))
section
variable {p : Program} {l : Launch} {e : Env} {s : State} {m : MethodId} {args : Array Value} {below : List Frame} {meth : Method} {c : Code} {D : va_G} {tc : Nat → ClassId} {b z : Nat} {σ0 : CS}
theorem t_E_heedInSynSent_60 {q : Nat} (S : CC p m c k_E_heedInSynSent 3 s args cn_E meth (Option.some Jvm.ClassFile.FieldType.int) D tc b z) (hq : q = 7 ∨ q = 14) (σ : CS) {B : Int32 × CS} (h : b_E_heedInSynSent_60 q  σ = some B) {ls : Array Slot} {H : Heap} {locs : List Loc} {cells slots : Nat} (hl : lv_has ls 3 []) (hW : CWS D tc b z s σ0 σ H locs cells slots) : W p l e (CR 4 90 σ0) s m args below meth c H locs cells slots (CE D tc b z below args s σ0 (some (.int B.1)) B.2) (F0 m 60 ls []) := by
  have hx := S.1.1
  have hb := S.1.2.1
  unfold b_E_heedInSynSent_60 at h
  refine lv_iconst (v := 0) hx hb d_E_heedInSynSent_60 (by decide) ?_
  exact cm_iret S hW d_E_heedInSynSent_61 h
theorem t_E_heedInSynSent_46 {q : Nat} (S : CC p m c k_E_heedInSynSent 3 s args cn_E meth (Option.some Jvm.ClassFile.FieldType.int) D tc b z) (hq : q = 7 ∨ q = 14) (σ : CS) {B : Int32 × CS} (h : b_E_heedInSynSent_46 q  σ = some B) {ls : Array Slot} {H : Heap} {locs : List Loc} {cells slots : Nat} (hl : lv_has ls 3 []) (hW : CWS D tc b z s σ0 σ H locs cells slots) : W p l e (CR 4 90 σ0) s m args below meth c H locs cells slots (CE D tc b z below args s σ0 (some (.int B.1)) B.2) (F0 m 46 ls []) := by
  have hx := S.1.1
  have hb := S.1.2.1
  unfold b_E_heedInSynSent_46 at h
  refine lv_iconst (v := 0) hx hb d_E_heedInSynSent_46 (by decide) ?_
  exact cm_iret S hW d_E_heedInSynSent_47 h
theorem t_E_heedInSynSent_29 {q : Nat} (S : CC p m c k_E_heedInSynSent 3 s args cn_E meth (Option.some Jvm.ClassFile.FieldType.int) D tc b z) (hq : q = 7 ∨ q = 14) (v1 : Nat) (v2 : Int32) (σ : CS) {B : Int32 × CS} (h : b_E_heedInSynSent_29 q v1 v2 σ = some B) {ls : Array Slot} {H : Heap} {locs : List Loc} {cells slots : Nat} (hl : lv_has ls 3 [(0, .ref (b + q)), (1, .ref (b + v1)), (2, .int v2)]) (hW : CWS D tc b z s σ0 σ H locs cells slots) : W p l e (CR 4 90 σ0) s m args below meth c H locs cells slots (CE D tc b z below args s σ0 (some (.int B.1)) B.2) (F0 m 29 ls []) := by
  have hx := S.1.1
  have hb := S.1.2.1
  unfold b_E_heedInSynSent_29 at h
  refine lv_aload_n hx hb d_E_heedInSynSent_29 rfl (lv_at hl 1 rfl) ?_
  refine lv_iconst (v := 4) hx hb d_E_heedInSynSent_30 (by decide) ?_
  obtain ⟨hg, h⟩ := gd_s h
  refine cm_cVi [.int (4 : Int32)] kx_G S hW hg (fun x σ' hc => c_G_has v1 (4 : Int32) σ hc) q_G_has wd_994 wd_995 wd_993 (by decide) hl.1 rfl rfl (Nat.le_of_ble_eq_true rfl) d_E_heedInSynSent_31 h (fun x2 r1 H locs cells slots h hW => ?_)
  refine rb_eq (tgt := 48) hx hb d_E_heedInSynSent_34 (by decide) h (fun h => ?_) (fun h => ?_)
  · refine lv_iload_n hx hb d_E_heedInSynSent_48 rfl (lv_at hl 2 rfl) ?_
    refine rb_eq (tgt := 60) hx hb d_E_heedInSynSent_49 (by decide) h (fun h => ?_) (fun h => ?_)
    · exact t_E_heedInSynSent_60 S hq  r1 h (lv_sub hl [] rfl) hW
    · refine lv_aload_n hx hb d_E_heedInSynSent_52 rfl (lv_at hl 1 rfl) ?_
      refine lv_iconst (v := 2) hx hb d_E_heedInSynSent_53 (by decide) ?_
      obtain ⟨hg, h⟩ := gd_s h
      refine cm_cVi [.int (2 : Int32)] kx_G S hW hg (fun x σ' hc => c_G_has v1 (2 : Int32) r1 hc) q_G_has wd_994 wd_995 wd_993 (by decide) hl.1 rfl rfl (Nat.le_of_ble_eq_true rfl) d_E_heedInSynSent_54 h (fun x4 r3 H locs cells slots h hW => ?_)
      refine rb_ne (tgt := 62) hx hb d_E_heedInSynSent_57 (by decide) h (fun h => ?_) (fun h => ?_)
      · refine lv_aload_n hx hb d_E_heedInSynSent_62 rfl (lv_at hl 0 rfl) ?_
        refine cm_getf kx_E S hW (kE hq) 3 (q + 1) rfl wd_353 (by decide) d_E_heedInSynSent_63 ?_
        refine lv_aload_n hx hb d_E_heedInSynSent_66 rfl (lv_at hl 1 rfl) ?_
        obtain ⟨hg, h⟩ := gd_s h
        refine cm_cVi [] kx_G S hW hg (fun x σ' hc => c_G_ack v1 r3 hc) q_G_ack wd_1019 wd_1020 wd_1036 (by decide) hl.1 rfl rfl (Nat.le_of_ble_eq_true rfl) d_E_heedInSynSent_67 h (fun x6 r5 H locs cells slots h hW => ?_)
        refine cm_cVv [.int x6] kx_U S hW (kEU hq) (fun σ' hc => c_U_acknowledge (q + 1) x6 r5 hc) q_U_acknowledge wd_1038 wd_1039 wd_1037 (by decide) hl.1 rfl rfl (Nat.le_of_ble_eq_true rfl) d_E_heedInSynSent_70 h (fun r7 H locs cells slots h hW => ?_)
        refine lv_aload_n hx hb d_E_heedInSynSent_73 rfl (lv_at hl 0 rfl) ?_
        refine lv_aload_n hx hb d_E_heedInSynSent_74 rfl (lv_at hl 1 rfl) ?_
        refine cm_cVv [.ref (b + v1)] kx_E S hW (kE hq) (fun σ' hc => c_E_heedSyn q v1 r7 hc) q_E_heedSyn wd_999 wd_20 wd_997 (by decide) hl.1 rfl rfl (Nat.le_of_ble_eq_true rfl) d_E_heedInSynSent_75 h (fun r8 H locs cells slots h hW => ?_)
        refine lv_aload_n hx hb d_E_heedInSynSent_78 rfl (lv_at hl 0 rfl) ?_
        refine cm_getf kx_E S hW (kE hq) 5 (q + 5) rfl wd_357 (by decide) d_E_heedInSynSent_79 ?_
        refine lv_iconst (v := 0) hx hb d_E_heedInSynSent_82 (by decide) ?_
        refine cm_putz kx_Z S hW (kEZ hq) 2 wd_295 (by decide) d_E_heedInSynSent_83 h (fun r9 H locs h hW => ?_)
        refine lv_aload_n hx hb d_E_heedInSynSent_86 rfl (lv_at hl 0 rfl) ?_
        refine cm_getf kx_E S hW (kE hq) 5 (q + 5) rfl wd_357 (by decide) d_E_heedInSynSent_87 ?_
        refine lv_aload_n hx hb d_E_heedInSynSent_90 rfl (lv_at hl 1 rfl) ?_
        obtain ⟨hg, h⟩ := gd_s h
        refine cm_cVi [] kx_G S hW hg (fun x σ' hc => c_G_ack v1 r9 hc) q_G_ack wd_1019 wd_1020 wd_1036 (by decide) hl.1 rfl rfl (Nat.le_of_ble_eq_true rfl) d_E_heedInSynSent_91 h (fun x11 r10 H locs cells slots h hW => ?_)
        refine lv_aload_n hx hb d_E_heedInSynSent_94 rfl (lv_at hl 0 rfl) ?_
        refine cm_getf kx_E S hW (kE hq) 1 (3) rfl wd_351 (by decide) d_E_heedInSynSent_95 ?_
        refine cm_getl kx_C S hW rfl 0 wd_136 (by decide) d_E_heedInSynSent_98 h (fun x12 h => ?_)
        refine cm_cVv [.int x11, .long x12] kx_Z S hW (kEZ hq) (fun σ' hc => c_Z_heedAck (q + 5) x11 x12 r10 hc) q_Z_heedAck wd_1043 wd_1044 wd_1042 (by decide) hl.1 rfl rfl (Nat.le_of_ble_eq_true rfl) d_E_heedInSynSent_101 h (fun r13 H locs cells slots h hW => ?_)
        refine lv_aload_n hx hb d_E_heedInSynSent_104 rfl (lv_at hl 0 rfl) ?_
        refine cm_getf kx_E S hW (kE hq) 5 (q + 5) rfl wd_357 (by decide) d_E_heedInSynSent_105 ?_
        refine lv_iconst (v := 0) hx hb d_E_heedInSynSent_108 (by decide) ?_
        refine cm_puti kx_Z S hW (kEZ hq) 1 wd_293 (by decide) d_E_heedInSynSent_109 h (fun r14 H locs h hW => ?_)
        refine lv_aload_n hx hb d_E_heedInSynSent_112 rfl (lv_at hl 0 rfl) ?_
        refine lv_iconst (v := 4) hx hb d_E_heedInSynSent_113 (by decide) ?_
        refine cm_puti kx_E S hW (kE hq) 8 wd_362 (by decide) d_E_heedInSynSent_114 h (fun r15 H locs h hW => ?_)
        refine lv_iconst (v := 5) hx hb d_E_heedInSynSent_117 (by decide) ?_
        exact cm_iret S hW d_E_heedInSynSent_118 h
      · exact t_E_heedInSynSent_60 S hq  r3 h (lv_sub hl [] rfl) hW
  · refine lv_iload_n hx hb d_E_heedInSynSent_37 rfl (lv_at hl 2 rfl) ?_
    refine rb_eq (tgt := 46) hx hb d_E_heedInSynSent_38 (by decide) h (fun h => ?_) (fun h => ?_)
    · exact t_E_heedInSynSent_46 S hq  r1 h (lv_sub hl [] rfl) hW
    · refine lv_aload_n hx hb d_E_heedInSynSent_41 rfl (lv_at hl 0 rfl) ?_
      refine lv_iconst (v := 1) hx hb d_E_heedInSynSent_42 (by decide) ?_
      refine cm_cVv [.int (1 : Int32)] kx_E S hW (kE hq) (fun σ' hc => c_E_shut q (1 : Int32) r1 hc) q_E_shut wd_904 wd_14 wd_902 (by decide) hl.1 rfl rfl (Nat.le_of_ble_eq_true rfl) d_E_heedInSynSent_43 h (fun r16 H locs cells slots h hW => ?_)
      exact t_E_heedInSynSent_46 S hq  r16 h (lv_sub hl [] rfl) hW
theorem t_E_heedInSynSent_0 (S : CC p m c k_E_heedInSynSent 3 s args cn_E meth (Option.some Jvm.ClassFile.FieldType.int) D tc b z) (q : Nat) (v1 : Nat) (σ : CS) {B : Int32 × CS} (h : m_E_heedInSynSent q v1 σ = some B) {ls : Array Slot} {H : Heap} {locs : List Loc} {cells slots : Nat} (hl : lv_has ls 3 [(0, .ref (b + q)), (1, .ref (b + v1))]) (hW : CWS D tc b z s σ0 σ H locs cells slots) : W p l e (CR 4 90 σ0) s m args below meth c H locs cells slots (CE D tc b z below args s σ0 (some (.int B.1)) B.2) (F0 m 0 ls []) := by
  have hx := S.1.1
  have hb := S.1.2.1
  unfold m_E_heedInSynSent at h
  obtain ⟨hq, h⟩ := gd_s h
  refine lv_aload_n hx hb d_E_heedInSynSent_0 rfl (lv_at hl 1 rfl) ?_
  refine lv_bipush (v := 16) hx hb d_E_heedInSynSent_1 (by decide) ?_
  obtain ⟨hg, h⟩ := gd_s h
  refine cm_cVi [.int (16 : Int32)] kx_G S hW hg (fun x σ' hc => c_G_has v1 (16 : Int32) σ hc) q_G_has wd_994 wd_995 wd_993 (by decide) hl.1 rfl rfl (Nat.le_of_ble_eq_true rfl) d_E_heedInSynSent_3 h (fun x2 r1 H locs cells slots h hW => ?_)
  refine lv_istore_n (lv' := [(2, .int x2), (0, .ref (b + q)), (1, .ref (b + v1))]) hx hb d_E_heedInSynSent_6 rfl hl (by decide) rfl (fun ls hl => ?_)
  refine lv_iload_n hx hb d_E_heedInSynSent_7 rfl (lv_at hl 0 rfl) ?_
  refine rb_eq (tgt := 29) hx hb d_E_heedInSynSent_8 (by decide) h (fun h => ?_) (fun h => ?_)
  · exact t_E_heedInSynSent_29 S hq v1 x2 r1 h (lv_sub hl [1, 2, 0] rfl) hW
  · refine lv_aload_n hx hb d_E_heedInSynSent_11 rfl (lv_at hl 2 rfl) ?_
    obtain ⟨hg, h⟩ := gd_s h
    refine cm_cVi [] kx_G S hW hg (fun x σ' hc => c_G_ack v1 r1 hc) q_G_ack wd_1019 wd_1020 wd_1036 (by decide) hl.1 rfl rfl (Nat.le_of_ble_eq_true rfl) d_E_heedInSynSent_12 h (fun x4 r3 H locs cells slots h hW => ?_)
    refine lv_aload_n hx hb d_E_heedInSynSent_15 rfl (lv_at hl 1 rfl) ?_
    refine cm_getf kx_E S hW (kE hq) 3 (q + 1) rfl wd_353 (by decide) d_E_heedInSynSent_16 ?_
    refine cm_geti kx_U S hW (kEU hq) 3 wd_204 (by decide) d_E_heedInSynSent_19 h (fun x5 h => ?_)
    refine lv_iconst (v := 1) hx hb d_E_heedInSynSent_22 (by decide) ?_
    refine lv_iadd hx hb d_E_heedInSynSent_23 ?_
    refine rc_eq (tgt := 29) hx hb d_E_heedInSynSent_24 (by decide) h (fun h => ?_) (fun h => ?_)
    · exact t_E_heedInSynSent_29 S hq v1 x2 r3 h (lv_sub hl [1, 2, 0] rfl) hW
    · refine lv_iconst (v := 1) hx hb d_E_heedInSynSent_27 (by decide) ?_
      exact cm_iret S hW d_E_heedInSynSent_28 h
theorem c_E_heedInSynSent (q : Nat) (v1 : Nat) (σ : CS) {x : Int32} {σ' : CS} (h : m_E_heedInSynSent q v1 σ = some (x, σ')) : CMet l D tc b z y_E_heedInSynSent k_E_heedInSynSent 3 (Option.some Jvm.ClassFile.FieldType.int) 4 90 [.ref (b + q), .ref (b + v1)] σ (some (.int x)) σ' := cm_met (by decide) (Nat.le_of_ble_eq_true rfl) fun p e s m args below meth c S hW ls hl => t_E_heedInSynSent_0 S q v1 σ h hl hW
end

/-! StreamPair$End.refuse (LStreamPair$Segment;)I -/
abbrev k_E_refuse : ByteArray := prog_5_method_25_code
abbrev y_E_refuse : MethodName := ⟨cn_E, "refuse", "(LStreamPair$Segment;)I"⟩
theorem q_E_refuse : Calee y_E_refuse k_E_refuse 2 (Option.some Jvm.ClassFile.FieldType.int) 1 := ⟨wd_1094, wd_85, by decide, by decide +kernel⟩
theorem d_E_refuse_0 : decode k_E_refuse 0 = .ok (.aload_n 1, 1) := by decide +kernel
theorem d_E_refuse_1 : decode k_E_refuse 1 = .ok (.iconst 4, 1) := by decide +kernel
theorem d_E_refuse_2 : decode k_E_refuse 2 = .ok (.invokevirtual 244, 3) := by decide +kernel
theorem d_E_refuse_5 : decode k_E_refuse 5 = .ok (.ifCond .eq 5, 3) := by decide +kernel
theorem d_E_refuse_8 : decode k_E_refuse 8 = .ok (.iconst 0, 1) := by decide +kernel
theorem d_E_refuse_9 : decode k_E_refuse 9 = .ok (.ireturn, 1) := by decide +kernel
theorem d_E_refuse_10 : decode k_E_refuse 10 = .ok (.aload_n 0, 1) := by decide +kernel
theorem d_E_refuse_11 : decode k_E_refuse 11 = .ok (.getfield 54, 3) := by decide +kernel
theorem d_E_refuse_14 : decode k_E_refuse 14 = .ok (.bipush 10, 2) := by decide +kernel
theorem d_E_refuse_16 : decode k_E_refuse 16 = .ok (.if_icmp .ne 28, 3) := by decide +kernel
theorem d_E_refuse_19 : decode k_E_refuse 19 = .ok (.aload_n 1, 1) := by decide +kernel
theorem d_E_refuse_20 : decode k_E_refuse 20 = .ok (.iconst 1, 1) := by decide +kernel
theorem d_E_refuse_21 : decode k_E_refuse 21 = .ok (.invokevirtual 244, 3) := by decide +kernel
theorem d_E_refuse_24 : decode k_E_refuse 24 = .ok (.ifCond .eq 20, 3) := by decide +kernel
theorem d_E_refuse_27 : decode k_E_refuse 27 = .ok (.aload_n 0, 1) := by decide +kernel
theorem d_E_refuse_28 : decode k_E_refuse 28 = .ok (.getfield 28, 3) := by decide +kernel
theorem d_E_refuse_31 : decode k_E_refuse 31 = .ok (.aload_n 0, 1) := by decide +kernel
theorem d_E_refuse_32 : decode k_E_refuse 32 = .ok (.getfield 46, 3) := by decide +kernel
theorem d_E_refuse_35 : decode k_E_refuse 35 = .ok (.getfield 121, 3) := by decide +kernel
theorem d_E_refuse_38 : decode k_E_refuse 38 = .ok (.sipush 4000, 3) := by decide +kernel
theorem d_E_refuse_41 : decode k_E_refuse 41 = .ok (.invokevirtual 130, 3) := by decide +kernel
theorem d_E_refuse_44 : decode k_E_refuse 44 = .ok (.iconst 2, 1) := by decide +kernel
theorem d_E_refuse_45 : decode k_E_refuse 45 = .ok (.ireturn, 1) := by decide +kernel
def b_E_refuse_44 (q : Nat) (σ : CS) : Option (Int32 × CS) :=
  some ((2 : Int32), σ)
def m_E_refuse (q : Nat) (v1 : Nat) (σ : CS) : Option (Int32 × CS) :=
  gd (q = 7 ∨ q = 14) <| gd (kd σ v1 = 11) <| bc2 (m_G_has v1 (4 : Int32) σ) fun x2 r1 => if x2 = 0 then
  (bd (cI r1 q 8) fun x3 => if x3 = (10 : Int32) then
  (gd (kd r1 v1 = 11) <| bc2 (m_G_has v1 (1 : Int32) r1) fun x5 r4 => if x5 = 0 then
  (b_E_refuse_44 q  r4)
 else
  (bd (cJ r4 3 0) fun x6 => bc (m_Z_startTimer (q + 5) x6 (4000 : Int32) r4) fun r7 => b_E_refuse_44 q  r7))
 else
  (b_E_refuse_44 q  r1))
 else
  (some ((0 : Int32), r1))
section
variable {p : Program} {l : Launch} {e : Env} {s : State} {m : MethodId} {args : Array Value} {below : List Frame} {meth : Method} {c : Code} {D : va_G} {tc : Nat → ClassId} {b z : Nat} {σ0 : CS}
theorem t_E_refuse_44 {q : Nat} (S : CC p m c k_E_refuse 2 s args cn_E meth (Option.some Jvm.ClassFile.FieldType.int) D tc b z) (hq : q = 7 ∨ q = 14) (σ : CS) {B : Int32 × CS} (h : b_E_refuse_44 q  σ = some B) {ls : Array Slot} {H : Heap} {locs : List Loc} {cells slots : Nat} (hl : lv_has ls 2 []) (hW : CWS D tc b z s σ0 σ H locs cells slots) : W p l e (CR 2 45 σ0) s m args below meth c H locs cells slots (CE D tc b z below args s σ0 (some (.int B.1)) B.2) (F0 m 44 ls []) := by
  have hx := S.1.1
  have hb := S.1.2.1
  unfold b_E_refuse_44 at h
  refine lv_iconst (v := 2) hx hb d_E_refuse_44 (by decide) ?_
  exact cm_iret S hW d_E_refuse_45 h
theorem t_E_refuse_0 (S : CC p m c k_E_refuse 2 s args cn_E meth (Option.some Jvm.ClassFile.FieldType.int) D tc b z) (q : Nat) (v1 : Nat) (σ : CS) {B : Int32 × CS} (h : m_E_refuse q v1 σ = some B) {ls : Array Slot} {H : Heap} {locs : List Loc} {cells slots : Nat} (hl : lv_has ls 2 [(0, .ref (b + q)), (1, .ref (b + v1))]) (hW : CWS D tc b z s σ0 σ H locs cells slots) : W p l e (CR 2 45 σ0) s m args below meth c H locs cells slots (CE D tc b z below args s σ0 (some (.int B.1)) B.2) (F0 m 0 ls []) := by
  have hx := S.1.1
  have hb := S.1.2.1
  unfold m_E_refuse at h
  obtain ⟨hq, h⟩ := gd_s h
  refine lv_aload_n hx hb d_E_refuse_0 rfl (lv_at hl 1 rfl) ?_
  refine lv_iconst (v := 4) hx hb d_E_refuse_1 (by decide) ?_
  obtain ⟨hg, h⟩ := gd_s h
  refine cm_cVi [.int (4 : Int32)] kx_G S hW hg (fun x σ' hc => c_G_has v1 (4 : Int32) σ hc) q_G_has wd_994 wd_995 wd_993 (by decide) hl.1 rfl rfl (Nat.le_of_ble_eq_true rfl) d_E_refuse_2 h (fun x2 r1 H locs cells slots h hW => ?_)
  refine rb_eq (tgt := 10) hx hb d_E_refuse_5 (by decide) h (fun h => ?_) (fun h => ?_)
  · refine lv_aload_n hx hb d_E_refuse_10 rfl (lv_at hl 0 rfl) ?_
    refine cm_geti kx_E S hW (kE hq) 8 wd_362 (by decide) d_E_refuse_11 h (fun x3 h => ?_)
    refine lv_bipush (v := 10) hx hb d_E_refuse_14 (by decide) ?_
    refine rc_ne (tgt := 44) hx hb d_E_refuse_16 (by decide) h (fun h => ?_) (fun h => ?_)
    · exact t_E_refuse_44 S hq  r1 h (lv_sub hl [] rfl) hW
    · refine lv_aload_n hx hb d_E_refuse_19 rfl (lv_at hl 1 rfl) ?_
      refine lv_iconst (v := 1) hx hb d_E_refuse_20 (by decide) ?_
      obtain ⟨hg, h⟩ := gd_s h
      refine cm_cVi [.int (1 : Int32)] kx_G S hW hg (fun x σ' hc => c_G_has v1 (1 : Int32) r1 hc) q_G_has wd_994 wd_995 wd_993 (by decide) hl.1 rfl rfl (Nat.le_of_ble_eq_true rfl) d_E_refuse_21 h (fun x5 r4 H locs cells slots h hW => ?_)
      refine rb_eq (tgt := 44) hx hb d_E_refuse_24 (by decide) h (fun h => ?_) (fun h => ?_)
      · exact t_E_refuse_44 S hq  r4 h (lv_sub hl [] rfl) hW
      · refine lv_aload_n hx hb d_E_refuse_27 rfl (lv_at hl 0 rfl) ?_
        refine cm_getf kx_E S hW (kE hq) 5 (q + 5) rfl wd_357 (by decide) d_E_refuse_28 ?_
        refine lv_aload_n hx hb d_E_refuse_31 rfl (lv_at hl 0 rfl) ?_
        refine cm_getf kx_E S hW (kE hq) 1 (3) rfl wd_351 (by decide) d_E_refuse_32 ?_
        refine cm_getl kx_C S hW rfl 0 wd_136 (by decide) d_E_refuse_35 h (fun x6 h => ?_)
        refine lv_sipush (v := 4000) hx hb d_E_refuse_38 (by decide) ?_
        refine cm_cVv [.long x6, .int (4000 : Int32)] kx_Z S hW (kEZ hq) (fun σ' hc => c_Z_startTimer (q + 5) x6 (4000 : Int32) r4 hc) q_Z_startTimer wd_641 wd_642 wd_640 (by decide) hl.1 rfl rfl (Nat.le_of_ble_eq_true rfl) d_E_refuse_41 h (fun r7 H locs cells slots h hW => ?_)
        exact t_E_refuse_44 S hq  r7 h (lv_sub hl [] rfl) hW
  · refine lv_iconst (v := 0) hx hb d_E_refuse_8 (by decide) ?_
    exact cm_iret S hW d_E_refuse_9 h
theorem c_E_refuse (q : Nat) (v1 : Nat) (σ : CS) {x : Int32} {σ' : CS} (h : m_E_refuse q v1 σ = some (x, σ')) : CMet l D tc b z y_E_refuse k_E_refuse 2 (Option.some Jvm.ClassFile.FieldType.int) 2 45 [.ref (b + q), .ref (b + v1)] σ (some (.int x)) σ' := cm_met (by decide) (Nat.le_of_ble_eq_true rfl) fun p e s m args below meth c S hW ls hl => t_E_refuse_0 S q v1 σ h hl hW
end

/-! StreamPair$End, the method that steps 5 to 7 are in (code prog_5_method_24_code); its name is the Statement's (lw_n24) -/
abbrev k_E_letIn : ByteArray := prog_5_method_24_code
abbrev y_E_letIn : MethodName := ⟨cn_E, lw_n24, "(LStreamPair$Segment;)I"⟩
theorem q_E_letIn : Calee y_E_letIn k_E_letIn 2 (Option.some Jvm.ClassFile.FieldType.int) 1 := ⟨wd_1073, wd_85, by decide, by decide +kernel⟩
theorem d_E_letIn_0 : decode k_E_letIn 0 = .ok (.aload_n 0, 1) := by decide +kernel
theorem d_E_letIn_1 : decode k_E_letIn 1 = .ok (.getfield 21, 3) := by decide +kernel
theorem d_E_letIn_4 : decode k_E_letIn 4 = .ok (.aload_n 1, 1) := by decide +kernel
theorem d_E_letIn_5 : decode k_E_letIn 5 = .ok (.invokevirtual 251, 3) := by decide +kernel
theorem d_E_letIn_8 : decode k_E_letIn 8 = .ok (.aload_n 1, 1) := by decide +kernel
theorem d_E_letIn_9 : decode k_E_letIn 9 = .ok (.invokevirtual 254, 3) := by decide +kernel
theorem d_E_letIn_12 : decode k_E_letIn 12 = .ok (.invokevirtual 277, 3) := by decide +kernel
theorem d_E_letIn_15 : decode k_E_letIn 15 = .ok (.ifCond .ne 9, 3) := by decide +kernel
theorem d_E_letIn_18 : decode k_E_letIn 18 = .ok (.aload_n 0, 1) := by decide +kernel
theorem d_E_letIn_19 : decode k_E_letIn 19 = .ok (.aload_n 1, 1) := by decide +kernel
theorem d_E_letIn_20 : decode k_E_letIn 20 = .ok (.invokevirtual 281, 3) := by decide +kernel
theorem d_E_letIn_23 : decode k_E_letIn 23 = .ok (.ireturn, 1) := by decide +kernel
theorem d_E_letIn_24 : decode k_E_letIn 24 = .ok (.aload_n 1, 1) := by decide +kernel
theorem d_E_letIn_25 : decode k_E_letIn 25 = .ok (.iconst 4, 1) := by decide +kernel
theorem d_E_letIn_26 : decode k_E_letIn 26 = .ok (.invokevirtual 244, 3) := by decide +kernel
theorem d_E_letIn_29 : decode k_E_letIn 29 = .ok (.ifCond .eq 26, 3) := by decide +kernel
theorem d_E_letIn_32 : decode k_E_letIn 32 = .ok (.aload_n 1, 1) := by decide +kernel
theorem d_E_letIn_33 : decode k_E_letIn 33 = .ok (.invokevirtual 251, 3) := by decide +kernel
theorem d_E_letIn_36 : decode k_E_letIn 36 = .ok (.aload_n 0, 1) := by decide +kernel
theorem d_E_letIn_37 : decode k_E_letIn 37 = .ok (.getfield 21, 3) := by decide +kernel
theorem d_E_letIn_40 : decode k_E_letIn 40 = .ok (.getfield 153, 3) := by decide +kernel
theorem d_E_letIn_43 : decode k_E_letIn 43 = .ok (.if_icmp .eq 5, 3) := by decide +kernel
theorem d_E_letIn_46 : decode k_E_letIn 46 = .ok (.iconst 2, 1) := by decide +kernel
theorem d_E_letIn_47 : decode k_E_letIn 47 = .ok (.ireturn, 1) := by decide +kernel
theorem d_E_letIn_48 : decode k_E_letIn 48 = .ok (.aload_n 0, 1) := by decide +kernel
theorem d_E_letIn_49 : decode k_E_letIn 49 = .ok (.iconst 1, 1) := by decide +kernel
theorem d_E_letIn_50 : decode k_E_letIn 50 = .ok (.invokevirtual 80, 3) := by decide +kernel
theorem d_E_letIn_53 : decode k_E_letIn 53 = .ok (.iconst 0, 1) := by decide +kernel
theorem d_E_letIn_54 : decode k_E_letIn 54 = .ok (.ireturn, 1) := by decide +kernel
theorem d_E_letIn_55 : decode k_E_letIn 55 = .ok (.aload_n 1, 1) := by decide +kernel
theorem d_E_letIn_56 : decode k_E_letIn 56 = .ok (.iconst 2, 1) := by decide +kernel
theorem d_E_letIn_57 : decode k_E_letIn 57 = .ok (.invokevirtual 244, 3) := by decide +kernel
theorem d_E_letIn_60 : decode k_E_letIn 60 = .ok (.ifCond .eq 5, 3) := by decide +kernel
theorem d_E_letIn_63 : decode k_E_letIn 63 = .ok (.iconst 2, 1) := by decide +kernel
theorem d_E_letIn_64 : decode k_E_letIn 64 = .ok (.ireturn, 1) := by decide +kernel
theorem d_E_letIn_65 : decode k_E_letIn 65 = .ok (.aload_n 1, 1) := by decide +kernel
theorem d_E_letIn_66 : decode k_E_letIn 66 = .ok (.bipush 16, 2) := by decide +kernel
theorem d_E_letIn_68 : decode k_E_letIn 68 = .ok (.invokevirtual 244, 3) := by decide +kernel
theorem d_E_letIn_71 : decode k_E_letIn 71 = .ok (.ifCond .ne 5, 3) := by decide +kernel
theorem d_E_letIn_74 : decode k_E_letIn 74 = .ok (.iconst 0, 1) := by decide +kernel
theorem d_E_letIn_75 : decode k_E_letIn 75 = .ok (.ireturn, 1) := by decide +kernel
theorem d_E_letIn_76 : decode k_E_letIn 76 = .ok (.aload_n 0, 1) := by decide +kernel
theorem d_E_letIn_77 : decode k_E_letIn 77 = .ok (.getfield 54, 3) := by decide +kernel
theorem d_E_letIn_80 : decode k_E_letIn 80 = .ok (.iconst 3, 1) := by decide +kernel
theorem d_E_letIn_81 : decode k_E_letIn 81 = .ok (.if_icmp .ne 26, 3) := by decide +kernel
theorem d_E_letIn_84 : decode k_E_letIn 84 = .ok (.aload_n 1, 1) := by decide +kernel
theorem d_E_letIn_85 : decode k_E_letIn 85 = .ok (.invokevirtual 248, 3) := by decide +kernel
theorem d_E_letIn_88 : decode k_E_letIn 88 = .ok (.aload_n 0, 1) := by decide +kernel
theorem d_E_letIn_89 : decode k_E_letIn 89 = .ok (.getfield 12, 3) := by decide +kernel
theorem d_E_letIn_92 : decode k_E_letIn 92 = .ok (.getfield 214, 3) := by decide +kernel
theorem d_E_letIn_95 : decode k_E_letIn 95 = .ok (.iconst 1, 1) := by decide +kernel
theorem d_E_letIn_96 : decode k_E_letIn 96 = .ok (.iadd, 1) := by decide +kernel
theorem d_E_letIn_97 : decode k_E_letIn 97 = .ok (.if_icmp .eq 5, 3) := by decide +kernel
theorem d_E_letIn_100 : decode k_E_letIn 100 = .ok (.iconst 1, 1) := by decide +kernel
theorem d_E_letIn_101 : decode k_E_letIn 101 = .ok (.ireturn, 1) := by decide +kernel
theorem d_E_letIn_102 : decode k_E_letIn 102 = .ok (.aload_n 0, 1) := by decide +kernel
theorem d_E_letIn_103 : decode k_E_letIn 103 = .ok (.iconst 4, 1) := by decide +kernel
theorem d_E_letIn_104 : decode k_E_letIn 104 = .ok (.putfield 54, 3) := by decide +kernel
theorem d_E_letIn_107 : decode k_E_letIn 107 = .ok (.bipush 6, 2) := by decide +kernel
theorem d_E_letIn_109 : decode k_E_letIn 109 = .ok (.ireturn, 1) := by decide +kernel
def b_E_letIn_107 (q : Nat) (σ : CS) : Option (Int32 × CS) :=
  some ((6 : Int32), σ)
def m_E_letIn (q : Nat) (v1 : Nat) (σ : CS) : Option (Int32 × CS) :=
  gd (q = 7 ∨ q = 14) <| gd (kd σ v1 = 11) <| bc2 (m_G_seq v1 σ) fun x2 r1 => gd (kd r1 v1 = 11) <| bc2 (m_G_span v1 r1) fun x4 r3 => bc2 (m_V_fits (q + 3) x2 x4 r3) fun x6 r5 => if x6 = 0 then
  (bc2 (m_E_refuse q v1 r5) fun x23 r22 => some (x23, r22))
 else
  (gd (kd r5 v1 = 11) <| bc2 (m_G_has v1 (4 : Int32) r5) fun x8 r7 => if x8 = 0 then
  (gd (kd r7 v1 = 11) <| bc2 (m_G_has v1 (2 : Int32) r7) fun x10 r9 => if x10 = 0 then
  (gd (kd r9 v1 = 11) <| bc2 (m_G_has v1 (16 : Int32) r9) fun x12 r11 => if x12 = 0 then
  (some ((0 : Int32), r11))
 else
  (bd (cI r11 q 8) fun x13 => if x13 = (3 : Int32) then
  (gd (kd r11 v1 = 11) <| bc2 (m_G_ack v1 r11) fun x15 r14 => bd (cI r14 (q + 1) 4) fun x16 => if x15 = (x16 + (1 : Int32)) then
  (bd (wi r14 q 8 (4 : Int32)) fun r17 => b_E_letIn_107 q  r17)
 else
  (some ((1 : Int32), r14)))
 else
  (b_E_letIn_107 q  r11)))
 else
  (some ((2 : Int32), r9)))
 else
  (gd (kd r7 v1 = 11) <| bc2 (m_G_seq v1 r7) fun x19 r18 => bd (cI r18 (q + 3) 1) fun x20 => if x19 = x20 then
  (bc (m_E_shut q (1 : Int32) r18) fun r21 => some ((0 : Int32), r21))
 else
  (some ((2 : Int32), r18))))
section
variable {p : Program} {l : Launch} {e : Env} {s : State} {m : MethodId} {args : Array Value} {below : List Frame} {meth : Method} {c : Code} {D : va_G} {tc : Nat → ClassId} {b z : Nat} {σ0 : CS}
theorem t_E_letIn_107 {q : Nat} (S : CC p m c k_E_letIn 2 s args cn_E meth (Option.some Jvm.ClassFile.FieldType.int) D tc b z) (hq : q = 7 ∨ q = 14) (σ : CS) {B : Int32 × CS} (h : b_E_letIn_107 q  σ = some B) {ls : Array Slot} {H : Heap} {locs : List Loc} {cells slots : Nat} (hl : lv_has ls 2 []) (hW : CWS D tc b z s σ0 σ H locs cells slots) : W p l e (CR 4 84 σ0) s m args below meth c H locs cells slots (CE D tc b z below args s σ0 (some (.int B.1)) B.2) (F0 m 107 ls []) := by
  have hx := S.1.1
  have hb := S.1.2.1
  unfold b_E_letIn_107 at h
  refine lv_bipush (v := 6) hx hb d_E_letIn_107 (by decide) ?_
  exact cm_iret S hW d_E_letIn_109 h
theorem t_E_letIn_0 (S : CC p m c k_E_letIn 2 s args cn_E meth (Option.some Jvm.ClassFile.FieldType.int) D tc b z) (q : Nat) (v1 : Nat) (σ : CS) {B : Int32 × CS} (h : m_E_letIn q v1 σ = some B) {ls : Array Slot} {H : Heap} {locs : List Loc} {cells slots : Nat} (hl : lv_has ls 2 [(0, .ref (b + q)), (1, .ref (b + v1))]) (hW : CWS D tc b z s σ0 σ H locs cells slots) : W p l e (CR 4 84 σ0) s m args below meth c H locs cells slots (CE D tc b z below args s σ0 (some (.int B.1)) B.2) (F0 m 0 ls []) := by
  have hx := S.1.1
  have hb := S.1.2.1
  unfold m_E_letIn at h
  obtain ⟨hq, h⟩ := gd_s h
  refine lv_aload_n hx hb d_E_letIn_0 rfl (lv_at hl 0 rfl) ?_
  refine cm_getf kx_E S hW (kE hq) 4 (q + 3) rfl wd_355 (by decide) d_E_letIn_1 ?_
  refine lv_aload_n hx hb d_E_letIn_4 rfl (lv_at hl 1 rfl) ?_
  obtain ⟨hg, h⟩ := gd_s h
  refine cm_cVi [] kx_G S hW hg (fun x σ' hc => c_G_seq v1 σ hc) q_G_seq wd_1002 wd_1003 wd_1001 (by decide) hl.1 rfl rfl (Nat.le_of_ble_eq_true rfl) d_E_letIn_5 h (fun x2 r1 H locs cells slots h hW => ?_)
  refine lv_aload_n hx hb d_E_letIn_8 rfl (lv_at hl 1 rfl) ?_
  obtain ⟨hg, h⟩ := gd_s h
  refine cm_cVi [] kx_G S hW hg (fun x σ' hc => c_G_span v1 r1 hc) q_G_span wd_1075 wd_1076 wd_1074 (by decide) hl.1 rfl rfl (Nat.le_of_ble_eq_true rfl) d_E_letIn_9 h (fun x4 r3 H locs cells slots h hW => ?_)
  refine cm_cVi [.int x2, .int x4] kx_V S hW (kEV hq) (fun x σ' hc => c_V_fits (q + 3) x2 x4 r3 hc) q_V_fits wd_1084 wd_1085 wd_1083 (by decide) hl.1 rfl rfl (Nat.le_of_ble_eq_true rfl) d_E_letIn_12 h (fun x6 r5 H locs cells slots h hW => ?_)
  refine rb_ne (tgt := 24) hx hb d_E_letIn_15 (by decide) h (fun h => ?_) (fun h => ?_)
  · refine lv_aload_n hx hb d_E_letIn_24 rfl (lv_at hl 1 rfl) ?_
    refine lv_iconst (v := 4) hx hb d_E_letIn_25 (by decide) ?_
    obtain ⟨hg, h⟩ := gd_s h
    refine cm_cVi [.int (4 : Int32)] kx_G S hW hg (fun x σ' hc => c_G_has v1 (4 : Int32) r5 hc) q_G_has wd_994 wd_995 wd_993 (by decide) hl.1 rfl rfl (Nat.le_of_ble_eq_true rfl) d_E_letIn_26 h (fun x8 r7 H locs cells slots h hW => ?_)
    refine rb_eq (tgt := 55) hx hb d_E_letIn_29 (by decide) h (fun h => ?_) (fun h => ?_)
    · refine lv_aload_n hx hb d_E_letIn_55 rfl (lv_at hl 1 rfl) ?_
      refine lv_iconst (v := 2) hx hb d_E_letIn_56 (by decide) ?_
      obtain ⟨hg, h⟩ := gd_s h
      refine cm_cVi [.int (2 : Int32)] kx_G S hW hg (fun x σ' hc => c_G_has v1 (2 : Int32) r7 hc) q_G_has wd_994 wd_995 wd_993 (by decide) hl.1 rfl rfl (Nat.le_of_ble_eq_true rfl) d_E_letIn_57 h (fun x10 r9 H locs cells slots h hW => ?_)
      refine rb_eq (tgt := 65) hx hb d_E_letIn_60 (by decide) h (fun h => ?_) (fun h => ?_)
      · refine lv_aload_n hx hb d_E_letIn_65 rfl (lv_at hl 1 rfl) ?_
        refine lv_bipush (v := 16) hx hb d_E_letIn_66 (by decide) ?_
        obtain ⟨hg, h⟩ := gd_s h
        refine cm_cVi [.int (16 : Int32)] kx_G S hW hg (fun x σ' hc => c_G_has v1 (16 : Int32) r9 hc) q_G_has wd_994 wd_995 wd_993 (by decide) hl.1 rfl rfl (Nat.le_of_ble_eq_true rfl) d_E_letIn_68 h (fun x12 r11 H locs cells slots h hW => ?_)
        refine rb_ne (tgt := 76) hx hb d_E_letIn_71 (by decide) h (fun h => ?_) (fun h => ?_)
        · refine lv_aload_n hx hb d_E_letIn_76 rfl (lv_at hl 0 rfl) ?_
          refine cm_geti kx_E S hW (kE hq) 8 wd_362 (by decide) d_E_letIn_77 h (fun x13 h => ?_)
          refine lv_iconst (v := 3) hx hb d_E_letIn_80 (by decide) ?_
          refine rc_ne (tgt := 107) hx hb d_E_letIn_81 (by decide) h (fun h => ?_) (fun h => ?_)
          · exact t_E_letIn_107 S hq  r11 h (lv_sub hl [] rfl) hW
          · refine lv_aload_n hx hb d_E_letIn_84 rfl (lv_at hl 1 rfl) ?_
            obtain ⟨hg, h⟩ := gd_s h
            refine cm_cVi [] kx_G S hW hg (fun x σ' hc => c_G_ack v1 r11 hc) q_G_ack wd_1019 wd_1020 wd_1036 (by decide) hl.1 rfl rfl (Nat.le_of_ble_eq_true rfl) d_E_letIn_85 h (fun x15 r14 H locs cells slots h hW => ?_)
            refine lv_aload_n hx hb d_E_letIn_88 rfl (lv_at hl 0 rfl) ?_
            refine cm_getf kx_E S hW (kE hq) 3 (q + 1) rfl wd_353 (by decide) d_E_letIn_89 ?_
            refine cm_geti kx_U S hW (kEU hq) 4 wd_206 (by decide) d_E_letIn_92 h (fun x16 h => ?_)
            refine lv_iconst (v := 1) hx hb d_E_letIn_95 (by decide) ?_
            refine lv_iadd hx hb d_E_letIn_96 ?_
            refine rc_eq (tgt := 102) hx hb d_E_letIn_97 (by decide) h (fun h => ?_) (fun h => ?_)
            · refine lv_aload_n hx hb d_E_letIn_102 rfl (lv_at hl 0 rfl) ?_
              refine lv_iconst (v := 4) hx hb d_E_letIn_103 (by decide) ?_
              refine cm_puti kx_E S hW (kE hq) 8 wd_362 (by decide) d_E_letIn_104 h (fun r17 H locs h hW => ?_)
              exact t_E_letIn_107 S hq  r17 h (lv_sub hl [] rfl) hW
            · refine lv_iconst (v := 1) hx hb d_E_letIn_100 (by decide) ?_
              exact cm_iret S hW d_E_letIn_101 h
        · refine lv_iconst (v := 0) hx hb d_E_letIn_74 (by decide) ?_
          exact cm_iret S hW d_E_letIn_75 h
      · refine lv_iconst (v := 2) hx hb d_E_letIn_63 (by decide) ?_
        exact cm_iret S hW d_E_letIn_64 h
    · refine lv_aload_n hx hb d_E_letIn_32 rfl (lv_at hl 1 rfl) ?_
      obtain ⟨hg, h⟩ := gd_s h
      refine cm_cVi [] kx_G S hW hg (fun x σ' hc => c_G_seq v1 r7 hc) q_G_seq wd_1002 wd_1003 wd_1001 (by decide) hl.1 rfl rfl (Nat.le_of_ble_eq_true rfl) d_E_letIn_33 h (fun x19 r18 H locs cells slots h hW => ?_)
      refine lv_aload_n hx hb d_E_letIn_36 rfl (lv_at hl 0 rfl) ?_
      refine cm_getf kx_E S hW (kE hq) 4 (q + 3) rfl wd_355 (by decide) d_E_letIn_37 ?_
      refine cm_geti kx_V S hW (kEV hq) 1 wd_254 (by decide) d_E_letIn_40 h (fun x20 h => ?_)
      refine rc_eq (tgt := 48) hx hb d_E_letIn_43 (by decide) h (fun h => ?_) (fun h => ?_)
      · refine lv_aload_n hx hb d_E_letIn_48 rfl (lv_at hl 0 rfl) ?_
        refine lv_iconst (v := 1) hx hb d_E_letIn_49 (by decide) ?_
        refine cm_cVv [.int (1 : Int32)] kx_E S hW (kE hq) (fun σ' hc => c_E_shut q (1 : Int32) r18 hc) q_E_shut wd_904 wd_14 wd_902 (by decide) hl.1 rfl rfl (Nat.le_of_ble_eq_true rfl) d_E_letIn_50 h (fun r21 H locs cells slots h hW => ?_)
        refine lv_iconst (v := 0) hx hb d_E_letIn_53 (by decide) ?_
        exact cm_iret S hW d_E_letIn_54 h
      · refine lv_iconst (v := 2) hx hb d_E_letIn_46 (by decide) ?_
        exact cm_iret S hW d_E_letIn_47 h
  · refine lv_aload_n hx hb d_E_letIn_18 rfl (lv_at hl 0 rfl) ?_
    refine lv_aload_n hx hb d_E_letIn_19 rfl (lv_at hl 1 rfl) ?_
    refine cm_cVi [.ref (b + v1)] kx_E S hW (kE hq) (fun x σ' hc => c_E_refuse q v1 r5 hc) q_E_refuse wd_1093 wd_25 wd_1091 (by decide) hl.1 rfl rfl (Nat.le_of_ble_eq_true rfl) d_E_letIn_20 h (fun x23 r22 H locs cells slots h hW => ?_)
    exact cm_iret S hW d_E_letIn_23 h
theorem c_E_letIn (q : Nat) (v1 : Nat) (σ : CS) {x : Int32} {σ' : CS} (h : m_E_letIn q v1 σ = some (x, σ')) : CMet l D tc b z y_E_letIn k_E_letIn 2 (Option.some Jvm.ClassFile.FieldType.int) 4 84 [.ref (b + q), .ref (b + v1)] σ (some (.int x)) σ' := cm_met (by decide) (Nat.le_of_ble_eq_true rfl) fun p e s m args below meth c S hW ls hl => t_E_letIn_0 S q v1 σ h hl hW
end

/-! StreamPair$End.heedProgress (I)V -/
abbrev k_E_heedProgress : ByteArray := prog_5_method_27_code
abbrev y_E_heedProgress : MethodName := ⟨cn_E, "heedProgress", "(I)V"⟩
theorem q_E_heedProgress : Calee y_E_heedProgress k_E_heedProgress 2 none 1 := ⟨wd_1098, wd_85, by decide, by decide +kernel⟩
theorem d_E_heedProgress_0 : decode k_E_heedProgress 0 = .ok (.aload_n 0, 1) := by decide +kernel
theorem d_E_heedProgress_1 : decode k_E_heedProgress 1 = .ok (.getfield 28, 3) := by decide +kernel
theorem d_E_heedProgress_4 : decode k_E_heedProgress 4 = .ok (.iload_n 1, 1) := by decide +kernel
theorem d_E_heedProgress_5 : decode k_E_heedProgress 5 = .ok (.aload_n 0, 1) := by decide +kernel
theorem d_E_heedProgress_6 : decode k_E_heedProgress 6 = .ok (.getfield 46, 3) := by decide +kernel
theorem d_E_heedProgress_9 : decode k_E_heedProgress 9 = .ok (.getfield 121, 3) := by decide +kernel
theorem d_E_heedProgress_12 : decode k_E_heedProgress 12 = .ok (.invokevirtual 274, 3) := by decide +kernel
theorem d_E_heedProgress_15 : decode k_E_heedProgress 15 = .ok (.aload_n 0, 1) := by decide +kernel
theorem d_E_heedProgress_16 : decode k_E_heedProgress 16 = .ok (.getfield 35, 3) := by decide +kernel
theorem d_E_heedProgress_19 : decode k_E_heedProgress 19 = .ok (.iload_n 1, 1) := by decide +kernel
theorem d_E_heedProgress_20 : decode k_E_heedProgress 20 = .ok (.aload_n 0, 1) := by decide +kernel
theorem d_E_heedProgress_21 : decode k_E_heedProgress 21 = .ok (.getfield 12, 3) := by decide +kernel
theorem d_E_heedProgress_24 : decode k_E_heedProgress 24 = .ok (.getfield 214, 3) := by decide +kernel
theorem d_E_heedProgress_27 : decode k_E_heedProgress 27 = .ok (.isub, 1) := by decide +kernel
theorem d_E_heedProgress_28 : decode k_E_heedProgress 28 = .ok (.invokevirtual 306, 3) := by decide +kernel
theorem d_E_heedProgress_31 : decode k_E_heedProgress 31 = .ok (.aload_n 0, 1) := by decide +kernel
theorem d_E_heedProgress_32 : decode k_E_heedProgress 32 = .ok (.getfield 12, 3) := by decide +kernel
theorem d_E_heedProgress_35 : decode k_E_heedProgress 35 = .ok (.iload_n 1, 1) := by decide +kernel
theorem d_E_heedProgress_36 : decode k_E_heedProgress 36 = .ok (.invokevirtual 271, 3) := by decide +kernel
theorem d_E_heedProgress_39 : decode k_E_heedProgress 39 = .ok (.aload_n 0, 1) := by decide +kernel
theorem d_E_heedProgress_40 : decode k_E_heedProgress 40 = .ok (.getfield 28, 3) := by decide +kernel
theorem d_E_heedProgress_43 : decode k_E_heedProgress 43 = .ok (.iconst 0, 1) := by decide +kernel
theorem d_E_heedProgress_44 : decode k_E_heedProgress 44 = .ok (.putfield 202, 3) := by decide +kernel
theorem d_E_heedProgress_47 : decode k_E_heedProgress 47 = .ok (.aload_n 0, 1) := by decide +kernel
theorem d_E_heedProgress_48 : decode k_E_heedProgress 48 = .ok (.getfield 35, 3) := by decide +kernel
theorem d_E_heedProgress_51 : decode k_E_heedProgress 51 = .ok (.iconst 0, 1) := by decide +kernel
theorem d_E_heedProgress_52 : decode k_E_heedProgress 52 = .ok (.putfield 309, 3) := by decide +kernel
theorem d_E_heedProgress_55 : decode k_E_heedProgress 55 = .ok (.aload_n 0, 1) := by decide +kernel
theorem d_E_heedProgress_56 : decode k_E_heedProgress 56 = .ok (.getfield 28, 3) := by decide +kernel
theorem d_E_heedProgress_59 : decode k_E_heedProgress 59 = .ok (.iconst 0, 1) := by decide +kernel
theorem d_E_heedProgress_60 : decode k_E_heedProgress 60 = .ok (.putfield 98, 3) := by decide +kernel
theorem d_E_heedProgress_63 : decode k_E_heedProgress 63 = .ok (.return_, 1) := by decide +kernel
def m_E_heedProgress (q : Nat) (v1 : Int32) (σ : CS) : Option (CS) :=
  gd (q = 7 ∨ q = 14) <| bd (cJ σ 3 0) fun x1 => bc (m_Z_heedAck (q + 5) v1 x1 σ) fun r2 => bd (cI r2 (q + 1) 4) fun x3 => bc (m_O_grow (q + 6) (v1 - x3) r2) fun r4 => bc (m_U_acknowledge (q + 1) v1 r4) fun r5 => bd (wi r5 (q + 5) 1 (0 : Int32)) fun r6 => bd (wi r6 (q + 6) 3 (0 : Int32)) fun r7 => gd ((0 : Int32) = 0 ∨ (0 : Int32) = 1) <| bd (wi r7 (q + 5) 2 (0 : Int32)) fun r8 => some r8
section
variable {p : Program} {l : Launch} {e : Env} {s : State} {m : MethodId} {args : Array Value} {below : List Frame} {meth : Method} {c : Code} {D : va_G} {tc : Nat → ClassId} {b z : Nat} {σ0 : CS}
theorem t_E_heedProgress_0 (S : CC p m c k_E_heedProgress 2 s args cn_E meth none D tc b z) (q : Nat) (v1 : Int32) (σ : CS) {B : CS} (h : m_E_heedProgress q v1 σ = some B) {ls : Array Slot} {H : Heap} {locs : List Loc} {cells slots : Nat} (hl : lv_has ls 2 [(0, .ref (b + q)), (1, .int v1)]) (hW : CWS D tc b z s σ0 σ H locs cells slots) : W p l e (CR 3 69 σ0) s m args below meth c H locs cells slots (CE D tc b z below args s σ0 none B) (F0 m 0 ls []) := by
  have hx := S.1.1
  have hb := S.1.2.1
  unfold m_E_heedProgress at h
  obtain ⟨hq, h⟩ := gd_s h
  refine lv_aload_n hx hb d_E_heedProgress_0 rfl (lv_at hl 0 rfl) ?_
  refine cm_getf kx_E S hW (kE hq) 5 (q + 5) rfl wd_357 (by decide) d_E_heedProgress_1 ?_
  refine lv_iload_n hx hb d_E_heedProgress_4 rfl (lv_at hl 1 rfl) ?_
  refine lv_aload_n hx hb d_E_heedProgress_5 rfl (lv_at hl 0 rfl) ?_
  refine cm_getf kx_E S hW (kE hq) 1 (3) rfl wd_351 (by decide) d_E_heedProgress_6 ?_
  refine cm_getl kx_C S hW rfl 0 wd_136 (by decide) d_E_heedProgress_9 h (fun x1 h => ?_)
  refine cm_cVv [.int v1, .long x1] kx_Z S hW (kEZ hq) (fun σ' hc => c_Z_heedAck (q + 5) v1 x1 σ hc) q_Z_heedAck wd_1043 wd_1044 wd_1042 (by decide) hl.1 rfl rfl (Nat.le_of_ble_eq_true rfl) d_E_heedProgress_12 h (fun r2 H locs cells slots h hW => ?_)
  refine lv_aload_n hx hb d_E_heedProgress_15 rfl (lv_at hl 0 rfl) ?_
  refine cm_getf kx_E S hW (kE hq) 6 (q + 6) rfl wd_359 (by decide) d_E_heedProgress_16 ?_
  refine lv_iload_n hx hb d_E_heedProgress_19 rfl (lv_at hl 1 rfl) ?_
  refine lv_aload_n hx hb d_E_heedProgress_20 rfl (lv_at hl 0 rfl) ?_
  refine cm_getf kx_E S hW (kE hq) 3 (q + 1) rfl wd_353 (by decide) d_E_heedProgress_21 ?_
  refine cm_geti kx_U S hW (kEU hq) 4 wd_206 (by decide) d_E_heedProgress_24 h (fun x3 h => ?_)
  refine lv_isub hx hb d_E_heedProgress_27 ?_
  refine cm_cVv [.int (v1 - x3)] kx_O S hW (kEO hq) (fun σ' hc => c_O_grow (q + 6) (v1 - x3) r2 hc) q_O_grow wd_1100 wd_1101 wd_1099 (by decide) hl.1 rfl rfl (Nat.le_of_ble_eq_true rfl) d_E_heedProgress_28 h (fun r4 H locs cells slots h hW => ?_)
  refine lv_aload_n hx hb d_E_heedProgress_31 rfl (lv_at hl 0 rfl) ?_
  refine cm_getf kx_E S hW (kE hq) 3 (q + 1) rfl wd_353 (by decide) d_E_heedProgress_32 ?_
  refine lv_iload_n hx hb d_E_heedProgress_35 rfl (lv_at hl 1 rfl) ?_
  refine cm_cVv [.int v1] kx_U S hW (kEU hq) (fun σ' hc => c_U_acknowledge (q + 1) v1 r4 hc) q_U_acknowledge wd_1038 wd_1039 wd_1037 (by decide) hl.1 rfl rfl (Nat.le_of_ble_eq_true rfl) d_E_heedProgress_36 h (fun r5 H locs cells slots h hW => ?_)
  refine lv_aload_n hx hb d_E_heedProgress_39 rfl (lv_at hl 0 rfl) ?_
  refine cm_getf kx_E S hW (kE hq) 5 (q + 5) rfl wd_357 (by decide) d_E_heedProgress_40 ?_
  refine lv_iconst (v := 0) hx hb d_E_heedProgress_43 (by decide) ?_
  refine cm_puti kx_Z S hW (kEZ hq) 1 wd_293 (by decide) d_E_heedProgress_44 h (fun r6 H locs h hW => ?_)
  refine lv_aload_n hx hb d_E_heedProgress_47 rfl (lv_at hl 0 rfl) ?_
  refine cm_getf kx_E S hW (kE hq) 6 (q + 6) rfl wd_359 (by decide) d_E_heedProgress_48 ?_
  refine lv_iconst (v := 0) hx hb d_E_heedProgress_51 (by decide) ?_
  refine cm_puti kx_O S hW (kEO hq) 3 wd_339 (by decide) d_E_heedProgress_52 h (fun r7 H locs h hW => ?_)
  refine lv_aload_n hx hb d_E_heedProgress_55 rfl (lv_at hl 0 rfl) ?_
  refine cm_getf kx_E S hW (kE hq) 5 (q + 5) rfl wd_357 (by decide) d_E_heedProgress_56 ?_
  refine lv_iconst (v := 0) hx hb d_E_heedProgress_59 (by decide) ?_
  refine cm_putz kx_Z S hW (kEZ hq) 2 wd_295 (by decide) d_E_heedProgress_60 h (fun r8 H locs h hW => ?_)
  exact cm_vret S hW d_E_heedProgress_63 h
theorem c_E_heedProgress (q : Nat) (v1 : Int32) (σ : CS) {B : CS} (h : m_E_heedProgress q v1 σ = some B) : CMet l D tc b z y_E_heedProgress k_E_heedProgress 2 none 3 69 [.ref (b + q), .int v1] σ none B := cm_met (by decide) (Nat.le_of_ble_eq_true rfl) fun p e s m args below meth c S hW ls hl => t_E_heedProgress_0 S q v1 σ h hl hW
end

/-! StreamPair$End.isSameAgain (LStreamPair$Segment;)Z -/
abbrev k_E_isSameAgain : ByteArray := prog_5_method_28_code
abbrev y_E_isSameAgain : MethodName := ⟨cn_E, "isSameAgain", "(LStreamPair$Segment;)Z"⟩
theorem q_E_isSameAgain : Calee y_E_isSameAgain k_E_isSameAgain 2 (Option.some Jvm.ClassFile.FieldType.boolean) 1 := ⟨wd_1107, wd_85, by decide, by decide +kernel⟩
theorem d_E_isSameAgain_0 : decode k_E_isSameAgain 0 = .ok (.aload_n 1, 1) := by decide +kernel
theorem d_E_isSameAgain_1 : decode k_E_isSameAgain 1 = .ok (.invokevirtual 248, 3) := by decide +kernel
theorem d_E_isSameAgain_4 : decode k_E_isSameAgain 4 = .ok (.aload_n 0, 1) := by decide +kernel
theorem d_E_isSameAgain_5 : decode k_E_isSameAgain 5 = .ok (.getfield 12, 3) := by decide +kernel
theorem d_E_isSameAgain_8 : decode k_E_isSameAgain 8 = .ok (.getfield 214, 3) := by decide +kernel
theorem d_E_isSameAgain_11 : decode k_E_isSameAgain 11 = .ok (.if_icmp .ne 38, 3) := by decide +kernel
theorem d_E_isSameAgain_14 : decode k_E_isSameAgain 14 = .ok (.aload_n 1, 1) := by decide +kernel
theorem d_E_isSameAgain_15 : decode k_E_isSameAgain 15 = .ok (.invokevirtual 254, 3) := by decide +kernel
theorem d_E_isSameAgain_18 : decode k_E_isSameAgain 18 = .ok (.ifCond .ne 31, 3) := by decide +kernel
theorem d_E_isSameAgain_21 : decode k_E_isSameAgain 21 = .ok (.aload_n 1, 1) := by decide +kernel
theorem d_E_isSameAgain_22 : decode k_E_isSameAgain 22 = .ok (.invokevirtual 312, 3) := by decide +kernel
theorem d_E_isSameAgain_25 : decode k_E_isSameAgain 25 = .ok (.aload_n 0, 1) := by decide +kernel
theorem d_E_isSameAgain_26 : decode k_E_isSameAgain 26 = .ok (.getfield 12, 3) := by decide +kernel
theorem d_E_isSameAgain_29 : decode k_E_isSameAgain 29 = .ok (.getfield 193, 3) := by decide +kernel
theorem d_E_isSameAgain_32 : decode k_E_isSameAgain 32 = .ok (.if_icmp .ne 17, 3) := by decide +kernel
theorem d_E_isSameAgain_35 : decode k_E_isSameAgain 35 = .ok (.aload_n 0, 1) := by decide +kernel
theorem d_E_isSameAgain_36 : decode k_E_isSameAgain 36 = .ok (.getfield 12, 3) := by decide +kernel
theorem d_E_isSameAgain_39 : decode k_E_isSameAgain 39 = .ok (.invokevirtual 184, 3) := by decide +kernel
theorem d_E_isSameAgain_42 : decode k_E_isSameAgain 42 = .ok (.ifCond .eq 7, 3) := by decide +kernel
theorem d_E_isSameAgain_45 : decode k_E_isSameAgain 45 = .ok (.iconst 1, 1) := by decide +kernel
theorem d_E_isSameAgain_46 : decode k_E_isSameAgain 46 = .ok (.goto 4, 3) := by decide +kernel
theorem d_E_isSameAgain_49 : decode k_E_isSameAgain 49 = .ok (.iconst 0, 1) := by decide +kernel
theorem d_E_isSameAgain_50 : decode k_E_isSameAgain 50 = .ok (.ireturn, 1) := by decide +kernel
def b_E_isSameAgain_50 (q : Nat) (w0 : Int32) (σ : CS) : Option (Int32 × CS) :=
  gd (w0 = 0 ∨ w0 = 1) (some (w0, σ))
def b_E_isSameAgain_49 (q : Nat) (σ : CS) : Option (Int32 × CS) :=
  b_E_isSameAgain_50 q (0 : Int32) σ
def m_E_isSameAgain (q : Nat) (v1 : Nat) (σ : CS) : Option (Int32 × CS) :=
  gd (q = 7 ∨ q = 14) <| gd (kd σ v1 = 11) <| bc2 (m_G_ack v1 σ) fun x2 r1 => bd (cI r1 (q + 1) 4) fun x3 => if x2 = x3 then
  (gd (kd r1 v1 = 11) <| bc2 (m_G_span v1 r1) fun x5 r4 => if x5 = 0 then
  (gd (kd r4 v1 = 11) <| bc2 (m_G_window v1 r4) fun x7 r6 => bd (cI r6 (q + 1) 9) fun x8 => if x7 = x8 then
  (bc2 (m_U_flight (q + 1) r6) fun x10 r9 => if x10 = 0 then
  (b_E_isSameAgain_49 q  r9)
 else
  (b_E_isSameAgain_50 q (1 : Int32) r9))
 else
  (b_E_isSameAgain_49 q  r6))
 else
  (b_E_isSameAgain_49 q  r4))
 else
  (b_E_isSameAgain_49 q  r1)
section
variable {p : Program} {l : Launch} {e : Env} {s : State} {m : MethodId} {args : Array Value} {below : List Frame} {meth : Method} {c : Code} {D : va_G} {tc : Nat → ClassId} {b z : Nat} {σ0 : CS}
theorem t_E_isSameAgain_50 {q : Nat} (S : CC p m c k_E_isSameAgain 2 s args cn_E meth (Option.some Jvm.ClassFile.FieldType.boolean) D tc b z) (hq : q = 7 ∨ q = 14) (w0 : Int32) (σ : CS) {B : Int32 × CS} (h : b_E_isSameAgain_50 q w0 σ = some B) {ls : Array Slot} {H : Heap} {locs : List Loc} {cells slots : Nat} (hl : lv_has ls 2 []) (hW : CWS D tc b z s σ0 σ H locs cells slots) : W p l e (CR 4 84 σ0) s m args below meth c H locs cells slots (CE D tc b z below args s σ0 (some (.int B.1)) B.2) (F0 m 50 ls [.int w0]) := by
  have hx := S.1.1
  have hb := S.1.2.1
  unfold b_E_isSameAgain_50 at h
  exact cm_zret S hW d_E_isSameAgain_50 h
theorem t_E_isSameAgain_49 {q : Nat} (S : CC p m c k_E_isSameAgain 2 s args cn_E meth (Option.some Jvm.ClassFile.FieldType.boolean) D tc b z) (hq : q = 7 ∨ q = 14) (σ : CS) {B : Int32 × CS} (h : b_E_isSameAgain_49 q  σ = some B) {ls : Array Slot} {H : Heap} {locs : List Loc} {cells slots : Nat} (hl : lv_has ls 2 []) (hW : CWS D tc b z s σ0 σ H locs cells slots) : W p l e (CR 4 84 σ0) s m args below meth c H locs cells slots (CE D tc b z below args s σ0 (some (.int B.1)) B.2) (F0 m 49 ls []) := by
  have hx := S.1.1
  have hb := S.1.2.1
  unfold b_E_isSameAgain_49 at h
  refine lv_iconst (v := 0) hx hb d_E_isSameAgain_49 (by decide) ?_
  exact t_E_isSameAgain_50 S hq (0 : Int32) σ h (lv_sub hl [] rfl) hW
theorem t_E_isSameAgain_0 (S : CC p m c k_E_isSameAgain 2 s args cn_E meth (Option.some Jvm.ClassFile.FieldType.boolean) D tc b z) (q : Nat) (v1 : Nat) (σ : CS) {B : Int32 × CS} (h : m_E_isSameAgain q v1 σ = some B) {ls : Array Slot} {H : Heap} {locs : List Loc} {cells slots : Nat} (hl : lv_has ls 2 [(0, .ref (b + q)), (1, .ref (b + v1))]) (hW : CWS D tc b z s σ0 σ H locs cells slots) : W p l e (CR 4 84 σ0) s m args below meth c H locs cells slots (CE D tc b z below args s σ0 (some (.int B.1)) B.2) (F0 m 0 ls []) := by
  have hx := S.1.1
  have hb := S.1.2.1
  unfold m_E_isSameAgain at h
  obtain ⟨hq, h⟩ := gd_s h
  refine lv_aload_n hx hb d_E_isSameAgain_0 rfl (lv_at hl 1 rfl) ?_
  obtain ⟨hg, h⟩ := gd_s h
  refine cm_cVi [] kx_G S hW hg (fun x σ' hc => c_G_ack v1 σ hc) q_G_ack wd_1019 wd_1020 wd_1036 (by decide) hl.1 rfl rfl (Nat.le_of_ble_eq_true rfl) d_E_isSameAgain_1 h (fun x2 r1 H locs cells slots h hW => ?_)
  refine lv_aload_n hx hb d_E_isSameAgain_4 rfl (lv_at hl 0 rfl) ?_
  refine cm_getf kx_E S hW (kE hq) 3 (q + 1) rfl wd_353 (by decide) d_E_isSameAgain_5 ?_
  refine cm_geti kx_U S hW (kEU hq) 4 wd_206 (by decide) d_E_isSameAgain_8 h (fun x3 h => ?_)
  refine rc_ne (tgt := 49) hx hb d_E_isSameAgain_11 (by decide) h (fun h => ?_) (fun h => ?_)
  · exact t_E_isSameAgain_49 S hq  r1 h (lv_sub hl [] rfl) hW
  · refine lv_aload_n hx hb d_E_isSameAgain_14 rfl (lv_at hl 1 rfl) ?_
    obtain ⟨hg, h⟩ := gd_s h
    refine cm_cVi [] kx_G S hW hg (fun x σ' hc => c_G_span v1 r1 hc) q_G_span wd_1075 wd_1076 wd_1074 (by decide) hl.1 rfl rfl (Nat.le_of_ble_eq_true rfl) d_E_isSameAgain_15 h (fun x5 r4 H locs cells slots h hW => ?_)
    refine rb_ne (tgt := 49) hx hb d_E_isSameAgain_18 (by decide) h (fun h => ?_) (fun h => ?_)
    · exact t_E_isSameAgain_49 S hq  r4 h (lv_sub hl [] rfl) hW
    · refine lv_aload_n hx hb d_E_isSameAgain_21 rfl (lv_at hl 1 rfl) ?_
      obtain ⟨hg, h⟩ := gd_s h
      refine cm_cVi [] kx_G S hW hg (fun x σ' hc => c_G_window v1 r4 hc) q_G_window wd_1014 wd_1015 wd_1108 (by decide) hl.1 rfl rfl (Nat.le_of_ble_eq_true rfl) d_E_isSameAgain_22 h (fun x7 r6 H locs cells slots h hW => ?_)
      refine lv_aload_n hx hb d_E_isSameAgain_25 rfl (lv_at hl 0 rfl) ?_
      refine cm_getf kx_E S hW (kE hq) 3 (q + 1) rfl wd_353 (by decide) d_E_isSameAgain_26 ?_
      refine cm_geti kx_U S hW (kEU hq) 9 wd_216 (by decide) d_E_isSameAgain_29 h (fun x8 h => ?_)
      refine rc_ne (tgt := 49) hx hb d_E_isSameAgain_32 (by decide) h (fun h => ?_) (fun h => ?_)
      · exact t_E_isSameAgain_49 S hq  r6 h (lv_sub hl [] rfl) hW
      · refine lv_aload_n hx hb d_E_isSameAgain_35 rfl (lv_at hl 0 rfl) ?_
        refine cm_getf kx_E S hW (kE hq) 3 (q + 1) rfl wd_353 (by decide) d_E_isSameAgain_36 ?_
        refine cm_cVi [] kx_U S hW (kEU hq) (fun x σ' hc => c_U_flight (q + 1) r6 hc) q_U_flight wd_849 wd_850 wd_848 (by decide) hl.1 rfl rfl (Nat.le_of_ble_eq_true rfl) d_E_isSameAgain_39 h (fun x10 r9 H locs cells slots h hW => ?_)
        refine rb_eq (tgt := 49) hx hb d_E_isSameAgain_42 (by decide) h (fun h => ?_) (fun h => ?_)
        · exact t_E_isSameAgain_49 S hq  r9 h (lv_sub hl [] rfl) hW
        · refine lv_iconst (v := 1) hx hb d_E_isSameAgain_45 (by decide) ?_
          refine lv_goto (tgt := 50) hx hb d_E_isSameAgain_46 (by decide) ?_
          exact t_E_isSameAgain_50 S hq (1 : Int32) r9 h (lv_sub hl [] rfl) hW
theorem c_E_isSameAgain (q : Nat) (v1 : Nat) (σ : CS) {x : Int32} {σ' : CS} (h : m_E_isSameAgain q v1 σ = some (x, σ')) : CMet l D tc b z y_E_isSameAgain k_E_isSameAgain 2 (Option.some Jvm.ClassFile.FieldType.boolean) 4 84 [.ref (b + q), .ref (b + v1)] σ (some (.int x)) σ' := cm_met (by decide) (Nat.le_of_ble_eq_true rfl) fun p e s m args below meth c S hW ls hl => t_E_isSameAgain_0 S q v1 σ h hl hW
end

/-! StreamPair$End.heedSameAgain ()V -/
abbrev k_E_heedSameAgain : ByteArray := prog_5_method_29_code
abbrev y_E_heedSameAgain : MethodName := ⟨cn_E, "heedSameAgain", "()V"⟩
theorem q_E_heedSameAgain : Calee y_E_heedSameAgain k_E_heedSameAgain 2 none 0 := ⟨wd_1112, wd_85, by decide, by decide +kernel⟩
theorem d_E_heedSameAgain_0 : decode k_E_heedSameAgain 0 = .ok (.aload_n 0, 1) := by decide +kernel
theorem d_E_heedSameAgain_1 : decode k_E_heedSameAgain 1 = .ok (.getfield 35, 3) := by decide +kernel
theorem d_E_heedSameAgain_4 : decode k_E_heedSameAgain 4 = .ok (.dup, 1) := by decide +kernel
theorem d_E_heedSameAgain_5 : decode k_E_heedSameAgain 5 = .ok (.getfield 309, 3) := by decide +kernel
theorem d_E_heedSameAgain_8 : decode k_E_heedSameAgain 8 = .ok (.iconst 1, 1) := by decide +kernel
theorem d_E_heedSameAgain_9 : decode k_E_heedSameAgain 9 = .ok (.iadd, 1) := by decide +kernel
theorem d_E_heedSameAgain_10 : decode k_E_heedSameAgain 10 = .ok (.putfield 309, 3) := by decide +kernel
theorem d_E_heedSameAgain_13 : decode k_E_heedSameAgain 13 = .ok (.aload_n 0, 1) := by decide +kernel
theorem d_E_heedSameAgain_14 : decode k_E_heedSameAgain 14 = .ok (.getfield 35, 3) := by decide +kernel
theorem d_E_heedSameAgain_17 : decode k_E_heedSameAgain 17 = .ok (.getfield 309, 3) := by decide +kernel
theorem d_E_heedSameAgain_20 : decode k_E_heedSameAgain 20 = .ok (.iconst 3, 1) := by decide +kernel
theorem d_E_heedSameAgain_21 : decode k_E_heedSameAgain 21 = .ok (.if_icmp .eq 4, 3) := by decide +kernel
theorem d_E_heedSameAgain_24 : decode k_E_heedSameAgain 24 = .ok (.return_, 1) := by decide +kernel
theorem d_E_heedSameAgain_25 : decode k_E_heedSameAgain 25 = .ok (.aload_n 0, 1) := by decide +kernel
theorem d_E_heedSameAgain_26 : decode k_E_heedSameAgain 26 = .ok (.getfield 35, 3) := by decide +kernel
theorem d_E_heedSameAgain_29 : decode k_E_heedSameAgain 29 = .ok (.aload_n 0, 1) := by decide +kernel
theorem d_E_heedSameAgain_30 : decode k_E_heedSameAgain 30 = .ok (.getfield 12, 3) := by decide +kernel
theorem d_E_heedSameAgain_33 : decode k_E_heedSameAgain 33 = .ok (.invokevirtual 184, 3) := by decide +kernel
theorem d_E_heedSameAgain_36 : decode k_E_heedSameAgain 36 = .ok (.invokevirtual 313, 3) := by decide +kernel
theorem d_E_heedSameAgain_39 : decode k_E_heedSameAgain 39 = .ok (.aload_n 0, 1) := by decide +kernel
theorem d_E_heedSameAgain_40 : decode k_E_heedSameAgain 40 = .ok (.getfield 28, 3) := by decide +kernel
theorem d_E_heedSameAgain_43 : decode k_E_heedSameAgain 43 = .ok (.invokevirtual 316, 3) := by decide +kernel
theorem d_E_heedSameAgain_46 : decode k_E_heedSameAgain 46 = .ok (.aload_n 0, 1) := by decide +kernel
theorem d_E_heedSameAgain_47 : decode k_E_heedSameAgain 47 = .ok (.getfield 35, 3) := by decide +kernel
theorem d_E_heedSameAgain_50 : decode k_E_heedSameAgain 50 = .ok (.getfield 108, 3) := by decide +kernel
theorem d_E_heedSameAgain_53 : decode k_E_heedSameAgain 53 = .ok (.aload_n 0, 1) := by decide +kernel
theorem d_E_heedSameAgain_54 : decode k_E_heedSameAgain 54 = .ok (.getfield 12, 3) := by decide +kernel
theorem d_E_heedSameAgain_57 : decode k_E_heedSameAgain 57 = .ok (.invokevirtual 319, 3) := by decide +kernel
theorem d_E_heedSameAgain_60 : decode k_E_heedSameAgain 60 = .ok (.invokestatic 196, 3) := by decide +kernel
theorem d_E_heedSameAgain_63 : decode k_E_heedSameAgain 63 = .ok (.istore_n 1, 1) := by decide +kernel
theorem d_E_heedSameAgain_64 : decode k_E_heedSameAgain 64 = .ok (.aload_n 0, 1) := by decide +kernel
theorem d_E_heedSameAgain_65 : decode k_E_heedSameAgain 65 = .ok (.iload_n 1, 1) := by decide +kernel
theorem d_E_heedSameAgain_66 : decode k_E_heedSameAgain 66 = .ok (.ifCond .le 7, 3) := by decide +kernel
theorem d_E_heedSameAgain_69 : decode k_E_heedSameAgain 69 = .ok (.iconst 0, 1) := by decide +kernel
theorem d_E_heedSameAgain_70 : decode k_E_heedSameAgain 70 = .ok (.goto 4, 3) := by decide +kernel
theorem d_E_heedSameAgain_73 : decode k_E_heedSameAgain 73 = .ok (.iconst 1, 1) := by decide +kernel
theorem d_E_heedSameAgain_74 : decode k_E_heedSameAgain 74 = .ok (.aload_n 0, 1) := by decide +kernel
theorem d_E_heedSameAgain_75 : decode k_E_heedSameAgain 75 = .ok (.getfield 12, 3) := by decide +kernel
theorem d_E_heedSameAgain_78 : decode k_E_heedSameAgain 78 = .ok (.getfield 214, 3) := by decide +kernel
theorem d_E_heedSameAgain_81 : decode k_E_heedSameAgain 81 = .ok (.iload_n 1, 1) := by decide +kernel
theorem d_E_heedSameAgain_82 : decode k_E_heedSameAgain 82 = .ok (.invokevirtual 94, 3) := by decide +kernel
theorem d_E_heedSameAgain_85 : decode k_E_heedSameAgain 85 = .ok (.return_, 1) := by decide +kernel
def b_E_heedSameAgain_74 (q : Nat) (v1 : Int32) (w1 : Int32) (σ : CS) : Option (CS) :=
  bd (cI σ (q + 1) 4) fun x1 => bc (m_E_send q w1 x1 v1 σ) fun r2 => some r2
def m_E_heedSameAgain (q : Nat) (σ : CS) : Option (CS) :=
  gd (q = 7 ∨ q = 14) <| bd (cI σ (q + 6) 3) fun x1 => bd (wi σ (q + 6) 3 (x1 + (1 : Int32))) fun r2 => bd (cI r2 (q + 6) 3) fun x3 => if x3 = (3 : Int32) then
  (bc2 (m_U_flight (q + 1) r2) fun x5 r4 => bc (m_O_halve (q + 6) x5 r4) fun r6 => bc (m_Z_forgetTimed (q + 5) r6) fun r7 => bd (cI r7 (q + 6) 0) fun x8 => bc2 (m_U_sentBytes (q + 1) r7) fun x10 r9 => bd (if x10 < x8 then x10 else x8) fun x11 => if x11 ≤ 0 then
  (b_E_heedSameAgain_74 q x11 (1 : Int32) r9)
 else
  (b_E_heedSameAgain_74 q x11 (0 : Int32) r9))
 else
  (some r2)
section
variable {p : Program} {l : Launch} {e : Env} {s : State} {m : MethodId} {args : Array Value} {below : List Frame} {meth : Method} {c : Code} {D : va_G} {tc : Nat → ClassId} {b z : Nat} {σ0 : CS}
theorem t_E_heedSameAgain_74 {q : Nat} (S : CC p m c k_E_heedSameAgain 2 s args cn_E meth none D tc b z) (hq : q = 7 ∨ q = 14) (v1 : Int32) (w1 : Int32) (σ : CS) {B : CS} (h : b_E_heedSameAgain_74 q v1 w1 σ = some B) {ls : Array Slot} {H : Heap} {locs : List Loc} {cells slots : Nat} (hl : lv_has ls 2 [(0, .ref (b + q)), (1, .int v1)]) (hW : CWS D tc b z s σ0 σ H locs cells slots) : W p l e (CR 10 247 σ0) s m args below meth c H locs cells slots (CE D tc b z below args s σ0 none B) (F0 m 74 ls [.int w1, .ref (b + q)]) := by
  have hx := S.1.1
  have hb := S.1.2.1
  unfold b_E_heedSameAgain_74 at h
  refine lv_aload_n hx hb d_E_heedSameAgain_74 rfl (lv_at hl 0 rfl) ?_
  refine cm_getf kx_E S hW (kE hq) 3 (q + 1) rfl wd_353 (by decide) d_E_heedSameAgain_75 ?_
  refine cm_geti kx_U S hW (kEU hq) 4 wd_206 (by decide) d_E_heedSameAgain_78 h (fun x1 h => ?_)
  refine lv_iload_n hx hb d_E_heedSameAgain_81 rfl (lv_at hl 1 rfl) ?_
  refine cm_cVv [.int w1, .int x1, .int v1] kx_E S hW (kE hq) (fun σ' hc => c_E_send q w1 x1 v1 σ hc) q_E_send wd_550 wd_4 wd_548 (by decide) hl.1 rfl rfl (Nat.le_of_ble_eq_true rfl) d_E_heedSameAgain_82 h (fun r2 H locs cells slots h hW => ?_)
  exact cm_vret S hW d_E_heedSameAgain_85 h
theorem t_E_heedSameAgain_0 (S : CC p m c k_E_heedSameAgain 2 s args cn_E meth none D tc b z) (q : Nat) (σ : CS) {B : CS} (h : m_E_heedSameAgain q σ = some B) {ls : Array Slot} {H : Heap} {locs : List Loc} {cells slots : Nat} (hl : lv_has ls 2 [(0, .ref (b + q))]) (hW : CWS D tc b z s σ0 σ H locs cells slots) : W p l e (CR 10 247 σ0) s m args below meth c H locs cells slots (CE D tc b z below args s σ0 none B) (F0 m 0 ls []) := by
  have hx := S.1.1
  have hb := S.1.2.1
  unfold m_E_heedSameAgain at h
  obtain ⟨hq, h⟩ := gd_s h
  refine lv_aload_n hx hb d_E_heedSameAgain_0 rfl (lv_at hl 0 rfl) ?_
  refine cm_getf kx_E S hW (kE hq) 6 (q + 6) rfl wd_359 (by decide) d_E_heedSameAgain_1 ?_
  refine lv_dup hx hb d_E_heedSameAgain_4 rfl ?_
  refine cm_geti kx_O S hW (kEO hq) 3 wd_339 (by decide) d_E_heedSameAgain_5 h (fun x1 h => ?_)
  refine lv_iconst (v := 1) hx hb d_E_heedSameAgain_8 (by decide) ?_
  refine lv_iadd hx hb d_E_heedSameAgain_9 ?_
  refine cm_puti kx_O S hW (kEO hq) 3 wd_339 (by decide) d_E_heedSameAgain_10 h (fun r2 H locs h hW => ?_)
  refine lv_aload_n hx hb d_E_heedSameAgain_13 rfl (lv_at hl 0 rfl) ?_
  refine cm_getf kx_E S hW (kE hq) 6 (q + 6) rfl wd_359 (by decide) d_E_heedSameAgain_14 ?_
  refine cm_geti kx_O S hW (kEO hq) 3 wd_339 (by decide) d_E_heedSameAgain_17 h (fun x3 h => ?_)
  refine lv_iconst (v := 3) hx hb d_E_heedSameAgain_20 (by decide) ?_
  refine rc_eq (tgt := 25) hx hb d_E_heedSameAgain_21 (by decide) h (fun h => ?_) (fun h => ?_)
  · refine lv_aload_n hx hb d_E_heedSameAgain_25 rfl (lv_at hl 0 rfl) ?_
    refine cm_getf kx_E S hW (kE hq) 6 (q + 6) rfl wd_359 (by decide) d_E_heedSameAgain_26 ?_
    refine lv_aload_n hx hb d_E_heedSameAgain_29 rfl (lv_at hl 0 rfl) ?_
    refine cm_getf kx_E S hW (kE hq) 3 (q + 1) rfl wd_353 (by decide) d_E_heedSameAgain_30 ?_
    refine cm_cVi [] kx_U S hW (kEU hq) (fun x σ' hc => c_U_flight (q + 1) r2 hc) q_U_flight wd_849 wd_850 wd_848 (by decide) hl.1 rfl rfl (Nat.le_of_ble_eq_true rfl) d_E_heedSameAgain_33 h (fun x5 r4 H locs cells slots h hW => ?_)
    refine cm_cVv [.int x5] kx_O S hW (kEO hq) (fun σ' hc => c_O_halve (q + 6) x5 r4 hc) q_O_halve wd_1114 wd_1115 wd_1113 (by decide) hl.1 rfl rfl (Nat.le_of_ble_eq_true rfl) d_E_heedSameAgain_36 h (fun r6 H locs cells slots h hW => ?_)
    refine lv_aload_n hx hb d_E_heedSameAgain_39 rfl (lv_at hl 0 rfl) ?_
    refine cm_getf kx_E S hW (kE hq) 5 (q + 5) rfl wd_357 (by decide) d_E_heedSameAgain_40 ?_
    refine cm_cVv [] kx_Z S hW (kEZ hq) (fun σ' hc => c_Z_forgetTimed (q + 5) r6 hc) q_Z_forgetTimed wd_1118 wd_1119 wd_1117 (by decide) hl.1 rfl rfl (Nat.le_of_ble_eq_true rfl) d_E_heedSameAgain_43 h (fun r7 H locs cells slots h hW => ?_)
    refine lv_aload_n hx hb d_E_heedSameAgain_46 rfl (lv_at hl 0 rfl) ?_
    refine cm_getf kx_E S hW (kE hq) 6 (q + 6) rfl wd_359 (by decide) d_E_heedSameAgain_47 ?_
    refine cm_geti kx_O S hW (kEO hq) 0 wd_333 (by decide) d_E_heedSameAgain_50 h (fun x8 h => ?_)
    refine lv_aload_n hx hb d_E_heedSameAgain_53 rfl (lv_at hl 0 rfl) ?_
    refine cm_getf kx_E S hW (kE hq) 3 (q + 1) rfl wd_353 (by decide) d_E_heedSameAgain_54 ?_
    refine cm_cVi [] kx_U S hW (kEU hq) (fun x σ' hc => c_U_sentBytes (q + 1) r7 hc) q_U_sentBytes wd_1122 wd_1123 wd_1121 (by decide) hl.1 rfl rfl (Nat.le_of_ble_eq_true rfl) d_E_heedSameAgain_57 h (fun x10 r9 H locs cells slots h hW => ?_)
    refine cm_jmin S hW wd_847 wd_506 wd_96 wd_507 hl.1 (by decide) (Nat.le_of_ble_eq_true rfl) d_E_heedSameAgain_60 ?_
    refine rv_i h (fun x11 h => ?_)
    refine lv_istore_n (lv' := [(1, .int x11), (0, .ref (b + q))]) hx hb d_E_heedSameAgain_63 rfl hl (by decide) rfl (fun ls hl => ?_)
    refine lv_aload_n hx hb d_E_heedSameAgain_64 rfl (lv_at hl 1 rfl) ?_
    refine lv_iload_n hx hb d_E_heedSameAgain_65 rfl (lv_at hl 0 rfl) ?_
    refine rb_le (tgt := 73) hx hb d_E_heedSameAgain_66 (by decide) h (fun h => ?_) (fun h => ?_)
    · refine lv_iconst (v := 1) hx hb d_E_heedSameAgain_73 (by decide) ?_
      exact t_E_heedSameAgain_74 S hq x11 (1 : Int32) r9 h (lv_sub hl [1, 0] rfl) hW
    · refine lv_iconst (v := 0) hx hb d_E_heedSameAgain_69 (by decide) ?_
      refine lv_goto (tgt := 74) hx hb d_E_heedSameAgain_70 (by decide) ?_
      exact t_E_heedSameAgain_74 S hq x11 (0 : Int32) r9 h (lv_sub hl [1, 0] rfl) hW
  · exact cm_vret S hW d_E_heedSameAgain_24 h
theorem c_E_heedSameAgain (q : Nat) (σ : CS) {B : CS} (h : m_E_heedSameAgain q σ = some B) : CMet l D tc b z y_E_heedSameAgain k_E_heedSameAgain 2 none 10 247 [.ref (b + q)] σ none B := cm_met (by decide) (Nat.le_of_ble_eq_true rfl) fun p e s m args below meth c S hW ls hl => t_E_heedSameAgain_0 S q σ h hl hW
end

/-! StreamPair$End.heedWindow (LStreamPair$Segment;)V -/
abbrev k_E_heedWindow : ByteArray := prog_5_method_30_code
abbrev y_E_heedWindow : MethodName := ⟨cn_E, "heedWindow", "(LStreamPair$Segment;)V"⟩
theorem q_E_heedWindow : Calee y_E_heedWindow k_E_heedWindow 2 none 1 := ⟨wd_1128, wd_85, by decide, by decide +kernel⟩
theorem d_E_heedWindow_0 : decode k_E_heedWindow 0 = .ok (.aload_n 0, 1) := by decide +kernel
theorem d_E_heedWindow_1 : decode k_E_heedWindow 1 = .ok (.getfield 12, 3) := by decide +kernel
theorem d_E_heedWindow_4 : decode k_E_heedWindow 4 = .ok (.aload_n 1, 1) := by decide +kernel
theorem d_E_heedWindow_5 : decode k_E_heedWindow 5 = .ok (.invokevirtual 322, 3) := by decide +kernel
theorem d_E_heedWindow_8 : decode k_E_heedWindow 8 = .ok (.ifCond .ne 4, 3) := by decide +kernel
theorem d_E_heedWindow_11 : decode k_E_heedWindow 11 = .ok (.return_, 1) := by decide +kernel
theorem d_E_heedWindow_12 : decode k_E_heedWindow 12 = .ok (.aload_n 0, 1) := by decide +kernel
theorem d_E_heedWindow_13 : decode k_E_heedWindow 13 = .ok (.getfield 12, 3) := by decide +kernel
theorem d_E_heedWindow_16 : decode k_E_heedWindow 16 = .ok (.aload_n 1, 1) := by decide +kernel
theorem d_E_heedWindow_17 : decode k_E_heedWindow 17 = .ok (.invokevirtual 262, 3) := by decide +kernel
theorem d_E_heedWindow_20 : decode k_E_heedWindow 20 = .ok (.aload_n 0, 1) := by decide +kernel
theorem d_E_heedWindow_21 : decode k_E_heedWindow 21 = .ok (.getfield 12, 3) := by decide +kernel
theorem d_E_heedWindow_24 : decode k_E_heedWindow 24 = .ok (.getfield 193, 3) := by decide +kernel
theorem d_E_heedWindow_27 : decode k_E_heedWindow 27 = .ok (.ifCond .ne 11, 3) := by decide +kernel
theorem d_E_heedWindow_30 : decode k_E_heedWindow 30 = .ok (.aload_n 0, 1) := by decide +kernel
theorem d_E_heedWindow_31 : decode k_E_heedWindow 31 = .ok (.getfield 28, 3) := by decide +kernel
theorem d_E_heedWindow_34 : decode k_E_heedWindow 34 = .ok (.iconst 0, 1) := by decide +kernel
theorem d_E_heedWindow_35 : decode k_E_heedWindow 35 = .ok (.putfield 202, 3) := by decide +kernel
theorem d_E_heedWindow_38 : decode k_E_heedWindow 38 = .ok (.return_, 1) := by decide +kernel
def b_E_heedWindow_38 (q : Nat) (σ : CS) : Option (CS) :=
  some σ
def m_E_heedWindow (q : Nat) (v1 : Nat) (σ : CS) : Option (CS) :=
  gd (q = 7 ∨ q = 14) <| bc2 (m_U_isNewerWindow (q + 1) v1 σ) fun x2 r1 => if x2 = 0 then
  (some r1)
 else
  (bc (m_U_heedWindow (q + 1) v1 r1) fun r3 => bd (cI r3 (q + 1) 9) fun x4 => if x4 = 0 then
  (bd (wi r3 (q + 5) 1 (0 : Int32)) fun r5 => b_E_heedWindow_38 q  r5)
 else
  (b_E_heedWindow_38 q  r3))
section
variable {p : Program} {l : Launch} {e : Env} {s : State} {m : MethodId} {args : Array Value} {below : List Frame} {meth : Method} {c : Code} {D : va_G} {tc : Nat → ClassId} {b z : Nat} {σ0 : CS}
theorem t_E_heedWindow_38 {q : Nat} (S : CC p m c k_E_heedWindow 2 s args cn_E meth none D tc b z) (hq : q = 7 ∨ q = 14) (σ : CS) {B : CS} (h : b_E_heedWindow_38 q  σ = some B) {ls : Array Slot} {H : Heap} {locs : List Loc} {cells slots : Nat} (hl : lv_has ls 2 []) (hW : CWS D tc b z s σ0 σ H locs cells slots) : W p l e (CR 3 67 σ0) s m args below meth c H locs cells slots (CE D tc b z below args s σ0 none B) (F0 m 38 ls []) := by
  have hx := S.1.1
  have hb := S.1.2.1
  unfold b_E_heedWindow_38 at h
  exact cm_vret S hW d_E_heedWindow_38 h
theorem t_E_heedWindow_0 (S : CC p m c k_E_heedWindow 2 s args cn_E meth none D tc b z) (q : Nat) (v1 : Nat) (σ : CS) {B : CS} (h : m_E_heedWindow q v1 σ = some B) {ls : Array Slot} {H : Heap} {locs : List Loc} {cells slots : Nat} (hl : lv_has ls 2 [(0, .ref (b + q)), (1, .ref (b + v1))]) (hW : CWS D tc b z s σ0 σ H locs cells slots) : W p l e (CR 3 67 σ0) s m args below meth c H locs cells slots (CE D tc b z below args s σ0 none B) (F0 m 0 ls []) := by
  have hx := S.1.1
  have hb := S.1.2.1
  unfold m_E_heedWindow at h
  obtain ⟨hq, h⟩ := gd_s h
  refine lv_aload_n hx hb d_E_heedWindow_0 rfl (lv_at hl 0 rfl) ?_
  refine cm_getf kx_E S hW (kE hq) 3 (q + 1) rfl wd_353 (by decide) d_E_heedWindow_1 ?_
  refine lv_aload_n hx hb d_E_heedWindow_4 rfl (lv_at hl 1 rfl) ?_
  refine cm_cVi [.ref (b + v1)] kx_U S hW (kEU hq) (fun x σ' hc => c_U_isNewerWindow (q + 1) v1 σ hc) q_U_isNewerWindow wd_1130 wd_1131 wd_1129 (by decide) hl.1 rfl rfl (Nat.le_of_ble_eq_true rfl) d_E_heedWindow_5 h (fun x2 r1 H locs cells slots h hW => ?_)
  refine rb_ne (tgt := 12) hx hb d_E_heedWindow_8 (by decide) h (fun h => ?_) (fun h => ?_)
  · refine lv_aload_n hx hb d_E_heedWindow_12 rfl (lv_at hl 0 rfl) ?_
    refine cm_getf kx_E S hW (kE hq) 3 (q + 1) rfl wd_353 (by decide) d_E_heedWindow_13 ?_
    refine lv_aload_n hx hb d_E_heedWindow_16 rfl (lv_at hl 1 rfl) ?_
    refine cm_cVv [.ref (b + v1)] kx_U S hW (kEU hq) (fun σ' hc => c_U_heedWindow (q + 1) v1 r1 hc) q_U_heedWindow wd_1010 wd_1011 wd_1009 (by decide) hl.1 rfl rfl (Nat.le_of_ble_eq_true rfl) d_E_heedWindow_17 h (fun r3 H locs cells slots h hW => ?_)
    refine lv_aload_n hx hb d_E_heedWindow_20 rfl (lv_at hl 0 rfl) ?_
    refine cm_getf kx_E S hW (kE hq) 3 (q + 1) rfl wd_353 (by decide) d_E_heedWindow_21 ?_
    refine cm_geti kx_U S hW (kEU hq) 9 wd_216 (by decide) d_E_heedWindow_24 h (fun x4 h => ?_)
    refine rb_ne (tgt := 38) hx hb d_E_heedWindow_27 (by decide) h (fun h => ?_) (fun h => ?_)
    · exact t_E_heedWindow_38 S hq  r3 h (lv_sub hl [] rfl) hW
    · refine lv_aload_n hx hb d_E_heedWindow_30 rfl (lv_at hl 0 rfl) ?_
      refine cm_getf kx_E S hW (kE hq) 5 (q + 5) rfl wd_357 (by decide) d_E_heedWindow_31 ?_
      refine lv_iconst (v := 0) hx hb d_E_heedWindow_34 (by decide) ?_
      refine cm_puti kx_Z S hW (kEZ hq) 1 wd_293 (by decide) d_E_heedWindow_35 h (fun r5 H locs h hW => ?_)
      exact t_E_heedWindow_38 S hq  r5 h (lv_sub hl [] rfl) hW
  · exact cm_vret S hW d_E_heedWindow_11 h
theorem c_E_heedWindow (q : Nat) (v1 : Nat) (σ : CS) {B : CS} (h : m_E_heedWindow q v1 σ = some B) : CMet l D tc b z y_E_heedWindow k_E_heedWindow 2 none 3 67 [.ref (b + q), .ref (b + v1)] σ none B := cm_met (by decide) (Nat.le_of_ble_eq_true rfl) fun p e s m args below meth c S hW ls hl => t_E_heedWindow_0 S q v1 σ h hl hW
end

/-! StreamPair$End.heedFinAcknowledged ()V -/
abbrev k_E_heedFinAcknowledged : ByteArray := prog_5_method_31_code
abbrev y_E_heedFinAcknowledged : MethodName := ⟨cn_E, "heedFinAcknowledged", "()V"⟩
theorem q_E_heedFinAcknowledged : Calee y_E_heedFinAcknowledged k_E_heedFinAcknowledged 1 none 0 := ⟨wd_1140, wd_85, by decide, by decide +kernel⟩
theorem d_E_heedFinAcknowledged_0 : decode k_E_heedFinAcknowledged 0 = .ok (.aload_n 0, 1) := by decide +kernel
theorem d_E_heedFinAcknowledged_1 : decode k_E_heedFinAcknowledged 1 = .ok (.getfield 54, 3) := by decide +kernel
theorem d_E_heedFinAcknowledged_4 : decode k_E_heedFinAcknowledged 4 = .ok (.iconst 5, 1) := by decide +kernel
theorem d_E_heedFinAcknowledged_5 : decode k_E_heedFinAcknowledged 5 = .ok (.if_icmp .ne 12, 3) := by decide +kernel
theorem d_E_heedFinAcknowledged_8 : decode k_E_heedFinAcknowledged 8 = .ok (.aload_n 0, 1) := by decide +kernel
theorem d_E_heedFinAcknowledged_9 : decode k_E_heedFinAcknowledged 9 = .ok (.bipush 6, 2) := by decide +kernel
theorem d_E_heedFinAcknowledged_11 : decode k_E_heedFinAcknowledged 11 = .ok (.putfield 54, 3) := by decide +kernel
theorem d_E_heedFinAcknowledged_14 : decode k_E_heedFinAcknowledged 14 = .ok (.goto 35, 3) := by decide +kernel
theorem d_E_heedFinAcknowledged_17 : decode k_E_heedFinAcknowledged 17 = .ok (.aload_n 0, 1) := by decide +kernel
theorem d_E_heedFinAcknowledged_18 : decode k_E_heedFinAcknowledged 18 = .ok (.getfield 54, 3) := by decide +kernel
theorem d_E_heedFinAcknowledged_21 : decode k_E_heedFinAcknowledged 21 = .ok (.bipush 8, 2) := by decide +kernel
theorem d_E_heedFinAcknowledged_23 : decode k_E_heedFinAcknowledged 23 = .ok (.if_icmp .ne 12, 3) := by decide +kernel
theorem d_E_heedFinAcknowledged_26 : decode k_E_heedFinAcknowledged 26 = .ok (.aload_n 0, 1) := by decide +kernel
theorem d_E_heedFinAcknowledged_27 : decode k_E_heedFinAcknowledged 27 = .ok (.bipush 10, 2) := by decide +kernel
theorem d_E_heedFinAcknowledged_29 : decode k_E_heedFinAcknowledged 29 = .ok (.putfield 54, 3) := by decide +kernel
theorem d_E_heedFinAcknowledged_32 : decode k_E_heedFinAcknowledged 32 = .ok (.goto 17, 3) := by decide +kernel
theorem d_E_heedFinAcknowledged_35 : decode k_E_heedFinAcknowledged 35 = .ok (.aload_n 0, 1) := by decide +kernel
theorem d_E_heedFinAcknowledged_36 : decode k_E_heedFinAcknowledged 36 = .ok (.getfield 54, 3) := by decide +kernel
theorem d_E_heedFinAcknowledged_39 : decode k_E_heedFinAcknowledged 39 = .ok (.bipush 9, 2) := by decide +kernel
theorem d_E_heedFinAcknowledged_41 : decode k_E_heedFinAcknowledged 41 = .ok (.if_icmp .ne 8, 3) := by decide +kernel
theorem d_E_heedFinAcknowledged_44 : decode k_E_heedFinAcknowledged 44 = .ok (.aload_n 0, 1) := by decide +kernel
theorem d_E_heedFinAcknowledged_45 : decode k_E_heedFinAcknowledged 45 = .ok (.iconst 0, 1) := by decide +kernel
theorem d_E_heedFinAcknowledged_46 : decode k_E_heedFinAcknowledged 46 = .ok (.invokevirtual 80, 3) := by decide +kernel
theorem d_E_heedFinAcknowledged_49 : decode k_E_heedFinAcknowledged 49 = .ok (.return_, 1) := by decide +kernel
def b_E_heedFinAcknowledged_49 (q : Nat) (σ : CS) : Option (CS) :=
  some σ
def m_E_heedFinAcknowledged (q : Nat) (σ : CS) : Option (CS) :=
  gd (q = 7 ∨ q = 14) <| bd (cI σ q 8) fun x1 => if x1 = (5 : Int32) then
  (bd (wi σ q 8 (6 : Int32)) fun r6 => b_E_heedFinAcknowledged_49 q  r6)
 else
  (bd (cI σ q 8) fun x2 => if x2 = (8 : Int32) then
  (bd (wi σ q 8 (10 : Int32)) fun r5 => b_E_heedFinAcknowledged_49 q  r5)
 else
  (bd (cI σ q 8) fun x3 => if x3 = (9 : Int32) then
  (bc (m_E_shut q (0 : Int32) σ) fun r4 => b_E_heedFinAcknowledged_49 q  r4)
 else
  (b_E_heedFinAcknowledged_49 q  σ)))
section
variable {p : Program} {l : Launch} {e : Env} {s : State} {m : MethodId} {args : Array Value} {below : List Frame} {meth : Method} {c : Code} {D : va_G} {tc : Nat → ClassId} {b z : Nat} {σ0 : CS}
theorem t_E_heedFinAcknowledged_49 {q : Nat} (S : CC p m c k_E_heedFinAcknowledged 1 s args cn_E meth none D tc b z) (hq : q = 7 ∨ q = 14) (σ : CS) {B : CS} (h : b_E_heedFinAcknowledged_49 q  σ = some B) {ls : Array Slot} {H : Heap} {locs : List Loc} {cells slots : Nat} (hl : lv_has ls 1 []) (hW : CWS D tc b z s σ0 σ H locs cells slots) : W p l e (CR 1 21 σ0) s m args below meth c H locs cells slots (CE D tc b z below args s σ0 none B) (F0 m 49 ls []) := by
  have hx := S.1.1
  have hb := S.1.2.1
  unfold b_E_heedFinAcknowledged_49 at h
  exact cm_vret S hW d_E_heedFinAcknowledged_49 h
theorem t_E_heedFinAcknowledged_0 (S : CC p m c k_E_heedFinAcknowledged 1 s args cn_E meth none D tc b z) (q : Nat) (σ : CS) {B : CS} (h : m_E_heedFinAcknowledged q σ = some B) {ls : Array Slot} {H : Heap} {locs : List Loc} {cells slots : Nat} (hl : lv_has ls 1 [(0, .ref (b + q))]) (hW : CWS D tc b z s σ0 σ H locs cells slots) : W p l e (CR 1 21 σ0) s m args below meth c H locs cells slots (CE D tc b z below args s σ0 none B) (F0 m 0 ls []) := by
  have hx := S.1.1
  have hb := S.1.2.1
  unfold m_E_heedFinAcknowledged at h
  obtain ⟨hq, h⟩ := gd_s h
  refine lv_aload_n hx hb d_E_heedFinAcknowledged_0 rfl (lv_at hl 0 rfl) ?_
  refine cm_geti kx_E S hW (kE hq) 8 wd_362 (by decide) d_E_heedFinAcknowledged_1 h (fun x1 h => ?_)
  refine lv_iconst (v := 5) hx hb d_E_heedFinAcknowledged_4 (by decide) ?_
  refine rc_ne (tgt := 17) hx hb d_E_heedFinAcknowledged_5 (by decide) h (fun h => ?_) (fun h => ?_)
  · refine lv_aload_n hx hb d_E_heedFinAcknowledged_17 rfl (lv_at hl 0 rfl) ?_
    refine cm_geti kx_E S hW (kE hq) 8 wd_362 (by decide) d_E_heedFinAcknowledged_18 h (fun x2 h => ?_)
    refine lv_bipush (v := 8) hx hb d_E_heedFinAcknowledged_21 (by decide) ?_
    refine rc_ne (tgt := 35) hx hb d_E_heedFinAcknowledged_23 (by decide) h (fun h => ?_) (fun h => ?_)
    · refine lv_aload_n hx hb d_E_heedFinAcknowledged_35 rfl (lv_at hl 0 rfl) ?_
      refine cm_geti kx_E S hW (kE hq) 8 wd_362 (by decide) d_E_heedFinAcknowledged_36 h (fun x3 h => ?_)
      refine lv_bipush (v := 9) hx hb d_E_heedFinAcknowledged_39 (by decide) ?_
      refine rc_ne (tgt := 49) hx hb d_E_heedFinAcknowledged_41 (by decide) h (fun h => ?_) (fun h => ?_)
      · exact t_E_heedFinAcknowledged_49 S hq  σ h (lv_sub hl [] rfl) hW
      · refine lv_aload_n hx hb d_E_heedFinAcknowledged_44 rfl (lv_at hl 0 rfl) ?_
        refine lv_iconst (v := 0) hx hb d_E_heedFinAcknowledged_45 (by decide) ?_
        refine cm_cVv [.int (0 : Int32)] kx_E S hW (kE hq) (fun σ' hc => c_E_shut q (0 : Int32) σ hc) q_E_shut wd_904 wd_14 wd_902 (by decide) hl.1 rfl rfl (Nat.le_of_ble_eq_true rfl) d_E_heedFinAcknowledged_46 h (fun r4 H locs cells slots h hW => ?_)
        exact t_E_heedFinAcknowledged_49 S hq  r4 h (lv_sub hl [] rfl) hW
    · refine lv_aload_n hx hb d_E_heedFinAcknowledged_26 rfl (lv_at hl 0 rfl) ?_
      refine lv_bipush (v := 10) hx hb d_E_heedFinAcknowledged_27 (by decide) ?_
      refine cm_puti kx_E S hW (kE hq) 8 wd_362 (by decide) d_E_heedFinAcknowledged_29 h (fun r5 H locs h hW => ?_)
      refine lv_goto (tgt := 49) hx hb d_E_heedFinAcknowledged_32 (by decide) ?_
      exact t_E_heedFinAcknowledged_49 S hq  r5 h (lv_sub hl [] rfl) hW
  · refine lv_aload_n hx hb d_E_heedFinAcknowledged_8 rfl (lv_at hl 0 rfl) ?_
    refine lv_bipush (v := 6) hx hb d_E_heedFinAcknowledged_9 (by decide) ?_
    refine cm_puti kx_E S hW (kE hq) 8 wd_362 (by decide) d_E_heedFinAcknowledged_11 h (fun r6 H locs h hW => ?_)
    refine lv_goto (tgt := 49) hx hb d_E_heedFinAcknowledged_14 (by decide) ?_
    exact t_E_heedFinAcknowledged_49 S hq  r6 h (lv_sub hl [] rfl) hW
theorem c_E_heedFinAcknowledged (q : Nat) (σ : CS) {B : CS} (h : m_E_heedFinAcknowledged q σ = some B) : CMet l D tc b z y_E_heedFinAcknowledged k_E_heedFinAcknowledged 1 none 1 21 [.ref (b + q)] σ none B := cm_met (by decide) (Nat.le_of_ble_eq_true rfl) fun p e s m args below meth c S hW ls hl => t_E_heedFinAcknowledged_0 S q σ h hl hW
end

