/-! sendAck (I)V -/
abbrev k_sendAck : ByteArray := prog_12_method_19_code
abbrev y_sendAck : MethodName := ⟨cn_M, "sendAck", "(I)V"⟩
theorem q_sendAck : Calee y_sendAck k_sendAck 2 none 1 := ⟨wd_1526, wd_90, by decide, by decide +kernel⟩
theorem d_sendAck_0 : decode k_sendAck 0 = .ok (.aload_n 0, 1) := by decide +kernel
theorem d_sendAck_1 : decode k_sendAck 1 = .ok (.iload_n 1, 1) := by decide +kernel
theorem d_sendAck_2 : decode k_sendAck 2 = .ok (.iconst 0, 1) := by decide +kernel
theorem d_sendAck_3 : decode k_sendAck 3 = .ok (.aload_n 0, 1) := by decide +kernel
theorem d_sendAck_4 : decode k_sendAck 4 = .ok (.getfield 48, 3) := by decide +kernel
theorem d_sendAck_7 : decode k_sendAck 7 = .ok (.iload_n 1, 1) := by decide +kernel
theorem d_sendAck_8 : decode k_sendAck 8 = .ok (.iaload, 1) := by decide +kernel
theorem d_sendAck_9 : decode k_sendAck 9 = .ok (.iconst 0, 1) := by decide +kernel
theorem d_sendAck_10 : decode k_sendAck 10 = .ok (.iconst 0, 1) := by decide +kernel
theorem d_sendAck_11 : decode k_sendAck 11 = .ok (.invokevirtual 205, 3) := by decide +kernel
theorem d_sendAck_14 : decode k_sendAck 14 = .ok (.return_, 1) := by decide +kernel
def m_sendAck (v1 : Int32) (ρ : RS) : Option (RS) :=
  gd (inb v1 2) <| bd (ρ.1 12 v1.toNatClampNeg) fun x1 => bc (m_send v1 (0 : Int32) x1 (0 : Int32) (0 : Int32) ρ) fun r2 => some r2
section
variable {p : Program} {l : Launch} {e : Env} {s : State} {m : MethodId} {args : Array Value} {below : List Frame} {meth : Method} {c : Code} {D : va_G} {tc : Nat → ClassId} {o : Nat}
theorem t_sendAck_0 (S : RC p m c k_sendAck 2 s args cn_M meth none D tc) (v1 : Int32) (ρ : RS) {B : RS} (h : m_sendAck v1 ρ = some B) {ls : Array Slot} {H : Heap} {locs : List Loc} (hl : lv_has ls 2 [(0, .ref o), (1, .int v1)]) (hW : RWS D tc o s ρ H locs) : W p l e { frames := 4, cells := 0, slots := 0, locals := 103 } s m args below meth c H locs 0 0 (MQ below (RQ D tc o none B) args s 0 0 (rreg o)) (F0 m 0 ls []) := by
  have hx := S.1.1
  have hb := S.1.2.1
  unfold m_sendAck at h
  refine lv_aload_n hx hb d_sendAck_0 rfl (lv_at hl 0 rfl) ?_
  refine lv_iload_n hx hb d_sendAck_1 rfl (lv_at hl 1 rfl) ?_
  refine lv_iconst (v := 0) hx hb d_sendAck_2 (by decide) ?_
  refine lv_aload_n hx hb d_sendAck_3 rfl (lv_at hl 0 rfl) ?_
  refine rm_geta S hW 17 12 wd_1269 (by decide) d_sendAck_4 ?_
  refine lv_iload_n hx hb d_sendAck_7 rfl (lv_at hl 1 rfl) ?_
  refine rm_iald S hW 12 2 (by decide) d_sendAck_8 h (fun x1 h => ?_)
  refine lv_iconst (v := 0) hx hb d_sendAck_9 (by decide) ?_
  refine lv_iconst (v := 0) hx hb d_sendAck_10 (by decide) ?_
  refine rm_cVv [.int v1, .int (0 : Int32), .int x1, .int (0 : Int32), .int (0 : Int32)] S hW (fun ρ' hc => c_send v1 (0 : Int32) x1 (0 : Int32) (0 : Int32) ρ hc) q_send wd_1449 wd_37 wd_1447 (by decide) hl.1 rfl rfl (Nat.le_of_ble_eq_true rfl) d_sendAck_11 h (fun r2 H locs h hW => ?_)
  exact rm_vret S hW d_sendAck_14 h
theorem c_sendAck (v1 : Int32) (ρ : RS) {B : RS} (h : m_sendAck v1 ρ = some B) : RMet l D tc o y_sendAck k_sendAck 2 none 4 103 [.ref o, .int v1] ρ none B := rm_met (by decide) (Nat.le_of_ble_eq_true rfl) fun p e s m args below meth c S hW ls hl => t_sendAck_0 S v1 ρ h hl hW
end

/-! left (I)I -/
abbrev k_left : ByteArray := prog_12_method_20_code
abbrev y_left : MethodName := ⟨cn_M, "left", "(I)I"⟩
theorem q_left : Calee y_left k_left 3 (some .int) 1 := ⟨wd_1513, wd_90, by decide, by decide +kernel⟩
theorem d_left_0 : decode k_left 0 = .ok (.aload_n 0, 1) := by decide +kernel
theorem d_left_1 : decode k_left 1 = .ok (.getfield 108, 3) := by decide +kernel
theorem d_left_4 : decode k_left 4 = .ok (.iload_n 1, 1) := by decide +kernel
theorem d_left_5 : decode k_left 5 = .ok (.iaload, 1) := by decide +kernel
theorem d_left_6 : decode k_left 6 = .ok (.aload_n 0, 1) := by decide +kernel
theorem d_left_7 : decode k_left 7 = .ok (.getfield 48, 3) := by decide +kernel
theorem d_left_10 : decode k_left 10 = .ok (.iload_n 1, 1) := by decide +kernel
theorem d_left_11 : decode k_left 11 = .ok (.iaload, 1) := by decide +kernel
theorem d_left_12 : decode k_left 12 = .ok (.aload_n 0, 1) := by decide +kernel
theorem d_left_13 : decode k_left 13 = .ok (.getfield 42, 3) := by decide +kernel
theorem d_left_16 : decode k_left 16 = .ok (.iload_n 1, 1) := by decide +kernel
theorem d_left_17 : decode k_left 17 = .ok (.iaload, 1) := by decide +kernel
theorem d_left_18 : decode k_left 18 = .ok (.isub, 1) := by decide +kernel
theorem d_left_19 : decode k_left 19 = .ok (.iconst 1, 1) := by decide +kernel
theorem d_left_20 : decode k_left 20 = .ok (.isub, 1) := by decide +kernel
theorem d_left_21 : decode k_left 21 = .ok (.isub, 1) := by decide +kernel
theorem d_left_22 : decode k_left 22 = .ok (.istore_n 2, 1) := by decide +kernel
theorem d_left_23 : decode k_left 23 = .ok (.iload_n 2, 1) := by decide +kernel
theorem d_left_24 : decode k_left 24 = .ok (.ifCond .ge 7, 3) := by decide +kernel
theorem d_left_27 : decode k_left 27 = .ok (.iconst 0, 1) := by decide +kernel
theorem d_left_28 : decode k_left 28 = .ok (.goto 4, 3) := by decide +kernel
theorem d_left_31 : decode k_left 31 = .ok (.iload_n 2, 1) := by decide +kernel
theorem d_left_32 : decode k_left 32 = .ok (.ireturn, 1) := by decide +kernel
def b_left_32 (w0 : Int32) (ρ : RS) : Option (Int32 × RS) :=
  some (w0, ρ)
def m_left (v1 : Int32) (ρ : RS) : Option (Int32 × RS) :=
  gd (inb v1 2) <| bd (ρ.1 32 v1.toNatClampNeg) fun x1 => gd (inb v1 2) <| bd (ρ.1 12 v1.toNatClampNeg) fun x2 => gd (inb v1 2) <| bd (ρ.1 10 v1.toNatClampNeg) fun x3 => bd (x1 - ((x2 - x3) - (1 : Int32))) fun x4 => if 0 ≤ x4 then
  (b_left_32 x4 ρ)
 else
  (b_left_32 (0 : Int32) ρ)
section
variable {p : Program} {l : Launch} {e : Env} {s : State} {m : MethodId} {args : Array Value} {below : List Frame} {meth : Method} {c : Code} {D : va_G} {tc : Nat → ClassId} {o : Nat}
theorem t_left_32 (S : RC p m c k_left 3 s args cn_M meth (some .int) D tc) (w0 : Int32) (ρ : RS) {B : Int32 × RS} (h : b_left_32 w0 ρ = some B) {ls : Array Slot} {H : Heap} {locs : List Loc} (hl : lv_has ls 3 []) (hW : RWS D tc o s ρ H locs) : W p l e { frames := 0, cells := 0, slots := 0, locals := 0 } s m args below meth c H locs 0 0 (MQ below (RQ D tc o (some (.int B.1)) B.2) args s 0 0 (rreg o)) (F0 m 32 ls [.int w0]) := by
  have hx := S.1.1
  have hb := S.1.2.1
  unfold b_left_32 at h
  exact rm_iret S hW d_left_32 h
theorem t_left_0 (S : RC p m c k_left 3 s args cn_M meth (some .int) D tc) (v1 : Int32) (ρ : RS) {B : Int32 × RS} (h : m_left v1 ρ = some B) {ls : Array Slot} {H : Heap} {locs : List Loc} (hl : lv_has ls 3 [(0, .ref o), (1, .int v1)]) (hW : RWS D tc o s ρ H locs) : W p l e { frames := 0, cells := 0, slots := 0, locals := 0 } s m args below meth c H locs 0 0 (MQ below (RQ D tc o (some (.int B.1)) B.2) args s 0 0 (rreg o)) (F0 m 0 ls []) := by
  have hx := S.1.1
  have hb := S.1.2.1
  unfold m_left at h
  refine lv_aload_n hx hb d_left_0 rfl (lv_at hl 0 rfl) ?_
  refine rm_geta S hW 37 32 wd_1289 (by decide) d_left_1 ?_
  refine lv_iload_n hx hb d_left_4 rfl (lv_at hl 1 rfl) ?_
  refine rm_iald S hW 32 2 (by decide) d_left_5 h (fun x1 h => ?_)
  refine lv_aload_n hx hb d_left_6 rfl (lv_at hl 0 rfl) ?_
  refine rm_geta S hW 17 12 wd_1269 (by decide) d_left_7 ?_
  refine lv_iload_n hx hb d_left_10 rfl (lv_at hl 1 rfl) ?_
  refine rm_iald S hW 12 2 (by decide) d_left_11 h (fun x2 h => ?_)
  refine lv_aload_n hx hb d_left_12 rfl (lv_at hl 0 rfl) ?_
  refine rm_geta S hW 15 10 wd_1267 (by decide) d_left_13 ?_
  refine lv_iload_n hx hb d_left_16 rfl (lv_at hl 1 rfl) ?_
  refine rm_iald S hW 10 2 (by decide) d_left_17 h (fun x3 h => ?_)
  refine lv_isub hx hb d_left_18 ?_
  refine lv_iconst (v := 1) hx hb d_left_19 (by decide) ?_
  refine lv_isub hx hb d_left_20 ?_
  refine lv_isub hx hb d_left_21 ?_
  refine rv_i h (fun x4 h => ?_)
  refine lv_istore_n (lv' := [(2, .int x4), (0, .ref o), (1, .int v1)]) hx hb d_left_22 rfl hl (by decide) rfl (fun ls hl => ?_)
  refine lv_iload_n hx hb d_left_23 rfl (lv_at hl 0 rfl) ?_
  refine rb_ge (tgt := 31) hx hb d_left_24 (by decide) h (fun h => ?_) (fun h => ?_)
  · refine lv_iload_n hx hb d_left_31 rfl (lv_at hl 0 rfl) ?_
    exact t_left_32 S x4 ρ h (lv_sub hl [] rfl) hW
  · refine lv_iconst (v := 0) hx hb d_left_27 (by decide) ?_
    refine lv_goto (tgt := 32) hx hb d_left_28 (by decide) ?_
    exact t_left_32 S (0 : Int32) ρ h (lv_sub hl [] rfl) hW
theorem c_left (v1 : Int32) (ρ : RS) {x : Int32} {ρ' : RS} (h : m_left v1 ρ = some (x, ρ')) : RMet l D tc o y_left k_left 3 (some .int) 0 0 [.ref o, .int v1] ρ (some (.int x)) ρ' := rm_met (by decide) (Nat.le_of_ble_eq_true rfl) fun p e s m args below meth c S hW ls hl => t_left_0 S v1 ρ h hl hW
end

/-! finNumber (I)I -/
abbrev k_finNumber : ByteArray := prog_12_method_21_code
abbrev y_finNumber : MethodName := ⟨cn_M, "finNumber", "(I)I"⟩
theorem q_finNumber : Calee y_finNumber k_finNumber 2 (some .int) 1 := ⟨wd_1517, wd_90, by decide, by decide +kernel⟩
theorem d_finNumber_0 : decode k_finNumber 0 = .ok (.aload_n 0, 1) := by decide +kernel
theorem d_finNumber_1 : decode k_finNumber 1 = .ok (.getfield 42, 3) := by decide +kernel
theorem d_finNumber_4 : decode k_finNumber 4 = .ok (.iload_n 1, 1) := by decide +kernel
theorem d_finNumber_5 : decode k_finNumber 5 = .ok (.iaload, 1) := by decide +kernel
theorem d_finNumber_6 : decode k_finNumber 6 = .ok (.iconst 1, 1) := by decide +kernel
theorem d_finNumber_7 : decode k_finNumber 7 = .ok (.iadd, 1) := by decide +kernel
theorem d_finNumber_8 : decode k_finNumber 8 = .ok (.aload_n 0, 1) := by decide +kernel
theorem d_finNumber_9 : decode k_finNumber 9 = .ok (.getfield 108, 3) := by decide +kernel
theorem d_finNumber_12 : decode k_finNumber 12 = .ok (.iload_n 1, 1) := by decide +kernel
theorem d_finNumber_13 : decode k_finNumber 13 = .ok (.iaload, 1) := by decide +kernel
theorem d_finNumber_14 : decode k_finNumber 14 = .ok (.iadd, 1) := by decide +kernel
theorem d_finNumber_15 : decode k_finNumber 15 = .ok (.ireturn, 1) := by decide +kernel
def m_finNumber (v1 : Int32) (ρ : RS) : Option (Int32 × RS) :=
  gd (inb v1 2) <| bd (ρ.1 10 v1.toNatClampNeg) fun x1 => gd (inb v1 2) <| bd (ρ.1 32 v1.toNatClampNeg) fun x2 => some ((x1 + (1 : Int32)) + x2, ρ)
section
variable {p : Program} {l : Launch} {e : Env} {s : State} {m : MethodId} {args : Array Value} {below : List Frame} {meth : Method} {c : Code} {D : va_G} {tc : Nat → ClassId} {o : Nat}
theorem t_finNumber_0 (S : RC p m c k_finNumber 2 s args cn_M meth (some .int) D tc) (v1 : Int32) (ρ : RS) {B : Int32 × RS} (h : m_finNumber v1 ρ = some B) {ls : Array Slot} {H : Heap} {locs : List Loc} (hl : lv_has ls 2 [(0, .ref o), (1, .int v1)]) (hW : RWS D tc o s ρ H locs) : W p l e { frames := 0, cells := 0, slots := 0, locals := 0 } s m args below meth c H locs 0 0 (MQ below (RQ D tc o (some (.int B.1)) B.2) args s 0 0 (rreg o)) (F0 m 0 ls []) := by
  have hx := S.1.1
  have hb := S.1.2.1
  unfold m_finNumber at h
  refine lv_aload_n hx hb d_finNumber_0 rfl (lv_at hl 0 rfl) ?_
  refine rm_geta S hW 15 10 wd_1267 (by decide) d_finNumber_1 ?_
  refine lv_iload_n hx hb d_finNumber_4 rfl (lv_at hl 1 rfl) ?_
  refine rm_iald S hW 10 2 (by decide) d_finNumber_5 h (fun x1 h => ?_)
  refine lv_iconst (v := 1) hx hb d_finNumber_6 (by decide) ?_
  refine lv_iadd hx hb d_finNumber_7 ?_
  refine lv_aload_n hx hb d_finNumber_8 rfl (lv_at hl 0 rfl) ?_
  refine rm_geta S hW 37 32 wd_1289 (by decide) d_finNumber_9 ?_
  refine lv_iload_n hx hb d_finNumber_12 rfl (lv_at hl 1 rfl) ?_
  refine rm_iald S hW 32 2 (by decide) d_finNumber_13 h (fun x2 h => ?_)
  refine lv_iadd hx hb d_finNumber_14 ?_
  exact rm_iret S hW d_finNumber_15 h
theorem c_finNumber (v1 : Int32) (ρ : RS) {x : Int32} {ρ' : RS} (h : m_finNumber v1 ρ = some (x, ρ')) : RMet l D tc o y_finNumber k_finNumber 2 (some .int) 0 0 [.ref o, .int v1] ρ (some (.int x)) ρ' := rm_met (by decide) (Nat.le_of_ble_eq_true rfl) fun p e s m args below meth c S hW ls hl => t_finNumber_0 S v1 ρ h hl hW
end

/-! output (I)Z -/
abbrev k_output : ByteArray := prog_12_method_22_code
abbrev y_output : MethodName := ⟨cn_M, "output", "(I)Z"⟩
theorem q_output : Calee y_output k_output 7 (some .boolean) 1 := ⟨wd_1509, wd_90, by decide, by decide +kernel⟩
theorem d_output_0 : decode k_output 0 = .ok (.iconst 0, 1) := by decide +kernel
theorem d_output_1 : decode k_output 1 = .ok (.istore_n 2, 1) := by decide +kernel
theorem d_output_2 : decode k_output 2 = .ok (.aload_n 0, 1) := by decide +kernel
theorem d_output_3 : decode k_output 3 = .ok (.getfield 39, 3) := by decide +kernel
theorem d_output_6 : decode k_output 6 = .ok (.iload_n 1, 1) := by decide +kernel
theorem d_output_7 : decode k_output 7 = .ok (.iaload, 1) := by decide +kernel
theorem d_output_8 : decode k_output 8 = .ok (.iconst 4, 1) := by decide +kernel
theorem d_output_9 : decode k_output 9 = .ok (.if_icmp .eq 35, 3) := by decide +kernel
theorem d_output_12 : decode k_output 12 = .ok (.aload_n 0, 1) := by decide +kernel
theorem d_output_13 : decode k_output 13 = .ok (.getfield 39, 3) := by decide +kernel
theorem d_output_16 : decode k_output 16 = .ok (.iload_n 1, 1) := by decide +kernel
theorem d_output_17 : decode k_output 17 = .ok (.iaload, 1) := by decide +kernel
theorem d_output_18 : decode k_output 18 = .ok (.iconst 5, 1) := by decide +kernel
theorem d_output_19 : decode k_output 19 = .ok (.if_icmp .eq 25, 3) := by decide +kernel
theorem d_output_22 : decode k_output 22 = .ok (.aload_n 0, 1) := by decide +kernel
theorem d_output_23 : decode k_output 23 = .ok (.getfield 39, 3) := by decide +kernel
theorem d_output_26 : decode k_output 26 = .ok (.iload_n 1, 1) := by decide +kernel
theorem d_output_27 : decode k_output 27 = .ok (.iaload, 1) := by decide +kernel
theorem d_output_28 : decode k_output 28 = .ok (.bipush 7, 2) := by decide +kernel
theorem d_output_30 : decode k_output 30 = .ok (.if_icmp .lt 18, 3) := by decide +kernel
theorem d_output_33 : decode k_output 33 = .ok (.aload_n 0, 1) := by decide +kernel
theorem d_output_34 : decode k_output 34 = .ok (.getfield 39, 3) := by decide +kernel
theorem d_output_37 : decode k_output 37 = .ok (.iload_n 1, 1) := by decide +kernel
theorem d_output_38 : decode k_output 38 = .ok (.iaload, 1) := by decide +kernel
theorem d_output_39 : decode k_output 39 = .ok (.bipush 9, 2) := by decide +kernel
theorem d_output_41 : decode k_output 41 = .ok (.if_icmp .gt 7, 3) := by decide +kernel
theorem d_output_44 : decode k_output 44 = .ok (.iconst 1, 1) := by decide +kernel
theorem d_output_45 : decode k_output 45 = .ok (.goto 4, 3) := by decide +kernel
theorem d_output_48 : decode k_output 48 = .ok (.iconst 0, 1) := by decide +kernel
theorem d_output_49 : decode k_output 49 = .ok (.istore_n 3, 1) := by decide +kernel
theorem d_output_50 : decode k_output 50 = .ok (.iload_n 3, 1) := by decide +kernel
theorem d_output_51 : decode k_output 51 = .ok (.ifCond .ne 5, 3) := by decide +kernel
theorem d_output_54 : decode k_output 54 = .ok (.iconst 0, 1) := by decide +kernel
theorem d_output_55 : decode k_output 55 = .ok (.ireturn, 1) := by decide +kernel
theorem d_output_56 : decode k_output 56 = .ok (.iload_n 3, 1) := by decide +kernel
theorem d_output_57 : decode k_output 57 = .ok (.ifCond .eq 241, 3) := by decide +kernel
theorem d_output_60 : decode k_output 60 = .ok (.aload_n 0, 1) := by decide +kernel
theorem d_output_61 : decode k_output 61 = .ok (.iload_n 1, 1) := by decide +kernel
theorem d_output_62 : decode k_output 62 = .ok (.invokevirtual 209, 3) := by decide +kernel
theorem d_output_65 : decode k_output 65 = .ok (.istore 4, 2) := by decide +kernel
theorem d_output_67 : decode k_output 67 = .ok (.aload_n 0, 1) := by decide +kernel
theorem d_output_68 : decode k_output 68 = .ok (.getfield 72, 3) := by decide +kernel
theorem d_output_71 : decode k_output 71 = .ok (.iload_n 1, 1) := by decide +kernel
theorem d_output_72 : decode k_output 72 = .ok (.iaload, 1) := by decide +kernel
theorem d_output_73 : decode k_output 73 = .ok (.aload_n 0, 1) := by decide +kernel
theorem d_output_74 : decode k_output 74 = .ok (.getfield 54, 3) := by decide +kernel
theorem d_output_77 : decode k_output 77 = .ok (.iload_n 1, 1) := by decide +kernel
theorem d_output_78 : decode k_output 78 = .ok (.iaload, 1) := by decide +kernel
theorem d_output_79 : decode k_output 79 = .ok (.if_icmp .ge 12, 3) := by decide +kernel
theorem d_output_82 : decode k_output 82 = .ok (.aload_n 0, 1) := by decide +kernel
theorem d_output_83 : decode k_output 83 = .ok (.getfield 72, 3) := by decide +kernel
theorem d_output_86 : decode k_output 86 = .ok (.iload_n 1, 1) := by decide +kernel
theorem d_output_87 : decode k_output 87 = .ok (.iaload, 1) := by decide +kernel
theorem d_output_88 : decode k_output 88 = .ok (.goto 9, 3) := by decide +kernel
theorem d_output_91 : decode k_output 91 = .ok (.aload_n 0, 1) := by decide +kernel
theorem d_output_92 : decode k_output 92 = .ok (.getfield 54, 3) := by decide +kernel
theorem d_output_95 : decode k_output 95 = .ok (.iload_n 1, 1) := by decide +kernel
theorem d_output_96 : decode k_output 96 = .ok (.iaload, 1) := by decide +kernel
theorem d_output_97 : decode k_output 97 = .ok (.aload_n 0, 1) := by decide +kernel
theorem d_output_98 : decode k_output 98 = .ok (.getfield 48, 3) := by decide +kernel
theorem d_output_101 : decode k_output 101 = .ok (.iload_n 1, 1) := by decide +kernel
theorem d_output_102 : decode k_output 102 = .ok (.iaload, 1) := by decide +kernel
theorem d_output_103 : decode k_output 103 = .ok (.aload_n 0, 1) := by decide +kernel
theorem d_output_104 : decode k_output 104 = .ok (.getfield 45, 3) := by decide +kernel
theorem d_output_107 : decode k_output 107 = .ok (.iload_n 1, 1) := by decide +kernel
theorem d_output_108 : decode k_output 108 = .ok (.iaload, 1) := by decide +kernel
theorem d_output_109 : decode k_output 109 = .ok (.isub, 1) := by decide +kernel
theorem d_output_110 : decode k_output 110 = .ok (.isub, 1) := by decide +kernel
theorem d_output_111 : decode k_output 111 = .ok (.istore 5, 2) := by decide +kernel
theorem d_output_113 : decode k_output 113 = .ok (.iload 4, 2) := by decide +kernel
theorem d_output_115 : decode k_output 115 = .ok (.iload 5, 2) := by decide +kernel
theorem d_output_117 : decode k_output 117 = .ok (.if_icmp .ge 8, 3) := by decide +kernel
theorem d_output_120 : decode k_output 120 = .ok (.iload 4, 2) := by decide +kernel
theorem d_output_122 : decode k_output 122 = .ok (.goto 5, 3) := by decide +kernel
theorem d_output_125 : decode k_output 125 = .ok (.iload 5, 2) := by decide +kernel
theorem d_output_127 : decode k_output 127 = .ok (.istore 6, 2) := by decide +kernel
theorem d_output_129 : decode k_output 129 = .ok (.aload_n 0, 1) := by decide +kernel
theorem d_output_130 : decode k_output 130 = .ok (.getfield 63, 3) := by decide +kernel
theorem d_output_133 : decode k_output 133 = .ok (.iload_n 1, 1) := by decide +kernel
theorem d_output_134 : decode k_output 134 = .ok (.iaload, 1) := by decide +kernel
theorem d_output_135 : decode k_output 135 = .ok (.iload 6, 2) := by decide +kernel
theorem d_output_137 : decode k_output 137 = .ok (.if_icmp .ge 11, 3) := by decide +kernel
theorem d_output_140 : decode k_output 140 = .ok (.aload_n 0, 1) := by decide +kernel
theorem d_output_141 : decode k_output 141 = .ok (.getfield 63, 3) := by decide +kernel
theorem d_output_144 : decode k_output 144 = .ok (.iload_n 1, 1) := by decide +kernel
theorem d_output_145 : decode k_output 145 = .ok (.iaload, 1) := by decide +kernel
theorem d_output_146 : decode k_output 146 = .ok (.istore 6, 2) := by decide +kernel
theorem d_output_148 : decode k_output 148 = .ok (.iconst 1, 1) := by decide +kernel
theorem d_output_149 : decode k_output 149 = .ok (.istore_n 3, 1) := by decide +kernel
theorem d_output_150 : decode k_output 150 = .ok (.iload 6, 2) := by decide +kernel
theorem d_output_152 : decode k_output 152 = .ok (.ifCond .le 79, 3) := by decide +kernel
theorem d_output_155 : decode k_output 155 = .ok (.iload 6, 2) := by decide +kernel
theorem d_output_157 : decode k_output 157 = .ok (.iload 4, 2) := by decide +kernel
theorem d_output_159 : decode k_output 159 = .ok (.if_icmp .eq 29, 3) := by decide +kernel
theorem d_output_162 : decode k_output 162 = .ok (.iload 6, 2) := by decide +kernel
theorem d_output_164 : decode k_output 164 = .ok (.aload_n 0, 1) := by decide +kernel
theorem d_output_165 : decode k_output 165 = .ok (.getfield 63, 3) := by decide +kernel
theorem d_output_168 : decode k_output 168 = .ok (.iload_n 1, 1) := by decide +kernel
theorem d_output_169 : decode k_output 169 = .ok (.iaload, 1) := by decide +kernel
theorem d_output_170 : decode k_output 170 = .ok (.if_icmp .eq 18, 3) := by decide +kernel
theorem d_output_173 : decode k_output 173 = .ok (.aload_n 0, 1) := by decide +kernel
theorem d_output_174 : decode k_output 174 = .ok (.getfield 48, 3) := by decide +kernel
theorem d_output_177 : decode k_output 177 = .ok (.iload_n 1, 1) := by decide +kernel
theorem d_output_178 : decode k_output 178 = .ok (.iaload, 1) := by decide +kernel
theorem d_output_179 : decode k_output 179 = .ok (.aload_n 0, 1) := by decide +kernel
theorem d_output_180 : decode k_output 180 = .ok (.getfield 45, 3) := by decide +kernel
theorem d_output_183 : decode k_output 183 = .ok (.iload_n 1, 1) := by decide +kernel
theorem d_output_184 : decode k_output 184 = .ok (.iaload, 1) := by decide +kernel
theorem d_output_185 : decode k_output 185 = .ok (.if_icmp .ne 46, 3) := by decide +kernel
theorem d_output_188 : decode k_output 188 = .ok (.aload_n 0, 1) := by decide +kernel
theorem d_output_189 : decode k_output 189 = .ok (.iload_n 1, 1) := by decide +kernel
theorem d_output_190 : decode k_output 190 = .ok (.iconst 0, 1) := by decide +kernel
theorem d_output_191 : decode k_output 191 = .ok (.aload_n 0, 1) := by decide +kernel
theorem d_output_192 : decode k_output 192 = .ok (.getfield 48, 3) := by decide +kernel
theorem d_output_195 : decode k_output 195 = .ok (.iload_n 1, 1) := by decide +kernel
theorem d_output_196 : decode k_output 196 = .ok (.iaload, 1) := by decide +kernel
theorem d_output_197 : decode k_output 197 = .ok (.aload_n 0, 1) := by decide +kernel
theorem d_output_198 : decode k_output 198 = .ok (.getfield 48, 3) := by decide +kernel
theorem d_output_201 : decode k_output 201 = .ok (.iload_n 1, 1) := by decide +kernel
theorem d_output_202 : decode k_output 202 = .ok (.iaload, 1) := by decide +kernel
theorem d_output_203 : decode k_output 203 = .ok (.aload_n 0, 1) := by decide +kernel
theorem d_output_204 : decode k_output 204 = .ok (.getfield 42, 3) := by decide +kernel
theorem d_output_207 : decode k_output 207 = .ok (.iload_n 1, 1) := by decide +kernel
theorem d_output_208 : decode k_output 208 = .ok (.iaload, 1) := by decide +kernel
theorem d_output_209 : decode k_output 209 = .ok (.isub, 1) := by decide +kernel
theorem d_output_210 : decode k_output 210 = .ok (.iconst 1, 1) := by decide +kernel
theorem d_output_211 : decode k_output 211 = .ok (.isub, 1) := by decide +kernel
theorem d_output_212 : decode k_output 212 = .ok (.iload 6, 2) := by decide +kernel
theorem d_output_214 : decode k_output 214 = .ok (.invokevirtual 205, 3) := by decide +kernel
theorem d_output_217 : decode k_output 217 = .ok (.aload_n 0, 1) := by decide +kernel
theorem d_output_218 : decode k_output 218 = .ok (.getfield 48, 3) := by decide +kernel
theorem d_output_221 : decode k_output 221 = .ok (.iload_n 1, 1) := by decide +kernel
theorem d_output_222 : decode k_output 222 = .ok (.dup2, 1) := by decide +kernel
theorem d_output_223 : decode k_output 223 = .ok (.iaload, 1) := by decide +kernel
theorem d_output_224 : decode k_output 224 = .ok (.iload 6, 2) := by decide +kernel
theorem d_output_226 : decode k_output 226 = .ok (.iadd, 1) := by decide +kernel
theorem d_output_227 : decode k_output 227 = .ok (.iastore, 1) := by decide +kernel
theorem d_output_228 : decode k_output 228 = .ok (.goto 63, 3) := by decide +kernel
theorem d_output_231 : decode k_output 231 = .ok (.aload_n 0, 1) := by decide +kernel
theorem d_output_232 : decode k_output 232 = .ok (.getfield 123, 3) := by decide +kernel
theorem d_output_235 : decode k_output 235 = .ok (.iload_n 1, 1) := by decide +kernel
theorem d_output_236 : decode k_output 236 = .ok (.baload, 1) := by decide +kernel
theorem d_output_237 : decode k_output 237 = .ok (.ifCond .eq 52, 3) := by decide +kernel
theorem d_output_240 : decode k_output 240 = .ok (.iload 4, 2) := by decide +kernel
theorem d_output_242 : decode k_output 242 = .ok (.ifCond .ne 47, 3) := by decide +kernel
theorem d_output_245 : decode k_output 245 = .ok (.aload_n 0, 1) := by decide +kernel
theorem d_output_246 : decode k_output 246 = .ok (.getfield 48, 3) := by decide +kernel
theorem d_output_249 : decode k_output 249 = .ok (.iload_n 1, 1) := by decide +kernel
theorem d_output_250 : decode k_output 250 = .ok (.iaload, 1) := by decide +kernel
theorem d_output_251 : decode k_output 251 = .ok (.aload_n 0, 1) := by decide +kernel
theorem d_output_252 : decode k_output 252 = .ok (.iload_n 1, 1) := by decide +kernel
theorem d_output_253 : decode k_output 253 = .ok (.invokevirtual 212, 3) := by decide +kernel
theorem d_output_256 : decode k_output 256 = .ok (.invokestatic 188, 3) := by decide +kernel
theorem d_output_259 : decode k_output 259 = .ok (.ifCond .ne 30, 3) := by decide +kernel
theorem d_output_262 : decode k_output 262 = .ok (.aload_n 0, 1) := by decide +kernel
theorem d_output_263 : decode k_output 263 = .ok (.iload_n 1, 1) := by decide +kernel
theorem d_output_264 : decode k_output 264 = .ok (.iconst 1, 1) := by decide +kernel
theorem d_output_265 : decode k_output 265 = .ok (.aload_n 0, 1) := by decide +kernel
theorem d_output_266 : decode k_output 266 = .ok (.getfield 48, 3) := by decide +kernel
theorem d_output_269 : decode k_output 269 = .ok (.iload_n 1, 1) := by decide +kernel
theorem d_output_270 : decode k_output 270 = .ok (.iaload, 1) := by decide +kernel
theorem d_output_271 : decode k_output 271 = .ok (.iconst 0, 1) := by decide +kernel
theorem d_output_272 : decode k_output 272 = .ok (.iconst 0, 1) := by decide +kernel
theorem d_output_273 : decode k_output 273 = .ok (.invokevirtual 205, 3) := by decide +kernel
theorem d_output_276 : decode k_output 276 = .ok (.aload_n 0, 1) := by decide +kernel
theorem d_output_277 : decode k_output 277 = .ok (.getfield 48, 3) := by decide +kernel
theorem d_output_280 : decode k_output 280 = .ok (.iload_n 1, 1) := by decide +kernel
theorem d_output_281 : decode k_output 281 = .ok (.dup2, 1) := by decide +kernel
theorem d_output_282 : decode k_output 282 = .ok (.iaload, 1) := by decide +kernel
theorem d_output_283 : decode k_output 283 = .ok (.iconst 1, 1) := by decide +kernel
theorem d_output_284 : decode k_output 284 = .ok (.iadd, 1) := by decide +kernel
theorem d_output_285 : decode k_output 285 = .ok (.iastore, 1) := by decide +kernel
theorem d_output_286 : decode k_output 286 = .ok (.goto 5, 3) := by decide +kernel
theorem d_output_289 : decode k_output 289 = .ok (.iconst 0, 1) := by decide +kernel
theorem d_output_290 : decode k_output 290 = .ok (.istore_n 3, 1) := by decide +kernel
theorem d_output_291 : decode k_output 291 = .ok (.iload_n 2, 1) := by decide +kernel
theorem d_output_292 : decode k_output 292 = .ok (.iload_n 3, 1) := by decide +kernel
theorem d_output_293 : decode k_output 293 = .ok (.ior, 1) := by decide +kernel
theorem d_output_294 : decode k_output 294 = .ok (.istore_n 2, 1) := by decide +kernel
theorem d_output_295 : decode k_output 295 = .ok (.goto (-239), 3) := by decide +kernel
theorem d_output_298 : decode k_output 298 = .ok (.aload_n 0, 1) := by decide +kernel
theorem d_output_299 : decode k_output 299 = .ok (.getfield 48, 3) := by decide +kernel
theorem d_output_302 : decode k_output 302 = .ok (.iload_n 1, 1) := by decide +kernel
theorem d_output_303 : decode k_output 303 = .ok (.iaload, 1) := by decide +kernel
theorem d_output_304 : decode k_output 304 = .ok (.aload_n 0, 1) := by decide +kernel
theorem d_output_305 : decode k_output 305 = .ok (.getfield 45, 3) := by decide +kernel
theorem d_output_308 : decode k_output 308 = .ok (.iload_n 1, 1) := by decide +kernel
theorem d_output_309 : decode k_output 309 = .ok (.iaload, 1) := by decide +kernel
theorem d_output_310 : decode k_output 310 = .ok (.if_icmp .ne 11, 3) := by decide +kernel
theorem d_output_313 : decode k_output 313 = .ok (.aload_n 0, 1) := by decide +kernel
theorem d_output_314 : decode k_output 314 = .ok (.iload_n 1, 1) := by decide +kernel
theorem d_output_315 : decode k_output 315 = .ok (.invokevirtual 209, 3) := by decide +kernel
theorem d_output_318 : decode k_output 318 = .ok (.ifCond .le 32, 3) := by decide +kernel
theorem d_output_321 : decode k_output 321 = .ok (.aload_n 0, 1) := by decide +kernel
theorem d_output_322 : decode k_output 322 = .ok (.getfield 113, 3) := by decide +kernel
theorem d_output_325 : decode k_output 325 = .ok (.iload_n 1, 1) := by decide +kernel
theorem d_output_326 : decode k_output 326 = .ok (.laload, 1) := by decide +kernel
theorem d_output_327 : decode k_output 327 = .ok (.lconst 0, 1) := by decide +kernel
theorem d_output_328 : decode k_output 328 = .ok (.lcmp, 1) := by decide +kernel
theorem d_output_329 : decode k_output 329 = .ok (.ifCond .ge 21, 3) := by decide +kernel
theorem d_output_332 : decode k_output 332 = .ok (.aload_n 0, 1) := by decide +kernel
theorem d_output_333 : decode k_output 333 = .ok (.getfield 113, 3) := by decide +kernel
theorem d_output_336 : decode k_output 336 = .ok (.iload_n 1, 1) := by decide +kernel
theorem d_output_337 : decode k_output 337 = .ok (.aload_n 0, 1) := by decide +kernel
theorem d_output_338 : decode k_output 338 = .ok (.getfield 201, 3) := by decide +kernel
theorem d_output_341 : decode k_output 341 = .ok (.aload_n 0, 1) := by decide +kernel
theorem d_output_342 : decode k_output 342 = .ok (.getfield 81, 3) := by decide +kernel
theorem d_output_345 : decode k_output 345 = .ok (.iload_n 1, 1) := by decide +kernel
theorem d_output_346 : decode k_output 346 = .ok (.iaload, 1) := by decide +kernel
theorem d_output_347 : decode k_output 347 = .ok (.i2l, 1) := by decide +kernel
theorem d_output_348 : decode k_output 348 = .ok (.ladd, 1) := by decide +kernel
theorem d_output_349 : decode k_output 349 = .ok (.lastore, 1) := by decide +kernel
theorem d_output_350 : decode k_output 350 = .ok (.iload_n 2, 1) := by decide +kernel
theorem d_output_351 : decode k_output 351 = .ok (.ireturn, 1) := by decide +kernel
def b_output_350 (v2 : Int32) (ρ : RS) : Option (Int32 × RS) :=
  gd (v2 = 0 ∨ v2 = 1) (some (v2, ρ))
def b_output_321 (v1 : Int32) (v2 : Int32) (ρ : RS) : Option (Int32 × RS) :=
  gd (inb v1 2) <| bd (ρ.2 33 v1.toNatClampNeg) fun x1 => if 0 ≤ (lg_cmp x1 (0 : Int64)) then
  (b_output_350 v2 ρ)
 else
  (bd (ρ.2 0 3) fun x2 => gd (inb v1 2) <| bd (ρ.1 23 v1.toNatClampNeg) fun x3 => gd (inb v1 2) <| bd (sl ρ 33 v1.toNatClampNeg (x2 + (x3.toInt64))) fun r4 => b_output_350 v2 r4)
def b_output_291 (rec56 : Int32 → Int32 → Int32 → RS → Option (Int32 × RS)) (v1 : Int32) (v2 : Int32) (v3 : Int32) (ρ : RS) : Option (Int32 × RS) :=
  bd (v2 ||| v3) fun x1 => rec56 v1 x1 v3 ρ
def b_output_289 (rec56 : Int32 → Int32 → Int32 → RS → Option (Int32 × RS)) (v1 : Int32) (v2 : Int32) (ρ : RS) : Option (Int32 × RS) :=
  b_output_291 rec56 v1 v2 (0 : Int32) ρ
def b_output_231 (rec56 : Int32 → Int32 → Int32 → RS → Option (Int32 × RS)) (v1 : Int32) (v2 : Int32) (v3 : Int32) (v4 : Int32) (ρ : RS) : Option (Int32 × RS) :=
  gd (inb v1 2) <| bd (ρ.1 36 v1.toNatClampNeg) fun x1 => if x1 = 0 then
  (b_output_289 rec56 v1 v2 ρ)
 else
  (if v4 = 0 then
  (gd (inb v1 2) <| bd (ρ.1 12 v1.toNatClampNeg) fun x2 => bc2 (m_finNumber v1 ρ) fun x4 r3 => bc2 (m_above x2 x4 r3) fun x6 r5 => if x6 = 0 then
  (gd (inb v1 2) <| bd (r5.1 12 v1.toNatClampNeg) fun x7 => bc (m_send v1 (1 : Int32) x7 (0 : Int32) (0 : Int32) r5) fun r8 => gd (inb v1 2) <| bd (r8.1 12 v1.toNatClampNeg) fun x9 => gd (inb v1 2) <| bd (si r8 12 v1.toNatClampNeg (x9 + (1 : Int32))) fun r10 => b_output_291 rec56 v1 v2 v3 r10)
 else
  (b_output_289 rec56 v1 v2 r5))
 else
  (b_output_289 rec56 v1 v2 ρ))
def b_output_188 (rec56 : Int32 → Int32 → Int32 → RS → Option (Int32 × RS)) (v1 : Int32) (v2 : Int32) (v3 : Int32) (v6 : Int32) (ρ : RS) : Option (Int32 × RS) :=
  gd (inb v1 2) <| bd (ρ.1 12 v1.toNatClampNeg) fun x1 => gd (inb v1 2) <| bd (ρ.1 12 v1.toNatClampNeg) fun x2 => gd (inb v1 2) <| bd (ρ.1 10 v1.toNatClampNeg) fun x3 => bc (m_send v1 (0 : Int32) x1 ((x2 - x3) - (1 : Int32)) v6 ρ) fun r4 => gd (inb v1 2) <| bd (r4.1 12 v1.toNatClampNeg) fun x5 => gd (inb v1 2) <| bd (si r4 12 v1.toNatClampNeg (x5 + v6)) fun r6 => b_output_291 rec56 v1 v2 v3 r6
def b_output_148 (rec56 : Int32 → Int32 → Int32 → RS → Option (Int32 × RS)) (v1 : Int32) (v2 : Int32) (v4 : Int32) (v6 : Int32) (ρ : RS) : Option (Int32 × RS) :=
  if v6 ≤ 0 then
  (b_output_231 rec56 v1 v2 (1 : Int32) v4 ρ)
 else
  (if v6 = v4 then
  (b_output_188 rec56 v1 v2 (1 : Int32) v6 ρ)
 else
  (gd (inb v1 2) <| bd (ρ.1 17 v1.toNatClampNeg) fun x1 => if v6 = x1 then
  (b_output_188 rec56 v1 v2 (1 : Int32) v6 ρ)
 else
  (gd (inb v1 2) <| bd (ρ.1 12 v1.toNatClampNeg) fun x2 => gd (inb v1 2) <| bd (ρ.1 11 v1.toNatClampNeg) fun x3 => if x2 = x3 then
  (b_output_188 rec56 v1 v2 (1 : Int32) v6 ρ)
 else
  (b_output_231 rec56 v1 v2 (1 : Int32) v4 ρ))))
def b_output_127 (rec56 : Int32 → Int32 → Int32 → RS → Option (Int32 × RS)) (v1 : Int32) (v2 : Int32) (v4 : Int32) (w0 : Int32) (ρ : RS) : Option (Int32 × RS) :=
  gd (inb v1 2) <| bd (ρ.1 17 v1.toNatClampNeg) fun x1 => if w0 ≤ x1 then
  (b_output_148 rec56 v1 v2 v4 w0 ρ)
 else
  (gd (inb v1 2) <| bd (ρ.1 17 v1.toNatClampNeg) fun x2 => b_output_148 rec56 v1 v2 v4 x2 ρ)
def b_output_97 (rec56 : Int32 → Int32 → Int32 → RS → Option (Int32 × RS)) (v1 : Int32) (v2 : Int32) (v4 : Int32) (w0 : Int32) (ρ : RS) : Option (Int32 × RS) :=
  gd (inb v1 2) <| bd (ρ.1 12 v1.toNatClampNeg) fun x1 => gd (inb v1 2) <| bd (ρ.1 11 v1.toNatClampNeg) fun x2 => bd (w0 - (x1 - x2)) fun x3 => if x3 ≤ v4 then
  (b_output_127 rec56 v1 v2 v4 x3 ρ)
 else
  (b_output_127 rec56 v1 v2 v4 v4 ρ)
def F_output_56 (rec56 : Int32 → Int32 → Int32 → RS → Option (Int32 × RS)) (v1 : Int32) (v2 : Int32) (v3 : Int32) (ρ : RS) : Option (Int32 × RS) :=
  if v3 = 0 then
  (gd (inb v1 2) <| bd (ρ.1 12 v1.toNatClampNeg) fun x1 => gd (inb v1 2) <| bd (ρ.1 11 v1.toNatClampNeg) fun x2 => if x1 = x2 then
  (bc2 (m_left v1 ρ) fun x4 r3 => if x4 ≤ 0 then
  (b_output_350 v2 r3)
 else
  (b_output_321 v1 v2 r3))
 else
  (b_output_321 v1 v2 ρ))
 else
  (bc2 (m_left v1 ρ) fun x6 r5 => gd (inb v1 2) <| bd (r5.1 20 v1.toNatClampNeg) fun x7 => gd (inb v1 2) <| bd (r5.1 14 v1.toNatClampNeg) fun x8 => if x8 ≤ x7 then
  (gd (inb v1 2) <| bd (r5.1 14 v1.toNatClampNeg) fun x9 => b_output_97 rec56 v1 v2 x6 x9 r5)
 else
  (gd (inb v1 2) <| bd (r5.1 20 v1.toNatClampNeg) fun x10 => b_output_97 rec56 v1 v2 x6 x10 r5))
def b_output_49 (v1 : Int32) (v2 : Int32) (w0 : Int32) (ρ : RS) : Option (Int32 × RS) :=
  if w0 = 0 then
  (gd ((0 : Int32) = 0 ∨ (0 : Int32) = 1) (some ((0 : Int32), ρ)))
 else
  (lq4 (F_output_56) fuel v1 v2 w0 ρ)
def b_output_48 (v1 : Int32) (v2 : Int32) (ρ : RS) : Option (Int32 × RS) :=
  b_output_49 v1 v2 (0 : Int32) ρ
def b_output_44 (v1 : Int32) (v2 : Int32) (ρ : RS) : Option (Int32 × RS) :=
  b_output_49 v1 v2 (1 : Int32) ρ
def m_output (v1 : Int32) (ρ : RS) : Option (Int32 × RS) :=
  gd (inb v1 2) <| bd (ρ.1 9 v1.toNatClampNeg) fun x1 => if x1 = (4 : Int32) then
  (b_output_44 v1 (0 : Int32) ρ)
 else
  (gd (inb v1 2) <| bd (ρ.1 9 v1.toNatClampNeg) fun x2 => if x2 = (5 : Int32) then
  (b_output_44 v1 (0 : Int32) ρ)
 else
  (gd (inb v1 2) <| bd (ρ.1 9 v1.toNatClampNeg) fun x3 => if x3 < (7 : Int32) then
  (b_output_48 v1 (0 : Int32) ρ)
 else
  (gd (inb v1 2) <| bd (ρ.1 9 v1.toNatClampNeg) fun x4 => if (9 : Int32) < x4 then
  (b_output_48 v1 (0 : Int32) ρ)
 else
  (b_output_44 v1 (0 : Int32) ρ))))
def P_output_56 (p : Program) (l : Launch) (e : Env) (s : State) (m : MethodId) (args : Array Value) (below : List Frame) (meth : Method) (c : Code) (D : va_G) (tc : Nat → ClassId) (o : Nat) (v1 : Int32) (v2 : Int32) (v3 : Int32) (ρ : RS) (B : Int32 × RS) : Prop := ∀ (ls : Array Slot) (H : Heap) (locs : List Loc), lv_has ls 7 [(0, .ref o), (1, .int v1), (2, .int v2), (3, .int v3)] → RWS D tc o s ρ H locs → W p l e { frames := 4, cells := 0, slots := 0, locals := 103 } s m args below meth c H locs 0 0 (MQ below (RQ D tc o (some (.int B.1)) B.2) args s 0 0 (rreg o)) (F0 m 56 ls [])
section
variable {p : Program} {l : Launch} {e : Env} {s : State} {m : MethodId} {args : Array Value} {below : List Frame} {meth : Method} {c : Code} {D : va_G} {tc : Nat → ClassId} {o : Nat}
theorem t_output_350 (S : RC p m c k_output 7 s args cn_M meth (some .boolean) D tc) (v2 : Int32) (ρ : RS) {B : Int32 × RS} (h : b_output_350 v2 ρ = some B) {ls : Array Slot} {H : Heap} {locs : List Loc} (hl : lv_has ls 7 [(2, .int v2)]) (hW : RWS D tc o s ρ H locs) : W p l e { frames := 4, cells := 0, slots := 0, locals := 103 } s m args below meth c H locs 0 0 (MQ below (RQ D tc o (some (.int B.1)) B.2) args s 0 0 (rreg o)) (F0 m 350 ls []) := by
  have hx := S.1.1
  have hb := S.1.2.1
  unfold b_output_350 at h
  refine lv_iload_n hx hb d_output_350 rfl (lv_at hl 0 rfl) ?_
  exact rm_zret S hW d_output_351 h
theorem t_output_321 (S : RC p m c k_output 7 s args cn_M meth (some .boolean) D tc) (v1 : Int32) (v2 : Int32) (ρ : RS) {B : Int32 × RS} (h : b_output_321 v1 v2 ρ = some B) {ls : Array Slot} {H : Heap} {locs : List Loc} (hl : lv_has ls 7 [(0, .ref o), (1, .int v1), (2, .int v2)]) (hW : RWS D tc o s ρ H locs) : W p l e { frames := 4, cells := 0, slots := 0, locals := 103 } s m args below meth c H locs 0 0 (MQ below (RQ D tc o (some (.int B.1)) B.2) args s 0 0 (rreg o)) (F0 m 321 ls []) := by
  have hx := S.1.1
  have hb := S.1.2.1
  unfold b_output_321 at h
  refine lv_aload_n hx hb d_output_321 rfl (lv_at hl 0 rfl) ?_
  refine rm_geta S hW 38 33 wd_1290 (by decide) d_output_322 ?_
  refine lv_iload_n hx hb d_output_325 rfl (lv_at hl 1 rfl) ?_
  refine rm_lald S hW 33 2 (by decide) d_output_326 h (fun x1 h => ?_)
  refine lv_lconst (v := 0) hx hb d_output_327 (by decide) ?_
  refine W.lcmp hx hb d_output_328 ?_
  refine rb_ge (tgt := 350) hx hb d_output_329 (by decide) h (fun h => ?_) (fun h => ?_)
  · exact t_output_350 S v2 ρ h (lv_sub hl [2] rfl) hW
  · refine lv_aload_n hx hb d_output_332 rfl (lv_at hl 0 rfl) ?_
    refine rm_geta S hW 38 33 wd_1290 (by decide) d_output_333 ?_
    refine lv_iload_n hx hb d_output_336 rfl (lv_at hl 1 rfl) ?_
    refine lv_aload_n hx hb d_output_337 rfl (lv_at hl 0 rfl) ?_
    refine rm_getl S hW 3 wd_1255 (by decide) d_output_338 h (fun x2 h => ?_)
    refine lv_aload_n hx hb d_output_341 rfl (lv_at hl 0 rfl) ?_
    refine rm_geta S hW 28 23 wd_1280 (by decide) d_output_342 ?_
    refine lv_iload_n hx hb d_output_345 rfl (lv_at hl 1 rfl) ?_
    refine rm_iald S hW 23 2 (by decide) d_output_346 h (fun x3 h => ?_)
    refine lv_i2l hx hb d_output_347 rfl ?_
    refine lv_ladd hx hb d_output_348 ?_
    refine rm_last S hW 33 2 (by decide) d_output_349 h (fun r4 H locs h hW => ?_)
    exact t_output_350 S v2 r4 h (lv_sub hl [2] rfl) hW
theorem t_output_291 (S : RC p m c k_output 7 s args cn_M meth (some .boolean) D tc) {rec56 : Int32 → Int32 → Int32 → RS → Option (Int32 × RS)} (hrec56 : ∀ (v1 : Int32) (v2 : Int32) (v3 : Int32) (ρ : RS) (B : Int32 × RS), rec56 v1 v2 v3 ρ = some B → P_output_56 p l e s m args below meth c D tc o v1 v2 v3 ρ B) (v1 : Int32) (v2 : Int32) (v3 : Int32) (ρ : RS) {B : Int32 × RS} (h : b_output_291 rec56 v1 v2 v3 ρ = some B) {ls : Array Slot} {H : Heap} {locs : List Loc} (hl : lv_has ls 7 [(0, .ref o), (1, .int v1), (2, .int v2), (3, .int v3)]) (hW : RWS D tc o s ρ H locs) : W p l e { frames := 4, cells := 0, slots := 0, locals := 103 } s m args below meth c H locs 0 0 (MQ below (RQ D tc o (some (.int B.1)) B.2) args s 0 0 (rreg o)) (F0 m 291 ls []) := by
  have hx := S.1.1
  have hb := S.1.2.1
  unfold b_output_291 at h
  refine lv_iload_n hx hb d_output_291 rfl (lv_at hl 2 rfl) ?_
  refine lv_iload_n hx hb d_output_292 rfl (lv_at hl 3 rfl) ?_
  refine lv_ior hx hb d_output_293 ?_
  refine rv_i h (fun x1 h => ?_)
  refine lv_istore_n (lv' := [(2, .int x1), (0, .ref o), (1, .int v1), (3, .int v3)]) hx hb d_output_294 rfl hl (by decide) rfl (fun ls hl => ?_)
  refine lv_goto (tgt := 56) hx hb d_output_295 (by decide) ?_
  exact hrec56 v1 x1 v3 ρ _ h _ _ _ (lv_sub hl [1, 2, 0, 3] rfl) hW
theorem t_output_289 (S : RC p m c k_output 7 s args cn_M meth (some .boolean) D tc) {rec56 : Int32 → Int32 → Int32 → RS → Option (Int32 × RS)} (hrec56 : ∀ (v1 : Int32) (v2 : Int32) (v3 : Int32) (ρ : RS) (B : Int32 × RS), rec56 v1 v2 v3 ρ = some B → P_output_56 p l e s m args below meth c D tc o v1 v2 v3 ρ B) (v1 : Int32) (v2 : Int32) (ρ : RS) {B : Int32 × RS} (h : b_output_289 rec56 v1 v2 ρ = some B) {ls : Array Slot} {H : Heap} {locs : List Loc} (hl : lv_has ls 7 [(0, .ref o), (1, .int v1), (2, .int v2)]) (hW : RWS D tc o s ρ H locs) : W p l e { frames := 4, cells := 0, slots := 0, locals := 103 } s m args below meth c H locs 0 0 (MQ below (RQ D tc o (some (.int B.1)) B.2) args s 0 0 (rreg o)) (F0 m 289 ls []) := by
  have hx := S.1.1
  have hb := S.1.2.1
  unfold b_output_289 at h
  refine lv_iconst (v := 0) hx hb d_output_289 (by decide) ?_
  refine lv_istore_n (lv' := [(3, .int (0 : Int32)), (0, .ref o), (1, .int v1), (2, .int v2)]) hx hb d_output_290 rfl hl (by decide) rfl (fun ls hl => ?_)
  exact t_output_291 S hrec56 v1 v2 (0 : Int32) ρ h (lv_sub hl [1, 2, 3, 0] rfl) hW
theorem t_output_231 (S : RC p m c k_output 7 s args cn_M meth (some .boolean) D tc) {rec56 : Int32 → Int32 → Int32 → RS → Option (Int32 × RS)} (hrec56 : ∀ (v1 : Int32) (v2 : Int32) (v3 : Int32) (ρ : RS) (B : Int32 × RS), rec56 v1 v2 v3 ρ = some B → P_output_56 p l e s m args below meth c D tc o v1 v2 v3 ρ B) (v1 : Int32) (v2 : Int32) (v3 : Int32) (v4 : Int32) (ρ : RS) {B : Int32 × RS} (h : b_output_231 rec56 v1 v2 v3 v4 ρ = some B) {ls : Array Slot} {H : Heap} {locs : List Loc} (hl : lv_has ls 7 [(0, .ref o), (1, .int v1), (2, .int v2), (3, .int v3), (4, .int v4)]) (hW : RWS D tc o s ρ H locs) : W p l e { frames := 4, cells := 0, slots := 0, locals := 103 } s m args below meth c H locs 0 0 (MQ below (RQ D tc o (some (.int B.1)) B.2) args s 0 0 (rreg o)) (F0 m 231 ls []) := by
  have hx := S.1.1
  have hb := S.1.2.1
  unfold b_output_231 at h
  refine lv_aload_n hx hb d_output_231 rfl (lv_at hl 0 rfl) ?_
  refine rm_geta S hW 41 36 wd_1293 (by decide) d_output_232 ?_
  refine lv_iload_n hx hb d_output_235 rfl (lv_at hl 1 rfl) ?_
  refine rm_zald S hW 36 2 (by decide) d_output_236 h (fun x1 h => ?_)
  refine rb_eq (tgt := 289) hx hb d_output_237 (by decide) h (fun h => ?_) (fun h => ?_)
  · exact t_output_289 S hrec56 v1 v2 ρ h (lv_sub hl [0, 1, 2] rfl) hW
  · refine lv_iload hx hb d_output_240 (lv_at hl 4 rfl) ?_
    refine rb_ne (tgt := 289) hx hb d_output_242 (by decide) h (fun h => ?_) (fun h => ?_)
    · exact t_output_289 S hrec56 v1 v2 ρ h (lv_sub hl [0, 1, 2] rfl) hW
    · refine lv_aload_n hx hb d_output_245 rfl (lv_at hl 0 rfl) ?_
      refine rm_geta S hW 17 12 wd_1269 (by decide) d_output_246 ?_
      refine lv_iload_n hx hb d_output_249 rfl (lv_at hl 1 rfl) ?_
      refine rm_iald S hW 12 2 (by decide) d_output_250 h (fun x2 h => ?_)
      refine lv_aload_n hx hb d_output_251 rfl (lv_at hl 0 rfl) ?_
      refine lv_iload_n hx hb d_output_252 rfl (lv_at hl 1 rfl) ?_
      refine rm_cVi [.int v1] S hW (fun x ρ' hc => c_finNumber v1 ρ hc) q_finNumber wd_1516 wd_49 wd_1514 (by decide) hl.1 rfl rfl (Nat.le_of_ble_eq_true rfl) d_output_253 h (fun x4 r3 H locs h hW => ?_)
      refine rm_cSi [.int x2, .int x4] S hW (fun x ρ' hc => c_above x2 x4 r3 hc) q_above wd_1456 wd_1455 (by decide) hl.1 rfl rfl (Nat.le_of_ble_eq_true rfl) d_output_256 h (fun x6 r5 H locs h hW => ?_)
      refine rb_ne (tgt := 289) hx hb d_output_259 (by decide) h (fun h => ?_) (fun h => ?_)
      · exact t_output_289 S hrec56 v1 v2 r5 h (lv_sub hl [0, 1, 2] rfl) hW
      · refine lv_aload_n hx hb d_output_262 rfl (lv_at hl 0 rfl) ?_
        refine lv_iload_n hx hb d_output_263 rfl (lv_at hl 1 rfl) ?_
        refine lv_iconst (v := 1) hx hb d_output_264 (by decide) ?_
        refine lv_aload_n hx hb d_output_265 rfl (lv_at hl 0 rfl) ?_
        refine rm_geta S hW 17 12 wd_1269 (by decide) d_output_266 ?_
        refine lv_iload_n hx hb d_output_269 rfl (lv_at hl 1 rfl) ?_
        refine rm_iald S hW 12 2 (by decide) d_output_270 h (fun x7 h => ?_)
        refine lv_iconst (v := 0) hx hb d_output_271 (by decide) ?_
        refine lv_iconst (v := 0) hx hb d_output_272 (by decide) ?_
        refine rm_cVv [.int v1, .int (1 : Int32), .int x7, .int (0 : Int32), .int (0 : Int32)] S hW (fun ρ' hc => c_send v1 (1 : Int32) x7 (0 : Int32) (0 : Int32) r5 hc) q_send wd_1449 wd_37 wd_1447 (by decide) hl.1 rfl rfl (Nat.le_of_ble_eq_true rfl) d_output_273 h (fun r8 H locs h hW => ?_)
        refine lv_aload_n hx hb d_output_276 rfl (lv_at hl 0 rfl) ?_
        refine rm_geta S hW 17 12 wd_1269 (by decide) d_output_277 ?_
        refine lv_iload_n hx hb d_output_280 rfl (lv_at hl 1 rfl) ?_
        refine lv_dup2_11 hx hb d_output_281 rfl rfl ?_
        refine rm_iald S hW 12 2 (by decide) d_output_282 h (fun x9 h => ?_)
        refine lv_iconst (v := 1) hx hb d_output_283 (by decide) ?_
        refine lv_iadd hx hb d_output_284 ?_
        refine rm_iast S hW 12 2 (by decide) d_output_285 h (fun r10 H locs h hW => ?_)
        refine lv_goto (tgt := 291) hx hb d_output_286 (by decide) ?_
        exact t_output_291 S hrec56 v1 v2 v3 r10 h (lv_sub hl [0, 1, 2, 3] rfl) hW
theorem t_output_188 (S : RC p m c k_output 7 s args cn_M meth (some .boolean) D tc) {rec56 : Int32 → Int32 → Int32 → RS → Option (Int32 × RS)} (hrec56 : ∀ (v1 : Int32) (v2 : Int32) (v3 : Int32) (ρ : RS) (B : Int32 × RS), rec56 v1 v2 v3 ρ = some B → P_output_56 p l e s m args below meth c D tc o v1 v2 v3 ρ B) (v1 : Int32) (v2 : Int32) (v3 : Int32) (v6 : Int32) (ρ : RS) {B : Int32 × RS} (h : b_output_188 rec56 v1 v2 v3 v6 ρ = some B) {ls : Array Slot} {H : Heap} {locs : List Loc} (hl : lv_has ls 7 [(0, .ref o), (1, .int v1), (2, .int v2), (3, .int v3), (6, .int v6)]) (hW : RWS D tc o s ρ H locs) : W p l e { frames := 4, cells := 0, slots := 0, locals := 103 } s m args below meth c H locs 0 0 (MQ below (RQ D tc o (some (.int B.1)) B.2) args s 0 0 (rreg o)) (F0 m 188 ls []) := by
  have hx := S.1.1
  have hb := S.1.2.1
  unfold b_output_188 at h
  refine lv_aload_n hx hb d_output_188 rfl (lv_at hl 0 rfl) ?_
  refine lv_iload_n hx hb d_output_189 rfl (lv_at hl 1 rfl) ?_
  refine lv_iconst (v := 0) hx hb d_output_190 (by decide) ?_
  refine lv_aload_n hx hb d_output_191 rfl (lv_at hl 0 rfl) ?_
  refine rm_geta S hW 17 12 wd_1269 (by decide) d_output_192 ?_
  refine lv_iload_n hx hb d_output_195 rfl (lv_at hl 1 rfl) ?_
  refine rm_iald S hW 12 2 (by decide) d_output_196 h (fun x1 h => ?_)
  refine lv_aload_n hx hb d_output_197 rfl (lv_at hl 0 rfl) ?_
  refine rm_geta S hW 17 12 wd_1269 (by decide) d_output_198 ?_
  refine lv_iload_n hx hb d_output_201 rfl (lv_at hl 1 rfl) ?_
  refine rm_iald S hW 12 2 (by decide) d_output_202 h (fun x2 h => ?_)
  refine lv_aload_n hx hb d_output_203 rfl (lv_at hl 0 rfl) ?_
  refine rm_geta S hW 15 10 wd_1267 (by decide) d_output_204 ?_
  refine lv_iload_n hx hb d_output_207 rfl (lv_at hl 1 rfl) ?_
  refine rm_iald S hW 10 2 (by decide) d_output_208 h (fun x3 h => ?_)
  refine lv_isub hx hb d_output_209 ?_
  refine lv_iconst (v := 1) hx hb d_output_210 (by decide) ?_
  refine lv_isub hx hb d_output_211 ?_
  refine lv_iload hx hb d_output_212 (lv_at hl 4 rfl) ?_
  refine rm_cVv [.int v1, .int (0 : Int32), .int x1, .int ((x2 - x3) - (1 : Int32)), .int v6] S hW (fun ρ' hc => c_send v1 (0 : Int32) x1 ((x2 - x3) - (1 : Int32)) v6 ρ hc) q_send wd_1449 wd_37 wd_1447 (by decide) hl.1 rfl rfl (Nat.le_of_ble_eq_true rfl) d_output_214 h (fun r4 H locs h hW => ?_)
  refine lv_aload_n hx hb d_output_217 rfl (lv_at hl 0 rfl) ?_
  refine rm_geta S hW 17 12 wd_1269 (by decide) d_output_218 ?_
  refine lv_iload_n hx hb d_output_221 rfl (lv_at hl 1 rfl) ?_
  refine lv_dup2_11 hx hb d_output_222 rfl rfl ?_
  refine rm_iald S hW 12 2 (by decide) d_output_223 h (fun x5 h => ?_)
  refine lv_iload hx hb d_output_224 (lv_at hl 4 rfl) ?_
  refine lv_iadd hx hb d_output_226 ?_
  refine rm_iast S hW 12 2 (by decide) d_output_227 h (fun r6 H locs h hW => ?_)
  refine lv_goto (tgt := 291) hx hb d_output_228 (by decide) ?_
  exact t_output_291 S hrec56 v1 v2 v3 r6 h (lv_sub hl [0, 1, 2, 3] rfl) hW
theorem t_output_148 (S : RC p m c k_output 7 s args cn_M meth (some .boolean) D tc) {rec56 : Int32 → Int32 → Int32 → RS → Option (Int32 × RS)} (hrec56 : ∀ (v1 : Int32) (v2 : Int32) (v3 : Int32) (ρ : RS) (B : Int32 × RS), rec56 v1 v2 v3 ρ = some B → P_output_56 p l e s m args below meth c D tc o v1 v2 v3 ρ B) (v1 : Int32) (v2 : Int32) (v4 : Int32) (v6 : Int32) (ρ : RS) {B : Int32 × RS} (h : b_output_148 rec56 v1 v2 v4 v6 ρ = some B) {ls : Array Slot} {H : Heap} {locs : List Loc} (hl : lv_has ls 7 [(0, .ref o), (1, .int v1), (2, .int v2), (4, .int v4), (6, .int v6)]) (hW : RWS D tc o s ρ H locs) : W p l e { frames := 4, cells := 0, slots := 0, locals := 103 } s m args below meth c H locs 0 0 (MQ below (RQ D tc o (some (.int B.1)) B.2) args s 0 0 (rreg o)) (F0 m 148 ls []) := by
  have hx := S.1.1
  have hb := S.1.2.1
  unfold b_output_148 at h
  refine lv_iconst (v := 1) hx hb d_output_148 (by decide) ?_
  refine lv_istore_n (lv' := [(3, .int (1 : Int32)), (0, .ref o), (1, .int v1), (2, .int v2), (4, .int v4), (6, .int v6)]) hx hb d_output_149 rfl hl (by decide) rfl (fun ls hl => ?_)
  refine lv_iload hx hb d_output_150 (lv_at hl 5 rfl) ?_
  refine rb_le (tgt := 231) hx hb d_output_152 (by decide) h (fun h => ?_) (fun h => ?_)
  · exact t_output_231 S hrec56 v1 v2 (1 : Int32) v4 ρ h (lv_sub hl [1, 2, 3, 0, 4] rfl) hW
  · refine lv_iload hx hb d_output_155 (lv_at hl 5 rfl) ?_
    refine lv_iload hx hb d_output_157 (lv_at hl 4 rfl) ?_
    refine rc_eq (tgt := 188) hx hb d_output_159 (by decide) h (fun h => ?_) (fun h => ?_)
    · exact t_output_188 S hrec56 v1 v2 (1 : Int32) v6 ρ h (lv_sub hl [1, 2, 3, 0, 5] rfl) hW
    · refine lv_iload hx hb d_output_162 (lv_at hl 5 rfl) ?_
      refine lv_aload_n hx hb d_output_164 rfl (lv_at hl 1 rfl) ?_
      refine rm_geta S hW 22 17 wd_1274 (by decide) d_output_165 ?_
      refine lv_iload_n hx hb d_output_168 rfl (lv_at hl 2 rfl) ?_
      refine rm_iald S hW 17 2 (by decide) d_output_169 h (fun x1 h => ?_)
      refine rc_eq (tgt := 188) hx hb d_output_170 (by decide) h (fun h => ?_) (fun h => ?_)
      · exact t_output_188 S hrec56 v1 v2 (1 : Int32) v6 ρ h (lv_sub hl [1, 2, 3, 0, 5] rfl) hW
      · refine lv_aload_n hx hb d_output_173 rfl (lv_at hl 1 rfl) ?_
        refine rm_geta S hW 17 12 wd_1269 (by decide) d_output_174 ?_
        refine lv_iload_n hx hb d_output_177 rfl (lv_at hl 2 rfl) ?_
        refine rm_iald S hW 12 2 (by decide) d_output_178 h (fun x2 h => ?_)
        refine lv_aload_n hx hb d_output_179 rfl (lv_at hl 1 rfl) ?_
        refine rm_geta S hW 16 11 wd_1268 (by decide) d_output_180 ?_
        refine lv_iload_n hx hb d_output_183 rfl (lv_at hl 2 rfl) ?_
        refine rm_iald S hW 11 2 (by decide) d_output_184 h (fun x3 h => ?_)
        refine rc_ne (tgt := 231) hx hb d_output_185 (by decide) h (fun h => ?_) (fun h => ?_)
        · exact t_output_231 S hrec56 v1 v2 (1 : Int32) v4 ρ h (lv_sub hl [1, 2, 3, 0, 4] rfl) hW
        · exact t_output_188 S hrec56 v1 v2 (1 : Int32) v6 ρ h (lv_sub hl [1, 2, 3, 0, 5] rfl) hW
theorem t_output_127 (S : RC p m c k_output 7 s args cn_M meth (some .boolean) D tc) {rec56 : Int32 → Int32 → Int32 → RS → Option (Int32 × RS)} (hrec56 : ∀ (v1 : Int32) (v2 : Int32) (v3 : Int32) (ρ : RS) (B : Int32 × RS), rec56 v1 v2 v3 ρ = some B → P_output_56 p l e s m args below meth c D tc o v1 v2 v3 ρ B) (v1 : Int32) (v2 : Int32) (v4 : Int32) (w0 : Int32) (ρ : RS) {B : Int32 × RS} (h : b_output_127 rec56 v1 v2 v4 w0 ρ = some B) {ls : Array Slot} {H : Heap} {locs : List Loc} (hl : lv_has ls 7 [(0, .ref o), (1, .int v1), (2, .int v2), (4, .int v4)]) (hW : RWS D tc o s ρ H locs) : W p l e { frames := 4, cells := 0, slots := 0, locals := 103 } s m args below meth c H locs 0 0 (MQ below (RQ D tc o (some (.int B.1)) B.2) args s 0 0 (rreg o)) (F0 m 127 ls [.int w0]) := by
  have hx := S.1.1
  have hb := S.1.2.1
  unfold b_output_127 at h
  refine lv_istore (lv' := [(6, .int w0), (0, .ref o), (1, .int v1), (2, .int v2), (4, .int v4)]) hx hb d_output_127 hl (by decide) rfl (fun ls hl => ?_)
  refine lv_aload_n hx hb d_output_129 rfl (lv_at hl 1 rfl) ?_
  refine rm_geta S hW 22 17 wd_1274 (by decide) d_output_130 ?_
  refine lv_iload_n hx hb d_output_133 rfl (lv_at hl 2 rfl) ?_
  refine rm_iald S hW 17 2 (by decide) d_output_134 h (fun x1 h => ?_)
  refine lv_iload hx hb d_output_135 (lv_at hl 0 rfl) ?_
  refine rc_ge (tgt := 148) hx hb d_output_137 (by decide) h (fun h => ?_) (fun h => ?_)
  · exact t_output_148 S hrec56 v1 v2 v4 w0 ρ h (lv_sub hl [1, 2, 3, 4, 0] rfl) hW
  · refine lv_aload_n hx hb d_output_140 rfl (lv_at hl 1 rfl) ?_
    refine rm_geta S hW 22 17 wd_1274 (by decide) d_output_141 ?_
    refine lv_iload_n hx hb d_output_144 rfl (lv_at hl 2 rfl) ?_
    refine rm_iald S hW 17 2 (by decide) d_output_145 h (fun x2 h => ?_)
    refine lv_istore (lv' := [(6, .int x2), (0, .ref o), (1, .int v1), (2, .int v2), (4, .int v4)]) hx hb d_output_146 hl (by decide) rfl (fun ls hl => ?_)
    exact t_output_148 S hrec56 v1 v2 v4 x2 ρ h (lv_sub hl [1, 2, 3, 4, 0] rfl) hW
theorem t_output_97 (S : RC p m c k_output 7 s args cn_M meth (some .boolean) D tc) {rec56 : Int32 → Int32 → Int32 → RS → Option (Int32 × RS)} (hrec56 : ∀ (v1 : Int32) (v2 : Int32) (v3 : Int32) (ρ : RS) (B : Int32 × RS), rec56 v1 v2 v3 ρ = some B → P_output_56 p l e s m args below meth c D tc o v1 v2 v3 ρ B) (v1 : Int32) (v2 : Int32) (v4 : Int32) (w0 : Int32) (ρ : RS) {B : Int32 × RS} (h : b_output_97 rec56 v1 v2 v4 w0 ρ = some B) {ls : Array Slot} {H : Heap} {locs : List Loc} (hl : lv_has ls 7 [(0, .ref o), (1, .int v1), (2, .int v2), (4, .int v4)]) (hW : RWS D tc o s ρ H locs) : W p l e { frames := 4, cells := 0, slots := 0, locals := 103 } s m args below meth c H locs 0 0 (MQ below (RQ D tc o (some (.int B.1)) B.2) args s 0 0 (rreg o)) (F0 m 97 ls [.int w0]) := by
  have hx := S.1.1
  have hb := S.1.2.1
  unfold b_output_97 at h
  refine lv_aload_n hx hb d_output_97 rfl (lv_at hl 0 rfl) ?_
  refine rm_geta S hW 17 12 wd_1269 (by decide) d_output_98 ?_
  refine lv_iload_n hx hb d_output_101 rfl (lv_at hl 1 rfl) ?_
  refine rm_iald S hW 12 2 (by decide) d_output_102 h (fun x1 h => ?_)
  refine lv_aload_n hx hb d_output_103 rfl (lv_at hl 0 rfl) ?_
  refine rm_geta S hW 16 11 wd_1268 (by decide) d_output_104 ?_
  refine lv_iload_n hx hb d_output_107 rfl (lv_at hl 1 rfl) ?_
  refine rm_iald S hW 11 2 (by decide) d_output_108 h (fun x2 h => ?_)
  refine lv_isub hx hb d_output_109 ?_
  refine lv_isub hx hb d_output_110 ?_
  refine rv_i h (fun x3 h => ?_)
  refine lv_istore (lv' := [(5, .int x3), (0, .ref o), (1, .int v1), (2, .int v2), (4, .int v4)]) hx hb d_output_111 hl (by decide) rfl (fun ls hl => ?_)
  refine lv_iload hx hb d_output_113 (lv_at hl 4 rfl) ?_
  refine lv_iload hx hb d_output_115 (lv_at hl 0 rfl) ?_
  refine rc_ge (tgt := 125) hx hb d_output_117 (by decide) h (fun h => ?_) (fun h => ?_)
  · refine lv_iload hx hb d_output_125 (lv_at hl 0 rfl) ?_
    exact t_output_127 S hrec56 v1 v2 v4 x3 ρ h (lv_sub hl [1, 2, 3, 4] rfl) hW
  · refine lv_iload hx hb d_output_120 (lv_at hl 4 rfl) ?_
    refine lv_goto (tgt := 127) hx hb d_output_122 (by decide) ?_
    exact t_output_127 S hrec56 v1 v2 v4 v4 ρ h (lv_sub hl [1, 2, 3, 4] rfl) hW
theorem tF_output_56 (S : RC p m c k_output 7 s args cn_M meth (some .boolean) D tc) : ∀ (rec56 : Int32 → Int32 → Int32 → RS → Option (Int32 × RS)), (∀ (v1 : Int32) (v2 : Int32) (v3 : Int32) (ρ : RS) (B : Int32 × RS), rec56 v1 v2 v3 ρ = some B → P_output_56 p l e s m args below meth c D tc o v1 v2 v3 ρ B) → ∀ (v1 : Int32) (v2 : Int32) (v3 : Int32) (ρ : RS) (B : Int32 × RS), F_output_56 rec56 v1 v2 v3 ρ = some B → P_output_56 p l e s m args below meth c D tc o v1 v2 v3 ρ B := by
  intro rec56 hrec56 v1 v2 v3 ρ B h ls H locs hl hW
  have hx := S.1.1
  have hb := S.1.2.1
  unfold F_output_56 at h
  refine lv_iload_n hx hb d_output_56 rfl (lv_at hl 3 rfl) ?_
  refine rb_eq (tgt := 298) hx hb d_output_57 (by decide) h (fun h => ?_) (fun h => ?_)
  · refine lv_aload_n hx hb d_output_298 rfl (lv_at hl 0 rfl) ?_
    refine rm_geta S hW 17 12 wd_1269 (by decide) d_output_299 ?_
    refine lv_iload_n hx hb d_output_302 rfl (lv_at hl 1 rfl) ?_
    refine rm_iald S hW 12 2 (by decide) d_output_303 h (fun x1 h => ?_)
    refine lv_aload_n hx hb d_output_304 rfl (lv_at hl 0 rfl) ?_
    refine rm_geta S hW 16 11 wd_1268 (by decide) d_output_305 ?_
    refine lv_iload_n hx hb d_output_308 rfl (lv_at hl 1 rfl) ?_
    refine rm_iald S hW 11 2 (by decide) d_output_309 h (fun x2 h => ?_)
    refine rc_ne (tgt := 321) hx hb d_output_310 (by decide) h (fun h => ?_) (fun h => ?_)
    · exact t_output_321 S v1 v2 ρ h (lv_sub hl [0, 1, 2] rfl) hW
    · refine lv_aload_n hx hb d_output_313 rfl (lv_at hl 0 rfl) ?_
      refine lv_iload_n hx hb d_output_314 rfl (lv_at hl 1 rfl) ?_
      refine rm_cVi [.int v1] S hW (fun x ρ' hc => c_left v1 ρ hc) q_left wd_1512 wd_48 wd_1510 (by decide) hl.1 rfl rfl (Nat.le_of_ble_eq_true rfl) d_output_315 h (fun x4 r3 H locs h hW => ?_)
      refine rb_le (tgt := 350) hx hb d_output_318 (by decide) h (fun h => ?_) (fun h => ?_)
      · exact t_output_350 S v2 r3 h (lv_sub hl [2] rfl) hW
      · exact t_output_321 S v1 v2 r3 h (lv_sub hl [0, 1, 2] rfl) hW
  · refine lv_aload_n hx hb d_output_60 rfl (lv_at hl 0 rfl) ?_
    refine lv_iload_n hx hb d_output_61 rfl (lv_at hl 1 rfl) ?_
    refine rm_cVi [.int v1] S hW (fun x ρ' hc => c_left v1 ρ hc) q_left wd_1512 wd_48 wd_1510 (by decide) hl.1 rfl rfl (Nat.le_of_ble_eq_true rfl) d_output_62 h (fun x6 r5 H locs h hW => ?_)
    refine lv_istore (lv' := [(4, .int x6), (0, .ref o), (1, .int v1), (2, .int v2), (3, .int v3)]) hx hb d_output_65 hl (by decide) rfl (fun ls hl => ?_)
    refine lv_aload_n hx hb d_output_67 rfl (lv_at hl 1 rfl) ?_
    refine rm_geta S hW 25 20 wd_1277 (by decide) d_output_68 ?_
    refine lv_iload_n hx hb d_output_71 rfl (lv_at hl 2 rfl) ?_
    refine rm_iald S hW 20 2 (by decide) d_output_72 h (fun x7 h => ?_)
    refine lv_aload_n hx hb d_output_73 rfl (lv_at hl 1 rfl) ?_
    refine rm_geta S hW 19 14 wd_1271 (by decide) d_output_74 ?_
    refine lv_iload_n hx hb d_output_77 rfl (lv_at hl 2 rfl) ?_
    refine rm_iald S hW 14 2 (by decide) d_output_78 h (fun x8 h => ?_)
    refine rc_ge (tgt := 91) hx hb d_output_79 (by decide) h (fun h => ?_) (fun h => ?_)
    · refine lv_aload_n hx hb d_output_91 rfl (lv_at hl 1 rfl) ?_
      refine rm_geta S hW 19 14 wd_1271 (by decide) d_output_92 ?_
      refine lv_iload_n hx hb d_output_95 rfl (lv_at hl 2 rfl) ?_
      refine rm_iald S hW 14 2 (by decide) d_output_96 h (fun x9 h => ?_)
      exact t_output_97 S hrec56 v1 v2 x6 x9 r5 h (lv_sub hl [1, 2, 3, 0] rfl) hW
    · refine lv_aload_n hx hb d_output_82 rfl (lv_at hl 1 rfl) ?_
      refine rm_geta S hW 25 20 wd_1277 (by decide) d_output_83 ?_
      refine lv_iload_n hx hb d_output_86 rfl (lv_at hl 2 rfl) ?_
      refine rm_iald S hW 20 2 (by decide) d_output_87 h (fun x10 h => ?_)
      refine lv_goto (tgt := 97) hx hb d_output_88 (by decide) ?_
      exact t_output_97 S hrec56 v1 v2 x6 x10 r5 h (lv_sub hl [1, 2, 3, 0] rfl) hW
theorem t_output_56 (S : RC p m c k_output 7 s args cn_M meth (some .boolean) D tc) : ∀ (n : Nat) (v1 : Int32) (v2 : Int32) (v3 : Int32) (ρ : RS) (B : Int32 × RS), lq4 (F_output_56) n v1 v2 v3 ρ = some B → P_output_56 p l e s m args below meth c D tc o v1 v2 v3 ρ B := lq4_s (tF_output_56 S)
theorem t_output_49 (S : RC p m c k_output 7 s args cn_M meth (some .boolean) D tc) (v1 : Int32) (v2 : Int32) (w0 : Int32) (ρ : RS) {B : Int32 × RS} (h : b_output_49 v1 v2 w0 ρ = some B) {ls : Array Slot} {H : Heap} {locs : List Loc} (hl : lv_has ls 7 [(0, .ref o), (1, .int v1), (2, .int v2)]) (hW : RWS D tc o s ρ H locs) : W p l e { frames := 4, cells := 0, slots := 0, locals := 103 } s m args below meth c H locs 0 0 (MQ below (RQ D tc o (some (.int B.1)) B.2) args s 0 0 (rreg o)) (F0 m 49 ls [.int w0]) := by
  have hx := S.1.1
  have hb := S.1.2.1
  unfold b_output_49 at h
  refine lv_istore_n (lv' := [(3, .int w0), (0, .ref o), (1, .int v1), (2, .int v2)]) hx hb d_output_49 rfl hl (by decide) rfl (fun ls hl => ?_)
  refine lv_iload_n hx hb d_output_50 rfl (lv_at hl 0 rfl) ?_
  refine rb_ne (tgt := 56) hx hb d_output_51 (by decide) h (fun h => ?_) (fun h => ?_)
  · exact t_output_56 S fuel v1 v2 w0 ρ _ h _ _ _ (lv_sub hl [1, 2, 3, 0] rfl) hW
  · refine lv_iconst (v := 0) hx hb d_output_54 (by decide) ?_
    exact rm_zret S hW d_output_55 h
theorem t_output_48 (S : RC p m c k_output 7 s args cn_M meth (some .boolean) D tc) (v1 : Int32) (v2 : Int32) (ρ : RS) {B : Int32 × RS} (h : b_output_48 v1 v2 ρ = some B) {ls : Array Slot} {H : Heap} {locs : List Loc} (hl : lv_has ls 7 [(0, .ref o), (1, .int v1), (2, .int v2)]) (hW : RWS D tc o s ρ H locs) : W p l e { frames := 4, cells := 0, slots := 0, locals := 103 } s m args below meth c H locs 0 0 (MQ below (RQ D tc o (some (.int B.1)) B.2) args s 0 0 (rreg o)) (F0 m 48 ls []) := by
  have hx := S.1.1
  have hb := S.1.2.1
  unfold b_output_48 at h
  refine lv_iconst (v := 0) hx hb d_output_48 (by decide) ?_
  exact t_output_49 S v1 v2 (0 : Int32) ρ h (lv_sub hl [0, 1, 2] rfl) hW
theorem t_output_44 (S : RC p m c k_output 7 s args cn_M meth (some .boolean) D tc) (v1 : Int32) (v2 : Int32) (ρ : RS) {B : Int32 × RS} (h : b_output_44 v1 v2 ρ = some B) {ls : Array Slot} {H : Heap} {locs : List Loc} (hl : lv_has ls 7 [(0, .ref o), (1, .int v1), (2, .int v2)]) (hW : RWS D tc o s ρ H locs) : W p l e { frames := 4, cells := 0, slots := 0, locals := 103 } s m args below meth c H locs 0 0 (MQ below (RQ D tc o (some (.int B.1)) B.2) args s 0 0 (rreg o)) (F0 m 44 ls []) := by
  have hx := S.1.1
  have hb := S.1.2.1
  unfold b_output_44 at h
  refine lv_iconst (v := 1) hx hb d_output_44 (by decide) ?_
  refine lv_goto (tgt := 49) hx hb d_output_45 (by decide) ?_
  exact t_output_49 S v1 v2 (1 : Int32) ρ h (lv_sub hl [0, 1, 2] rfl) hW
theorem t_output_0 (S : RC p m c k_output 7 s args cn_M meth (some .boolean) D tc) (v1 : Int32) (ρ : RS) {B : Int32 × RS} (h : m_output v1 ρ = some B) {ls : Array Slot} {H : Heap} {locs : List Loc} (hl : lv_has ls 7 [(0, .ref o), (1, .int v1)]) (hW : RWS D tc o s ρ H locs) : W p l e { frames := 4, cells := 0, slots := 0, locals := 103 } s m args below meth c H locs 0 0 (MQ below (RQ D tc o (some (.int B.1)) B.2) args s 0 0 (rreg o)) (F0 m 0 ls []) := by
  have hx := S.1.1
  have hb := S.1.2.1
  unfold m_output at h
  refine lv_iconst (v := 0) hx hb d_output_0 (by decide) ?_
  refine lv_istore_n (lv' := [(2, .int (0 : Int32)), (0, .ref o), (1, .int v1)]) hx hb d_output_1 rfl hl (by decide) rfl (fun ls hl => ?_)
  refine lv_aload_n hx hb d_output_2 rfl (lv_at hl 1 rfl) ?_
  refine rm_geta S hW 14 9 wd_1266 (by decide) d_output_3 ?_
  refine lv_iload_n hx hb d_output_6 rfl (lv_at hl 2 rfl) ?_
  refine rm_iald S hW 9 2 (by decide) d_output_7 h (fun x1 h => ?_)
  refine lv_iconst (v := 4) hx hb d_output_8 (by decide) ?_
  refine rc_eq (tgt := 44) hx hb d_output_9 (by decide) h (fun h => ?_) (fun h => ?_)
  · exact t_output_44 S v1 (0 : Int32) ρ h (lv_sub hl [1, 2, 0] rfl) hW
  · refine lv_aload_n hx hb d_output_12 rfl (lv_at hl 1 rfl) ?_
    refine rm_geta S hW 14 9 wd_1266 (by decide) d_output_13 ?_
    refine lv_iload_n hx hb d_output_16 rfl (lv_at hl 2 rfl) ?_
    refine rm_iald S hW 9 2 (by decide) d_output_17 h (fun x2 h => ?_)
    refine lv_iconst (v := 5) hx hb d_output_18 (by decide) ?_
    refine rc_eq (tgt := 44) hx hb d_output_19 (by decide) h (fun h => ?_) (fun h => ?_)
    · exact t_output_44 S v1 (0 : Int32) ρ h (lv_sub hl [1, 2, 0] rfl) hW
    · refine lv_aload_n hx hb d_output_22 rfl (lv_at hl 1 rfl) ?_
      refine rm_geta S hW 14 9 wd_1266 (by decide) d_output_23 ?_
      refine lv_iload_n hx hb d_output_26 rfl (lv_at hl 2 rfl) ?_
      refine rm_iald S hW 9 2 (by decide) d_output_27 h (fun x3 h => ?_)
      refine lv_bipush (v := 7) hx hb d_output_28 (by decide) ?_
      refine rc_lt (tgt := 48) hx hb d_output_30 (by decide) h (fun h => ?_) (fun h => ?_)
      · exact t_output_48 S v1 (0 : Int32) ρ h (lv_sub hl [1, 2, 0] rfl) hW
      · refine lv_aload_n hx hb d_output_33 rfl (lv_at hl 1 rfl) ?_
        refine rm_geta S hW 14 9 wd_1266 (by decide) d_output_34 ?_
        refine lv_iload_n hx hb d_output_37 rfl (lv_at hl 2 rfl) ?_
        refine rm_iald S hW 9 2 (by decide) d_output_38 h (fun x4 h => ?_)
        refine lv_bipush (v := 9) hx hb d_output_39 (by decide) ?_
        refine rc_gt (tgt := 48) hx hb d_output_41 (by decide) h (fun h => ?_) (fun h => ?_)
        · exact t_output_48 S v1 (0 : Int32) ρ h (lv_sub hl [1, 2, 0] rfl) hW
        · exact t_output_44 S v1 (0 : Int32) ρ h (lv_sub hl [1, 2, 0] rfl) hW
theorem c_output (v1 : Int32) (ρ : RS) {x : Int32} {ρ' : RS} (h : m_output v1 ρ = some (x, ρ')) : RMet l D tc o y_output k_output 7 (some .boolean) 4 103 [.ref o, .int v1] ρ (some (.int x)) ρ' := rm_met (by decide) (Nat.le_of_ble_eq_true rfl) fun p e s m args below meth c S hW ls hl => t_output_0 S v1 ρ h hl hW
end

/-! finished (I)V -/
abbrev k_finished : ByteArray := prog_12_method_23_code
abbrev y_finished : MethodName := ⟨cn_M, "finished", "(I)V"⟩
theorem q_finished : Calee y_finished k_finished 2 none 1 := ⟨wd_1534, wd_90, by decide, by decide +kernel⟩
theorem d_finished_0 : decode k_finished 0 = .ok (.aload_n 0, 1) := by decide +kernel
theorem d_finished_1 : decode k_finished 1 = .ok (.getfield 39, 3) := by decide +kernel
theorem d_finished_4 : decode k_finished 4 = .ok (.iload_n 1, 1) := by decide +kernel
theorem d_finished_5 : decode k_finished 5 = .ok (.iconst 0, 1) := by decide +kernel
theorem d_finished_6 : decode k_finished 6 = .ok (.iastore, 1) := by decide +kernel
theorem d_finished_7 : decode k_finished 7 = .ok (.aload_n 0, 1) := by decide +kernel
theorem d_finished_8 : decode k_finished 8 = .ok (.getfield 113, 3) := by decide +kernel
theorem d_finished_11 : decode k_finished 11 = .ok (.iload_n 1, 1) := by decide +kernel
theorem d_finished_12 : decode k_finished 12 = .ok (.ldc2_w 111, 3) := by decide +kernel
theorem d_finished_15 : decode k_finished 15 = .ok (.lastore, 1) := by decide +kernel
theorem d_finished_16 : decode k_finished 16 = .ok (.return_, 1) := by decide +kernel
def m_finished (v1 : Int32) (ρ : RS) : Option (RS) :=
  gd (inb v1 2) <| bd (si ρ 9 v1.toNatClampNeg (0 : Int32)) fun r1 => gd (inb v1 2) <| bd (sl r1 33 v1.toNatClampNeg (-1 : Int64)) fun r2 => some r2
section
variable {p : Program} {l : Launch} {e : Env} {s : State} {m : MethodId} {args : Array Value} {below : List Frame} {meth : Method} {c : Code} {D : va_G} {tc : Nat → ClassId} {o : Nat}
theorem t_finished_0 (S : RC p m c k_finished 2 s args cn_M meth none D tc) (v1 : Int32) (ρ : RS) {B : RS} (h : m_finished v1 ρ = some B) {ls : Array Slot} {H : Heap} {locs : List Loc} (hl : lv_has ls 2 [(0, .ref o), (1, .int v1)]) (hW : RWS D tc o s ρ H locs) : W p l e { frames := 0, cells := 0, slots := 0, locals := 0 } s m args below meth c H locs 0 0 (MQ below (RQ D tc o none B) args s 0 0 (rreg o)) (F0 m 0 ls []) := by
  have hx := S.1.1
  have hb := S.1.2.1
  unfold m_finished at h
  refine lv_aload_n hx hb d_finished_0 rfl (lv_at hl 0 rfl) ?_
  refine rm_geta S hW 14 9 wd_1266 (by decide) d_finished_1 ?_
  refine lv_iload_n hx hb d_finished_4 rfl (lv_at hl 1 rfl) ?_
  refine lv_iconst (v := 0) hx hb d_finished_5 (by decide) ?_
  refine rm_iast S hW 9 2 (by decide) d_finished_6 h (fun r1 H locs h hW => ?_)
  refine lv_aload_n hx hb d_finished_7 rfl (lv_at hl 0 rfl) ?_
  refine rm_geta S hW 38 33 wd_1290 (by decide) d_finished_8 ?_
  refine lv_iload_n hx hb d_finished_11 rfl (lv_at hl 1 rfl) ?_
  refine lv_ldc2 hx hb S.1.2.2.2.1 (S.1.2.2.2.2 _ (gi wd_1249 rfl)) d_finished_12 ?_
  refine rm_last S hW 33 2 (by decide) d_finished_15 h (fun r2 H locs h hW => ?_)
  exact rm_vret S hW d_finished_16 h
theorem c_finished (v1 : Int32) (ρ : RS) {B : RS} (h : m_finished v1 ρ = some B) : RMet l D tc o y_finished k_finished 2 none 0 0 [.ref o, .int v1] ρ none B := rm_met (by decide) (Nat.le_of_ble_eq_true rfl) fun p e s m args below meth c S hW ls hl => t_finished_0 S v1 ρ h hl hW
end

/-! broken (II)V -/
abbrev k_broken : ByteArray := prog_12_method_24_code
abbrev y_broken : MethodName := ⟨cn_M, "broken", "(II)V"⟩
theorem q_broken : Calee y_broken k_broken 3 none 2 := ⟨wd_1542, wd_90, by decide, by decide +kernel⟩
theorem d_broken_0 : decode k_broken 0 = .ok (.aload_n 0, 1) := by decide +kernel
theorem d_broken_1 : decode k_broken 1 = .ok (.iload_n 1, 1) := by decide +kernel
theorem d_broken_2 : decode k_broken 2 = .ok (.invokevirtual 215, 3) := by decide +kernel
theorem d_broken_5 : decode k_broken 5 = .ok (.aload_n 0, 1) := by decide +kernel
theorem d_broken_6 : decode k_broken 6 = .ok (.getfield 102, 3) := by decide +kernel
theorem d_broken_9 : decode k_broken 9 = .ok (.iload_n 1, 1) := by decide +kernel
theorem d_broken_10 : decode k_broken 10 = .ok (.iaload, 1) := by decide +kernel
theorem d_broken_11 : decode k_broken 11 = .ok (.ifCond .ne 10, 3) := by decide +kernel
theorem d_broken_14 : decode k_broken 14 = .ok (.aload_n 0, 1) := by decide +kernel
theorem d_broken_15 : decode k_broken 15 = .ok (.getfield 102, 3) := by decide +kernel
theorem d_broken_18 : decode k_broken 18 = .ok (.iload_n 1, 1) := by decide +kernel
theorem d_broken_19 : decode k_broken 19 = .ok (.iload_n 2, 1) := by decide +kernel
theorem d_broken_20 : decode k_broken 20 = .ok (.iastore, 1) := by decide +kernel
theorem d_broken_21 : decode k_broken 21 = .ok (.return_, 1) := by decide +kernel
def b_broken_21 (ρ : RS) : Option (RS) :=
  some ρ
def m_broken (v1 : Int32) (v2 : Int32) (ρ : RS) : Option (RS) :=
  bc (m_finished v1 ρ) fun r1 => gd (inb v1 2) <| bd (r1.1 30 v1.toNatClampNeg) fun x2 => if x2 = 0 then
  (gd (inb v1 2) <| bd (si r1 30 v1.toNatClampNeg v2) fun r3 => b_broken_21  r3)
 else
  (b_broken_21  r1)
section
variable {p : Program} {l : Launch} {e : Env} {s : State} {m : MethodId} {args : Array Value} {below : List Frame} {meth : Method} {c : Code} {D : va_G} {tc : Nat → ClassId} {o : Nat}
theorem t_broken_21 (S : RC p m c k_broken 3 s args cn_M meth none D tc) (ρ : RS) {B : RS} (h : b_broken_21  ρ = some B) {ls : Array Slot} {H : Heap} {locs : List Loc} (hl : lv_has ls 3 []) (hW : RWS D tc o s ρ H locs) : W p l e { frames := 1, cells := 0, slots := 0, locals := 21 } s m args below meth c H locs 0 0 (MQ below (RQ D tc o none B) args s 0 0 (rreg o)) (F0 m 21 ls []) := by
  have hx := S.1.1
  have hb := S.1.2.1
  unfold b_broken_21 at h
  exact rm_vret S hW d_broken_21 h
theorem t_broken_0 (S : RC p m c k_broken 3 s args cn_M meth none D tc) (v1 : Int32) (v2 : Int32) (ρ : RS) {B : RS} (h : m_broken v1 v2 ρ = some B) {ls : Array Slot} {H : Heap} {locs : List Loc} (hl : lv_has ls 3 [(0, .ref o), (1, .int v1), (2, .int v2)]) (hW : RWS D tc o s ρ H locs) : W p l e { frames := 1, cells := 0, slots := 0, locals := 21 } s m args below meth c H locs 0 0 (MQ below (RQ D tc o none B) args s 0 0 (rreg o)) (F0 m 0 ls []) := by
  have hx := S.1.1
  have hb := S.1.2.1
  unfold m_broken at h
  refine lv_aload_n hx hb d_broken_0 rfl (lv_at hl 0 rfl) ?_
  refine lv_iload_n hx hb d_broken_1 rfl (lv_at hl 1 rfl) ?_
  refine rm_cVv [.int v1] S hW (fun ρ' hc => c_finished v1 ρ hc) q_finished wd_1533 wd_51 wd_1531 (by decide) hl.1 rfl rfl (Nat.le_of_ble_eq_true rfl) d_broken_2 h (fun r1 H locs h hW => ?_)
  refine lv_aload_n hx hb d_broken_5 rfl (lv_at hl 0 rfl) ?_
  refine rm_geta S hW 35 30 wd_1287 (by decide) d_broken_6 ?_
  refine lv_iload_n hx hb d_broken_9 rfl (lv_at hl 1 rfl) ?_
  refine rm_iald S hW 30 2 (by decide) d_broken_10 h (fun x2 h => ?_)
  refine rb_ne (tgt := 21) hx hb d_broken_11 (by decide) h (fun h => ?_) (fun h => ?_)
  · exact t_broken_21 S  r1 h (lv_sub hl [] rfl) hW
  · refine lv_aload_n hx hb d_broken_14 rfl (lv_at hl 0 rfl) ?_
    refine rm_geta S hW 35 30 wd_1287 (by decide) d_broken_15 ?_
    refine lv_iload_n hx hb d_broken_18 rfl (lv_at hl 1 rfl) ?_
    refine lv_iload_n hx hb d_broken_19 rfl (lv_at hl 2 rfl) ?_
    refine rm_iast S hW 30 2 (by decide) d_broken_20 h (fun r3 H locs h hW => ?_)
    exact t_broken_21 S  r3 h (lv_sub hl [] rfl) hW
theorem c_broken (v1 : Int32) (v2 : Int32) (ρ : RS) {B : RS} (h : m_broken v1 v2 ρ = some B) : RMet l D tc o y_broken k_broken 3 none 1 21 [.ref o, .int v1, .int v2] ρ none B := rm_met (by decide) (Nat.le_of_ble_eq_true rfl) fun p e s m args below meth c S hW ls hl => t_broken_0 S v1 v2 ρ h hl hW
end

/-! least (I)I -/
abbrev k_least : ByteArray := prog_12_method_25_code
abbrev y_least : MethodName := ⟨cn_M, "least", "(I)I"⟩
theorem q_least : Calee y_least k_least 3 (some .int) 1 := ⟨wd_1556, wd_90, by decide, by decide +kernel⟩
theorem d_least_0 : decode k_least 0 = .ok (.aload_n 0, 1) := by decide +kernel
theorem d_least_1 : decode k_least 1 = .ok (.getfield 48, 3) := by decide +kernel
theorem d_least_4 : decode k_least 4 = .ok (.iload_n 1, 1) := by decide +kernel
theorem d_least_5 : decode k_least 5 = .ok (.iaload, 1) := by decide +kernel
theorem d_least_6 : decode k_least 6 = .ok (.aload_n 0, 1) := by decide +kernel
theorem d_least_7 : decode k_least 7 = .ok (.getfield 45, 3) := by decide +kernel
theorem d_least_10 : decode k_least 10 = .ok (.iload_n 1, 1) := by decide +kernel
theorem d_least_11 : decode k_least 11 = .ok (.iaload, 1) := by decide +kernel
theorem d_least_12 : decode k_least 12 = .ok (.isub, 1) := by decide +kernel
theorem d_least_13 : decode k_least 13 = .ok (.iconst 2, 1) := by decide +kernel
theorem d_least_14 : decode k_least 14 = .ok (.idiv, 1) := by decide +kernel
theorem d_least_15 : decode k_least 15 = .ok (.istore_n 2, 1) := by decide +kernel
theorem d_least_16 : decode k_least 16 = .ok (.iload_n 2, 1) := by decide +kernel
theorem d_least_17 : decode k_least 17 = .ok (.iconst 2, 1) := by decide +kernel
theorem d_least_18 : decode k_least 18 = .ok (.aload_n 0, 1) := by decide +kernel
theorem d_least_19 : decode k_least 19 = .ok (.getfield 63, 3) := by decide +kernel
theorem d_least_22 : decode k_least 22 = .ok (.iload_n 1, 1) := by decide +kernel
theorem d_least_23 : decode k_least 23 = .ok (.iaload, 1) := by decide +kernel
theorem d_least_24 : decode k_least 24 = .ok (.imul, 1) := by decide +kernel
theorem d_least_25 : decode k_least 25 = .ok (.if_icmp .le 7, 3) := by decide +kernel
theorem d_least_28 : decode k_least 28 = .ok (.iload_n 2, 1) := by decide +kernel
theorem d_least_29 : decode k_least 29 = .ok (.goto 11, 3) := by decide +kernel
theorem d_least_32 : decode k_least 32 = .ok (.iconst 2, 1) := by decide +kernel
theorem d_least_33 : decode k_least 33 = .ok (.aload_n 0, 1) := by decide +kernel
theorem d_least_34 : decode k_least 34 = .ok (.getfield 63, 3) := by decide +kernel
theorem d_least_37 : decode k_least 37 = .ok (.iload_n 1, 1) := by decide +kernel
theorem d_least_38 : decode k_least 38 = .ok (.iaload, 1) := by decide +kernel
theorem d_least_39 : decode k_least 39 = .ok (.imul, 1) := by decide +kernel
theorem d_least_40 : decode k_least 40 = .ok (.ireturn, 1) := by decide +kernel
def b_least_40 (w0 : Int32) (ρ : RS) : Option (Int32 × RS) :=
  some (w0, ρ)
def m_least (v1 : Int32) (ρ : RS) : Option (Int32 × RS) :=
  gd (inb v1 2) <| bd (ρ.1 12 v1.toNatClampNeg) fun x1 => gd (inb v1 2) <| bd (ρ.1 11 v1.toNatClampNeg) fun x2 => gd (¬ (2 : Int32) = 0) <| bd ((x1 - x2) / (2 : Int32)) fun x3 => gd (inb v1 2) <| bd (ρ.1 17 v1.toNatClampNeg) fun x4 => if x3 ≤ ((2 : Int32) * x4) then
  (gd (inb v1 2) <| bd (ρ.1 17 v1.toNatClampNeg) fun x5 => b_least_40 ((2 : Int32) * x5) ρ)
 else
  (b_least_40 x3 ρ)
section
variable {p : Program} {l : Launch} {e : Env} {s : State} {m : MethodId} {args : Array Value} {below : List Frame} {meth : Method} {c : Code} {D : va_G} {tc : Nat → ClassId} {o : Nat}
theorem t_least_40 (S : RC p m c k_least 3 s args cn_M meth (some .int) D tc) (w0 : Int32) (ρ : RS) {B : Int32 × RS} (h : b_least_40 w0 ρ = some B) {ls : Array Slot} {H : Heap} {locs : List Loc} (hl : lv_has ls 3 []) (hW : RWS D tc o s ρ H locs) : W p l e { frames := 0, cells := 0, slots := 0, locals := 0 } s m args below meth c H locs 0 0 (MQ below (RQ D tc o (some (.int B.1)) B.2) args s 0 0 (rreg o)) (F0 m 40 ls [.int w0]) := by
  have hx := S.1.1
  have hb := S.1.2.1
  unfold b_least_40 at h
  exact rm_iret S hW d_least_40 h
theorem t_least_0 (S : RC p m c k_least 3 s args cn_M meth (some .int) D tc) (v1 : Int32) (ρ : RS) {B : Int32 × RS} (h : m_least v1 ρ = some B) {ls : Array Slot} {H : Heap} {locs : List Loc} (hl : lv_has ls 3 [(0, .ref o), (1, .int v1)]) (hW : RWS D tc o s ρ H locs) : W p l e { frames := 0, cells := 0, slots := 0, locals := 0 } s m args below meth c H locs 0 0 (MQ below (RQ D tc o (some (.int B.1)) B.2) args s 0 0 (rreg o)) (F0 m 0 ls []) := by
  have hx := S.1.1
  have hb := S.1.2.1
  unfold m_least at h
  refine lv_aload_n hx hb d_least_0 rfl (lv_at hl 0 rfl) ?_
  refine rm_geta S hW 17 12 wd_1269 (by decide) d_least_1 ?_
  refine lv_iload_n hx hb d_least_4 rfl (lv_at hl 1 rfl) ?_
  refine rm_iald S hW 12 2 (by decide) d_least_5 h (fun x1 h => ?_)
  refine lv_aload_n hx hb d_least_6 rfl (lv_at hl 0 rfl) ?_
  refine rm_geta S hW 16 11 wd_1268 (by decide) d_least_7 ?_
  refine lv_iload_n hx hb d_least_10 rfl (lv_at hl 1 rfl) ?_
  refine rm_iald S hW 11 2 (by decide) d_least_11 h (fun x2 h => ?_)
  refine lv_isub hx hb d_least_12 ?_
  refine lv_iconst (v := 2) hx hb d_least_13 (by decide) ?_
  refine rv_idiv hx hb d_least_14 h (fun h => ?_)
  refine rv_i h (fun x3 h => ?_)
  refine lv_istore_n (lv' := [(2, .int x3), (0, .ref o), (1, .int v1)]) hx hb d_least_15 rfl hl (by decide) rfl (fun ls hl => ?_)
  refine lv_iload_n hx hb d_least_16 rfl (lv_at hl 0 rfl) ?_
  refine lv_iconst (v := 2) hx hb d_least_17 (by decide) ?_
  refine lv_aload_n hx hb d_least_18 rfl (lv_at hl 1 rfl) ?_
  refine rm_geta S hW 22 17 wd_1274 (by decide) d_least_19 ?_
  refine lv_iload_n hx hb d_least_22 rfl (lv_at hl 2 rfl) ?_
  refine rm_iald S hW 17 2 (by decide) d_least_23 h (fun x4 h => ?_)
  refine lv_imul hx hb d_least_24 ?_
  refine rc_le (tgt := 32) hx hb d_least_25 (by decide) h (fun h => ?_) (fun h => ?_)
  · refine lv_iconst (v := 2) hx hb d_least_32 (by decide) ?_
    refine lv_aload_n hx hb d_least_33 rfl (lv_at hl 1 rfl) ?_
    refine rm_geta S hW 22 17 wd_1274 (by decide) d_least_34 ?_
    refine lv_iload_n hx hb d_least_37 rfl (lv_at hl 2 rfl) ?_
    refine rm_iald S hW 17 2 (by decide) d_least_38 h (fun x5 h => ?_)
    refine lv_imul hx hb d_least_39 ?_
    exact t_least_40 S ((2 : Int32) * x5) ρ h (lv_sub hl [] rfl) hW
  · refine lv_iload_n hx hb d_least_28 rfl (lv_at hl 0 rfl) ?_
    refine lv_goto (tgt := 40) hx hb d_least_29 (by decide) ?_
    exact t_least_40 S x3 ρ h (lv_sub hl [] rfl) hW
theorem c_least (v1 : Int32) (ρ : RS) {x : Int32} {ρ' : RS} (h : m_least v1 ρ = some (x, ρ')) : RMet l D tc o y_least k_least 3 (some .int) 0 0 [.ref o, .int v1] ρ (some (.int x)) ρ' := rm_met (by decide) (Nat.le_of_ble_eq_true rfl) fun p e s m args below meth c S hW ls hl => t_least_0 S v1 ρ h hl hW
end

