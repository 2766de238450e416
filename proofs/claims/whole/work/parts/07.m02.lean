/-! port (I)I -/
abbrev k_port : ByteArray := prog_12_method_14_code
abbrev y_port : MethodName := ⟨cn_M, "port", "(I)I"⟩
theorem q_port : Calee y_port k_port 2 (some .int) 1 := ⟨wd_1473, wd_90, by decide, by decide +kernel⟩
theorem d_port_0 : decode k_port 0 = .ok (.iload_n 1, 1) := by decide +kernel
theorem d_port_1 : decode k_port 1 = .ok (.iconst 1, 1) := by decide +kernel
theorem d_port_2 : decode k_port 2 = .ok (.if_icmp .ne 9, 3) := by decide +kernel
theorem d_port_5 : decode k_port 5 = .ok (.sipush 443, 3) := by decide +kernel
theorem d_port_8 : decode k_port 8 = .ok (.goto 16, 3) := by decide +kernel
theorem d_port_11 : decode k_port 11 = .ok (.ldc 171, 2) := by decide +kernel
theorem d_port_13 : decode k_port 13 = .ok (.aload_n 0, 1) := by decide +kernel
theorem d_port_14 : decode k_port 14 = .ok (.getfield 172, 3) := by decide +kernel
theorem d_port_17 : decode k_port 17 = .ok (.iconst 1, 1) := by decide +kernel
theorem d_port_18 : decode k_port 18 = .ok (.isub, 1) := by decide +kernel
theorem d_port_19 : decode k_port 19 = .ok (.sipush 20000, 3) := by decide +kernel
theorem d_port_22 : decode k_port 22 = .ok (.irem, 1) := by decide +kernel
theorem d_port_23 : decode k_port 23 = .ok (.iadd, 1) := by decide +kernel
theorem d_port_24 : decode k_port 24 = .ok (.ireturn, 1) := by decide +kernel
def b_port_24 (w0 : Int32) (ρ : RS) : Option (Int32 × RS) :=
  some (w0, ρ)
def m_port (v1 : Int32) (ρ : RS) : Option (Int32 × RS) :=
  if v1 = (1 : Int32) then
  (b_port_24 (443 : Int32) ρ)
 else
  (bd (ρ.1 0 4) fun x1 => gd (¬ (20000 : Int32) = 0) <| b_port_24 ((40000 : Int32) + ((x1 - (1 : Int32)) - (x1 - (1 : Int32)) / (20000 : Int32) * (20000 : Int32))) ρ)
section
variable {p : Program} {l : Launch} {e : Env} {s : State} {m : MethodId} {args : Array Value} {below : List Frame} {meth : Method} {c : Code} {D : va_G} {tc : Nat → ClassId} {o : Nat}
theorem t_port_24 (S : RC p m c k_port 2 s args cn_M meth (some .int) D tc) (w0 : Int32) (ρ : RS) {B : Int32 × RS} (h : b_port_24 w0 ρ = some B) {ls : Array Slot} {H : Heap} {locs : List Loc} (hl : lv_has ls 2 []) (hW : RWS D tc o s ρ H locs) : W p l e { frames := 0, cells := 0, slots := 0, locals := 0 } s m args below meth c H locs 0 0 (MQ below (RQ D tc o (some (.int B.1)) B.2) args s 0 0 (rreg o)) (F0 m 24 ls [.int w0]) := by
  have hx := S.1.1
  have hb := S.1.2.1
  unfold b_port_24 at h
  exact rm_iret S hW d_port_24 h
theorem t_port_0 (S : RC p m c k_port 2 s args cn_M meth (some .int) D tc) (v1 : Int32) (ρ : RS) {B : Int32 × RS} (h : m_port v1 ρ = some B) {ls : Array Slot} {H : Heap} {locs : List Loc} (hl : lv_has ls 2 [(0, .ref o), (1, .int v1)]) (hW : RWS D tc o s ρ H locs) : W p l e { frames := 0, cells := 0, slots := 0, locals := 0 } s m args below meth c H locs 0 0 (MQ below (RQ D tc o (some (.int B.1)) B.2) args s 0 0 (rreg o)) (F0 m 0 ls []) := by
  have hx := S.1.1
  have hb := S.1.2.1
  unfold m_port at h
  refine lv_iload_n hx hb d_port_0 rfl (lv_at hl 1 rfl) ?_
  refine lv_iconst (v := 1) hx hb d_port_1 (by decide) ?_
  refine rc_ne (tgt := 11) hx hb d_port_2 (by decide) h (fun h => ?_) (fun h => ?_)
  · refine lv_ldc hx hb S.1.2.2.2.1 (S.1.2.2.2.2 _ (gi wd_1474 rfl)) d_port_11 ?_
    refine lv_aload_n hx hb d_port_13 rfl (lv_at hl 0 rfl) ?_
    refine rm_geti S hW 4 wd_1256 (by decide) d_port_14 h (fun x1 h => ?_)
    refine lv_iconst (v := 1) hx hb d_port_17 (by decide) ?_
    refine lv_isub hx hb d_port_18 ?_
    refine lv_sipush (v := 20000) hx hb d_port_19 (by decide) ?_
    refine rv_irem hx hb d_port_22 h (fun h => ?_)
    refine lv_iadd hx hb d_port_23 ?_
    exact t_port_24 S ((40000 : Int32) + ((x1 - (1 : Int32)) - (x1 - (1 : Int32)) / (20000 : Int32) * (20000 : Int32))) ρ h (lv_sub hl [] rfl) hW
  · refine lv_sipush (v := 443) hx hb d_port_5 (by decide) ?_
    refine lv_goto (tgt := 24) hx hb d_port_8 (by decide) ?_
    exact t_port_24 S (443 : Int32) ρ h (lv_sub hl [] rfl) hW
theorem c_port (v1 : Int32) (ρ : RS) {x : Int32} {ρ' : RS} (h : m_port v1 ρ = some (x, ρ')) : RMet l D tc o y_port k_port 2 (some .int) 0 0 [.ref o, .int v1] ρ (some (.int x)) ρ' := rm_met (by decide) (Nat.le_of_ble_eq_true rfl) fun p e s m args below meth c S hW ls hl => t_port_0 S v1 ρ h hl hW
end

/-! written (IIIIIII)I -/
abbrev k_written : ByteArray := prog_12_method_15_code
abbrev y_written : MethodName := ⟨cn_M, "written", "(IIIIIII)I"⟩
theorem q_written : Calee y_written k_written 9 (some .int) 7 := ⟨wd_1461, wd_90, by decide, by decide +kernel⟩
theorem d_written_0 : decode k_written 0 = .ok (.aload_n 0, 1) := by decide +kernel
theorem d_written_1 : decode k_written 1 = .ok (.getfield 96, 3) := by decide +kernel
theorem d_written_4 : decode k_written 4 = .ok (.iload_n 1, 1) := by decide +kernel
theorem d_written_5 : decode k_written 5 = .ok (.dup2, 1) := by decide +kernel
theorem d_written_6 : decode k_written 6 = .ok (.iaload, 1) := by decide +kernel
theorem d_written_7 : decode k_written 7 = .ok (.iconst 1, 1) := by decide +kernel
theorem d_written_8 : decode k_written 8 = .ok (.iadd, 1) := by decide +kernel
theorem d_written_9 : decode k_written 9 = .ok (.iastore, 1) := by decide +kernel
theorem d_written_10 : decode k_written 10 = .ok (.aload_n 0, 1) := by decide +kernel
theorem d_written_11 : decode k_written 11 = .ok (.iconst 1, 1) := by decide +kernel
theorem d_written_12 : decode k_written 12 = .ok (.iload_n 1, 1) := by decide +kernel
theorem d_written_13 : decode k_written 13 = .ok (.isub, 1) := by decide +kernel
theorem d_written_14 : decode k_written 14 = .ok (.bipush 20, 2) := by decide +kernel
theorem d_written_16 : decode k_written 16 = .ok (.iload 6, 2) := by decide +kernel
theorem d_written_18 : decode k_written 18 = .ok (.iadd, 1) := by decide +kernel
theorem d_written_19 : decode k_written 19 = .ok (.iload 7, 2) := by decide +kernel
theorem d_written_21 : decode k_written 21 = .ok (.iadd, 1) := by decide +kernel
theorem d_written_22 : decode k_written 22 = .ok (.invokevirtual 175, 3) := by decide +kernel
theorem d_written_25 : decode k_written 25 = .ok (.istore 8, 2) := by decide +kernel
theorem d_written_27 : decode k_written 27 = .ok (.iload 8, 2) := by decide +kernel
theorem d_written_29 : decode k_written 29 = .ok (.ifCond .ge 5, 3) := by decide +kernel
theorem d_written_32 : decode k_written 32 = .ok (.iconst (-1), 1) := by decide +kernel
theorem d_written_33 : decode k_written 33 = .ok (.ireturn, 1) := by decide +kernel
theorem d_written_34 : decode k_written 34 = .ok (.aload_n 0, 1) := by decide +kernel
theorem d_written_35 : decode k_written 35 = .ok (.iload 8, 2) := by decide +kernel
theorem d_written_37 : decode k_written 37 = .ok (.iconst 0, 1) := by decide +kernel
theorem d_written_38 : decode k_written 38 = .ok (.iconst 2, 1) := by decide +kernel
theorem d_written_39 : decode k_written 39 = .ok (.aload_n 0, 1) := by decide +kernel
theorem d_written_40 : decode k_written 40 = .ok (.iload_n 1, 1) := by decide +kernel
theorem d_written_41 : decode k_written 41 = .ok (.invokevirtual 178, 3) := by decide +kernel
theorem d_written_44 : decode k_written 44 = .ok (.invokevirtual 181, 3) := by decide +kernel
theorem d_written_47 : decode k_written 47 = .ok (.aload_n 0, 1) := by decide +kernel
theorem d_written_48 : decode k_written 48 = .ok (.iload 8, 2) := by decide +kernel
theorem d_written_50 : decode k_written 50 = .ok (.iconst 2, 1) := by decide +kernel
theorem d_written_51 : decode k_written 51 = .ok (.iconst 2, 1) := by decide +kernel
theorem d_written_52 : decode k_written 52 = .ok (.aload_n 0, 1) := by decide +kernel
theorem d_written_53 : decode k_written 53 = .ok (.iconst 1, 1) := by decide +kernel
theorem d_written_54 : decode k_written 54 = .ok (.iload_n 1, 1) := by decide +kernel
theorem d_written_55 : decode k_written 55 = .ok (.isub, 1) := by decide +kernel
theorem d_written_56 : decode k_written 56 = .ok (.invokevirtual 178, 3) := by decide +kernel
theorem d_written_59 : decode k_written 59 = .ok (.invokevirtual 181, 3) := by decide +kernel
theorem d_written_62 : decode k_written 62 = .ok (.aload_n 0, 1) := by decide +kernel
theorem d_written_63 : decode k_written 63 = .ok (.iload 8, 2) := by decide +kernel
theorem d_written_65 : decode k_written 65 = .ok (.iconst 4, 1) := by decide +kernel
theorem d_written_66 : decode k_written 66 = .ok (.iconst 4, 1) := by decide +kernel
theorem d_written_67 : decode k_written 67 = .ok (.iload_n 3, 1) := by decide +kernel
theorem d_written_68 : decode k_written 68 = .ok (.invokevirtual 181, 3) := by decide +kernel
theorem d_written_71 : decode k_written 71 = .ok (.aload_n 0, 1) := by decide +kernel
theorem d_written_72 : decode k_written 72 = .ok (.iload 8, 2) := by decide +kernel
theorem d_written_74 : decode k_written 74 = .ok (.bipush 8, 2) := by decide +kernel
theorem d_written_76 : decode k_written 76 = .ok (.iconst 4, 1) := by decide +kernel
theorem d_written_77 : decode k_written 77 = .ok (.iload 4, 2) := by decide +kernel
theorem d_written_79 : decode k_written 79 = .ok (.invokevirtual 181, 3) := by decide +kernel
theorem d_written_82 : decode k_written 82 = .ok (.aload_n 0, 1) := by decide +kernel
theorem d_written_83 : decode k_written 83 = .ok (.iload 8, 2) := by decide +kernel
theorem d_written_85 : decode k_written 85 = .ok (.bipush 12, 2) := by decide +kernel
theorem d_written_87 : decode k_written 87 = .ok (.iconst 1, 1) := by decide +kernel
theorem d_written_88 : decode k_written 88 = .ok (.bipush 20, 2) := by decide +kernel
theorem d_written_90 : decode k_written 90 = .ok (.iload 6, 2) := by decide +kernel
theorem d_written_92 : decode k_written 92 = .ok (.iadd, 1) := by decide +kernel
theorem d_written_93 : decode k_written 93 = .ok (.iconst 4, 1) := by decide +kernel
theorem d_written_94 : decode k_written 94 = .ok (.idiv, 1) := by decide +kernel
theorem d_written_95 : decode k_written 95 = .ok (.iconst 4, 1) := by decide +kernel
theorem d_written_96 : decode k_written 96 = .ok (.ishl, 1) := by decide +kernel
theorem d_written_97 : decode k_written 97 = .ok (.invokevirtual 181, 3) := by decide +kernel
theorem d_written_100 : decode k_written 100 = .ok (.aload_n 0, 1) := by decide +kernel
theorem d_written_101 : decode k_written 101 = .ok (.iload 8, 2) := by decide +kernel
theorem d_written_103 : decode k_written 103 = .ok (.bipush 13, 2) := by decide +kernel
theorem d_written_105 : decode k_written 105 = .ok (.iconst 1, 1) := by decide +kernel
theorem d_written_106 : decode k_written 106 = .ok (.iload_n 2, 1) := by decide +kernel
theorem d_written_107 : decode k_written 107 = .ok (.invokevirtual 181, 3) := by decide +kernel
theorem d_written_110 : decode k_written 110 = .ok (.aload_n 0, 1) := by decide +kernel
theorem d_written_111 : decode k_written 111 = .ok (.iload 8, 2) := by decide +kernel
theorem d_written_113 : decode k_written 113 = .ok (.bipush 14, 2) := by decide +kernel
theorem d_written_115 : decode k_written 115 = .ok (.iconst 2, 1) := by decide +kernel
theorem d_written_116 : decode k_written 116 = .ok (.iload 5, 2) := by decide +kernel
theorem d_written_118 : decode k_written 118 = .ok (.invokevirtual 181, 3) := by decide +kernel
theorem d_written_121 : decode k_written 121 = .ok (.aload_n 0, 1) := by decide +kernel
theorem d_written_122 : decode k_written 122 = .ok (.iload 8, 2) := by decide +kernel
theorem d_written_124 : decode k_written 124 = .ok (.bipush 16, 2) := by decide +kernel
theorem d_written_126 : decode k_written 126 = .ok (.iconst 4, 1) := by decide +kernel
theorem d_written_127 : decode k_written 127 = .ok (.iconst 0, 1) := by decide +kernel
theorem d_written_128 : decode k_written 128 = .ok (.invokevirtual 181, 3) := by decide +kernel
theorem d_written_131 : decode k_written 131 = .ok (.iload 8, 2) := by decide +kernel
theorem d_written_133 : decode k_written 133 = .ok (.ireturn, 1) := by decide +kernel
def m_written (v1 : Int32) (v2 : Int32) (v3 : Int32) (v4 : Int32) (v5 : Int32) (v6 : Int32) (v7 : Int32) (ρ : RS) : Option (Int32 × RS) :=
  gd (inb v1 2) <| bd (ρ.1 28 v1.toNatClampNeg) fun x1 => gd (inb v1 2) <| bd (si ρ 28 v1.toNatClampNeg (x1 + (1 : Int32))) fun r2 => bc2 (m_launched ((1 : Int32) - v1) (((20 : Int32) + v6) + v7) r2) fun x4 r3 => if 0 ≤ x4 then
  (bc2 (m_port v1 r3) fun x6 r5 => bc (m_put x4 (0 : Int32) (2 : Int32) x6 r5) fun r7 => bc2 (m_port ((1 : Int32) - v1) r7) fun x9 r8 => bc (m_put x4 (2 : Int32) (2 : Int32) x9 r8) fun r10 => bc (m_put x4 (4 : Int32) (4 : Int32) v3 r10) fun r11 => bc (m_put x4 (8 : Int32) (4 : Int32) v4 r11) fun r12 => gd (¬ (4 : Int32) = 0) <| bc (m_put x4 (12 : Int32) (1 : Int32) ((((20 : Int32) + v6) / (4 : Int32)) <<< ((4 : Int32) &&& 31)) r12) fun r13 => bc (m_put x4 (13 : Int32) (1 : Int32) v2 r13) fun r14 => bc (m_put x4 (14 : Int32) (2 : Int32) v5 r14) fun r15 => bc (m_put x4 (16 : Int32) (4 : Int32) (0 : Int32) r15) fun r16 => some (x4, r16))
 else
  (some ((-1 : Int32), r3))
section
variable {p : Program} {l : Launch} {e : Env} {s : State} {m : MethodId} {args : Array Value} {below : List Frame} {meth : Method} {c : Code} {D : va_G} {tc : Nat → ClassId} {o : Nat}
theorem t_written_0 (S : RC p m c k_written 9 s args cn_M meth (some .int) D tc) (v1 : Int32) (v2 : Int32) (v3 : Int32) (v4 : Int32) (v5 : Int32) (v6 : Int32) (v7 : Int32) (ρ : RS) {B : Int32 × RS} (h : m_written v1 v2 v3 v4 v5 v6 v7 ρ = some B) {ls : Array Slot} {H : Heap} {locs : List Loc} (hl : lv_has ls 9 [(0, .ref o), (1, .int v1), (2, .int v2), (3, .int v3), (4, .int v4), (5, .int v5), (6, .int v6), (7, .int v7)]) (hW : RWS D tc o s ρ H locs) : W p l e { frames := 2, cells := 0, slots := 0, locals := 44 } s m args below meth c H locs 0 0 (MQ below (RQ D tc o (some (.int B.1)) B.2) args s 0 0 (rreg o)) (F0 m 0 ls []) := by
  have hx := S.1.1
  have hb := S.1.2.1
  unfold m_written at h
  refine lv_aload_n hx hb d_written_0 rfl (lv_at hl 0 rfl) ?_
  refine rm_geta S hW 33 28 wd_1285 (by decide) d_written_1 ?_
  refine lv_iload_n hx hb d_written_4 rfl (lv_at hl 1 rfl) ?_
  refine lv_dup2_11 hx hb d_written_5 rfl rfl ?_
  refine rm_iald S hW 28 2 (by decide) d_written_6 h (fun x1 h => ?_)
  refine lv_iconst (v := 1) hx hb d_written_7 (by decide) ?_
  refine lv_iadd hx hb d_written_8 ?_
  refine rm_iast S hW 28 2 (by decide) d_written_9 h (fun r2 H locs h hW => ?_)
  refine lv_aload_n hx hb d_written_10 rfl (lv_at hl 0 rfl) ?_
  refine lv_iconst (v := 1) hx hb d_written_11 (by decide) ?_
  refine lv_iload_n hx hb d_written_12 rfl (lv_at hl 1 rfl) ?_
  refine lv_isub hx hb d_written_13 ?_
  refine lv_bipush (v := 20) hx hb d_written_14 (by decide) ?_
  refine lv_iload hx hb d_written_16 (lv_at hl 6 rfl) ?_
  refine lv_iadd hx hb d_written_18 ?_
  refine lv_iload hx hb d_written_19 (lv_at hl 7 rfl) ?_
  refine lv_iadd hx hb d_written_21 ?_
  refine rm_cVi [.int ((1 : Int32) - v1), .int (((20 : Int32) + v6) + v7)] S hW (fun x ρ' hc => c_launched ((1 : Int32) - v1) (((20 : Int32) + v6) + v7) r2 hc) q_launched wd_1464 wd_40 wd_1462 (by decide) hl.1 rfl rfl (Nat.le_of_ble_eq_true rfl) d_written_22 h (fun x4 r3 H locs h hW => ?_)
  refine lv_istore (lv' := [(8, .int x4), (0, .ref o), (1, .int v1), (2, .int v2), (3, .int v3), (4, .int v4), (5, .int v5), (6, .int v6), (7, .int v7)]) hx hb d_written_25 hl (by decide) rfl (fun ls hl => ?_)
  refine lv_iload hx hb d_written_27 (lv_at hl 0 rfl) ?_
  refine rb_ge (tgt := 34) hx hb d_written_29 (by decide) h (fun h => ?_) (fun h => ?_)
  · refine lv_aload_n hx hb d_written_34 rfl (lv_at hl 1 rfl) ?_
    refine lv_iload hx hb d_written_35 (lv_at hl 0 rfl) ?_
    refine lv_iconst (v := 0) hx hb d_written_37 (by decide) ?_
    refine lv_iconst (v := 2) hx hb d_written_38 (by decide) ?_
    refine lv_aload_n hx hb d_written_39 rfl (lv_at hl 1 rfl) ?_
    refine lv_iload_n hx hb d_written_40 rfl (lv_at hl 2 rfl) ?_
    refine rm_cVi [.int v1] S hW (fun x ρ' hc => c_port v1 r3 hc) q_port wd_1472 wd_42 wd_1470 (by decide) hl.1 rfl rfl (Nat.le_of_ble_eq_true rfl) d_written_41 h (fun x6 r5 H locs h hW => ?_)
    refine rm_cVv [.int x4, .int (0 : Int32), .int (2 : Int32), .int x6] S hW (fun ρ' hc => c_put x4 (0 : Int32) (2 : Int32) x6 r5 hc) q_put wd_1477 wd_43 wd_1475 (by decide) hl.1 rfl rfl (Nat.le_of_ble_eq_true rfl) d_written_44 h (fun r7 H locs h hW => ?_)
    refine lv_aload_n hx hb d_written_47 rfl (lv_at hl 1 rfl) ?_
    refine lv_iload hx hb d_written_48 (lv_at hl 0 rfl) ?_
    refine lv_iconst (v := 2) hx hb d_written_50 (by decide) ?_
    refine lv_iconst (v := 2) hx hb d_written_51 (by decide) ?_
    refine lv_aload_n hx hb d_written_52 rfl (lv_at hl 1 rfl) ?_
    refine lv_iconst (v := 1) hx hb d_written_53 (by decide) ?_
    refine lv_iload_n hx hb d_written_54 rfl (lv_at hl 2 rfl) ?_
    refine lv_isub hx hb d_written_55 ?_
    refine rm_cVi [.int ((1 : Int32) - v1)] S hW (fun x ρ' hc => c_port ((1 : Int32) - v1) r7 hc) q_port wd_1472 wd_42 wd_1470 (by decide) hl.1 rfl rfl (Nat.le_of_ble_eq_true rfl) d_written_56 h (fun x9 r8 H locs h hW => ?_)
    refine rm_cVv [.int x4, .int (2 : Int32), .int (2 : Int32), .int x9] S hW (fun ρ' hc => c_put x4 (2 : Int32) (2 : Int32) x9 r8 hc) q_put wd_1477 wd_43 wd_1475 (by decide) hl.1 rfl rfl (Nat.le_of_ble_eq_true rfl) d_written_59 h (fun r10 H locs h hW => ?_)
    refine lv_aload_n hx hb d_written_62 rfl (lv_at hl 1 rfl) ?_
    refine lv_iload hx hb d_written_63 (lv_at hl 0 rfl) ?_
    refine lv_iconst (v := 4) hx hb d_written_65 (by decide) ?_
    refine lv_iconst (v := 4) hx hb d_written_66 (by decide) ?_
    refine lv_iload_n hx hb d_written_67 rfl (lv_at hl 4 rfl) ?_
    refine rm_cVv [.int x4, .int (4 : Int32), .int (4 : Int32), .int v3] S hW (fun ρ' hc => c_put x4 (4 : Int32) (4 : Int32) v3 r10 hc) q_put wd_1477 wd_43 wd_1475 (by decide) hl.1 rfl rfl (Nat.le_of_ble_eq_true rfl) d_written_68 h (fun r11 H locs h hW => ?_)
    refine lv_aload_n hx hb d_written_71 rfl (lv_at hl 1 rfl) ?_
    refine lv_iload hx hb d_written_72 (lv_at hl 0 rfl) ?_
    refine lv_bipush (v := 8) hx hb d_written_74 (by decide) ?_
    refine lv_iconst (v := 4) hx hb d_written_76 (by decide) ?_
    refine lv_iload hx hb d_written_77 (lv_at hl 5 rfl) ?_
    refine rm_cVv [.int x4, .int (8 : Int32), .int (4 : Int32), .int v4] S hW (fun ρ' hc => c_put x4 (8 : Int32) (4 : Int32) v4 r11 hc) q_put wd_1477 wd_43 wd_1475 (by decide) hl.1 rfl rfl (Nat.le_of_ble_eq_true rfl) d_written_79 h (fun r12 H locs h hW => ?_)
    refine lv_aload_n hx hb d_written_82 rfl (lv_at hl 1 rfl) ?_
    refine lv_iload hx hb d_written_83 (lv_at hl 0 rfl) ?_
    refine lv_bipush (v := 12) hx hb d_written_85 (by decide) ?_
    refine lv_iconst (v := 1) hx hb d_written_87 (by decide) ?_
    refine lv_bipush (v := 20) hx hb d_written_88 (by decide) ?_
    refine lv_iload hx hb d_written_90 (lv_at hl 7 rfl) ?_
    refine lv_iadd hx hb d_written_92 ?_
    refine lv_iconst (v := 4) hx hb d_written_93 (by decide) ?_
    refine rv_idiv hx hb d_written_94 h (fun h => ?_)
    refine lv_iconst (v := 4) hx hb d_written_95 (by decide) ?_
    refine lv_ishl hx hb d_written_96 ?_
    refine rm_cVv [.int x4, .int (12 : Int32), .int (1 : Int32), .int ((((20 : Int32) + v6) / (4 : Int32)) <<< ((4 : Int32) &&& 31))] S hW (fun ρ' hc => c_put x4 (12 : Int32) (1 : Int32) ((((20 : Int32) + v6) / (4 : Int32)) <<< ((4 : Int32) &&& 31)) r12 hc) q_put wd_1477 wd_43 wd_1475 (by decide) hl.1 rfl rfl (Nat.le_of_ble_eq_true rfl) d_written_97 h (fun r13 H locs h hW => ?_)
    refine lv_aload_n hx hb d_written_100 rfl (lv_at hl 1 rfl) ?_
    refine lv_iload hx hb d_written_101 (lv_at hl 0 rfl) ?_
    refine lv_bipush (v := 13) hx hb d_written_103 (by decide) ?_
    refine lv_iconst (v := 1) hx hb d_written_105 (by decide) ?_
    refine lv_iload_n hx hb d_written_106 rfl (lv_at hl 3 rfl) ?_
    refine rm_cVv [.int x4, .int (13 : Int32), .int (1 : Int32), .int v2] S hW (fun ρ' hc => c_put x4 (13 : Int32) (1 : Int32) v2 r13 hc) q_put wd_1477 wd_43 wd_1475 (by decide) hl.1 rfl rfl (Nat.le_of_ble_eq_true rfl) d_written_107 h (fun r14 H locs h hW => ?_)
    refine lv_aload_n hx hb d_written_110 rfl (lv_at hl 1 rfl) ?_
    refine lv_iload hx hb d_written_111 (lv_at hl 0 rfl) ?_
    refine lv_bipush (v := 14) hx hb d_written_113 (by decide) ?_
    refine lv_iconst (v := 2) hx hb d_written_115 (by decide) ?_
    refine lv_iload hx hb d_written_116 (lv_at hl 6 rfl) ?_
    refine rm_cVv [.int x4, .int (14 : Int32), .int (2 : Int32), .int v5] S hW (fun ρ' hc => c_put x4 (14 : Int32) (2 : Int32) v5 r14 hc) q_put wd_1477 wd_43 wd_1475 (by decide) hl.1 rfl rfl (Nat.le_of_ble_eq_true rfl) d_written_118 h (fun r15 H locs h hW => ?_)
    refine lv_aload_n hx hb d_written_121 rfl (lv_at hl 1 rfl) ?_
    refine lv_iload hx hb d_written_122 (lv_at hl 0 rfl) ?_
    refine lv_bipush (v := 16) hx hb d_written_124 (by decide) ?_
    refine lv_iconst (v := 4) hx hb d_written_126 (by decide) ?_
    refine lv_iconst (v := 0) hx hb d_written_127 (by decide) ?_
    refine rm_cVv [.int x4, .int (16 : Int32), .int (4 : Int32), .int (0 : Int32)] S hW (fun ρ' hc => c_put x4 (16 : Int32) (4 : Int32) (0 : Int32) r15 hc) q_put wd_1477 wd_43 wd_1475 (by decide) hl.1 rfl rfl (Nat.le_of_ble_eq_true rfl) d_written_128 h (fun r16 H locs h hW => ?_)
    refine lv_iload hx hb d_written_131 (lv_at hl 0 rfl) ?_
    exact rm_iret S hW d_written_133 h
  · refine lv_iconst (v := -1) hx hb d_written_32 (by decide) ?_
    exact rm_iret S hW d_written_33 h
theorem c_written (v1 : Int32) (v2 : Int32) (v3 : Int32) (v4 : Int32) (v5 : Int32) (v6 : Int32) (v7 : Int32) (ρ : RS) {x : Int32} {ρ' : RS} (h : m_written v1 v2 v3 v4 v5 v6 v7 ρ = some (x, ρ')) : RMet l D tc o y_written k_written 9 (some .int) 2 44 [.ref o, .int v1, .int v2, .int v3, .int v4, .int v5, .int v6, .int v7] ρ (some (.int x)) ρ' := rm_met (by decide) (Nat.le_of_ble_eq_true rfl) fun p e s m args below meth c S hW ls hl => t_written_0 S v1 v2 v3 v4 v5 v6 v7 ρ h hl hW
end

/-! sealed (I)V -/
abbrev k_sealed : ByteArray := prog_12_method_16_code
abbrev y_sealed : MethodName := ⟨cn_M, "sealed", "(I)V"⟩
theorem q_sealed : Calee y_sealed k_sealed 2 none 1 := ⟨wd_1483, wd_90, by decide, by decide +kernel⟩
theorem d_sealed_0 : decode k_sealed 0 = .ok (.aload_n 0, 1) := by decide +kernel
theorem d_sealed_1 : decode k_sealed 1 = .ok (.iload_n 1, 1) := by decide +kernel
theorem d_sealed_2 : decode k_sealed 2 = .ok (.bipush 16, 2) := by decide +kernel
theorem d_sealed_4 : decode k_sealed 4 = .ok (.iconst 2, 1) := by decide +kernel
theorem d_sealed_5 : decode k_sealed 5 = .ok (.aload_n 0, 1) := by decide +kernel
theorem d_sealed_6 : decode k_sealed 6 = .ok (.iload_n 1, 1) := by decide +kernel
theorem d_sealed_7 : decode k_sealed 7 = .ok (.invokevirtual 167, 3) := by decide +kernel
theorem d_sealed_10 : decode k_sealed 10 = .ok (.invokevirtual 181, 3) := by decide +kernel
theorem d_sealed_13 : decode k_sealed 13 = .ok (.return_, 1) := by decide +kernel
def m_sealed (v1 : Int32) (ρ : RS) : Option (RS) :=
  bc2 (m_checksum v1 ρ) fun x2 r1 => bc (m_put v1 (16 : Int32) (2 : Int32) x2 r1) fun r3 => some r3
section
variable {p : Program} {l : Launch} {e : Env} {s : State} {m : MethodId} {args : Array Value} {below : List Frame} {meth : Method} {c : Code} {D : va_G} {tc : Nat → ClassId} {o : Nat}
theorem t_sealed_0 (S : RC p m c k_sealed 2 s args cn_M meth none D tc) (v1 : Int32) (ρ : RS) {B : RS} (h : m_sealed v1 ρ = some B) {ls : Array Slot} {H : Heap} {locs : List Loc} (hl : lv_has ls 2 [(0, .ref o), (1, .int v1)]) (hW : RWS D tc o s ρ H locs) : W p l e { frames := 2, cells := 0, slots := 0, locals := 47 } s m args below meth c H locs 0 0 (MQ below (RQ D tc o none B) args s 0 0 (rreg o)) (F0 m 0 ls []) := by
  have hx := S.1.1
  have hb := S.1.2.1
  unfold m_sealed at h
  refine lv_aload_n hx hb d_sealed_0 rfl (lv_at hl 0 rfl) ?_
  refine lv_iload_n hx hb d_sealed_1 rfl (lv_at hl 1 rfl) ?_
  refine lv_bipush (v := 16) hx hb d_sealed_2 (by decide) ?_
  refine lv_iconst (v := 2) hx hb d_sealed_4 (by decide) ?_
  refine lv_aload_n hx hb d_sealed_5 rfl (lv_at hl 0 rfl) ?_
  refine lv_iload_n hx hb d_sealed_6 rfl (lv_at hl 1 rfl) ?_
  refine rm_cVi [.int v1] S hW (fun x ρ' hc => c_checksum v1 ρ hc) q_checksum wd_1486 wd_45 wd_1484 (by decide) hl.1 rfl rfl (Nat.le_of_ble_eq_true rfl) d_sealed_7 h (fun x2 r1 H locs h hW => ?_)
  refine rm_cVv [.int v1, .int (16 : Int32), .int (2 : Int32), .int x2] S hW (fun ρ' hc => c_put v1 (16 : Int32) (2 : Int32) x2 r1 hc) q_put wd_1477 wd_43 wd_1475 (by decide) hl.1 rfl rfl (Nat.le_of_ble_eq_true rfl) d_sealed_10 h (fun r3 H locs h hW => ?_)
  exact rm_vret S hW d_sealed_13 h
theorem c_sealed (v1 : Int32) (ρ : RS) {B : RS} (h : m_sealed v1 ρ = some B) : RMet l D tc o y_sealed k_sealed 2 none 2 47 [.ref o, .int v1] ρ none B := rm_met (by decide) (Nat.le_of_ble_eq_true rfl) fun p e s m args below meth c S hW ls hl => t_sealed_0 S v1 ρ h hl hW
end

/-! freeRoom (I)I -/
abbrev k_freeRoom : ByteArray := prog_12_method_17_code
abbrev y_freeRoom : MethodName := ⟨cn_M, "freeRoom", "(I)I"⟩
theorem q_freeRoom : Calee y_freeRoom k_freeRoom 2 (some .int) 1 := ⟨wd_1454, wd_90, by decide, by decide +kernel⟩
theorem d_freeRoom_0 : decode k_freeRoom 0 = .ok (.aload_n 0, 1) := by decide +kernel
theorem d_freeRoom_1 : decode k_freeRoom 1 = .ok (.getfield 33, 3) := by decide +kernel
theorem d_freeRoom_4 : decode k_freeRoom 4 = .ok (.iload_n 1, 1) := by decide +kernel
theorem d_freeRoom_5 : decode k_freeRoom 5 = .ok (.iaload, 1) := by decide +kernel
theorem d_freeRoom_6 : decode k_freeRoom 6 = .ok (.aload_n 0, 1) := by decide +kernel
theorem d_freeRoom_7 : decode k_freeRoom 7 = .ok (.getfield 105, 3) := by decide +kernel
theorem d_freeRoom_10 : decode k_freeRoom 10 = .ok (.iload_n 1, 1) := by decide +kernel
theorem d_freeRoom_11 : decode k_freeRoom 11 = .ok (.iaload, 1) := by decide +kernel
theorem d_freeRoom_12 : decode k_freeRoom 12 = .ok (.if_icmp .le 19, 3) := by decide +kernel
theorem d_freeRoom_15 : decode k_freeRoom 15 = .ok (.aload_n 0, 1) := by decide +kernel
theorem d_freeRoom_16 : decode k_freeRoom 16 = .ok (.getfield 33, 3) := by decide +kernel
theorem d_freeRoom_19 : decode k_freeRoom 19 = .ok (.iload_n 1, 1) := by decide +kernel
theorem d_freeRoom_20 : decode k_freeRoom 20 = .ok (.iaload, 1) := by decide +kernel
theorem d_freeRoom_21 : decode k_freeRoom 21 = .ok (.aload_n 0, 1) := by decide +kernel
theorem d_freeRoom_22 : decode k_freeRoom 22 = .ok (.getfield 105, 3) := by decide +kernel
theorem d_freeRoom_25 : decode k_freeRoom 25 = .ok (.iload_n 1, 1) := by decide +kernel
theorem d_freeRoom_26 : decode k_freeRoom 26 = .ok (.iaload, 1) := by decide +kernel
theorem d_freeRoom_27 : decode k_freeRoom 27 = .ok (.isub, 1) := by decide +kernel
theorem d_freeRoom_28 : decode k_freeRoom 28 = .ok (.goto 4, 3) := by decide +kernel
theorem d_freeRoom_31 : decode k_freeRoom 31 = .ok (.iconst 0, 1) := by decide +kernel
theorem d_freeRoom_32 : decode k_freeRoom 32 = .ok (.ireturn, 1) := by decide +kernel
def b_freeRoom_32 (w0 : Int32) (ρ : RS) : Option (Int32 × RS) :=
  some (w0, ρ)
def m_freeRoom (v1 : Int32) (ρ : RS) : Option (Int32 × RS) :=
  gd (inb v1 2) <| bd (ρ.1 7 v1.toNatClampNeg) fun x1 => gd (inb v1 2) <| bd (ρ.1 31 v1.toNatClampNeg) fun x2 => if x1 ≤ x2 then
  (b_freeRoom_32 (0 : Int32) ρ)
 else
  (gd (inb v1 2) <| bd (ρ.1 7 v1.toNatClampNeg) fun x3 => gd (inb v1 2) <| bd (ρ.1 31 v1.toNatClampNeg) fun x4 => b_freeRoom_32 (x3 - x4) ρ)
section
variable {p : Program} {l : Launch} {e : Env} {s : State} {m : MethodId} {args : Array Value} {below : List Frame} {meth : Method} {c : Code} {D : va_G} {tc : Nat → ClassId} {o : Nat}
theorem t_freeRoom_32 (S : RC p m c k_freeRoom 2 s args cn_M meth (some .int) D tc) (w0 : Int32) (ρ : RS) {B : Int32 × RS} (h : b_freeRoom_32 w0 ρ = some B) {ls : Array Slot} {H : Heap} {locs : List Loc} (hl : lv_has ls 2 []) (hW : RWS D tc o s ρ H locs) : W p l e { frames := 0, cells := 0, slots := 0, locals := 0 } s m args below meth c H locs 0 0 (MQ below (RQ D tc o (some (.int B.1)) B.2) args s 0 0 (rreg o)) (F0 m 32 ls [.int w0]) := by
  have hx := S.1.1
  have hb := S.1.2.1
  unfold b_freeRoom_32 at h
  exact rm_iret S hW d_freeRoom_32 h
theorem t_freeRoom_0 (S : RC p m c k_freeRoom 2 s args cn_M meth (some .int) D tc) (v1 : Int32) (ρ : RS) {B : Int32 × RS} (h : m_freeRoom v1 ρ = some B) {ls : Array Slot} {H : Heap} {locs : List Loc} (hl : lv_has ls 2 [(0, .ref o), (1, .int v1)]) (hW : RWS D tc o s ρ H locs) : W p l e { frames := 0, cells := 0, slots := 0, locals := 0 } s m args below meth c H locs 0 0 (MQ below (RQ D tc o (some (.int B.1)) B.2) args s 0 0 (rreg o)) (F0 m 0 ls []) := by
  have hx := S.1.1
  have hb := S.1.2.1
  unfold m_freeRoom at h
  refine lv_aload_n hx hb d_freeRoom_0 rfl (lv_at hl 0 rfl) ?_
  refine rm_geta S hW 12 7 wd_1264 (by decide) d_freeRoom_1 ?_
  refine lv_iload_n hx hb d_freeRoom_4 rfl (lv_at hl 1 rfl) ?_
  refine rm_iald S hW 7 2 (by decide) d_freeRoom_5 h (fun x1 h => ?_)
  refine lv_aload_n hx hb d_freeRoom_6 rfl (lv_at hl 0 rfl) ?_
  refine rm_geta S hW 36 31 wd_1288 (by decide) d_freeRoom_7 ?_
  refine lv_iload_n hx hb d_freeRoom_10 rfl (lv_at hl 1 rfl) ?_
  refine rm_iald S hW 31 2 (by decide) d_freeRoom_11 h (fun x2 h => ?_)
  refine rc_le (tgt := 31) hx hb d_freeRoom_12 (by decide) h (fun h => ?_) (fun h => ?_)
  · refine lv_iconst (v := 0) hx hb d_freeRoom_31 (by decide) ?_
    exact t_freeRoom_32 S (0 : Int32) ρ h (lv_sub hl [] rfl) hW
  · refine lv_aload_n hx hb d_freeRoom_15 rfl (lv_at hl 0 rfl) ?_
    refine rm_geta S hW 12 7 wd_1264 (by decide) d_freeRoom_16 ?_
    refine lv_iload_n hx hb d_freeRoom_19 rfl (lv_at hl 1 rfl) ?_
    refine rm_iald S hW 7 2 (by decide) d_freeRoom_20 h (fun x3 h => ?_)
    refine lv_aload_n hx hb d_freeRoom_21 rfl (lv_at hl 0 rfl) ?_
    refine rm_geta S hW 36 31 wd_1288 (by decide) d_freeRoom_22 ?_
    refine lv_iload_n hx hb d_freeRoom_25 rfl (lv_at hl 1 rfl) ?_
    refine rm_iald S hW 31 2 (by decide) d_freeRoom_26 h (fun x4 h => ?_)
    refine lv_isub hx hb d_freeRoom_27 ?_
    refine lv_goto (tgt := 32) hx hb d_freeRoom_28 (by decide) ?_
    exact t_freeRoom_32 S (x3 - x4) ρ h (lv_sub hl [] rfl) hW
theorem c_freeRoom (v1 : Int32) (ρ : RS) {x : Int32} {ρ' : RS} (h : m_freeRoom v1 ρ = some (x, ρ')) : RMet l D tc o y_freeRoom k_freeRoom 2 (some .int) 0 0 [.ref o, .int v1] ρ (some (.int x)) ρ' := rm_met (by decide) (Nat.le_of_ble_eq_true rfl) fun p e s m args below meth c S hW ls hl => t_freeRoom_0 S v1 ρ h hl hW
end

/-! send (IIIII)V -/
abbrev k_send : ByteArray := prog_12_method_18_code
abbrev y_send : MethodName := ⟨cn_M, "send", "(IIIII)V"⟩
theorem q_send : Calee y_send k_send 12 none 5 := ⟨wd_1450, wd_90, by decide, by decide +kernel⟩
theorem d_send_0 : decode k_send 0 = .ok (.iload_n 2, 1) := by decide +kernel
theorem d_send_1 : decode k_send 1 = .ok (.iconst 2, 1) := by decide +kernel
theorem d_send_2 : decode k_send 2 = .ok (.iand, 1) := by decide +kernel
theorem d_send_3 : decode k_send 3 = .ok (.ifCond .eq 17, 3) := by decide +kernel
theorem d_send_6 : decode k_send 6 = .ok (.aload_n 0, 1) := by decide +kernel
theorem d_send_7 : decode k_send 7 = .ok (.getfield 39, 3) := by decide +kernel
theorem d_send_10 : decode k_send 10 = .ok (.iload_n 1, 1) := by decide +kernel
theorem d_send_11 : decode k_send 11 = .ok (.iaload, 1) := by decide +kernel
theorem d_send_12 : decode k_send 12 = .ok (.iconst 2, 1) := by decide +kernel
theorem d_send_13 : decode k_send 13 = .ok (.if_icmp .ne 7, 3) := by decide +kernel
theorem d_send_16 : decode k_send 16 = .ok (.iconst 1, 1) := by decide +kernel
theorem d_send_17 : decode k_send 17 = .ok (.goto 4, 3) := by decide +kernel
theorem d_send_20 : decode k_send 20 = .ok (.iconst 0, 1) := by decide +kernel
theorem d_send_21 : decode k_send 21 = .ok (.istore 6, 2) := by decide +kernel
theorem d_send_23 : decode k_send 23 = .ok (.iload 6, 2) := by decide +kernel
theorem d_send_25 : decode k_send 25 = .ok (.ifCond .eq 7, 3) := by decide +kernel
theorem d_send_28 : decode k_send 28 = .ok (.iload_n 2, 1) := by decide +kernel
theorem d_send_29 : decode k_send 29 = .ok (.goto 7, 3) := by decide +kernel
theorem d_send_32 : decode k_send 32 = .ok (.iload_n 2, 1) := by decide +kernel
theorem d_send_33 : decode k_send 33 = .ok (.bipush 16, 2) := by decide +kernel
theorem d_send_35 : decode k_send 35 = .ok (.ior, 1) := by decide +kernel
theorem d_send_36 : decode k_send 36 = .ok (.istore 7, 2) := by decide +kernel
theorem d_send_38 : decode k_send 38 = .ok (.iload 5, 2) := by decide +kernel
theorem d_send_40 : decode k_send 40 = .ok (.ifCond .le 24, 3) := by decide +kernel
theorem d_send_43 : decode k_send 43 = .ok (.iload 4, 2) := by decide +kernel
theorem d_send_45 : decode k_send 45 = .ok (.iload 5, 2) := by decide +kernel
theorem d_send_47 : decode k_send 47 = .ok (.iadd, 1) := by decide +kernel
theorem d_send_48 : decode k_send 48 = .ok (.aload_n 0, 1) := by decide +kernel
theorem d_send_49 : decode k_send 49 = .ok (.getfield 108, 3) := by decide +kernel
theorem d_send_52 : decode k_send 52 = .ok (.iload_n 1, 1) := by decide +kernel
theorem d_send_53 : decode k_send 53 = .ok (.iaload, 1) := by decide +kernel
theorem d_send_54 : decode k_send 54 = .ok (.if_icmp .ne 10, 3) := by decide +kernel
theorem d_send_57 : decode k_send 57 = .ok (.iload 7, 2) := by decide +kernel
theorem d_send_59 : decode k_send 59 = .ok (.bipush 8, 2) := by decide +kernel
theorem d_send_61 : decode k_send 61 = .ok (.ior, 1) := by decide +kernel
theorem d_send_62 : decode k_send 62 = .ok (.istore 7, 2) := by decide +kernel
theorem d_send_64 : decode k_send 64 = .ok (.aload_n 0, 1) := by decide +kernel
theorem d_send_65 : decode k_send 65 = .ok (.getfield 66, 3) := by decide +kernel
theorem d_send_68 : decode k_send 68 = .ok (.iload_n 1, 1) := by decide +kernel
theorem d_send_69 : decode k_send 69 = .ok (.iaload, 1) := by decide +kernel
theorem d_send_70 : decode k_send 70 = .ok (.aload_n 0, 1) := by decide +kernel
theorem d_send_71 : decode k_send 71 = .ok (.iload_n 1, 1) := by decide +kernel
theorem d_send_72 : decode k_send 72 = .ok (.invokevirtual 185, 3) := by decide +kernel
theorem d_send_75 : decode k_send 75 = .ok (.iadd, 1) := by decide +kernel
theorem d_send_76 : decode k_send 76 = .ok (.istore 8, 2) := by decide +kernel
theorem d_send_78 : decode k_send 78 = .ok (.iload 8, 2) := by decide +kernel
theorem d_send_80 : decode k_send 80 = .ok (.aload_n 0, 1) := by decide +kernel
theorem d_send_81 : decode k_send 81 = .ok (.getfield 69, 3) := by decide +kernel
theorem d_send_84 : decode k_send 84 = .ok (.iload_n 1, 1) := by decide +kernel
theorem d_send_85 : decode k_send 85 = .ok (.iaload, 1) := by decide +kernel
theorem d_send_86 : decode k_send 86 = .ok (.invokestatic 188, 3) := by decide +kernel
theorem d_send_89 : decode k_send 89 = .ok (.ifCond .eq 11, 3) := by decide +kernel
theorem d_send_92 : decode k_send 92 = .ok (.aload_n 0, 1) := by decide +kernel
theorem d_send_93 : decode k_send 93 = .ok (.getfield 69, 3) := by decide +kernel
theorem d_send_96 : decode k_send 96 = .ok (.iload_n 1, 1) := by decide +kernel
theorem d_send_97 : decode k_send 97 = .ok (.iload 8, 2) := by decide +kernel
theorem d_send_99 : decode k_send 99 = .ok (.iastore, 1) := by decide +kernel
theorem d_send_100 : decode k_send 100 = .ok (.iload_n 2, 1) := by decide +kernel
theorem d_send_101 : decode k_send 101 = .ok (.iconst 2, 1) := by decide +kernel
theorem d_send_102 : decode k_send 102 = .ok (.iand, 1) := by decide +kernel
theorem d_send_103 : decode k_send 103 = .ok (.ifCond .eq 7, 3) := by decide +kernel
theorem d_send_106 : decode k_send 106 = .ok (.iconst 4, 1) := by decide +kernel
theorem d_send_107 : decode k_send 107 = .ok (.goto 4, 3) := by decide +kernel
theorem d_send_110 : decode k_send 110 = .ok (.iconst 0, 1) := by decide +kernel
theorem d_send_111 : decode k_send 111 = .ok (.istore 9, 2) := by decide +kernel
theorem d_send_113 : decode k_send 113 = .ok (.aload_n 0, 1) := by decide +kernel
theorem d_send_114 : decode k_send 114 = .ok (.iload_n 1, 1) := by decide +kernel
theorem d_send_115 : decode k_send 115 = .ok (.iload 7, 2) := by decide +kernel
theorem d_send_117 : decode k_send 117 = .ok (.iload_n 3, 1) := by decide +kernel
theorem d_send_118 : decode k_send 118 = .ok (.iload 6, 2) := by decide +kernel
theorem d_send_120 : decode k_send 120 = .ok (.ifCond .eq 7, 3) := by decide +kernel
theorem d_send_123 : decode k_send 123 = .ok (.iconst 0, 1) := by decide +kernel
theorem d_send_124 : decode k_send 124 = .ok (.goto 9, 3) := by decide +kernel
theorem d_send_127 : decode k_send 127 = .ok (.aload_n 0, 1) := by decide +kernel
theorem d_send_128 : decode k_send 128 = .ok (.getfield 66, 3) := by decide +kernel
theorem d_send_131 : decode k_send 131 = .ok (.iload_n 1, 1) := by decide +kernel
theorem d_send_132 : decode k_send 132 = .ok (.iaload, 1) := by decide +kernel
theorem d_send_133 : decode k_send 133 = .ok (.aload_n 0, 1) := by decide +kernel
theorem d_send_134 : decode k_send 134 = .ok (.getfield 69, 3) := by decide +kernel
theorem d_send_137 : decode k_send 137 = .ok (.iload_n 1, 1) := by decide +kernel
theorem d_send_138 : decode k_send 138 = .ok (.iaload, 1) := by decide +kernel
theorem d_send_139 : decode k_send 139 = .ok (.aload_n 0, 1) := by decide +kernel
theorem d_send_140 : decode k_send 140 = .ok (.getfield 66, 3) := by decide +kernel
theorem d_send_143 : decode k_send 143 = .ok (.iload_n 1, 1) := by decide +kernel
theorem d_send_144 : decode k_send 144 = .ok (.iaload, 1) := by decide +kernel
theorem d_send_145 : decode k_send 145 = .ok (.isub, 1) := by decide +kernel
theorem d_send_146 : decode k_send 146 = .ok (.iload 9, 2) := by decide +kernel
theorem d_send_148 : decode k_send 148 = .ok (.iload 5, 2) := by decide +kernel
theorem d_send_150 : decode k_send 150 = .ok (.invokevirtual 192, 3) := by decide +kernel
theorem d_send_153 : decode k_send 153 = .ok (.istore 10, 2) := by decide +kernel
theorem d_send_155 : decode k_send 155 = .ok (.iload 10, 2) := by decide +kernel
theorem d_send_157 : decode k_send 157 = .ok (.ifCond .lt 89, 3) := by decide +kernel
theorem d_send_160 : decode k_send 160 = .ok (.iload 9, 2) := by decide +kernel
theorem d_send_162 : decode k_send 162 = .ok (.ifCond .le 30, 3) := by decide +kernel
theorem d_send_165 : decode k_send 165 = .ok (.aload_n 0, 1) := by decide +kernel
theorem d_send_166 : decode k_send 166 = .ok (.iload 10, 2) := by decide +kernel
theorem d_send_168 : decode k_send 168 = .ok (.bipush 20, 2) := by decide +kernel
theorem d_send_170 : decode k_send 170 = .ok (.iconst 2, 1) := by decide +kernel
theorem d_send_171 : decode k_send 171 = .ok (.sipush 516, 3) := by decide +kernel
theorem d_send_174 : decode k_send 174 = .ok (.invokevirtual 181, 3) := by decide +kernel
theorem d_send_177 : decode k_send 177 = .ok (.aload_n 0, 1) := by decide +kernel
theorem d_send_178 : decode k_send 178 = .ok (.iload 10, 2) := by decide +kernel
theorem d_send_180 : decode k_send 180 = .ok (.bipush 22, 2) := by decide +kernel
theorem d_send_182 : decode k_send 182 = .ok (.iconst 2, 1) := by decide +kernel
theorem d_send_183 : decode k_send 183 = .ok (.aload_n 0, 1) := by decide +kernel
theorem d_send_184 : decode k_send 184 = .ok (.getfield 36, 3) := by decide +kernel
theorem d_send_187 : decode k_send 187 = .ok (.iload_n 1, 1) := by decide +kernel
theorem d_send_188 : decode k_send 188 = .ok (.iaload, 1) := by decide +kernel
theorem d_send_189 : decode k_send 189 = .ok (.invokevirtual 181, 3) := by decide +kernel
theorem d_send_192 : decode k_send 192 = .ok (.iconst 0, 1) := by decide +kernel
theorem d_send_193 : decode k_send 193 = .ok (.istore 11, 2) := by decide +kernel
theorem d_send_195 : decode k_send 195 = .ok (.iload 11, 2) := by decide +kernel
theorem d_send_197 : decode k_send 197 = .ok (.iload 5, 2) := by decide +kernel
theorem d_send_199 : decode k_send 199 = .ok (.if_icmp .ge 41, 3) := by decide +kernel
theorem d_send_202 : decode k_send 202 = .ok (.aload_n 0, 1) := by decide +kernel
theorem d_send_203 : decode k_send 203 = .ok (.getfield 15, 3) := by decide +kernel
theorem d_send_206 : decode k_send 206 = .ok (.sipush 1484, 3) := by decide +kernel
theorem d_send_209 : decode k_send 209 = .ok (.iload 10, 2) := by decide +kernel
theorem d_send_211 : decode k_send 211 = .ok (.imul, 1) := by decide +kernel
theorem d_send_212 : decode k_send 212 = .ok (.bipush 20, 2) := by decide +kernel
theorem d_send_214 : decode k_send 214 = .ok (.iadd, 1) := by decide +kernel
theorem d_send_215 : decode k_send 215 = .ok (.iload 11, 2) := by decide +kernel
theorem d_send_217 : decode k_send 217 = .ok (.iadd, 1) := by decide +kernel
theorem d_send_218 : decode k_send 218 = .ok (.aload_n 0, 1) := by decide +kernel
theorem d_send_219 : decode k_send 219 = .ok (.getfield 130, 3) := by decide +kernel
theorem d_send_222 : decode k_send 222 = .ok (.ldc 196, 2) := by decide +kernel
theorem d_send_224 : decode k_send 224 = .ok (.iload_n 1, 1) := by decide +kernel
theorem d_send_225 : decode k_send 225 = .ok (.imul, 1) := by decide +kernel
theorem d_send_226 : decode k_send 226 = .ok (.iload 4, 2) := by decide +kernel
theorem d_send_228 : decode k_send 228 = .ok (.iadd, 1) := by decide +kernel
theorem d_send_229 : decode k_send 229 = .ok (.iload 11, 2) := by decide +kernel
theorem d_send_231 : decode k_send 231 = .ok (.iadd, 1) := by decide +kernel
theorem d_send_232 : decode k_send 232 = .ok (.baload, 1) := by decide +kernel
theorem d_send_233 : decode k_send 233 = .ok (.bastore, 1) := by decide +kernel
theorem d_send_234 : decode k_send 234 = .ok (.iinc 11 1, 3) := by decide +kernel
theorem d_send_237 : decode k_send 237 = .ok (.goto (-42), 3) := by decide +kernel
theorem d_send_240 : decode k_send 240 = .ok (.aload_n 0, 1) := by decide +kernel
theorem d_send_241 : decode k_send 241 = .ok (.iload 10, 2) := by decide +kernel
theorem d_send_243 : decode k_send 243 = .ok (.invokevirtual 197, 3) := by decide +kernel
theorem d_send_246 : decode k_send 246 = .ok (.iload_n 3, 1) := by decide +kernel
theorem d_send_247 : decode k_send 247 = .ok (.iload 5, 2) := by decide +kernel
theorem d_send_249 : decode k_send 249 = .ok (.iadd, 1) := by decide +kernel
theorem d_send_250 : decode k_send 250 = .ok (.iload_n 2, 1) := by decide +kernel
theorem d_send_251 : decode k_send 251 = .ok (.iconst 3, 1) := by decide +kernel
theorem d_send_252 : decode k_send 252 = .ok (.iand, 1) := by decide +kernel
theorem d_send_253 : decode k_send 253 = .ok (.ifCond .eq 7, 3) := by decide +kernel
theorem d_send_256 : decode k_send 256 = .ok (.iconst 1, 1) := by decide +kernel
theorem d_send_257 : decode k_send 257 = .ok (.goto 4, 3) := by decide +kernel
theorem d_send_260 : decode k_send 260 = .ok (.iconst 0, 1) := by decide +kernel
theorem d_send_261 : decode k_send 261 = .ok (.iadd, 1) := by decide +kernel
theorem d_send_262 : decode k_send 262 = .ok (.istore 11, 2) := by decide +kernel
theorem d_send_264 : decode k_send 264 = .ok (.iload 11, 2) := by decide +kernel
theorem d_send_266 : decode k_send 266 = .ok (.iload_n 3, 1) := by decide +kernel
theorem d_send_267 : decode k_send 267 = .ok (.if_icmp .ne 4, 3) := by decide +kernel
theorem d_send_270 : decode k_send 270 = .ok (.return_, 1) := by decide +kernel
theorem d_send_271 : decode k_send 271 = .ok (.iload_n 3, 1) := by decide +kernel
theorem d_send_272 : decode k_send 272 = .ok (.aload_n 0, 1) := by decide +kernel
theorem d_send_273 : decode k_send 273 = .ok (.getfield 51, 3) := by decide +kernel
theorem d_send_276 : decode k_send 276 = .ok (.iload_n 1, 1) := by decide +kernel
theorem d_send_277 : decode k_send 277 = .ok (.iaload, 1) := by decide +kernel
theorem d_send_278 : decode k_send 278 = .ok (.if_icmp .ne 37, 3) := by decide +kernel
theorem d_send_281 : decode k_send 281 = .ok (.aload_n 0, 1) := by decide +kernel
theorem d_send_282 : decode k_send 282 = .ok (.getfield 120, 3) := by decide +kernel
theorem d_send_285 : decode k_send 285 = .ok (.iload_n 1, 1) := by decide +kernel
theorem d_send_286 : decode k_send 286 = .ok (.baload, 1) := by decide +kernel
theorem d_send_287 : decode k_send 287 = .ok (.ifCond .ne 28, 3) := by decide +kernel
theorem d_send_290 : decode k_send 290 = .ok (.aload_n 0, 1) := by decide +kernel
theorem d_send_291 : decode k_send 291 = .ok (.getfield 120, 3) := by decide +kernel
theorem d_send_294 : decode k_send 294 = .ok (.iload_n 1, 1) := by decide +kernel
theorem d_send_295 : decode k_send 295 = .ok (.iconst 1, 1) := by decide +kernel
theorem d_send_296 : decode k_send 296 = .ok (.bastore, 1) := by decide +kernel
theorem d_send_297 : decode k_send 297 = .ok (.aload_n 0, 1) := by decide +kernel
theorem d_send_298 : decode k_send 298 = .ok (.getfield 93, 3) := by decide +kernel
theorem d_send_301 : decode k_send 301 = .ok (.iload_n 1, 1) := by decide +kernel
theorem d_send_302 : decode k_send 302 = .ok (.iload 11, 2) := by decide +kernel
theorem d_send_304 : decode k_send 304 = .ok (.iastore, 1) := by decide +kernel
theorem d_send_305 : decode k_send 305 = .ok (.aload_n 0, 1) := by decide +kernel
theorem d_send_306 : decode k_send 306 = .ok (.getfield 117, 3) := by decide +kernel
theorem d_send_309 : decode k_send 309 = .ok (.iload_n 1, 1) := by decide +kernel
theorem d_send_310 : decode k_send 310 = .ok (.aload_n 0, 1) := by decide +kernel
theorem d_send_311 : decode k_send 311 = .ok (.getfield 201, 3) := by decide +kernel
theorem d_send_314 : decode k_send 314 = .ok (.lastore, 1) := by decide +kernel
theorem d_send_315 : decode k_send 315 = .ok (.iload 11, 2) := by decide +kernel
theorem d_send_317 : decode k_send 317 = .ok (.aload_n 0, 1) := by decide +kernel
theorem d_send_318 : decode k_send 318 = .ok (.getfield 51, 3) := by decide +kernel
theorem d_send_321 : decode k_send 321 = .ok (.iload_n 1, 1) := by decide +kernel
theorem d_send_322 : decode k_send 322 = .ok (.iaload, 1) := by decide +kernel
theorem d_send_323 : decode k_send 323 = .ok (.invokestatic 188, 3) := by decide +kernel
theorem d_send_326 : decode k_send 326 = .ok (.ifCond .eq 11, 3) := by decide +kernel
theorem d_send_329 : decode k_send 329 = .ok (.aload_n 0, 1) := by decide +kernel
theorem d_send_330 : decode k_send 330 = .ok (.getfield 51, 3) := by decide +kernel
theorem d_send_333 : decode k_send 333 = .ok (.iload_n 1, 1) := by decide +kernel
theorem d_send_334 : decode k_send 334 = .ok (.iload 11, 2) := by decide +kernel
theorem d_send_336 : decode k_send 336 = .ok (.iastore, 1) := by decide +kernel
theorem d_send_337 : decode k_send 337 = .ok (.return_, 1) := by decide +kernel
def b_send_337 (ρ : RS) : Option (RS) :=
  some ρ
def b_send_315 (v1 : Int32) (v11 : Int32) (ρ : RS) : Option (RS) :=
  gd (inb v1 2) <| bd (ρ.1 13 v1.toNatClampNeg) fun x1 => bc2 (m_above v11 x1 ρ) fun x3 r2 => if x3 = 0 then
  (b_send_337  r2)
 else
  (gd (inb v1 2) <| bd (si r2 13 v1.toNatClampNeg v11) fun r4 => b_send_337  r4)
def b_send_261 (v1 : Int32) (v3 : Int32) (w0 : Int32) (w1 : Int32) (ρ : RS) : Option (RS) :=
  bd (w0 + w1) fun x1 => if x1 = v3 then
  (some ρ)
 else
  (gd (inb v1 2) <| bd (ρ.1 13 v1.toNatClampNeg) fun x2 => if v3 = x2 then
  (gd (inb v1 2) <| bd (ρ.1 35 v1.toNatClampNeg) fun x3 => if x3 = 0 then
  (gd (inb v1 2) <| bd (si ρ 35 v1.toNatClampNeg (vp_nar .boolean (1 : Int32))) fun r4 => gd (inb v1 2) <| bd (si r4 27 v1.toNatClampNeg x1) fun r5 => bd (r5.2 0 3) fun x6 => gd (inb v1 2) <| bd (sl r5 34 v1.toNatClampNeg x6) fun r7 => b_send_315 v1 x1 r7)
 else
  (b_send_315 v1 x1 ρ))
 else
  (b_send_315 v1 x1 ρ))
def b_send_246 (v1 : Int32) (v2 : Int32) (v3 : Int32) (v5 : Int32) (ρ : RS) : Option (RS) :=
  if (v2 &&& (3 : Int32)) = 0 then
  (b_send_261 v1 v3 (v3 + v5) (0 : Int32) ρ)
 else
  (b_send_261 v1 v3 (v3 + v5) (1 : Int32) ρ)
def F_send_195 (rec195 : Int32 → Int32 → Int32 → Int32 → Int32 → Int32 → Int32 → RS → Option (RS)) (v1 : Int32) (v2 : Int32) (v3 : Int32) (v4 : Int32) (v5 : Int32) (v10 : Int32) (v11 : Int32) (ρ : RS) : Option (RS) :=
  if v5 ≤ v11 then
  (bc (m_sealed v10 ρ) fun r1 => b_send_246 v1 v2 v3 v5 r1)
 else
  (gd (inb ((((81920 : Int32) * v1) + v4) + v11) 163840) <| bd (ρ.1 38 ((((81920 : Int32) * v1) + v4) + v11).toNatClampNeg) fun x2 => gd (inb ((((1484 : Int32) * v10) + (20 : Int32)) + v11) 761292) <| bd (si ρ 2 ((((1484 : Int32) * v10) + (20 : Int32)) + v11).toNatClampNeg (vp_nar .byte x2)) fun r3 => bd (v11 + (1 : Int32)) fun x4 => rec195 v1 v2 v3 v4 v5 v10 x4 r3)
def b_send_192 (v1 : Int32) (v2 : Int32) (v3 : Int32) (v4 : Int32) (v5 : Int32) (v10 : Int32) (ρ : RS) : Option (RS) :=
  lq8 (F_send_195) fuel v1 v2 v3 v4 v5 v10 (0 : Int32) ρ
def b_send_133 (v1 : Int32) (v2 : Int32) (v3 : Int32) (v4 : Int32) (v5 : Int32) (v9 : Int32) (w1 : Int32) (w2 : Int32) (w3 : Int32) (w4 : Int32) (ρ : RS) : Option (RS) :=
  gd (inb v1 2) <| bd (ρ.1 19 v1.toNatClampNeg) fun x1 => gd (inb v1 2) <| bd (ρ.1 18 v1.toNatClampNeg) fun x2 => bc2 (m_written w1 w2 w3 w4 (x1 - x2) v9 v5 ρ) fun x4 r3 => if x4 < 0 then
  (b_send_246 v1 v2 v3 v5 r3)
 else
  (if v9 ≤ 0 then
  (b_send_192 v1 v2 v3 v4 v5 x4 r3)
 else
  (bc (m_put x4 (20 : Int32) (2 : Int32) (516 : Int32) r3) fun r5 => gd (inb v1 2) <| bd (r5.1 8 v1.toNatClampNeg) fun x6 => bc (m_put x4 (22 : Int32) (2 : Int32) x6 r5) fun r7 => b_send_192 v1 v2 v3 v4 v5 x4 r7))
def b_send_111 (v1 : Int32) (v2 : Int32) (v3 : Int32) (v4 : Int32) (v5 : Int32) (v6 : Int32) (v7 : Int32) (w0 : Int32) (ρ : RS) : Option (RS) :=
  if v6 = 0 then
  (gd (inb v1 2) <| bd (ρ.1 18 v1.toNatClampNeg) fun x1 => b_send_133 v1 v2 v3 v4 v5 w0 v1 v7 v3 x1 ρ)
 else
  (b_send_133 v1 v2 v3 v4 v5 w0 v1 v7 v3 (0 : Int32) ρ)
def b_send_100 (v1 : Int32) (v2 : Int32) (v3 : Int32) (v4 : Int32) (v5 : Int32) (v6 : Int32) (v7 : Int32) (ρ : RS) : Option (RS) :=
  if (v2 &&& (2 : Int32)) = 0 then
  (b_send_111 v1 v2 v3 v4 v5 v6 v7 (0 : Int32) ρ)
 else
  (b_send_111 v1 v2 v3 v4 v5 v6 v7 (4 : Int32) ρ)
def b_send_64 (v1 : Int32) (v2 : Int32) (v3 : Int32) (v4 : Int32) (v5 : Int32) (v6 : Int32) (v7 : Int32) (ρ : RS) : Option (RS) :=
  gd (inb v1 2) <| bd (ρ.1 18 v1.toNatClampNeg) fun x1 => bc2 (m_freeRoom v1 ρ) fun x3 r2 => bd (x1 + x3) fun x4 => gd (inb v1 2) <| bd (r2.1 19 v1.toNatClampNeg) fun x5 => bc2 (m_above x4 x5 r2) fun x7 r6 => if x7 = 0 then
  (b_send_100 v1 v2 v3 v4 v5 v6 v7 r6)
 else
  (gd (inb v1 2) <| bd (si r6 19 v1.toNatClampNeg x4) fun r8 => b_send_100 v1 v2 v3 v4 v5 v6 v7 r8)
def b_send_36 (v1 : Int32) (v2 : Int32) (v3 : Int32) (v4 : Int32) (v5 : Int32) (v6 : Int32) (w0 : Int32) (ρ : RS) : Option (RS) :=
  if v5 ≤ 0 then
  (b_send_64 v1 v2 v3 v4 v5 v6 w0 ρ)
 else
  (gd (inb v1 2) <| bd (ρ.1 32 v1.toNatClampNeg) fun x1 => if (v4 + v5) = x1 then
  (bd (w0 ||| (8 : Int32)) fun x2 => b_send_64 v1 v2 v3 v4 v5 v6 x2 ρ)
 else
  (b_send_64 v1 v2 v3 v4 v5 v6 w0 ρ))
def b_send_21 (v1 : Int32) (v2 : Int32) (v3 : Int32) (v4 : Int32) (v5 : Int32) (w0 : Int32) (ρ : RS) : Option (RS) :=
  if w0 = 0 then
  (b_send_36 v1 v2 v3 v4 v5 w0 (v2 ||| (16 : Int32)) ρ)
 else
  (b_send_36 v1 v2 v3 v4 v5 w0 v2 ρ)
def b_send_20 (v1 : Int32) (v2 : Int32) (v3 : Int32) (v4 : Int32) (v5 : Int32) (ρ : RS) : Option (RS) :=
  b_send_21 v1 v2 v3 v4 v5 (0 : Int32) ρ
def m_send (v1 : Int32) (v2 : Int32) (v3 : Int32) (v4 : Int32) (v5 : Int32) (ρ : RS) : Option (RS) :=
  if (v2 &&& (2 : Int32)) = 0 then
  (b_send_20 v1 v2 v3 v4 v5 ρ)
 else
  (gd (inb v1 2) <| bd (ρ.1 9 v1.toNatClampNeg) fun x1 => if x1 = (2 : Int32) then
  (b_send_21 v1 v2 v3 v4 v5 (1 : Int32) ρ)
 else
  (b_send_20 v1 v2 v3 v4 v5 ρ))
def P_send_195 (p : Program) (l : Launch) (e : Env) (s : State) (m : MethodId) (args : Array Value) (below : List Frame) (meth : Method) (c : Code) (D : va_G) (tc : Nat → ClassId) (o : Nat) (v1 : Int32) (v2 : Int32) (v3 : Int32) (v4 : Int32) (v5 : Int32) (v10 : Int32) (v11 : Int32) (ρ : RS) (B : RS) : Prop := ∀ (ls : Array Slot) (H : Heap) (locs : List Loc), lv_has ls 12 [(0, .ref o), (1, .int v1), (2, .int v2), (3, .int v3), (4, .int v4), (5, .int v5), (10, .int v10), (11, .int v11)] → RWS D tc o s ρ H locs → W p l e { frames := 3, cells := 0, slots := 0, locals := 72 } s m args below meth c H locs 0 0 (MQ below (RQ D tc o none B) args s 0 0 (rreg o)) (F0 m 195 ls [])
section
variable {p : Program} {l : Launch} {e : Env} {s : State} {m : MethodId} {args : Array Value} {below : List Frame} {meth : Method} {c : Code} {D : va_G} {tc : Nat → ClassId} {o : Nat}
theorem t_send_337 (S : RC p m c k_send 12 s args cn_M meth none D tc) (ρ : RS) {B : RS} (h : b_send_337  ρ = some B) {ls : Array Slot} {H : Heap} {locs : List Loc} (hl : lv_has ls 12 []) (hW : RWS D tc o s ρ H locs) : W p l e { frames := 3, cells := 0, slots := 0, locals := 72 } s m args below meth c H locs 0 0 (MQ below (RQ D tc o none B) args s 0 0 (rreg o)) (F0 m 337 ls []) := by
  have hx := S.1.1
  have hb := S.1.2.1
  unfold b_send_337 at h
  exact rm_vret S hW d_send_337 h
theorem t_send_315 (S : RC p m c k_send 12 s args cn_M meth none D tc) (v1 : Int32) (v11 : Int32) (ρ : RS) {B : RS} (h : b_send_315 v1 v11 ρ = some B) {ls : Array Slot} {H : Heap} {locs : List Loc} (hl : lv_has ls 12 [(0, .ref o), (1, .int v1), (11, .int v11)]) (hW : RWS D tc o s ρ H locs) : W p l e { frames := 3, cells := 0, slots := 0, locals := 72 } s m args below meth c H locs 0 0 (MQ below (RQ D tc o none B) args s 0 0 (rreg o)) (F0 m 315 ls []) := by
  have hx := S.1.1
  have hb := S.1.2.1
  unfold b_send_315 at h
  refine lv_iload hx hb d_send_315 (lv_at hl 2 rfl) ?_
  refine lv_aload_n hx hb d_send_317 rfl (lv_at hl 0 rfl) ?_
  refine rm_geta S hW 18 13 wd_1270 (by decide) d_send_318 ?_
  refine lv_iload_n hx hb d_send_321 rfl (lv_at hl 1 rfl) ?_
  refine rm_iald S hW 13 2 (by decide) d_send_322 h (fun x1 h => ?_)
  refine rm_cSi [.int v11, .int x1] S hW (fun x ρ' hc => c_above v11 x1 ρ hc) q_above wd_1456 wd_1455 (by decide) hl.1 rfl rfl (Nat.le_of_ble_eq_true rfl) d_send_323 h (fun x3 r2 H locs h hW => ?_)
  refine rb_eq (tgt := 337) hx hb d_send_326 (by decide) h (fun h => ?_) (fun h => ?_)
  · exact t_send_337 S  r2 h (lv_sub hl [] rfl) hW
  · refine lv_aload_n hx hb d_send_329 rfl (lv_at hl 0 rfl) ?_
    refine rm_geta S hW 18 13 wd_1270 (by decide) d_send_330 ?_
    refine lv_iload_n hx hb d_send_333 rfl (lv_at hl 1 rfl) ?_
    refine lv_iload hx hb d_send_334 (lv_at hl 2 rfl) ?_
    refine rm_iast S hW 13 2 (by decide) d_send_336 h (fun r4 H locs h hW => ?_)
    exact t_send_337 S  r4 h (lv_sub hl [] rfl) hW
theorem t_send_261 (S : RC p m c k_send 12 s args cn_M meth none D tc) (v1 : Int32) (v3 : Int32) (w0 : Int32) (w1 : Int32) (ρ : RS) {B : RS} (h : b_send_261 v1 v3 w0 w1 ρ = some B) {ls : Array Slot} {H : Heap} {locs : List Loc} (hl : lv_has ls 12 [(0, .ref o), (1, .int v1), (3, .int v3)]) (hW : RWS D tc o s ρ H locs) : W p l e { frames := 3, cells := 0, slots := 0, locals := 72 } s m args below meth c H locs 0 0 (MQ below (RQ D tc o none B) args s 0 0 (rreg o)) (F0 m 261 ls [.int w1, .int w0]) := by
  have hx := S.1.1
  have hb := S.1.2.1
  unfold b_send_261 at h
  refine lv_iadd hx hb d_send_261 ?_
  refine rv_i h (fun x1 h => ?_)
  refine lv_istore (lv' := [(11, .int x1), (0, .ref o), (1, .int v1), (3, .int v3)]) hx hb d_send_262 hl (by decide) rfl (fun ls hl => ?_)
  refine lv_iload hx hb d_send_264 (lv_at hl 0 rfl) ?_
  refine lv_iload_n hx hb d_send_266 rfl (lv_at hl 3 rfl) ?_
  refine rc_ne (tgt := 271) hx hb d_send_267 (by decide) h (fun h => ?_) (fun h => ?_)
  · refine lv_iload_n hx hb d_send_271 rfl (lv_at hl 3 rfl) ?_
    refine lv_aload_n hx hb d_send_272 rfl (lv_at hl 1 rfl) ?_
    refine rm_geta S hW 18 13 wd_1270 (by decide) d_send_273 ?_
    refine lv_iload_n hx hb d_send_276 rfl (lv_at hl 2 rfl) ?_
    refine rm_iald S hW 13 2 (by decide) d_send_277 h (fun x2 h => ?_)
    refine rc_ne (tgt := 315) hx hb d_send_278 (by decide) h (fun h => ?_) (fun h => ?_)
    · exact t_send_315 S v1 x1 ρ h (lv_sub hl [1, 2, 0] rfl) hW
    · refine lv_aload_n hx hb d_send_281 rfl (lv_at hl 1 rfl) ?_
      refine rm_geta S hW 40 35 wd_1292 (by decide) d_send_282 ?_
      refine lv_iload_n hx hb d_send_285 rfl (lv_at hl 2 rfl) ?_
      refine rm_zald S hW 35 2 (by decide) d_send_286 h (fun x3 h => ?_)
      refine rb_ne (tgt := 315) hx hb d_send_287 (by decide) h (fun h => ?_) (fun h => ?_)
      · exact t_send_315 S v1 x1 ρ h (lv_sub hl [1, 2, 0] rfl) hW
      · refine lv_aload_n hx hb d_send_290 rfl (lv_at hl 1 rfl) ?_
        refine rm_geta S hW 40 35 wd_1292 (by decide) d_send_291 ?_
        refine lv_iload_n hx hb d_send_294 rfl (lv_at hl 2 rfl) ?_
        refine lv_iconst (v := 1) hx hb d_send_295 (by decide) ?_
        refine rm_zast S hW 35 2 (by decide) d_send_296 h (fun r4 H locs h hW => ?_)
        refine lv_aload_n hx hb d_send_297 rfl (lv_at hl 1 rfl) ?_
        refine rm_geta S hW 32 27 wd_1284 (by decide) d_send_298 ?_
        refine lv_iload_n hx hb d_send_301 rfl (lv_at hl 2 rfl) ?_
        refine lv_iload hx hb d_send_302 (lv_at hl 0 rfl) ?_
        refine rm_iast S hW 27 2 (by decide) d_send_304 h (fun r5 H locs h hW => ?_)
        refine lv_aload_n hx hb d_send_305 rfl (lv_at hl 1 rfl) ?_
        refine rm_geta S hW 39 34 wd_1291 (by decide) d_send_306 ?_
        refine lv_iload_n hx hb d_send_309 rfl (lv_at hl 2 rfl) ?_
        refine lv_aload_n hx hb d_send_310 rfl (lv_at hl 1 rfl) ?_
        refine rm_getl S hW 3 wd_1255 (by decide) d_send_311 h (fun x6 h => ?_)
        refine rm_last S hW 34 2 (by decide) d_send_314 h (fun r7 H locs h hW => ?_)
        exact t_send_315 S v1 x1 r7 h (lv_sub hl [1, 2, 0] rfl) hW
  · exact rm_vret S hW d_send_270 h
theorem t_send_246 (S : RC p m c k_send 12 s args cn_M meth none D tc) (v1 : Int32) (v2 : Int32) (v3 : Int32) (v5 : Int32) (ρ : RS) {B : RS} (h : b_send_246 v1 v2 v3 v5 ρ = some B) {ls : Array Slot} {H : Heap} {locs : List Loc} (hl : lv_has ls 12 [(0, .ref o), (1, .int v1), (2, .int v2), (3, .int v3), (5, .int v5)]) (hW : RWS D tc o s ρ H locs) : W p l e { frames := 3, cells := 0, slots := 0, locals := 72 } s m args below meth c H locs 0 0 (MQ below (RQ D tc o none B) args s 0 0 (rreg o)) (F0 m 246 ls []) := by
  have hx := S.1.1
  have hb := S.1.2.1
  unfold b_send_246 at h
  refine lv_iload_n hx hb d_send_246 rfl (lv_at hl 3 rfl) ?_
  refine lv_iload hx hb d_send_247 (lv_at hl 4 rfl) ?_
  refine lv_iadd hx hb d_send_249 ?_
  refine lv_iload_n hx hb d_send_250 rfl (lv_at hl 2 rfl) ?_
  refine lv_iconst (v := 3) hx hb d_send_251 (by decide) ?_
  refine lv_iand hx hb d_send_252 ?_
  refine rb_eq (tgt := 260) hx hb d_send_253 (by decide) h (fun h => ?_) (fun h => ?_)
  · refine lv_iconst (v := 0) hx hb d_send_260 (by decide) ?_
    exact t_send_261 S v1 v3 (v3 + v5) (0 : Int32) ρ h (lv_sub hl [0, 1, 3] rfl) hW
  · refine lv_iconst (v := 1) hx hb d_send_256 (by decide) ?_
    refine lv_goto (tgt := 261) hx hb d_send_257 (by decide) ?_
    exact t_send_261 S v1 v3 (v3 + v5) (1 : Int32) ρ h (lv_sub hl [0, 1, 3] rfl) hW
theorem tF_send_195 (S : RC p m c k_send 12 s args cn_M meth none D tc) : ∀ (rec195 : Int32 → Int32 → Int32 → Int32 → Int32 → Int32 → Int32 → RS → Option (RS)), (∀ (v1 : Int32) (v2 : Int32) (v3 : Int32) (v4 : Int32) (v5 : Int32) (v10 : Int32) (v11 : Int32) (ρ : RS) (B : RS), rec195 v1 v2 v3 v4 v5 v10 v11 ρ = some B → P_send_195 p l e s m args below meth c D tc o v1 v2 v3 v4 v5 v10 v11 ρ B) → ∀ (v1 : Int32) (v2 : Int32) (v3 : Int32) (v4 : Int32) (v5 : Int32) (v10 : Int32) (v11 : Int32) (ρ : RS) (B : RS), F_send_195 rec195 v1 v2 v3 v4 v5 v10 v11 ρ = some B → P_send_195 p l e s m args below meth c D tc o v1 v2 v3 v4 v5 v10 v11 ρ B := by
  intro rec195 hrec195 v1 v2 v3 v4 v5 v10 v11 ρ B h ls H locs hl hW
  have hx := S.1.1
  have hb := S.1.2.1
  unfold F_send_195 at h
  refine lv_iload hx hb d_send_195 (lv_at hl 7 rfl) ?_
  refine lv_iload hx hb d_send_197 (lv_at hl 5 rfl) ?_
  refine rc_ge (tgt := 240) hx hb d_send_199 (by decide) h (fun h => ?_) (fun h => ?_)
  · refine lv_aload_n hx hb d_send_240 rfl (lv_at hl 0 rfl) ?_
    refine lv_iload hx hb d_send_241 (lv_at hl 6 rfl) ?_
    refine rm_cVv [.int v10] S hW (fun ρ' hc => c_sealed v10 ρ hc) q_sealed wd_1482 wd_44 wd_1480 (by decide) hl.1 rfl rfl (Nat.le_of_ble_eq_true rfl) d_send_243 h (fun r1 H locs h hW => ?_)
    exact t_send_246 S v1 v2 v3 v5 r1 h (lv_sub hl [0, 1, 2, 3, 5] rfl) hW
  · refine lv_aload_n hx hb d_send_202 rfl (lv_at hl 0 rfl) ?_
    refine rm_geta S hW 6 2 wd_1258 (by decide) d_send_203 ?_
    refine lv_sipush (v := 1484) hx hb d_send_206 (by decide) ?_
    refine lv_iload hx hb d_send_209 (lv_at hl 6 rfl) ?_
    refine lv_imul hx hb d_send_211 ?_
    refine lv_bipush (v := 20) hx hb d_send_212 (by decide) ?_
    refine lv_iadd hx hb d_send_214 ?_
    refine lv_iload hx hb d_send_215 (lv_at hl 7 rfl) ?_
    refine lv_iadd hx hb d_send_217 ?_
    refine lv_aload_n hx hb d_send_218 rfl (lv_at hl 0 rfl) ?_
    refine rm_geta S hW 43 38 wd_1295 (by decide) d_send_219 ?_
    refine lv_ldc hx hb S.1.2.2.2.1 (S.1.2.2.2.2 _ (gi wd_1479 rfl)) d_send_222 ?_
    refine lv_iload_n hx hb d_send_224 rfl (lv_at hl 1 rfl) ?_
    refine lv_imul hx hb d_send_225 ?_
    refine lv_iload hx hb d_send_226 (lv_at hl 4 rfl) ?_
    refine lv_iadd hx hb d_send_228 ?_
    refine lv_iload hx hb d_send_229 (lv_at hl 7 rfl) ?_
    refine lv_iadd hx hb d_send_231 ?_
    refine rm_bald S hW 38 163840 (by decide) d_send_232 h (fun x2 h => ?_)
    refine rm_bast S hW 2 761292 (by decide) d_send_233 h (fun r3 H locs h hW => ?_)
    refine rv_iinc (k := 7) (v := 1) (lv' := fun x4 => [(11, .int x4), (0, .ref o), (1, .int v1), (2, .int v2), (3, .int v3), (4, .int v4), (5, .int v5), (10, .int v10)]) hx hb d_send_234 hl rfl (by decide) (by decide) (fun _ => rfl) h (fun x4 ls h hl => ?_)
    refine lv_goto (tgt := 195) hx hb d_send_237 (by decide) ?_
    exact hrec195 v1 v2 v3 v4 v5 v10 x4 r3 _ h _ _ _ (lv_sub hl [1, 2, 3, 4, 5, 6, 7, 0] rfl) hW
theorem t_send_195 (S : RC p m c k_send 12 s args cn_M meth none D tc) : ∀ (n : Nat) (v1 : Int32) (v2 : Int32) (v3 : Int32) (v4 : Int32) (v5 : Int32) (v10 : Int32) (v11 : Int32) (ρ : RS) (B : RS), lq8 (F_send_195) n v1 v2 v3 v4 v5 v10 v11 ρ = some B → P_send_195 p l e s m args below meth c D tc o v1 v2 v3 v4 v5 v10 v11 ρ B := lq8_s (tF_send_195 S)
theorem t_send_192 (S : RC p m c k_send 12 s args cn_M meth none D tc) (v1 : Int32) (v2 : Int32) (v3 : Int32) (v4 : Int32) (v5 : Int32) (v10 : Int32) (ρ : RS) {B : RS} (h : b_send_192 v1 v2 v3 v4 v5 v10 ρ = some B) {ls : Array Slot} {H : Heap} {locs : List Loc} (hl : lv_has ls 12 [(0, .ref o), (1, .int v1), (2, .int v2), (3, .int v3), (4, .int v4), (5, .int v5), (10, .int v10)]) (hW : RWS D tc o s ρ H locs) : W p l e { frames := 3, cells := 0, slots := 0, locals := 72 } s m args below meth c H locs 0 0 (MQ below (RQ D tc o none B) args s 0 0 (rreg o)) (F0 m 192 ls []) := by
  have hx := S.1.1
  have hb := S.1.2.1
  unfold b_send_192 at h
  refine lv_iconst (v := 0) hx hb d_send_192 (by decide) ?_
  refine lv_istore (lv' := [(11, .int (0 : Int32)), (0, .ref o), (1, .int v1), (2, .int v2), (3, .int v3), (4, .int v4), (5, .int v5), (10, .int v10)]) hx hb d_send_193 hl (by decide) rfl (fun ls hl => ?_)
  exact t_send_195 S fuel v1 v2 v3 v4 v5 v10 (0 : Int32) ρ _ h _ _ _ (lv_sub hl [1, 2, 3, 4, 5, 6, 7, 0] rfl) hW
theorem t_send_133 (S : RC p m c k_send 12 s args cn_M meth none D tc) (v1 : Int32) (v2 : Int32) (v3 : Int32) (v4 : Int32) (v5 : Int32) (v9 : Int32) (w1 : Int32) (w2 : Int32) (w3 : Int32) (w4 : Int32) (ρ : RS) {B : RS} (h : b_send_133 v1 v2 v3 v4 v5 v9 w1 w2 w3 w4 ρ = some B) {ls : Array Slot} {H : Heap} {locs : List Loc} (hl : lv_has ls 12 [(0, .ref o), (1, .int v1), (2, .int v2), (3, .int v3), (4, .int v4), (5, .int v5), (9, .int v9)]) (hW : RWS D tc o s ρ H locs) : W p l e { frames := 3, cells := 0, slots := 0, locals := 72 } s m args below meth c H locs 0 0 (MQ below (RQ D tc o none B) args s 0 0 (rreg o)) (F0 m 133 ls [.int w4, .int w3, .int w2, .int w1, .ref o]) := by
  have hx := S.1.1
  have hb := S.1.2.1
  unfold b_send_133 at h
  refine lv_aload_n hx hb d_send_133 rfl (lv_at hl 0 rfl) ?_
  refine rm_geta S hW 24 19 wd_1276 (by decide) d_send_134 ?_
  refine lv_iload_n hx hb d_send_137 rfl (lv_at hl 1 rfl) ?_
  refine rm_iald S hW 19 2 (by decide) d_send_138 h (fun x1 h => ?_)
  refine lv_aload_n hx hb d_send_139 rfl (lv_at hl 0 rfl) ?_
  refine rm_geta S hW 23 18 wd_1275 (by decide) d_send_140 ?_
  refine lv_iload_n hx hb d_send_143 rfl (lv_at hl 1 rfl) ?_
  refine rm_iald S hW 18 2 (by decide) d_send_144 h (fun x2 h => ?_)
  refine lv_isub hx hb d_send_145 ?_
  refine lv_iload hx hb d_send_146 (lv_at hl 6 rfl) ?_
  refine lv_iload hx hb d_send_148 (lv_at hl 5 rfl) ?_
  refine rm_cVi [.int w1, .int w2, .int w3, .int w4, .int (x1 - x2), .int v9, .int v5] S hW (fun x ρ' hc => c_written w1 w2 w3 w4 (x1 - x2) v9 v5 ρ hc) q_written wd_1460 wd_39 wd_1458 (by decide) hl.1 rfl rfl (Nat.le_of_ble_eq_true rfl) d_send_150 h (fun x4 r3 H locs h hW => ?_)
  refine lv_istore (lv' := [(10, .int x4), (0, .ref o), (1, .int v1), (2, .int v2), (3, .int v3), (4, .int v4), (5, .int v5), (9, .int v9)]) hx hb d_send_153 hl (by decide) rfl (fun ls hl => ?_)
  refine lv_iload hx hb d_send_155 (lv_at hl 0 rfl) ?_
  refine rb_lt (tgt := 246) hx hb d_send_157 (by decide) h (fun h => ?_) (fun h => ?_)
  · exact t_send_246 S v1 v2 v3 v5 r3 h (lv_sub hl [1, 2, 3, 4, 6] rfl) hW
  · refine lv_iload hx hb d_send_160 (lv_at hl 7 rfl) ?_
    refine rb_le (tgt := 192) hx hb d_send_162 (by decide) h (fun h => ?_) (fun h => ?_)
    · exact t_send_192 S v1 v2 v3 v4 v5 x4 r3 h (lv_sub hl [1, 2, 3, 4, 5, 6, 0] rfl) hW
    · refine lv_aload_n hx hb d_send_165 rfl (lv_at hl 1 rfl) ?_
      refine lv_iload hx hb d_send_166 (lv_at hl 0 rfl) ?_
      refine lv_bipush (v := 20) hx hb d_send_168 (by decide) ?_
      refine lv_iconst (v := 2) hx hb d_send_170 (by decide) ?_
      refine lv_sipush (v := 516) hx hb d_send_171 (by decide) ?_
      refine rm_cVv [.int x4, .int (20 : Int32), .int (2 : Int32), .int (516 : Int32)] S hW (fun ρ' hc => c_put x4 (20 : Int32) (2 : Int32) (516 : Int32) r3 hc) q_put wd_1477 wd_43 wd_1475 (by decide) hl.1 rfl rfl (Nat.le_of_ble_eq_true rfl) d_send_174 h (fun r5 H locs h hW => ?_)
      refine lv_aload_n hx hb d_send_177 rfl (lv_at hl 1 rfl) ?_
      refine lv_iload hx hb d_send_178 (lv_at hl 0 rfl) ?_
      refine lv_bipush (v := 22) hx hb d_send_180 (by decide) ?_
      refine lv_iconst (v := 2) hx hb d_send_182 (by decide) ?_
      refine lv_aload_n hx hb d_send_183 rfl (lv_at hl 1 rfl) ?_
      refine rm_geta S hW 13 8 wd_1265 (by decide) d_send_184 ?_
      refine lv_iload_n hx hb d_send_187 rfl (lv_at hl 2 rfl) ?_
      refine rm_iald S hW 8 2 (by decide) d_send_188 h (fun x6 h => ?_)
      refine rm_cVv [.int x4, .int (22 : Int32), .int (2 : Int32), .int x6] S hW (fun ρ' hc => c_put x4 (22 : Int32) (2 : Int32) x6 r5 hc) q_put wd_1477 wd_43 wd_1475 (by decide) hl.1 rfl rfl (Nat.le_of_ble_eq_true rfl) d_send_189 h (fun r7 H locs h hW => ?_)
      exact t_send_192 S v1 v2 v3 v4 v5 x4 r7 h (lv_sub hl [1, 2, 3, 4, 5, 6, 0] rfl) hW
theorem t_send_111 (S : RC p m c k_send 12 s args cn_M meth none D tc) (v1 : Int32) (v2 : Int32) (v3 : Int32) (v4 : Int32) (v5 : Int32) (v6 : Int32) (v7 : Int32) (w0 : Int32) (ρ : RS) {B : RS} (h : b_send_111 v1 v2 v3 v4 v5 v6 v7 w0 ρ = some B) {ls : Array Slot} {H : Heap} {locs : List Loc} (hl : lv_has ls 12 [(0, .ref o), (1, .int v1), (2, .int v2), (3, .int v3), (4, .int v4), (5, .int v5), (6, .int v6), (7, .int v7)]) (hW : RWS D tc o s ρ H locs) : W p l e { frames := 3, cells := 0, slots := 0, locals := 72 } s m args below meth c H locs 0 0 (MQ below (RQ D tc o none B) args s 0 0 (rreg o)) (F0 m 111 ls [.int w0]) := by
  have hx := S.1.1
  have hb := S.1.2.1
  unfold b_send_111 at h
  refine lv_istore (lv' := [(9, .int w0), (0, .ref o), (1, .int v1), (2, .int v2), (3, .int v3), (4, .int v4), (5, .int v5), (6, .int v6), (7, .int v7)]) hx hb d_send_111 hl (by decide) rfl (fun ls hl => ?_)
  refine lv_aload_n hx hb d_send_113 rfl (lv_at hl 1 rfl) ?_
  refine lv_iload_n hx hb d_send_114 rfl (lv_at hl 2 rfl) ?_
  refine lv_iload hx hb d_send_115 (lv_at hl 8 rfl) ?_
  refine lv_iload_n hx hb d_send_117 rfl (lv_at hl 4 rfl) ?_
  refine lv_iload hx hb d_send_118 (lv_at hl 7 rfl) ?_
  refine rb_eq (tgt := 127) hx hb d_send_120 (by decide) h (fun h => ?_) (fun h => ?_)
  · refine lv_aload_n hx hb d_send_127 rfl (lv_at hl 1 rfl) ?_
    refine rm_geta S hW 23 18 wd_1275 (by decide) d_send_128 ?_
    refine lv_iload_n hx hb d_send_131 rfl (lv_at hl 2 rfl) ?_
    refine rm_iald S hW 18 2 (by decide) d_send_132 h (fun x1 h => ?_)
    exact t_send_133 S v1 v2 v3 v4 v5 w0 v1 v7 v3 x1 ρ h (lv_sub hl [1, 2, 3, 4, 5, 6, 0] rfl) hW
  · refine lv_iconst (v := 0) hx hb d_send_123 (by decide) ?_
    refine lv_goto (tgt := 133) hx hb d_send_124 (by decide) ?_
    exact t_send_133 S v1 v2 v3 v4 v5 w0 v1 v7 v3 (0 : Int32) ρ h (lv_sub hl [1, 2, 3, 4, 5, 6, 0] rfl) hW
theorem t_send_100 (S : RC p m c k_send 12 s args cn_M meth none D tc) (v1 : Int32) (v2 : Int32) (v3 : Int32) (v4 : Int32) (v5 : Int32) (v6 : Int32) (v7 : Int32) (ρ : RS) {B : RS} (h : b_send_100 v1 v2 v3 v4 v5 v6 v7 ρ = some B) {ls : Array Slot} {H : Heap} {locs : List Loc} (hl : lv_has ls 12 [(0, .ref o), (1, .int v1), (2, .int v2), (3, .int v3), (4, .int v4), (5, .int v5), (6, .int v6), (7, .int v7)]) (hW : RWS D tc o s ρ H locs) : W p l e { frames := 3, cells := 0, slots := 0, locals := 72 } s m args below meth c H locs 0 0 (MQ below (RQ D tc o none B) args s 0 0 (rreg o)) (F0 m 100 ls []) := by
  have hx := S.1.1
  have hb := S.1.2.1
  unfold b_send_100 at h
  refine lv_iload_n hx hb d_send_100 rfl (lv_at hl 2 rfl) ?_
  refine lv_iconst (v := 2) hx hb d_send_101 (by decide) ?_
  refine lv_iand hx hb d_send_102 ?_
  refine rb_eq (tgt := 110) hx hb d_send_103 (by decide) h (fun h => ?_) (fun h => ?_)
  · refine lv_iconst (v := 0) hx hb d_send_110 (by decide) ?_
    exact t_send_111 S v1 v2 v3 v4 v5 v6 v7 (0 : Int32) ρ h (lv_sub hl [0, 1, 2, 3, 4, 5, 6, 7] rfl) hW
  · refine lv_iconst (v := 4) hx hb d_send_106 (by decide) ?_
    refine lv_goto (tgt := 111) hx hb d_send_107 (by decide) ?_
    exact t_send_111 S v1 v2 v3 v4 v5 v6 v7 (4 : Int32) ρ h (lv_sub hl [0, 1, 2, 3, 4, 5, 6, 7] rfl) hW
theorem t_send_64 (S : RC p m c k_send 12 s args cn_M meth none D tc) (v1 : Int32) (v2 : Int32) (v3 : Int32) (v4 : Int32) (v5 : Int32) (v6 : Int32) (v7 : Int32) (ρ : RS) {B : RS} (h : b_send_64 v1 v2 v3 v4 v5 v6 v7 ρ = some B) {ls : Array Slot} {H : Heap} {locs : List Loc} (hl : lv_has ls 12 [(0, .ref o), (1, .int v1), (2, .int v2), (3, .int v3), (4, .int v4), (5, .int v5), (6, .int v6), (7, .int v7)]) (hW : RWS D tc o s ρ H locs) : W p l e { frames := 3, cells := 0, slots := 0, locals := 72 } s m args below meth c H locs 0 0 (MQ below (RQ D tc o none B) args s 0 0 (rreg o)) (F0 m 64 ls []) := by
  have hx := S.1.1
  have hb := S.1.2.1
  unfold b_send_64 at h
  refine lv_aload_n hx hb d_send_64 rfl (lv_at hl 0 rfl) ?_
  refine rm_geta S hW 23 18 wd_1275 (by decide) d_send_65 ?_
  refine lv_iload_n hx hb d_send_68 rfl (lv_at hl 1 rfl) ?_
  refine rm_iald S hW 18 2 (by decide) d_send_69 h (fun x1 h => ?_)
  refine lv_aload_n hx hb d_send_70 rfl (lv_at hl 0 rfl) ?_
  refine lv_iload_n hx hb d_send_71 rfl (lv_at hl 1 rfl) ?_
  refine rm_cVi [.int v1] S hW (fun x ρ' hc => c_freeRoom v1 ρ hc) q_freeRoom wd_1453 wd_38 wd_1451 (by decide) hl.1 rfl rfl (Nat.le_of_ble_eq_true rfl) d_send_72 h (fun x3 r2 H locs h hW => ?_)
  refine lv_iadd hx hb d_send_75 ?_
  refine rv_i h (fun x4 h => ?_)
  refine lv_istore (lv' := [(8, .int x4), (0, .ref o), (1, .int v1), (2, .int v2), (3, .int v3), (4, .int v4), (5, .int v5), (6, .int v6), (7, .int v7)]) hx hb d_send_76 hl (by decide) rfl (fun ls hl => ?_)
  refine lv_iload hx hb d_send_78 (lv_at hl 0 rfl) ?_
  refine lv_aload_n hx hb d_send_80 rfl (lv_at hl 1 rfl) ?_
  refine rm_geta S hW 24 19 wd_1276 (by decide) d_send_81 ?_
  refine lv_iload_n hx hb d_send_84 rfl (lv_at hl 2 rfl) ?_
  refine rm_iald S hW 19 2 (by decide) d_send_85 h (fun x5 h => ?_)
  refine rm_cSi [.int x4, .int x5] S hW (fun x ρ' hc => c_above x4 x5 r2 hc) q_above wd_1456 wd_1455 (by decide) hl.1 rfl rfl (Nat.le_of_ble_eq_true rfl) d_send_86 h (fun x7 r6 H locs h hW => ?_)
  refine rb_eq (tgt := 100) hx hb d_send_89 (by decide) h (fun h => ?_) (fun h => ?_)
  · exact t_send_100 S v1 v2 v3 v4 v5 v6 v7 r6 h (lv_sub hl [1, 2, 3, 4, 5, 6, 7, 8] rfl) hW
  · refine lv_aload_n hx hb d_send_92 rfl (lv_at hl 1 rfl) ?_
    refine rm_geta S hW 24 19 wd_1276 (by decide) d_send_93 ?_
    refine lv_iload_n hx hb d_send_96 rfl (lv_at hl 2 rfl) ?_
    refine lv_iload hx hb d_send_97 (lv_at hl 0 rfl) ?_
    refine rm_iast S hW 19 2 (by decide) d_send_99 h (fun r8 H locs h hW => ?_)
    exact t_send_100 S v1 v2 v3 v4 v5 v6 v7 r8 h (lv_sub hl [1, 2, 3, 4, 5, 6, 7, 8] rfl) hW
theorem t_send_36 (S : RC p m c k_send 12 s args cn_M meth none D tc) (v1 : Int32) (v2 : Int32) (v3 : Int32) (v4 : Int32) (v5 : Int32) (v6 : Int32) (w0 : Int32) (ρ : RS) {B : RS} (h : b_send_36 v1 v2 v3 v4 v5 v6 w0 ρ = some B) {ls : Array Slot} {H : Heap} {locs : List Loc} (hl : lv_has ls 12 [(0, .ref o), (1, .int v1), (2, .int v2), (3, .int v3), (4, .int v4), (5, .int v5), (6, .int v6)]) (hW : RWS D tc o s ρ H locs) : W p l e { frames := 3, cells := 0, slots := 0, locals := 72 } s m args below meth c H locs 0 0 (MQ below (RQ D tc o none B) args s 0 0 (rreg o)) (F0 m 36 ls [.int w0]) := by
  have hx := S.1.1
  have hb := S.1.2.1
  unfold b_send_36 at h
  refine lv_istore (lv' := [(7, .int w0), (0, .ref o), (1, .int v1), (2, .int v2), (3, .int v3), (4, .int v4), (5, .int v5), (6, .int v6)]) hx hb d_send_36 hl (by decide) rfl (fun ls hl => ?_)
  refine lv_iload hx hb d_send_38 (lv_at hl 6 rfl) ?_
  refine rb_le (tgt := 64) hx hb d_send_40 (by decide) h (fun h => ?_) (fun h => ?_)
  · exact t_send_64 S v1 v2 v3 v4 v5 v6 w0 ρ h (lv_sub hl [1, 2, 3, 4, 5, 6, 7, 0] rfl) hW
  · refine lv_iload hx hb d_send_43 (lv_at hl 5 rfl) ?_
    refine lv_iload hx hb d_send_45 (lv_at hl 6 rfl) ?_
    refine lv_iadd hx hb d_send_47 ?_
    refine lv_aload_n hx hb d_send_48 rfl (lv_at hl 1 rfl) ?_
    refine rm_geta S hW 37 32 wd_1289 (by decide) d_send_49 ?_
    refine lv_iload_n hx hb d_send_52 rfl (lv_at hl 2 rfl) ?_
    refine rm_iald S hW 32 2 (by decide) d_send_53 h (fun x1 h => ?_)
    refine rc_ne (tgt := 64) hx hb d_send_54 (by decide) h (fun h => ?_) (fun h => ?_)
    · exact t_send_64 S v1 v2 v3 v4 v5 v6 w0 ρ h (lv_sub hl [1, 2, 3, 4, 5, 6, 7, 0] rfl) hW
    · refine lv_iload hx hb d_send_57 (lv_at hl 0 rfl) ?_
      refine lv_bipush (v := 8) hx hb d_send_59 (by decide) ?_
      refine lv_ior hx hb d_send_61 ?_
      refine rv_i h (fun x2 h => ?_)
      refine lv_istore (lv' := [(7, .int x2), (0, .ref o), (1, .int v1), (2, .int v2), (3, .int v3), (4, .int v4), (5, .int v5), (6, .int v6)]) hx hb d_send_62 hl (by decide) rfl (fun ls hl => ?_)
      exact t_send_64 S v1 v2 v3 v4 v5 v6 x2 ρ h (lv_sub hl [1, 2, 3, 4, 5, 6, 7, 0] rfl) hW
theorem t_send_21 (S : RC p m c k_send 12 s args cn_M meth none D tc) (v1 : Int32) (v2 : Int32) (v3 : Int32) (v4 : Int32) (v5 : Int32) (w0 : Int32) (ρ : RS) {B : RS} (h : b_send_21 v1 v2 v3 v4 v5 w0 ρ = some B) {ls : Array Slot} {H : Heap} {locs : List Loc} (hl : lv_has ls 12 [(0, .ref o), (1, .int v1), (2, .int v2), (3, .int v3), (4, .int v4), (5, .int v5)]) (hW : RWS D tc o s ρ H locs) : W p l e { frames := 3, cells := 0, slots := 0, locals := 72 } s m args below meth c H locs 0 0 (MQ below (RQ D tc o none B) args s 0 0 (rreg o)) (F0 m 21 ls [.int w0]) := by
  have hx := S.1.1
  have hb := S.1.2.1
  unfold b_send_21 at h
  refine lv_istore (lv' := [(6, .int w0), (0, .ref o), (1, .int v1), (2, .int v2), (3, .int v3), (4, .int v4), (5, .int v5)]) hx hb d_send_21 hl (by decide) rfl (fun ls hl => ?_)
  refine lv_iload hx hb d_send_23 (lv_at hl 0 rfl) ?_
  refine rb_eq (tgt := 32) hx hb d_send_25 (by decide) h (fun h => ?_) (fun h => ?_)
  · refine lv_iload_n hx hb d_send_32 rfl (lv_at hl 3 rfl) ?_
    refine lv_bipush (v := 16) hx hb d_send_33 (by decide) ?_
    refine lv_ior hx hb d_send_35 ?_
    exact t_send_36 S v1 v2 v3 v4 v5 w0 (v2 ||| (16 : Int32)) ρ h (lv_sub hl [1, 2, 3, 4, 5, 6, 0] rfl) hW
  · refine lv_iload_n hx hb d_send_28 rfl (lv_at hl 3 rfl) ?_
    refine lv_goto (tgt := 36) hx hb d_send_29 (by decide) ?_
    exact t_send_36 S v1 v2 v3 v4 v5 w0 v2 ρ h (lv_sub hl [1, 2, 3, 4, 5, 6, 0] rfl) hW
theorem t_send_20 (S : RC p m c k_send 12 s args cn_M meth none D tc) (v1 : Int32) (v2 : Int32) (v3 : Int32) (v4 : Int32) (v5 : Int32) (ρ : RS) {B : RS} (h : b_send_20 v1 v2 v3 v4 v5 ρ = some B) {ls : Array Slot} {H : Heap} {locs : List Loc} (hl : lv_has ls 12 [(0, .ref o), (1, .int v1), (2, .int v2), (3, .int v3), (4, .int v4), (5, .int v5)]) (hW : RWS D tc o s ρ H locs) : W p l e { frames := 3, cells := 0, slots := 0, locals := 72 } s m args below meth c H locs 0 0 (MQ below (RQ D tc o none B) args s 0 0 (rreg o)) (F0 m 20 ls []) := by
  have hx := S.1.1
  have hb := S.1.2.1
  unfold b_send_20 at h
  refine lv_iconst (v := 0) hx hb d_send_20 (by decide) ?_
  exact t_send_21 S v1 v2 v3 v4 v5 (0 : Int32) ρ h (lv_sub hl [0, 1, 2, 3, 4, 5] rfl) hW
theorem t_send_0 (S : RC p m c k_send 12 s args cn_M meth none D tc) (v1 : Int32) (v2 : Int32) (v3 : Int32) (v4 : Int32) (v5 : Int32) (ρ : RS) {B : RS} (h : m_send v1 v2 v3 v4 v5 ρ = some B) {ls : Array Slot} {H : Heap} {locs : List Loc} (hl : lv_has ls 12 [(0, .ref o), (1, .int v1), (2, .int v2), (3, .int v3), (4, .int v4), (5, .int v5)]) (hW : RWS D tc o s ρ H locs) : W p l e { frames := 3, cells := 0, slots := 0, locals := 72 } s m args below meth c H locs 0 0 (MQ below (RQ D tc o none B) args s 0 0 (rreg o)) (F0 m 0 ls []) := by
  have hx := S.1.1
  have hb := S.1.2.1
  unfold m_send at h
  refine lv_iload_n hx hb d_send_0 rfl (lv_at hl 2 rfl) ?_
  refine lv_iconst (v := 2) hx hb d_send_1 (by decide) ?_
  refine lv_iand hx hb d_send_2 ?_
  refine rb_eq (tgt := 20) hx hb d_send_3 (by decide) h (fun h => ?_) (fun h => ?_)
  · exact t_send_20 S v1 v2 v3 v4 v5 ρ h (lv_sub hl [0, 1, 2, 3, 4, 5] rfl) hW
  · refine lv_aload_n hx hb d_send_6 rfl (lv_at hl 0 rfl) ?_
    refine rm_geta S hW 14 9 wd_1266 (by decide) d_send_7 ?_
    refine lv_iload_n hx hb d_send_10 rfl (lv_at hl 1 rfl) ?_
    refine rm_iald S hW 9 2 (by decide) d_send_11 h (fun x1 h => ?_)
    refine lv_iconst (v := 2) hx hb d_send_12 (by decide) ?_
    refine rc_ne (tgt := 20) hx hb d_send_13 (by decide) h (fun h => ?_) (fun h => ?_)
    · exact t_send_20 S v1 v2 v3 v4 v5 ρ h (lv_sub hl [0, 1, 2, 3, 4, 5] rfl) hW
    · refine lv_iconst (v := 1) hx hb d_send_16 (by decide) ?_
      refine lv_goto (tgt := 21) hx hb d_send_17 (by decide) ?_
      exact t_send_21 S v1 v2 v3 v4 v5 (1 : Int32) ρ h (lv_sub hl [0, 1, 2, 3, 4, 5] rfl) hW
theorem c_send (v1 : Int32) (v2 : Int32) (v3 : Int32) (v4 : Int32) (v5 : Int32) (ρ : RS) {B : RS} (h : m_send v1 v2 v3 v4 v5 ρ = some B) : RMet l D tc o y_send k_send 12 none 3 72 [.ref o, .int v1, .int v2, .int v3, .int v4, .int v5] ρ none B := rm_met (by decide) (Nat.le_of_ble_eq_true rfl) fun p e s m args below meth c S hW ls hl => t_send_0 S v1 v2 v3 v4 v5 ρ h hl hW
end

