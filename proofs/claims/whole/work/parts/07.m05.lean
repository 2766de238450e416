/-! header (II)Z -/
abbrev k_header : ByteArray := prog_12_method_29_code
abbrev y_header : MethodName := ⟨cn_M, "header", "(II)Z"⟩
theorem q_header : Calee y_header k_header 4 (some .boolean) 2 := ⟨wd_1572, wd_90, by decide, by decide +kernel⟩
theorem d_header_0 : decode k_header 0 = .ok (.aload_n 0, 1) := by decide +kernel
theorem d_header_1 : decode k_header 1 = .ok (.iload_n 2, 1) := by decide +kernel
theorem d_header_2 : decode k_header 2 = .ok (.putfield 254, 3) := by decide +kernel
theorem d_header_5 : decode k_header 5 = .ok (.aload_n 0, 1) := by decide +kernel
theorem d_header_6 : decode k_header 6 = .ok (.getfield 18, 3) := by decide +kernel
theorem d_header_9 : decode k_header 9 = .ok (.iload_n 2, 1) := by decide +kernel
theorem d_header_10 : decode k_header 10 = .ok (.iaload, 1) := by decide +kernel
theorem d_header_11 : decode k_header 11 = .ok (.bipush 20, 2) := by decide +kernel
theorem d_header_13 : decode k_header 13 = .ok (.if_icmp .ge 5, 3) := by decide +kernel
theorem d_header_16 : decode k_header 16 = .ok (.iconst 0, 1) := by decide +kernel
theorem d_header_17 : decode k_header 17 = .ok (.ireturn, 1) := by decide +kernel
theorem d_header_18 : decode k_header 18 = .ok (.iconst 4, 1) := by decide +kernel
theorem d_header_19 : decode k_header 19 = .ok (.aload_n 0, 1) := by decide +kernel
theorem d_header_20 : decode k_header 20 = .ok (.iload_n 2, 1) := by decide +kernel
theorem d_header_21 : decode k_header 21 = .ok (.bipush 12, 2) := by decide +kernel
theorem d_header_23 : decode k_header 23 = .ok (.invokevirtual 154, 3) := by decide +kernel
theorem d_header_26 : decode k_header 26 = .ok (.iconst 4, 1) := by decide +kernel
theorem d_header_27 : decode k_header 27 = .ok (.ishr, 1) := by decide +kernel
theorem d_header_28 : decode k_header 28 = .ok (.imul, 1) := by decide +kernel
theorem d_header_29 : decode k_header 29 = .ok (.istore_n 3, 1) := by decide +kernel
theorem d_header_30 : decode k_header 30 = .ok (.iload_n 3, 1) := by decide +kernel
theorem d_header_31 : decode k_header 31 = .ok (.bipush 20, 2) := by decide +kernel
theorem d_header_33 : decode k_header 33 = .ok (.if_icmp .lt 21, 3) := by decide +kernel
theorem d_header_36 : decode k_header 36 = .ok (.iload_n 3, 1) := by decide +kernel
theorem d_header_37 : decode k_header 37 = .ok (.aload_n 0, 1) := by decide +kernel
theorem d_header_38 : decode k_header 38 = .ok (.getfield 18, 3) := by decide +kernel
theorem d_header_41 : decode k_header 41 = .ok (.iload_n 2, 1) := by decide +kernel
theorem d_header_42 : decode k_header 42 = .ok (.iaload, 1) := by decide +kernel
theorem d_header_43 : decode k_header 43 = .ok (.if_icmp .gt 11, 3) := by decide +kernel
theorem d_header_46 : decode k_header 46 = .ok (.aload_n 0, 1) := by decide +kernel
theorem d_header_47 : decode k_header 47 = .ok (.iload_n 2, 1) := by decide +kernel
theorem d_header_48 : decode k_header 48 = .ok (.invokevirtual 257, 3) := by decide +kernel
theorem d_header_51 : decode k_header 51 = .ok (.ifCond .ne 5, 3) := by decide +kernel
theorem d_header_54 : decode k_header 54 = .ok (.iconst 0, 1) := by decide +kernel
theorem d_header_55 : decode k_header 55 = .ok (.ireturn, 1) := by decide +kernel
theorem d_header_56 : decode k_header 56 = .ok (.aload_n 0, 1) := by decide +kernel
theorem d_header_57 : decode k_header 57 = .ok (.getfield 172, 3) := by decide +kernel
theorem d_header_60 : decode k_header 60 = .ok (.ifCond .eq 33, 3) := by decide +kernel
theorem d_header_63 : decode k_header 63 = .ok (.aload_n 0, 1) := by decide +kernel
theorem d_header_64 : decode k_header 64 = .ok (.iload_n 2, 1) := by decide +kernel
theorem d_header_65 : decode k_header 65 = .ok (.iconst 0, 1) := by decide +kernel
theorem d_header_66 : decode k_header 66 = .ok (.invokevirtual 158, 3) := by decide +kernel
theorem d_header_69 : decode k_header 69 = .ok (.aload_n 0, 1) := by decide +kernel
theorem d_header_70 : decode k_header 70 = .ok (.iconst 1, 1) := by decide +kernel
theorem d_header_71 : decode k_header 71 = .ok (.iload_n 1, 1) := by decide +kernel
theorem d_header_72 : decode k_header 72 = .ok (.isub, 1) := by decide +kernel
theorem d_header_73 : decode k_header 73 = .ok (.invokevirtual 178, 3) := by decide +kernel
theorem d_header_76 : decode k_header 76 = .ok (.if_icmp .ne 17, 3) := by decide +kernel
theorem d_header_79 : decode k_header 79 = .ok (.aload_n 0, 1) := by decide +kernel
theorem d_header_80 : decode k_header 80 = .ok (.iload_n 2, 1) := by decide +kernel
theorem d_header_81 : decode k_header 81 = .ok (.iconst 2, 1) := by decide +kernel
theorem d_header_82 : decode k_header 82 = .ok (.invokevirtual 158, 3) := by decide +kernel
theorem d_header_85 : decode k_header 85 = .ok (.aload_n 0, 1) := by decide +kernel
theorem d_header_86 : decode k_header 86 = .ok (.iload_n 1, 1) := by decide +kernel
theorem d_header_87 : decode k_header 87 = .ok (.invokevirtual 178, 3) := by decide +kernel
theorem d_header_90 : decode k_header 90 = .ok (.if_icmp .eq 5, 3) := by decide +kernel
theorem d_header_93 : decode k_header 93 = .ok (.iconst 0, 1) := by decide +kernel
theorem d_header_94 : decode k_header 94 = .ok (.ireturn, 1) := by decide +kernel
theorem d_header_95 : decode k_header 95 = .ok (.aload_n 0, 1) := by decide +kernel
theorem d_header_96 : decode k_header 96 = .ok (.aload_n 0, 1) := by decide +kernel
theorem d_header_97 : decode k_header 97 = .ok (.iload_n 2, 1) := by decide +kernel
theorem d_header_98 : decode k_header 98 = .ok (.iconst 4, 1) := by decide +kernel
theorem d_header_99 : decode k_header 99 = .ok (.invokevirtual 260, 3) := by decide +kernel
theorem d_header_102 : decode k_header 102 = .ok (.putfield 251, 3) := by decide +kernel
theorem d_header_105 : decode k_header 105 = .ok (.aload_n 0, 1) := by decide +kernel
theorem d_header_106 : decode k_header 106 = .ok (.aload_n 0, 1) := by decide +kernel
theorem d_header_107 : decode k_header 107 = .ok (.iload_n 2, 1) := by decide +kernel
theorem d_header_108 : decode k_header 108 = .ok (.bipush 8, 2) := by decide +kernel
theorem d_header_110 : decode k_header 110 = .ok (.invokevirtual 260, 3) := by decide +kernel
theorem d_header_113 : decode k_header 113 = .ok (.putfield 248, 3) := by decide +kernel
theorem d_header_116 : decode k_header 116 = .ok (.aload_n 0, 1) := by decide +kernel
theorem d_header_117 : decode k_header 117 = .ok (.aload_n 0, 1) := by decide +kernel
theorem d_header_118 : decode k_header 118 = .ok (.iload_n 2, 1) := by decide +kernel
theorem d_header_119 : decode k_header 119 = .ok (.bipush 13, 2) := by decide +kernel
theorem d_header_121 : decode k_header 121 = .ok (.invokevirtual 154, 3) := by decide +kernel
theorem d_header_124 : decode k_header 124 = .ok (.putfield 242, 3) := by decide +kernel
theorem d_header_127 : decode k_header 127 = .ok (.aload_n 0, 1) := by decide +kernel
theorem d_header_128 : decode k_header 128 = .ok (.aload_n 0, 1) := by decide +kernel
theorem d_header_129 : decode k_header 129 = .ok (.iload_n 2, 1) := by decide +kernel
theorem d_header_130 : decode k_header 130 = .ok (.bipush 14, 2) := by decide +kernel
theorem d_header_132 : decode k_header 132 = .ok (.invokevirtual 158, 3) := by decide +kernel
theorem d_header_135 : decode k_header 135 = .ok (.putfield 263, 3) := by decide +kernel
theorem d_header_138 : decode k_header 138 = .ok (.aload_n 0, 1) := by decide +kernel
theorem d_header_139 : decode k_header 139 = .ok (.iload_n 3, 1) := by decide +kernel
theorem d_header_140 : decode k_header 140 = .ok (.putfield 266, 3) := by decide +kernel
theorem d_header_143 : decode k_header 143 = .ok (.aload_n 0, 1) := by decide +kernel
theorem d_header_144 : decode k_header 144 = .ok (.aload_n 0, 1) := by decide +kernel
theorem d_header_145 : decode k_header 145 = .ok (.getfield 18, 3) := by decide +kernel
theorem d_header_148 : decode k_header 148 = .ok (.iload_n 2, 1) := by decide +kernel
theorem d_header_149 : decode k_header 149 = .ok (.iaload, 1) := by decide +kernel
theorem d_header_150 : decode k_header 150 = .ok (.iload_n 3, 1) := by decide +kernel
theorem d_header_151 : decode k_header 151 = .ok (.isub, 1) := by decide +kernel
theorem d_header_152 : decode k_header 152 = .ok (.putfield 245, 3) := by decide +kernel
theorem d_header_155 : decode k_header 155 = .ok (.aload_n 0, 1) := by decide +kernel
theorem d_header_156 : decode k_header 156 = .ok (.sipush 536, 3) := by decide +kernel
theorem d_header_159 : decode k_header 159 = .ok (.putfield 269, 3) := by decide +kernel
theorem d_header_162 : decode k_header 162 = .ok (.aload_n 0, 1) := by decide +kernel
theorem d_header_163 : decode k_header 163 = .ok (.getfield 242, 3) := by decide +kernel
theorem d_header_166 : decode k_header 166 = .ok (.iconst 2, 1) := by decide +kernel
theorem d_header_167 : decode k_header 167 = .ok (.iand, 1) := by decide +kernel
theorem d_header_168 : decode k_header 168 = .ok (.ifCond .eq 9, 3) := by decide +kernel
theorem d_header_171 : decode k_header 171 = .ok (.aload_n 0, 1) := by decide +kernel
theorem d_header_172 : decode k_header 172 = .ok (.iload_n 2, 1) := by decide +kernel
theorem d_header_173 : decode k_header 173 = .ok (.iload_n 3, 1) := by decide +kernel
theorem d_header_174 : decode k_header 174 = .ok (.invokevirtual 272, 3) := by decide +kernel
theorem d_header_177 : decode k_header 177 = .ok (.iconst 1, 1) := by decide +kernel
theorem d_header_178 : decode k_header 178 = .ok (.ireturn, 1) := by decide +kernel
def b_header_177 (ρ : RS) : Option (Int32 × RS) :=
  gd ((1 : Int32) = 0 ∨ (1 : Int32) = 1) (some ((1 : Int32), ρ))
def b_header_93 (ρ : RS) : Option (Int32 × RS) :=
  gd ((0 : Int32) = 0 ∨ (0 : Int32) = 1) (some ((0 : Int32), ρ))
def b_header_54 (ρ : RS) : Option (Int32 × RS) :=
  gd ((0 : Int32) = 0 ∨ (0 : Int32) = 1) (some ((0 : Int32), ρ))
def m_header (v1 : Int32) (v2 : Int32) (ρ : RS) : Option (Int32 × RS) :=
  bd (si ρ 0 52 v2) fun r1 => gd (inb v2 513) <| bd (r1.1 3 v2.toNatClampNeg) fun x2 => if (20 : Int32) ≤ x2 then
  (bc2 (m_here v2 (12 : Int32) r1) fun x4 r3 => bd ((4 : Int32) * (x4 >>> ((4 : Int32) &&& 31))) fun x5 => if x5 < (20 : Int32) then
  (b_header_54  r3)
 else
  (gd (inb v2 513) <| bd (r3.1 3 v2.toNatClampNeg) fun x6 => if x6 < x5 then
  (b_header_54  r3)
 else
  (bc2 (m_sound v2 r3) fun x8 r7 => if x8 = 0 then
  (b_header_54  r7)
 else
  (bd (r7.1 0 4) fun x9 => if x9 = 0 then
  (b_header_93  r7)
 else
  (bc2 (m_two v2 (0 : Int32) r7) fun x11 r10 => bc2 (m_port ((1 : Int32) - v1) r10) fun x13 r12 => if x11 = x13 then
  (bc2 (m_two v2 (2 : Int32) r12) fun x15 r14 => bc2 (m_port v1 r14) fun x17 r16 => if x15 = x17 then
  (bc2 (m_four v2 (4 : Int32) r16) fun x19 r18 => bd (si r18 0 46 x19) fun r20 => bc2 (m_four v2 (8 : Int32) r20) fun x22 r21 => bd (si r21 0 47 x22) fun r23 => bc2 (m_here v2 (13 : Int32) r23) fun x25 r24 => bd (si r24 0 48 x25) fun r26 => bc2 (m_two v2 (14 : Int32) r26) fun x28 r27 => bd (si r27 0 49 x28) fun r29 => bd (si r29 0 50 x5) fun r30 => gd (inb v2 513) <| bd (r30.1 3 v2.toNatClampNeg) fun x31 => bd (si r30 0 51 (x31 - x5)) fun r32 => bd (si r32 0 53 (536 : Int32)) fun r33 => bd (r33.1 0 48) fun x34 => if (x34 &&& (2 : Int32)) = 0 then
  (b_header_177  r33)
 else
  (bc (m_options v2 x5 r33) fun r35 => b_header_177  r35))
 else
  (b_header_93  r16))
 else
  (b_header_93  r12))))))
 else
  (gd ((0 : Int32) = 0 ∨ (0 : Int32) = 1) (some ((0 : Int32), r1)))
section
variable {p : Program} {l : Launch} {e : Env} {s : State} {m : MethodId} {args : Array Value} {below : List Frame} {meth : Method} {c : Code} {D : va_G} {tc : Nat → ClassId} {o : Nat}
theorem t_header_177 (S : RC p m c k_header 4 s args cn_M meth (some .boolean) D tc) (ρ : RS) {B : Int32 × RS} (h : b_header_177  ρ = some B) {ls : Array Slot} {H : Heap} {locs : List Loc} (hl : lv_has ls 4 []) (hW : RWS D tc o s ρ H locs) : W p l e { frames := 3, cells := 0, slots := 0, locals := 70 } s m args below meth c H locs 0 0 (MQ below (RQ D tc o (some (.int B.1)) B.2) args s 0 0 (rreg o)) (F0 m 177 ls []) := by
  have hx := S.1.1
  have hb := S.1.2.1
  unfold b_header_177 at h
  refine lv_iconst (v := 1) hx hb d_header_177 (by decide) ?_
  exact rm_zret S hW d_header_178 h
theorem t_header_93 (S : RC p m c k_header 4 s args cn_M meth (some .boolean) D tc) (ρ : RS) {B : Int32 × RS} (h : b_header_93  ρ = some B) {ls : Array Slot} {H : Heap} {locs : List Loc} (hl : lv_has ls 4 []) (hW : RWS D tc o s ρ H locs) : W p l e { frames := 3, cells := 0, slots := 0, locals := 70 } s m args below meth c H locs 0 0 (MQ below (RQ D tc o (some (.int B.1)) B.2) args s 0 0 (rreg o)) (F0 m 93 ls []) := by
  have hx := S.1.1
  have hb := S.1.2.1
  unfold b_header_93 at h
  refine lv_iconst (v := 0) hx hb d_header_93 (by decide) ?_
  exact rm_zret S hW d_header_94 h
theorem t_header_54 (S : RC p m c k_header 4 s args cn_M meth (some .boolean) D tc) (ρ : RS) {B : Int32 × RS} (h : b_header_54  ρ = some B) {ls : Array Slot} {H : Heap} {locs : List Loc} (hl : lv_has ls 4 []) (hW : RWS D tc o s ρ H locs) : W p l e { frames := 3, cells := 0, slots := 0, locals := 70 } s m args below meth c H locs 0 0 (MQ below (RQ D tc o (some (.int B.1)) B.2) args s 0 0 (rreg o)) (F0 m 54 ls []) := by
  have hx := S.1.1
  have hb := S.1.2.1
  unfold b_header_54 at h
  refine lv_iconst (v := 0) hx hb d_header_54 (by decide) ?_
  exact rm_zret S hW d_header_55 h
theorem t_header_0 (S : RC p m c k_header 4 s args cn_M meth (some .boolean) D tc) (v1 : Int32) (v2 : Int32) (ρ : RS) {B : Int32 × RS} (h : m_header v1 v2 ρ = some B) {ls : Array Slot} {H : Heap} {locs : List Loc} (hl : lv_has ls 4 [(0, .ref o), (1, .int v1), (2, .int v2)]) (hW : RWS D tc o s ρ H locs) : W p l e { frames := 3, cells := 0, slots := 0, locals := 70 } s m args below meth c H locs 0 0 (MQ below (RQ D tc o (some (.int B.1)) B.2) args s 0 0 (rreg o)) (F0 m 0 ls []) := by
  have hx := S.1.1
  have hb := S.1.2.1
  unfold m_header at h
  refine lv_aload_n hx hb d_header_0 rfl (lv_at hl 0 rfl) ?_
  refine lv_iload_n hx hb d_header_1 rfl (lv_at hl 2 rfl) ?_
  refine rm_puti S hW 52 wd_1304 (by decide) d_header_2 h (fun r1 H locs h hW => ?_)
  refine lv_aload_n hx hb d_header_5 rfl (lv_at hl 0 rfl) ?_
  refine rm_geta S hW 7 3 wd_1259 (by decide) d_header_6 ?_
  refine lv_iload_n hx hb d_header_9 rfl (lv_at hl 2 rfl) ?_
  refine rm_iald S hW 3 513 (by decide) d_header_10 h (fun x2 h => ?_)
  refine lv_bipush (v := 20) hx hb d_header_11 (by decide) ?_
  refine rc_ge (tgt := 18) hx hb d_header_13 (by decide) h (fun h => ?_) (fun h => ?_)
  · refine lv_iconst (v := 4) hx hb d_header_18 (by decide) ?_
    refine lv_aload_n hx hb d_header_19 rfl (lv_at hl 0 rfl) ?_
    refine lv_iload_n hx hb d_header_20 rfl (lv_at hl 2 rfl) ?_
    refine lv_bipush (v := 12) hx hb d_header_21 (by decide) ?_
    refine rm_cVi [.int v2, .int (12 : Int32)] S hW (fun x ρ' hc => c_here v2 (12 : Int32) r1 hc) q_here wd_1492 wd_46 wd_1490 (by decide) hl.1 rfl rfl (Nat.le_of_ble_eq_true rfl) d_header_23 h (fun x4 r3 H locs h hW => ?_)
    refine lv_iconst (v := 4) hx hb d_header_26 (by decide) ?_
    refine lv_ishr hx hb d_header_27 ?_
    refine lv_imul hx hb d_header_28 ?_
    refine rv_i h (fun x5 h => ?_)
    refine lv_istore_n (lv' := [(3, .int x5), (0, .ref o), (1, .int v1), (2, .int v2)]) hx hb d_header_29 rfl hl (by decide) rfl (fun ls hl => ?_)
    refine lv_iload_n hx hb d_header_30 rfl (lv_at hl 0 rfl) ?_
    refine lv_bipush (v := 20) hx hb d_header_31 (by decide) ?_
    refine rc_lt (tgt := 54) hx hb d_header_33 (by decide) h (fun h => ?_) (fun h => ?_)
    · exact t_header_54 S  r3 h (lv_sub hl [] rfl) hW
    · refine lv_iload_n hx hb d_header_36 rfl (lv_at hl 0 rfl) ?_
      refine lv_aload_n hx hb d_header_37 rfl (lv_at hl 1 rfl) ?_
      refine rm_geta S hW 7 3 wd_1259 (by decide) d_header_38 ?_
      refine lv_iload_n hx hb d_header_41 rfl (lv_at hl 3 rfl) ?_
      refine rm_iald S hW 3 513 (by decide) d_header_42 h (fun x6 h => ?_)
      refine rc_gt (tgt := 54) hx hb d_header_43 (by decide) h (fun h => ?_) (fun h => ?_)
      · exact t_header_54 S  r3 h (lv_sub hl [] rfl) hW
      · refine lv_aload_n hx hb d_header_46 rfl (lv_at hl 1 rfl) ?_
        refine lv_iload_n hx hb d_header_47 rfl (lv_at hl 3 rfl) ?_
        refine rm_cVi [.int v2] S hW (fun x ρ' hc => c_sound v2 r3 hc) q_sound wd_1575 wd_58 wd_1573 (by decide) hl.1 rfl rfl (Nat.le_of_ble_eq_true rfl) d_header_48 h (fun x8 r7 H locs h hW => ?_)
        refine rb_ne (tgt := 56) hx hb d_header_51 (by decide) h (fun h => ?_) (fun h => ?_)
        · refine lv_aload_n hx hb d_header_56 rfl (lv_at hl 1 rfl) ?_
          refine rm_geti S hW 4 wd_1256 (by decide) d_header_57 h (fun x9 h => ?_)
          refine rb_eq (tgt := 93) hx hb d_header_60 (by decide) h (fun h => ?_) (fun h => ?_)
          · exact t_header_93 S  r7 h (lv_sub hl [] rfl) hW
          · refine lv_aload_n hx hb d_header_63 rfl (lv_at hl 1 rfl) ?_
            refine lv_iload_n hx hb d_header_64 rfl (lv_at hl 3 rfl) ?_
            refine lv_iconst (v := 0) hx hb d_header_65 (by decide) ?_
            refine rm_cVi [.int v2, .int (0 : Int32)] S hW (fun x ρ' hc => c_two v2 (0 : Int32) r7 hc) q_two wd_1579 wd_59 wd_1577 (by decide) hl.1 rfl rfl (Nat.le_of_ble_eq_true rfl) d_header_66 h (fun x11 r10 H locs h hW => ?_)
            refine lv_aload_n hx hb d_header_69 rfl (lv_at hl 1 rfl) ?_
            refine lv_iconst (v := 1) hx hb d_header_70 (by decide) ?_
            refine lv_iload_n hx hb d_header_71 rfl (lv_at hl 2 rfl) ?_
            refine lv_isub hx hb d_header_72 ?_
            refine rm_cVi [.int ((1 : Int32) - v1)] S hW (fun x ρ' hc => c_port ((1 : Int32) - v1) r10 hc) q_port wd_1472 wd_42 wd_1470 (by decide) hl.1 rfl rfl (Nat.le_of_ble_eq_true rfl) d_header_73 h (fun x13 r12 H locs h hW => ?_)
            refine rc_ne (tgt := 93) hx hb d_header_76 (by decide) h (fun h => ?_) (fun h => ?_)
            · exact t_header_93 S  r12 h (lv_sub hl [] rfl) hW
            · refine lv_aload_n hx hb d_header_79 rfl (lv_at hl 1 rfl) ?_
              refine lv_iload_n hx hb d_header_80 rfl (lv_at hl 3 rfl) ?_
              refine lv_iconst (v := 2) hx hb d_header_81 (by decide) ?_
              refine rm_cVi [.int v2, .int (2 : Int32)] S hW (fun x ρ' hc => c_two v2 (2 : Int32) r12 hc) q_two wd_1579 wd_59 wd_1577 (by decide) hl.1 rfl rfl (Nat.le_of_ble_eq_true rfl) d_header_82 h (fun x15 r14 H locs h hW => ?_)
              refine lv_aload_n hx hb d_header_85 rfl (lv_at hl 1 rfl) ?_
              refine lv_iload_n hx hb d_header_86 rfl (lv_at hl 2 rfl) ?_
              refine rm_cVi [.int v1] S hW (fun x ρ' hc => c_port v1 r14 hc) q_port wd_1472 wd_42 wd_1470 (by decide) hl.1 rfl rfl (Nat.le_of_ble_eq_true rfl) d_header_87 h (fun x17 r16 H locs h hW => ?_)
              refine rc_eq (tgt := 95) hx hb d_header_90 (by decide) h (fun h => ?_) (fun h => ?_)
              · refine lv_aload_n hx hb d_header_95 rfl (lv_at hl 1 rfl) ?_
                refine lv_aload_n hx hb d_header_96 rfl (lv_at hl 1 rfl) ?_
                refine lv_iload_n hx hb d_header_97 rfl (lv_at hl 3 rfl) ?_
                refine lv_iconst (v := 4) hx hb d_header_98 (by decide) ?_
                refine rm_cVi [.int v2, .int (4 : Int32)] S hW (fun x ρ' hc => c_four v2 (4 : Int32) r16 hc) q_four wd_1583 wd_60 wd_1581 (by decide) hl.1 rfl rfl (Nat.le_of_ble_eq_true rfl) d_header_99 h (fun x19 r18 H locs h hW => ?_)
                refine rm_puti S hW 46 wd_1298 (by decide) d_header_102 h (fun r20 H locs h hW => ?_)
                refine lv_aload_n hx hb d_header_105 rfl (lv_at hl 1 rfl) ?_
                refine lv_aload_n hx hb d_header_106 rfl (lv_at hl 1 rfl) ?_
                refine lv_iload_n hx hb d_header_107 rfl (lv_at hl 3 rfl) ?_
                refine lv_bipush (v := 8) hx hb d_header_108 (by decide) ?_
                refine rm_cVi [.int v2, .int (8 : Int32)] S hW (fun x ρ' hc => c_four v2 (8 : Int32) r20 hc) q_four wd_1583 wd_60 wd_1581 (by decide) hl.1 rfl rfl (Nat.le_of_ble_eq_true rfl) d_header_110 h (fun x22 r21 H locs h hW => ?_)
                refine rm_puti S hW 47 wd_1299 (by decide) d_header_113 h (fun r23 H locs h hW => ?_)
                refine lv_aload_n hx hb d_header_116 rfl (lv_at hl 1 rfl) ?_
                refine lv_aload_n hx hb d_header_117 rfl (lv_at hl 1 rfl) ?_
                refine lv_iload_n hx hb d_header_118 rfl (lv_at hl 3 rfl) ?_
                refine lv_bipush (v := 13) hx hb d_header_119 (by decide) ?_
                refine rm_cVi [.int v2, .int (13 : Int32)] S hW (fun x ρ' hc => c_here v2 (13 : Int32) r23 hc) q_here wd_1492 wd_46 wd_1490 (by decide) hl.1 rfl rfl (Nat.le_of_ble_eq_true rfl) d_header_121 h (fun x25 r24 H locs h hW => ?_)
                refine rm_puti S hW 48 wd_1300 (by decide) d_header_124 h (fun r26 H locs h hW => ?_)
                refine lv_aload_n hx hb d_header_127 rfl (lv_at hl 1 rfl) ?_
                refine lv_aload_n hx hb d_header_128 rfl (lv_at hl 1 rfl) ?_
                refine lv_iload_n hx hb d_header_129 rfl (lv_at hl 3 rfl) ?_
                refine lv_bipush (v := 14) hx hb d_header_130 (by decide) ?_
                refine rm_cVi [.int v2, .int (14 : Int32)] S hW (fun x ρ' hc => c_two v2 (14 : Int32) r26 hc) q_two wd_1579 wd_59 wd_1577 (by decide) hl.1 rfl rfl (Nat.le_of_ble_eq_true rfl) d_header_132 h (fun x28 r27 H locs h hW => ?_)
                refine rm_puti S hW 49 wd_1301 (by decide) d_header_135 h (fun r29 H locs h hW => ?_)
                refine lv_aload_n hx hb d_header_138 rfl (lv_at hl 1 rfl) ?_
                refine lv_iload_n hx hb d_header_139 rfl (lv_at hl 0 rfl) ?_
                refine rm_puti S hW 50 wd_1302 (by decide) d_header_140 h (fun r30 H locs h hW => ?_)
                refine lv_aload_n hx hb d_header_143 rfl (lv_at hl 1 rfl) ?_
                refine lv_aload_n hx hb d_header_144 rfl (lv_at hl 1 rfl) ?_
                refine rm_geta S hW 7 3 wd_1259 (by decide) d_header_145 ?_
                refine lv_iload_n hx hb d_header_148 rfl (lv_at hl 3 rfl) ?_
                refine rm_iald S hW 3 513 (by decide) d_header_149 h (fun x31 h => ?_)
                refine lv_iload_n hx hb d_header_150 rfl (lv_at hl 0 rfl) ?_
                refine lv_isub hx hb d_header_151 ?_
                refine rm_puti S hW 51 wd_1303 (by decide) d_header_152 h (fun r32 H locs h hW => ?_)
                refine lv_aload_n hx hb d_header_155 rfl (lv_at hl 1 rfl) ?_
                refine lv_sipush (v := 536) hx hb d_header_156 (by decide) ?_
                refine rm_puti S hW 53 wd_1305 (by decide) d_header_159 h (fun r33 H locs h hW => ?_)
                refine lv_aload_n hx hb d_header_162 rfl (lv_at hl 1 rfl) ?_
                refine rm_geti S hW 48 wd_1300 (by decide) d_header_163 h (fun x34 h => ?_)
                refine lv_iconst (v := 2) hx hb d_header_166 (by decide) ?_
                refine lv_iand hx hb d_header_167 ?_
                refine rb_eq (tgt := 177) hx hb d_header_168 (by decide) h (fun h => ?_) (fun h => ?_)
                · exact t_header_177 S  r33 h (lv_sub hl [] rfl) hW
                · refine lv_aload_n hx hb d_header_171 rfl (lv_at hl 1 rfl) ?_
                  refine lv_iload_n hx hb d_header_172 rfl (lv_at hl 3 rfl) ?_
                  refine lv_iload_n hx hb d_header_173 rfl (lv_at hl 0 rfl) ?_
                  refine rm_cVv [.int v2, .int x5] S hW (fun ρ' hc => c_options v2 x5 r33 hc) q_options wd_1587 wd_61 wd_1585 (by decide) hl.1 rfl rfl (Nat.le_of_ble_eq_true rfl) d_header_174 h (fun r35 H locs h hW => ?_)
                  exact t_header_177 S  r35 h (lv_sub hl [] rfl) hW
              · exact t_header_93 S  r16 h (lv_sub hl [] rfl) hW
        · exact t_header_54 S  r7 h (lv_sub hl [] rfl) hW
  · refine lv_iconst (v := 0) hx hb d_header_16 (by decide) ?_
    exact rm_zret S hW d_header_17 h
theorem c_header (v1 : Int32) (v2 : Int32) (ρ : RS) {x : Int32} {ρ' : RS} (h : m_header v1 v2 ρ = some (x, ρ')) : RMet l D tc o y_header k_header 4 (some .boolean) 3 70 [.ref o, .int v1, .int v2] ρ (some (.int x)) ρ' := rm_met (by decide) (Nat.le_of_ble_eq_true rfl) fun p e s m args below meth c S hW ls hl => t_header_0 S v1 v2 ρ h hl hW
end

/-! follow (I)V -/
abbrev k_follow : ByteArray := prog_12_method_31_code
abbrev y_follow : MethodName := ⟨cn_M, "follow", "(I)V"⟩
theorem q_follow : Calee y_follow k_follow 2 none 1 := ⟨wd_1604, wd_90, by decide, by decide +kernel⟩
theorem d_follow_0 : decode k_follow 0 = .ok (.aload_n 0, 1) := by decide +kernel
theorem d_follow_1 : decode k_follow 1 = .ok (.getfield 54, 3) := by decide +kernel
theorem d_follow_4 : decode k_follow 4 = .ok (.iload_n 1, 1) := by decide +kernel
theorem d_follow_5 : decode k_follow 5 = .ok (.aload_n 0, 1) := by decide +kernel
theorem d_follow_6 : decode k_follow 6 = .ok (.getfield 263, 3) := by decide +kernel
theorem d_follow_9 : decode k_follow 9 = .ok (.iastore, 1) := by decide +kernel
theorem d_follow_10 : decode k_follow 10 = .ok (.aload_n 0, 1) := by decide +kernel
theorem d_follow_11 : decode k_follow 11 = .ok (.getfield 57, 3) := by decide +kernel
theorem d_follow_14 : decode k_follow 14 = .ok (.iload_n 1, 1) := by decide +kernel
theorem d_follow_15 : decode k_follow 15 = .ok (.aload_n 0, 1) := by decide +kernel
theorem d_follow_16 : decode k_follow 16 = .ok (.getfield 251, 3) := by decide +kernel
theorem d_follow_19 : decode k_follow 19 = .ok (.iastore, 1) := by decide +kernel
theorem d_follow_20 : decode k_follow 20 = .ok (.aload_n 0, 1) := by decide +kernel
theorem d_follow_21 : decode k_follow 21 = .ok (.getfield 60, 3) := by decide +kernel
theorem d_follow_24 : decode k_follow 24 = .ok (.iload_n 1, 1) := by decide +kernel
theorem d_follow_25 : decode k_follow 25 = .ok (.aload_n 0, 1) := by decide +kernel
theorem d_follow_26 : decode k_follow 26 = .ok (.getfield 248, 3) := by decide +kernel
theorem d_follow_29 : decode k_follow 29 = .ok (.iastore, 1) := by decide +kernel
theorem d_follow_30 : decode k_follow 30 = .ok (.return_, 1) := by decide +kernel
def m_follow (v1 : Int32) (ρ : RS) : Option (RS) :=
  bd (ρ.1 0 49) fun x1 => gd (inb v1 2) <| bd (si ρ 14 v1.toNatClampNeg x1) fun r2 => bd (r2.1 0 46) fun x3 => gd (inb v1 2) <| bd (si r2 15 v1.toNatClampNeg x3) fun r4 => bd (r4.1 0 47) fun x5 => gd (inb v1 2) <| bd (si r4 16 v1.toNatClampNeg x5) fun r6 => some r6
section
variable {p : Program} {l : Launch} {e : Env} {s : State} {m : MethodId} {args : Array Value} {below : List Frame} {meth : Method} {c : Code} {D : va_G} {tc : Nat → ClassId} {o : Nat}
theorem t_follow_0 (S : RC p m c k_follow 2 s args cn_M meth none D tc) (v1 : Int32) (ρ : RS) {B : RS} (h : m_follow v1 ρ = some B) {ls : Array Slot} {H : Heap} {locs : List Loc} (hl : lv_has ls 2 [(0, .ref o), (1, .int v1)]) (hW : RWS D tc o s ρ H locs) : W p l e { frames := 0, cells := 0, slots := 0, locals := 0 } s m args below meth c H locs 0 0 (MQ below (RQ D tc o none B) args s 0 0 (rreg o)) (F0 m 0 ls []) := by
  have hx := S.1.1
  have hb := S.1.2.1
  unfold m_follow at h
  refine lv_aload_n hx hb d_follow_0 rfl (lv_at hl 0 rfl) ?_
  refine rm_geta S hW 19 14 wd_1271 (by decide) d_follow_1 ?_
  refine lv_iload_n hx hb d_follow_4 rfl (lv_at hl 1 rfl) ?_
  refine lv_aload_n hx hb d_follow_5 rfl (lv_at hl 0 rfl) ?_
  refine rm_geti S hW 49 wd_1301 (by decide) d_follow_6 h (fun x1 h => ?_)
  refine rm_iast S hW 14 2 (by decide) d_follow_9 h (fun r2 H locs h hW => ?_)
  refine lv_aload_n hx hb d_follow_10 rfl (lv_at hl 0 rfl) ?_
  refine rm_geta S hW 20 15 wd_1272 (by decide) d_follow_11 ?_
  refine lv_iload_n hx hb d_follow_14 rfl (lv_at hl 1 rfl) ?_
  refine lv_aload_n hx hb d_follow_15 rfl (lv_at hl 0 rfl) ?_
  refine rm_geti S hW 46 wd_1298 (by decide) d_follow_16 h (fun x3 h => ?_)
  refine rm_iast S hW 15 2 (by decide) d_follow_19 h (fun r4 H locs h hW => ?_)
  refine lv_aload_n hx hb d_follow_20 rfl (lv_at hl 0 rfl) ?_
  refine rm_geta S hW 21 16 wd_1273 (by decide) d_follow_21 ?_
  refine lv_iload_n hx hb d_follow_24 rfl (lv_at hl 1 rfl) ?_
  refine lv_aload_n hx hb d_follow_25 rfl (lv_at hl 0 rfl) ?_
  refine rm_geti S hW 47 wd_1299 (by decide) d_follow_26 h (fun x5 h => ?_)
  refine rm_iast S hW 16 2 (by decide) d_follow_29 h (fun r6 H locs h hW => ?_)
  exact rm_vret S hW d_follow_30 h
theorem c_follow (v1 : Int32) (ρ : RS) {B : RS} (h : m_follow v1 ρ = some B) : RMet l D tc o y_follow k_follow 2 none 0 0 [.ref o, .int v1] ρ none B := rm_met (by decide) (Nat.le_of_ble_eq_true rfl) fun p e s m args below meth c S hW ls hl => t_follow_0 S v1 ρ h hl hW
end

/-! known (I)V -/
abbrev k_known : ByteArray := prog_12_method_32_code
abbrev y_known : MethodName := ⟨cn_M, "known", "(I)V"⟩
theorem q_known : Calee y_known k_known 3 none 1 := ⟨wd_1600, wd_90, by decide, by decide +kernel⟩
theorem d_known_0 : decode k_known 0 = .ok (.aload_n 0, 1) := by decide +kernel
theorem d_known_1 : decode k_known 1 = .ok (.getfield 66, 3) := by decide +kernel
theorem d_known_4 : decode k_known 4 = .ok (.iload_n 1, 1) := by decide +kernel
theorem d_known_5 : decode k_known 5 = .ok (.aload_n 0, 1) := by decide +kernel
theorem d_known_6 : decode k_known 6 = .ok (.getfield 251, 3) := by decide +kernel
theorem d_known_9 : decode k_known 9 = .ok (.iconst 1, 1) := by decide +kernel
theorem d_known_10 : decode k_known 10 = .ok (.iadd, 1) := by decide +kernel
theorem d_known_11 : decode k_known 11 = .ok (.iastore, 1) := by decide +kernel
theorem d_known_12 : decode k_known 12 = .ok (.aload_n 0, 1) := by decide +kernel
theorem d_known_13 : decode k_known 13 = .ok (.getfield 69, 3) := by decide +kernel
theorem d_known_16 : decode k_known 16 = .ok (.iload_n 1, 1) := by decide +kernel
theorem d_known_17 : decode k_known 17 = .ok (.aload_n 0, 1) := by decide +kernel
theorem d_known_18 : decode k_known 18 = .ok (.getfield 66, 3) := by decide +kernel
theorem d_known_21 : decode k_known 21 = .ok (.iload_n 1, 1) := by decide +kernel
theorem d_known_22 : decode k_known 22 = .ok (.iaload, 1) := by decide +kernel
theorem d_known_23 : decode k_known 23 = .ok (.iastore, 1) := by decide +kernel
theorem d_known_24 : decode k_known 24 = .ok (.aload_n 0, 1) := by decide +kernel
theorem d_known_25 : decode k_known 25 = .ok (.getfield 269, 3) := by decide +kernel
theorem d_known_28 : decode k_known 28 = .ok (.bipush 64, 2) := by decide +kernel
theorem d_known_30 : decode k_known 30 = .ok (.if_icmp .ge 8, 3) := by decide +kernel
theorem d_known_33 : decode k_known 33 = .ok (.bipush 64, 2) := by decide +kernel
theorem d_known_35 : decode k_known 35 = .ok (.goto 7, 3) := by decide +kernel
theorem d_known_38 : decode k_known 38 = .ok (.aload_n 0, 1) := by decide +kernel
theorem d_known_39 : decode k_known 39 = .ok (.getfield 269, 3) := by decide +kernel
theorem d_known_42 : decode k_known 42 = .ok (.istore_n 2, 1) := by decide +kernel
theorem d_known_43 : decode k_known 43 = .ok (.aload_n 0, 1) := by decide +kernel
theorem d_known_44 : decode k_known 44 = .ok (.getfield 63, 3) := by decide +kernel
theorem d_known_47 : decode k_known 47 = .ok (.iload_n 1, 1) := by decide +kernel
theorem d_known_48 : decode k_known 48 = .ok (.aload_n 0, 1) := by decide +kernel
theorem d_known_49 : decode k_known 49 = .ok (.getfield 36, 3) := by decide +kernel
theorem d_known_52 : decode k_known 52 = .ok (.iload_n 1, 1) := by decide +kernel
theorem d_known_53 : decode k_known 53 = .ok (.iaload, 1) := by decide +kernel
theorem d_known_54 : decode k_known 54 = .ok (.iload_n 2, 1) := by decide +kernel
theorem d_known_55 : decode k_known 55 = .ok (.if_icmp .ge 12, 3) := by decide +kernel
theorem d_known_58 : decode k_known 58 = .ok (.aload_n 0, 1) := by decide +kernel
theorem d_known_59 : decode k_known 59 = .ok (.getfield 36, 3) := by decide +kernel
theorem d_known_62 : decode k_known 62 = .ok (.iload_n 1, 1) := by decide +kernel
theorem d_known_63 : decode k_known 63 = .ok (.iaload, 1) := by decide +kernel
theorem d_known_64 : decode k_known 64 = .ok (.goto 4, 3) := by decide +kernel
theorem d_known_67 : decode k_known 67 = .ok (.iload_n 2, 1) := by decide +kernel
theorem d_known_68 : decode k_known 68 = .ok (.iastore, 1) := by decide +kernel
theorem d_known_69 : decode k_known 69 = .ok (.aload_n 0, 1) := by decide +kernel
theorem d_known_70 : decode k_known 70 = .ok (.getfield 72, 3) := by decide +kernel
theorem d_known_73 : decode k_known 73 = .ok (.iload_n 1, 1) := by decide +kernel
theorem d_known_74 : decode k_known 74 = .ok (.iconst 4, 1) := by decide +kernel
theorem d_known_75 : decode k_known 75 = .ok (.aload_n 0, 1) := by decide +kernel
theorem d_known_76 : decode k_known 76 = .ok (.getfield 63, 3) := by decide +kernel
theorem d_known_79 : decode k_known 79 = .ok (.iload_n 1, 1) := by decide +kernel
theorem d_known_80 : decode k_known 80 = .ok (.iaload, 1) := by decide +kernel
theorem d_known_81 : decode k_known 81 = .ok (.imul, 1) := by decide +kernel
theorem d_known_82 : decode k_known 82 = .ok (.iastore, 1) := by decide +kernel
theorem d_known_83 : decode k_known 83 = .ok (.aload_n 0, 1) := by decide +kernel
theorem d_known_84 : decode k_known 84 = .ok (.iload_n 1, 1) := by decide +kernel
theorem d_known_85 : decode k_known 85 = .ok (.invokevirtual 275, 3) := by decide +kernel
theorem d_known_88 : decode k_known 88 = .ok (.return_, 1) := by decide +kernel
def b_known_68 (v1 : Int32) (w1 : Int32) (w2 : Int32) (ρ : RS) : Option (RS) :=
  gd (inb w1 2) <| bd (si ρ 17 w1.toNatClampNeg w2) fun r1 => gd (inb v1 2) <| bd (r1.1 17 v1.toNatClampNeg) fun x2 => gd (inb v1 2) <| bd (si r1 20 v1.toNatClampNeg ((4 : Int32) * x2)) fun r3 => bc (m_follow v1 r3) fun r4 => some r4
def b_known_42 (v1 : Int32) (w0 : Int32) (ρ : RS) : Option (RS) :=
  gd (inb v1 2) <| bd (ρ.1 8 v1.toNatClampNeg) fun x1 => if w0 ≤ x1 then
  (b_known_68 v1 v1 w0 ρ)
 else
  (gd (inb v1 2) <| bd (ρ.1 8 v1.toNatClampNeg) fun x2 => b_known_68 v1 v1 x2 ρ)
def m_known (v1 : Int32) (ρ : RS) : Option (RS) :=
  bd (ρ.1 0 46) fun x1 => gd (inb v1 2) <| bd (si ρ 18 v1.toNatClampNeg (x1 + (1 : Int32))) fun r2 => gd (inb v1 2) <| bd (r2.1 18 v1.toNatClampNeg) fun x3 => gd (inb v1 2) <| bd (si r2 19 v1.toNatClampNeg x3) fun r4 => bd (r4.1 0 53) fun x5 => if (64 : Int32) ≤ x5 then
  (bd (r4.1 0 53) fun x6 => b_known_42 v1 x6 r4)
 else
  (b_known_42 v1 (64 : Int32) r4)
section
variable {p : Program} {l : Launch} {e : Env} {s : State} {m : MethodId} {args : Array Value} {below : List Frame} {meth : Method} {c : Code} {D : va_G} {tc : Nat → ClassId} {o : Nat}
theorem t_known_68 (S : RC p m c k_known 3 s args cn_M meth none D tc) (v1 : Int32) (w1 : Int32) (w2 : Int32) (ρ : RS) {B : RS} (h : b_known_68 v1 w1 w2 ρ = some B) {ls : Array Slot} {H : Heap} {locs : List Loc} (hl : lv_has ls 3 [(0, .ref o), (1, .int v1)]) (hW : RWS D tc o s ρ H locs) : W p l e { frames := 1, cells := 0, slots := 0, locals := 21 } s m args below meth c H locs 0 0 (MQ below (RQ D tc o none B) args s 0 0 (rreg o)) (F0 m 68 ls [.int w2, .int w1, .ref (o + 17)]) := by
  have hx := S.1.1
  have hb := S.1.2.1
  unfold b_known_68 at h
  refine rm_iast S hW 17 2 (by decide) d_known_68 h (fun r1 H locs h hW => ?_)
  refine lv_aload_n hx hb d_known_69 rfl (lv_at hl 0 rfl) ?_
  refine rm_geta S hW 25 20 wd_1277 (by decide) d_known_70 ?_
  refine lv_iload_n hx hb d_known_73 rfl (lv_at hl 1 rfl) ?_
  refine lv_iconst (v := 4) hx hb d_known_74 (by decide) ?_
  refine lv_aload_n hx hb d_known_75 rfl (lv_at hl 0 rfl) ?_
  refine rm_geta S hW 22 17 wd_1274 (by decide) d_known_76 ?_
  refine lv_iload_n hx hb d_known_79 rfl (lv_at hl 1 rfl) ?_
  refine rm_iald S hW 17 2 (by decide) d_known_80 h (fun x2 h => ?_)
  refine lv_imul hx hb d_known_81 ?_
  refine rm_iast S hW 20 2 (by decide) d_known_82 h (fun r3 H locs h hW => ?_)
  refine lv_aload_n hx hb d_known_83 rfl (lv_at hl 0 rfl) ?_
  refine lv_iload_n hx hb d_known_84 rfl (lv_at hl 1 rfl) ?_
  refine rm_cVv [.int v1] S hW (fun ρ' hc => c_follow v1 r3 hc) q_follow wd_1603 wd_65 wd_1601 (by decide) hl.1 rfl rfl (Nat.le_of_ble_eq_true rfl) d_known_85 h (fun r4 H locs h hW => ?_)
  exact rm_vret S hW d_known_88 h
theorem t_known_42 (S : RC p m c k_known 3 s args cn_M meth none D tc) (v1 : Int32) (w0 : Int32) (ρ : RS) {B : RS} (h : b_known_42 v1 w0 ρ = some B) {ls : Array Slot} {H : Heap} {locs : List Loc} (hl : lv_has ls 3 [(0, .ref o), (1, .int v1)]) (hW : RWS D tc o s ρ H locs) : W p l e { frames := 1, cells := 0, slots := 0, locals := 21 } s m args below meth c H locs 0 0 (MQ below (RQ D tc o none B) args s 0 0 (rreg o)) (F0 m 42 ls [.int w0]) := by
  have hx := S.1.1
  have hb := S.1.2.1
  unfold b_known_42 at h
  refine lv_istore_n (lv' := [(2, .int w0), (0, .ref o), (1, .int v1)]) hx hb d_known_42 rfl hl (by decide) rfl (fun ls hl => ?_)
  refine lv_aload_n hx hb d_known_43 rfl (lv_at hl 1 rfl) ?_
  refine rm_geta S hW 22 17 wd_1274 (by decide) d_known_44 ?_
  refine lv_iload_n hx hb d_known_47 rfl (lv_at hl 2 rfl) ?_
  refine lv_aload_n hx hb d_known_48 rfl (lv_at hl 1 rfl) ?_
  refine rm_geta S hW 13 8 wd_1265 (by decide) d_known_49 ?_
  refine lv_iload_n hx hb d_known_52 rfl (lv_at hl 2 rfl) ?_
  refine rm_iald S hW 8 2 (by decide) d_known_53 h (fun x1 h => ?_)
  refine lv_iload_n hx hb d_known_54 rfl (lv_at hl 0 rfl) ?_
  refine rc_ge (tgt := 67) hx hb d_known_55 (by decide) h (fun h => ?_) (fun h => ?_)
  · refine lv_iload_n hx hb d_known_67 rfl (lv_at hl 0 rfl) ?_
    exact t_known_68 S v1 v1 w0 ρ h (lv_sub hl [1, 2] rfl) hW
  · refine lv_aload_n hx hb d_known_58 rfl (lv_at hl 1 rfl) ?_
    refine rm_geta S hW 13 8 wd_1265 (by decide) d_known_59 ?_
    refine lv_iload_n hx hb d_known_62 rfl (lv_at hl 2 rfl) ?_
    refine rm_iald S hW 8 2 (by decide) d_known_63 h (fun x2 h => ?_)
    refine lv_goto (tgt := 68) hx hb d_known_64 (by decide) ?_
    exact t_known_68 S v1 v1 x2 ρ h (lv_sub hl [1, 2] rfl) hW
theorem t_known_0 (S : RC p m c k_known 3 s args cn_M meth none D tc) (v1 : Int32) (ρ : RS) {B : RS} (h : m_known v1 ρ = some B) {ls : Array Slot} {H : Heap} {locs : List Loc} (hl : lv_has ls 3 [(0, .ref o), (1, .int v1)]) (hW : RWS D tc o s ρ H locs) : W p l e { frames := 1, cells := 0, slots := 0, locals := 21 } s m args below meth c H locs 0 0 (MQ below (RQ D tc o none B) args s 0 0 (rreg o)) (F0 m 0 ls []) := by
  have hx := S.1.1
  have hb := S.1.2.1
  unfold m_known at h
  refine lv_aload_n hx hb d_known_0 rfl (lv_at hl 0 rfl) ?_
  refine rm_geta S hW 23 18 wd_1275 (by decide) d_known_1 ?_
  refine lv_iload_n hx hb d_known_4 rfl (lv_at hl 1 rfl) ?_
  refine lv_aload_n hx hb d_known_5 rfl (lv_at hl 0 rfl) ?_
  refine rm_geti S hW 46 wd_1298 (by decide) d_known_6 h (fun x1 h => ?_)
  refine lv_iconst (v := 1) hx hb d_known_9 (by decide) ?_
  refine lv_iadd hx hb d_known_10 ?_
  refine rm_iast S hW 18 2 (by decide) d_known_11 h (fun r2 H locs h hW => ?_)
  refine lv_aload_n hx hb d_known_12 rfl (lv_at hl 0 rfl) ?_
  refine rm_geta S hW 24 19 wd_1276 (by decide) d_known_13 ?_
  refine lv_iload_n hx hb d_known_16 rfl (lv_at hl 1 rfl) ?_
  refine lv_aload_n hx hb d_known_17 rfl (lv_at hl 0 rfl) ?_
  refine rm_geta S hW 23 18 wd_1275 (by decide) d_known_18 ?_
  refine lv_iload_n hx hb d_known_21 rfl (lv_at hl 1 rfl) ?_
  refine rm_iald S hW 18 2 (by decide) d_known_22 h (fun x3 h => ?_)
  refine rm_iast S hW 19 2 (by decide) d_known_23 h (fun r4 H locs h hW => ?_)
  refine lv_aload_n hx hb d_known_24 rfl (lv_at hl 0 rfl) ?_
  refine rm_geti S hW 53 wd_1305 (by decide) d_known_25 h (fun x5 h => ?_)
  refine lv_bipush (v := 64) hx hb d_known_28 (by decide) ?_
  refine rc_ge (tgt := 38) hx hb d_known_30 (by decide) h (fun h => ?_) (fun h => ?_)
  · refine lv_aload_n hx hb d_known_38 rfl (lv_at hl 0 rfl) ?_
    refine rm_geti S hW 53 wd_1305 (by decide) d_known_39 h (fun x6 h => ?_)
    exact t_known_42 S v1 x6 r4 h (lv_sub hl [0, 1] rfl) hW
  · refine lv_bipush (v := 64) hx hb d_known_33 (by decide) ?_
    refine lv_goto (tgt := 42) hx hb d_known_35 (by decide) ?_
    exact t_known_42 S v1 (64 : Int32) r4 h (lv_sub hl [0, 1] rfl) hW
theorem c_known (v1 : Int32) (ρ : RS) {B : RS} (h : m_known v1 ρ = some B) : RMet l D tc o y_known k_known 3 none 1 21 [.ref o, .int v1] ρ none B := rm_met (by decide) (Nat.le_of_ble_eq_true rfl) fun p e s m args below meth c S hW ls hl => t_known_0 S v1 ρ h hl hW
end

/-! listened (I)V -/
abbrev k_listened : ByteArray := prog_12_method_33_code
abbrev y_listened : MethodName := ⟨cn_M, "listened", "(I)V"⟩
theorem q_listened : Calee y_listened k_listened 2 none 1 := ⟨wd_1596, wd_90, by decide, by decide +kernel⟩
theorem d_listened_0 : decode k_listened 0 = .ok (.aload_n 0, 1) := by decide +kernel
theorem d_listened_1 : decode k_listened 1 = .ok (.getfield 242, 3) := by decide +kernel
theorem d_listened_4 : decode k_listened 4 = .ok (.iconst 4, 1) := by decide +kernel
theorem d_listened_5 : decode k_listened 5 = .ok (.iand, 1) := by decide +kernel
theorem d_listened_6 : decode k_listened 6 = .ok (.ifCond .eq 4, 3) := by decide +kernel
theorem d_listened_9 : decode k_listened 9 = .ok (.return_, 1) := by decide +kernel
theorem d_listened_10 : decode k_listened 10 = .ok (.aload_n 0, 1) := by decide +kernel
theorem d_listened_11 : decode k_listened 11 = .ok (.getfield 242, 3) := by decide +kernel
theorem d_listened_14 : decode k_listened 14 = .ok (.bipush 16, 2) := by decide +kernel
theorem d_listened_16 : decode k_listened 16 = .ok (.iand, 1) := by decide +kernel
theorem d_listened_17 : decode k_listened 17 = .ok (.ifCond .eq 9, 3) := by decide +kernel
theorem d_listened_20 : decode k_listened 20 = .ok (.aload_n 0, 1) := by decide +kernel
theorem d_listened_21 : decode k_listened 21 = .ok (.iload_n 1, 1) := by decide +kernel
theorem d_listened_22 : decode k_listened 22 = .ok (.invokevirtual 278, 3) := by decide +kernel
theorem d_listened_25 : decode k_listened 25 = .ok (.return_, 1) := by decide +kernel
theorem d_listened_26 : decode k_listened 26 = .ok (.aload_n 0, 1) := by decide +kernel
theorem d_listened_27 : decode k_listened 27 = .ok (.getfield 242, 3) := by decide +kernel
theorem d_listened_30 : decode k_listened 30 = .ok (.iconst 2, 1) := by decide +kernel
theorem d_listened_31 : decode k_listened 31 = .ok (.iand, 1) := by decide +kernel
theorem d_listened_32 : decode k_listened 32 = .ok (.ifCond .ne 4, 3) := by decide +kernel
theorem d_listened_35 : decode k_listened 35 = .ok (.return_, 1) := by decide +kernel
theorem d_listened_36 : decode k_listened 36 = .ok (.aload_n 0, 1) := by decide +kernel
theorem d_listened_37 : decode k_listened 37 = .ok (.iload_n 1, 1) := by decide +kernel
theorem d_listened_38 : decode k_listened 38 = .ok (.invokevirtual 281, 3) := by decide +kernel
theorem d_listened_41 : decode k_listened 41 = .ok (.aload_n 0, 1) := by decide +kernel
theorem d_listened_42 : decode k_listened 42 = .ok (.getfield 39, 3) := by decide +kernel
theorem d_listened_45 : decode k_listened 45 = .ok (.iload_n 1, 1) := by decide +kernel
theorem d_listened_46 : decode k_listened 46 = .ok (.iconst 3, 1) := by decide +kernel
theorem d_listened_47 : decode k_listened 47 = .ok (.iastore, 1) := by decide +kernel
theorem d_listened_48 : decode k_listened 48 = .ok (.aload_n 0, 1) := by decide +kernel
theorem d_listened_49 : decode k_listened 49 = .ok (.iload_n 1, 1) := by decide +kernel
theorem d_listened_50 : decode k_listened 50 = .ok (.iconst 2, 1) := by decide +kernel
theorem d_listened_51 : decode k_listened 51 = .ok (.aload_n 0, 1) := by decide +kernel
theorem d_listened_52 : decode k_listened 52 = .ok (.getfield 42, 3) := by decide +kernel
theorem d_listened_55 : decode k_listened 55 = .ok (.iload_n 1, 1) := by decide +kernel
theorem d_listened_56 : decode k_listened 56 = .ok (.iaload, 1) := by decide +kernel
theorem d_listened_57 : decode k_listened 57 = .ok (.iconst 0, 1) := by decide +kernel
theorem d_listened_58 : decode k_listened 58 = .ok (.iconst 0, 1) := by decide +kernel
theorem d_listened_59 : decode k_listened 59 = .ok (.invokevirtual 205, 3) := by decide +kernel
theorem d_listened_62 : decode k_listened 62 = .ok (.aload_n 0, 1) := by decide +kernel
theorem d_listened_63 : decode k_listened 63 = .ok (.getfield 48, 3) := by decide +kernel
theorem d_listened_66 : decode k_listened 66 = .ok (.iload_n 1, 1) := by decide +kernel
theorem d_listened_67 : decode k_listened 67 = .ok (.aload_n 0, 1) := by decide +kernel
theorem d_listened_68 : decode k_listened 68 = .ok (.getfield 42, 3) := by decide +kernel
theorem d_listened_71 : decode k_listened 71 = .ok (.iload_n 1, 1) := by decide +kernel
theorem d_listened_72 : decode k_listened 72 = .ok (.iaload, 1) := by decide +kernel
theorem d_listened_73 : decode k_listened 73 = .ok (.iconst 1, 1) := by decide +kernel
theorem d_listened_74 : decode k_listened 74 = .ok (.iadd, 1) := by decide +kernel
theorem d_listened_75 : decode k_listened 75 = .ok (.iastore, 1) := by decide +kernel
theorem d_listened_76 : decode k_listened 76 = .ok (.aload_n 0, 1) := by decide +kernel
theorem d_listened_77 : decode k_listened 77 = .ok (.getfield 113, 3) := by decide +kernel
theorem d_listened_80 : decode k_listened 80 = .ok (.iload_n 1, 1) := by decide +kernel
theorem d_listened_81 : decode k_listened 81 = .ok (.aload_n 0, 1) := by decide +kernel
theorem d_listened_82 : decode k_listened 82 = .ok (.getfield 201, 3) := by decide +kernel
theorem d_listened_85 : decode k_listened 85 = .ok (.aload_n 0, 1) := by decide +kernel
theorem d_listened_86 : decode k_listened 86 = .ok (.getfield 81, 3) := by decide +kernel
theorem d_listened_89 : decode k_listened 89 = .ok (.iload_n 1, 1) := by decide +kernel
theorem d_listened_90 : decode k_listened 90 = .ok (.iaload, 1) := by decide +kernel
theorem d_listened_91 : decode k_listened 91 = .ok (.i2l, 1) := by decide +kernel
theorem d_listened_92 : decode k_listened 92 = .ok (.ladd, 1) := by decide +kernel
theorem d_listened_93 : decode k_listened 93 = .ok (.lastore, 1) := by decide +kernel
theorem d_listened_94 : decode k_listened 94 = .ok (.return_, 1) := by decide +kernel
def m_listened (v1 : Int32) (ρ : RS) : Option (RS) :=
  bd (ρ.1 0 48) fun x1 => if (x1 &&& (4 : Int32)) = 0 then
  (bd (ρ.1 0 48) fun x2 => if (x2 &&& (16 : Int32)) = 0 then
  (bd (ρ.1 0 48) fun x3 => if (x3 &&& (2 : Int32)) = 0 then
  (some ρ)
 else
  (bc (m_known v1 ρ) fun r4 => gd (inb v1 2) <| bd (si r4 9 v1.toNatClampNeg (3 : Int32)) fun r5 => gd (inb v1 2) <| bd (r5.1 10 v1.toNatClampNeg) fun x6 => bc (m_send v1 (2 : Int32) x6 (0 : Int32) (0 : Int32) r5) fun r7 => gd (inb v1 2) <| bd (r7.1 10 v1.toNatClampNeg) fun x8 => gd (inb v1 2) <| bd (si r7 12 v1.toNatClampNeg (x8 + (1 : Int32))) fun r9 => bd (r9.2 0 3) fun x10 => gd (inb v1 2) <| bd (r9.1 23 v1.toNatClampNeg) fun x11 => gd (inb v1 2) <| bd (sl r9 33 v1.toNatClampNeg (x10 + (x11.toInt64))) fun r12 => some r12))
 else
  (bc (m_answer v1 ρ) fun r13 => some r13))
 else
  (some ρ)
section
variable {p : Program} {l : Launch} {e : Env} {s : State} {m : MethodId} {args : Array Value} {below : List Frame} {meth : Method} {c : Code} {D : va_G} {tc : Nat → ClassId} {o : Nat}
theorem t_listened_0 (S : RC p m c k_listened 2 s args cn_M meth none D tc) (v1 : Int32) (ρ : RS) {B : RS} (h : m_listened v1 ρ = some B) {ls : Array Slot} {H : Heap} {locs : List Loc} (hl : lv_has ls 2 [(0, .ref o), (1, .int v1)]) (hW : RWS D tc o s ρ H locs) : W p l e { frames := 4, cells := 0, slots := 0, locals := 103 } s m args below meth c H locs 0 0 (MQ below (RQ D tc o none B) args s 0 0 (rreg o)) (F0 m 0 ls []) := by
  have hx := S.1.1
  have hb := S.1.2.1
  unfold m_listened at h
  refine lv_aload_n hx hb d_listened_0 rfl (lv_at hl 0 rfl) ?_
  refine rm_geti S hW 48 wd_1300 (by decide) d_listened_1 h (fun x1 h => ?_)
  refine lv_iconst (v := 4) hx hb d_listened_4 (by decide) ?_
  refine lv_iand hx hb d_listened_5 ?_
  refine rb_eq (tgt := 10) hx hb d_listened_6 (by decide) h (fun h => ?_) (fun h => ?_)
  · refine lv_aload_n hx hb d_listened_10 rfl (lv_at hl 0 rfl) ?_
    refine rm_geti S hW 48 wd_1300 (by decide) d_listened_11 h (fun x2 h => ?_)
    refine lv_bipush (v := 16) hx hb d_listened_14 (by decide) ?_
    refine lv_iand hx hb d_listened_16 ?_
    refine rb_eq (tgt := 26) hx hb d_listened_17 (by decide) h (fun h => ?_) (fun h => ?_)
    · refine lv_aload_n hx hb d_listened_26 rfl (lv_at hl 0 rfl) ?_
      refine rm_geti S hW 48 wd_1300 (by decide) d_listened_27 h (fun x3 h => ?_)
      refine lv_iconst (v := 2) hx hb d_listened_30 (by decide) ?_
      refine lv_iand hx hb d_listened_31 ?_
      refine rb_ne (tgt := 36) hx hb d_listened_32 (by decide) h (fun h => ?_) (fun h => ?_)
      · refine lv_aload_n hx hb d_listened_36 rfl (lv_at hl 0 rfl) ?_
        refine lv_iload_n hx hb d_listened_37 rfl (lv_at hl 1 rfl) ?_
        refine rm_cVv [.int v1] S hW (fun ρ' hc => c_known v1 ρ hc) q_known wd_1599 wd_64 wd_1597 (by decide) hl.1 rfl rfl (Nat.le_of_ble_eq_true rfl) d_listened_38 h (fun r4 H locs h hW => ?_)
        refine lv_aload_n hx hb d_listened_41 rfl (lv_at hl 0 rfl) ?_
        refine rm_geta S hW 14 9 wd_1266 (by decide) d_listened_42 ?_
        refine lv_iload_n hx hb d_listened_45 rfl (lv_at hl 1 rfl) ?_
        refine lv_iconst (v := 3) hx hb d_listened_46 (by decide) ?_
        refine rm_iast S hW 9 2 (by decide) d_listened_47 h (fun r5 H locs h hW => ?_)
        refine lv_aload_n hx hb d_listened_48 rfl (lv_at hl 0 rfl) ?_
        refine lv_iload_n hx hb d_listened_49 rfl (lv_at hl 1 rfl) ?_
        refine lv_iconst (v := 2) hx hb d_listened_50 (by decide) ?_
        refine lv_aload_n hx hb d_listened_51 rfl (lv_at hl 0 rfl) ?_
        refine rm_geta S hW 15 10 wd_1267 (by decide) d_listened_52 ?_
        refine lv_iload_n hx hb d_listened_55 rfl (lv_at hl 1 rfl) ?_
        refine rm_iald S hW 10 2 (by decide) d_listened_56 h (fun x6 h => ?_)
        refine lv_iconst (v := 0) hx hb d_listened_57 (by decide) ?_
        refine lv_iconst (v := 0) hx hb d_listened_58 (by decide) ?_
        refine rm_cVv [.int v1, .int (2 : Int32), .int x6, .int (0 : Int32), .int (0 : Int32)] S hW (fun ρ' hc => c_send v1 (2 : Int32) x6 (0 : Int32) (0 : Int32) r5 hc) q_send wd_1449 wd_37 wd_1447 (by decide) hl.1 rfl rfl (Nat.le_of_ble_eq_true rfl) d_listened_59 h (fun r7 H locs h hW => ?_)
        refine lv_aload_n hx hb d_listened_62 rfl (lv_at hl 0 rfl) ?_
        refine rm_geta S hW 17 12 wd_1269 (by decide) d_listened_63 ?_
        refine lv_iload_n hx hb d_listened_66 rfl (lv_at hl 1 rfl) ?_
        refine lv_aload_n hx hb d_listened_67 rfl (lv_at hl 0 rfl) ?_
        refine rm_geta S hW 15 10 wd_1267 (by decide) d_listened_68 ?_
        refine lv_iload_n hx hb d_listened_71 rfl (lv_at hl 1 rfl) ?_
        refine rm_iald S hW 10 2 (by decide) d_listened_72 h (fun x8 h => ?_)
        refine lv_iconst (v := 1) hx hb d_listened_73 (by decide) ?_
        refine lv_iadd hx hb d_listened_74 ?_
        refine rm_iast S hW 12 2 (by decide) d_listened_75 h (fun r9 H locs h hW => ?_)
        refine lv_aload_n hx hb d_listened_76 rfl (lv_at hl 0 rfl) ?_
        refine rm_geta S hW 38 33 wd_1290 (by decide) d_listened_77 ?_
        refine lv_iload_n hx hb d_listened_80 rfl (lv_at hl 1 rfl) ?_
        refine lv_aload_n hx hb d_listened_81 rfl (lv_at hl 0 rfl) ?_
        refine rm_getl S hW 3 wd_1255 (by decide) d_listened_82 h (fun x10 h => ?_)
        refine lv_aload_n hx hb d_listened_85 rfl (lv_at hl 0 rfl) ?_
        refine rm_geta S hW 28 23 wd_1280 (by decide) d_listened_86 ?_
        refine lv_iload_n hx hb d_listened_89 rfl (lv_at hl 1 rfl) ?_
        refine rm_iald S hW 23 2 (by decide) d_listened_90 h (fun x11 h => ?_)
        refine lv_i2l hx hb d_listened_91 rfl ?_
        refine lv_ladd hx hb d_listened_92 ?_
        refine rm_last S hW 33 2 (by decide) d_listened_93 h (fun r12 H locs h hW => ?_)
        exact rm_vret S hW d_listened_94 h
      · exact rm_vret S hW d_listened_35 h
    · refine lv_aload_n hx hb d_listened_20 rfl (lv_at hl 0 rfl) ?_
      refine lv_iload_n hx hb d_listened_21 rfl (lv_at hl 1 rfl) ?_
      refine rm_cVv [.int v1] S hW (fun ρ' hc => c_answer v1 ρ hc) q_answer wd_1591 wd_62 wd_1589 (by decide) hl.1 rfl rfl (Nat.le_of_ble_eq_true rfl) d_listened_22 h (fun r13 H locs h hW => ?_)
      exact rm_vret S hW d_listened_25 h
  · exact rm_vret S hW d_listened_9 h
theorem c_listened (v1 : Int32) (ρ : RS) {B : RS} (h : m_listened v1 ρ = some B) : RMet l D tc o y_listened k_listened 2 none 4 103 [.ref o, .int v1] ρ none B := rm_met (by decide) (Nat.le_of_ble_eq_true rfl) fun p e s m args below meth c S hW ls hl => t_listened_0 S v1 ρ h hl hW
end

/-! called (I)V -/
abbrev k_called : ByteArray := prog_12_method_34_code
abbrev y_called : MethodName := ⟨cn_M, "called", "(I)V"⟩
theorem q_called : Calee y_called k_called 4 none 1 := ⟨wd_1608, wd_90, by decide, by decide +kernel⟩
theorem d_called_0 : decode k_called 0 = .ok (.aload_n 0, 1) := by decide +kernel
theorem d_called_1 : decode k_called 1 = .ok (.getfield 242, 3) := by decide +kernel
theorem d_called_4 : decode k_called 4 = .ok (.bipush 16, 2) := by decide +kernel
theorem d_called_6 : decode k_called 6 = .ok (.iand, 1) := by decide +kernel
theorem d_called_7 : decode k_called 7 = .ok (.ifCond .eq 7, 3) := by decide +kernel
theorem d_called_10 : decode k_called 10 = .ok (.iconst 1, 1) := by decide +kernel
theorem d_called_11 : decode k_called 11 = .ok (.goto 4, 3) := by decide +kernel
theorem d_called_14 : decode k_called 14 = .ok (.iconst 0, 1) := by decide +kernel
theorem d_called_15 : decode k_called 15 = .ok (.istore_n 2, 1) := by decide +kernel
theorem d_called_16 : decode k_called 16 = .ok (.aload_n 0, 1) := by decide +kernel
theorem d_called_17 : decode k_called 17 = .ok (.getfield 242, 3) := by decide +kernel
theorem d_called_20 : decode k_called 20 = .ok (.iconst 4, 1) := by decide +kernel
theorem d_called_21 : decode k_called 21 = .ok (.iand, 1) := by decide +kernel
theorem d_called_22 : decode k_called 22 = .ok (.ifCond .eq 7, 3) := by decide +kernel
theorem d_called_25 : decode k_called 25 = .ok (.iconst 1, 1) := by decide +kernel
theorem d_called_26 : decode k_called 26 = .ok (.goto 4, 3) := by decide +kernel
theorem d_called_29 : decode k_called 29 = .ok (.iconst 0, 1) := by decide +kernel
theorem d_called_30 : decode k_called 30 = .ok (.istore_n 3, 1) := by decide +kernel
theorem d_called_31 : decode k_called 31 = .ok (.iload_n 2, 1) := by decide +kernel
theorem d_called_32 : decode k_called 32 = .ok (.ifCond .eq 28, 3) := by decide +kernel
theorem d_called_35 : decode k_called 35 = .ok (.aload_n 0, 1) := by decide +kernel
theorem d_called_36 : decode k_called 36 = .ok (.getfield 248, 3) := by decide +kernel
theorem d_called_39 : decode k_called 39 = .ok (.aload_n 0, 1) := by decide +kernel
theorem d_called_40 : decode k_called 40 = .ok (.getfield 42, 3) := by decide +kernel
theorem d_called_43 : decode k_called 43 = .ok (.iload_n 1, 1) := by decide +kernel
theorem d_called_44 : decode k_called 44 = .ok (.iaload, 1) := by decide +kernel
theorem d_called_45 : decode k_called 45 = .ok (.iconst 1, 1) := by decide +kernel
theorem d_called_46 : decode k_called 46 = .ok (.iadd, 1) := by decide +kernel
theorem d_called_47 : decode k_called 47 = .ok (.if_icmp .eq 13, 3) := by decide +kernel
theorem d_called_50 : decode k_called 50 = .ok (.iload_n 3, 1) := by decide +kernel
theorem d_called_51 : decode k_called 51 = .ok (.ifCond .ne 8, 3) := by decide +kernel
theorem d_called_54 : decode k_called 54 = .ok (.aload_n 0, 1) := by decide +kernel
theorem d_called_55 : decode k_called 55 = .ok (.iload_n 1, 1) := by decide +kernel
theorem d_called_56 : decode k_called 56 = .ok (.invokevirtual 278, 3) := by decide +kernel
theorem d_called_59 : decode k_called 59 = .ok (.return_, 1) := by decide +kernel
theorem d_called_60 : decode k_called 60 = .ok (.iload_n 3, 1) := by decide +kernel
theorem d_called_61 : decode k_called 61 = .ok (.ifCond .eq 14, 3) := by decide +kernel
theorem d_called_64 : decode k_called 64 = .ok (.iload_n 2, 1) := by decide +kernel
theorem d_called_65 : decode k_called 65 = .ok (.ifCond .eq 9, 3) := by decide +kernel
theorem d_called_68 : decode k_called 68 = .ok (.aload_n 0, 1) := by decide +kernel
theorem d_called_69 : decode k_called 69 = .ok (.iload_n 1, 1) := by decide +kernel
theorem d_called_70 : decode k_called 70 = .ok (.iconst 1, 1) := by decide +kernel
theorem d_called_71 : decode k_called 71 = .ok (.invokevirtual 218, 3) := by decide +kernel
theorem d_called_74 : decode k_called 74 = .ok (.return_, 1) := by decide +kernel
theorem d_called_75 : decode k_called 75 = .ok (.iload_n 2, 1) := by decide +kernel
theorem d_called_76 : decode k_called 76 = .ok (.ifCond .eq 12, 3) := by decide +kernel
theorem d_called_79 : decode k_called 79 = .ok (.aload_n 0, 1) := by decide +kernel
theorem d_called_80 : decode k_called 80 = .ok (.getfield 242, 3) := by decide +kernel
theorem d_called_83 : decode k_called 83 = .ok (.iconst 2, 1) := by decide +kernel
theorem d_called_84 : decode k_called 84 = .ok (.iand, 1) := by decide +kernel
theorem d_called_85 : decode k_called 85 = .ok (.ifCond .ne 4, 3) := by decide +kernel
theorem d_called_88 : decode k_called 88 = .ok (.return_, 1) := by decide +kernel
theorem d_called_89 : decode k_called 89 = .ok (.aload_n 0, 1) := by decide +kernel
theorem d_called_90 : decode k_called 90 = .ok (.getfield 45, 3) := by decide +kernel
theorem d_called_93 : decode k_called 93 = .ok (.iload_n 1, 1) := by decide +kernel
theorem d_called_94 : decode k_called 94 = .ok (.aload_n 0, 1) := by decide +kernel
theorem d_called_95 : decode k_called 95 = .ok (.getfield 248, 3) := by decide +kernel
theorem d_called_98 : decode k_called 98 = .ok (.iastore, 1) := by decide +kernel
theorem d_called_99 : decode k_called 99 = .ok (.aload_n 0, 1) := by decide +kernel
theorem d_called_100 : decode k_called 100 = .ok (.iload_n 1, 1) := by decide +kernel
theorem d_called_101 : decode k_called 101 = .ok (.invokevirtual 281, 3) := by decide +kernel
theorem d_called_104 : decode k_called 104 = .ok (.aload_n 0, 1) := by decide +kernel
theorem d_called_105 : decode k_called 105 = .ok (.getfield 113, 3) := by decide +kernel
theorem d_called_108 : decode k_called 108 = .ok (.iload_n 1, 1) := by decide +kernel
theorem d_called_109 : decode k_called 109 = .ok (.ldc2_w 111, 3) := by decide +kernel
theorem d_called_112 : decode k_called 112 = .ok (.lastore, 1) := by decide +kernel
theorem d_called_113 : decode k_called 113 = .ok (.aload_n 0, 1) := by decide +kernel
theorem d_called_114 : decode k_called 114 = .ok (.iload_n 1, 1) := by decide +kernel
theorem d_called_115 : decode k_called 115 = .ok (.aload_n 0, 1) := by decide +kernel
theorem d_called_116 : decode k_called 116 = .ok (.getfield 248, 3) := by decide +kernel
theorem d_called_119 : decode k_called 119 = .ok (.invokevirtual 284, 3) := by decide +kernel
theorem d_called_122 : decode k_called 122 = .ok (.aload_n 0, 1) := by decide +kernel
theorem d_called_123 : decode k_called 123 = .ok (.getfield 84, 3) := by decide +kernel
theorem d_called_126 : decode k_called 126 = .ok (.iload_n 1, 1) := by decide +kernel
theorem d_called_127 : decode k_called 127 = .ok (.iconst 0, 1) := by decide +kernel
theorem d_called_128 : decode k_called 128 = .ok (.iastore, 1) := by decide +kernel
theorem d_called_129 : decode k_called 129 = .ok (.aload_n 0, 1) := by decide +kernel
theorem d_called_130 : decode k_called 130 = .ok (.getfield 39, 3) := by decide +kernel
theorem d_called_133 : decode k_called 133 = .ok (.iload_n 1, 1) := by decide +kernel
theorem d_called_134 : decode k_called 134 = .ok (.iconst 4, 1) := by decide +kernel
theorem d_called_135 : decode k_called 135 = .ok (.iastore, 1) := by decide +kernel
theorem d_called_136 : decode k_called 136 = .ok (.aload_n 0, 1) := by decide +kernel
theorem d_called_137 : decode k_called 137 = .ok (.iload_n 1, 1) := by decide +kernel
theorem d_called_138 : decode k_called 138 = .ok (.invokevirtual 226, 3) := by decide +kernel
theorem d_called_141 : decode k_called 141 = .ok (.ifCond .ne 8, 3) := by decide +kernel
theorem d_called_144 : decode k_called 144 = .ok (.aload_n 0, 1) := by decide +kernel
theorem d_called_145 : decode k_called 145 = .ok (.iload_n 1, 1) := by decide +kernel
theorem d_called_146 : decode k_called 146 = .ok (.invokevirtual 287, 3) := by decide +kernel
theorem d_called_149 : decode k_called 149 = .ok (.return_, 1) := by decide +kernel
def b_called_149 (ρ : RS) : Option (RS) :=
  some ρ
def b_called_88 (ρ : RS) : Option (RS) :=
  some ρ
def b_called_74 (ρ : RS) : Option (RS) :=
  some ρ
def b_called_60 (v1 : Int32) (v2 : Int32) (v3 : Int32) (ρ : RS) : Option (RS) :=
  if v3 = 0 then
  (if v2 = 0 then
  (b_called_88  ρ)
 else
  (bd (ρ.1 0 48) fun x1 => if (x1 &&& (2 : Int32)) = 0 then
  (b_called_88  ρ)
 else
  (bd (ρ.1 0 47) fun x2 => gd (inb v1 2) <| bd (si ρ 11 v1.toNatClampNeg x2) fun r3 => bc (m_known v1 r3) fun r4 => gd (inb v1 2) <| bd (sl r4 33 v1.toNatClampNeg (-1 : Int64)) fun r5 => bd (r5.1 0 47) fun x6 => bc (m_measured v1 x6 r5) fun r7 => gd (inb v1 2) <| bd (si r7 24 v1.toNatClampNeg (0 : Int32)) fun r8 => gd (inb v1 2) <| bd (si r8 9 v1.toNatClampNeg (4 : Int32)) fun r9 => bc2 (m_output v1 r9) fun x11 r10 => if x11 = 0 then
  (bc (m_sendAck v1 r10) fun r12 => b_called_149  r12)
 else
  (b_called_149  r10))))
 else
  (if v2 = 0 then
  (b_called_74  ρ)
 else
  (bc (m_broken v1 (1 : Int32) ρ) fun r13 => b_called_74  r13))
def b_called_59 (ρ : RS) : Option (RS) :=
  some ρ
def b_called_30 (v1 : Int32) (v2 : Int32) (w0 : Int32) (ρ : RS) : Option (RS) :=
  if v2 = 0 then
  (b_called_60 v1 v2 w0 ρ)
 else
  (bd (ρ.1 0 47) fun x1 => gd (inb v1 2) <| bd (ρ.1 10 v1.toNatClampNeg) fun x2 => if x1 = (x2 + (1 : Int32)) then
  (b_called_60 v1 v2 w0 ρ)
 else
  (if w0 = 0 then
  (bc (m_answer v1 ρ) fun r3 => b_called_59  r3)
 else
  (b_called_59  ρ)))
def b_called_15 (v1 : Int32) (w0 : Int32) (ρ : RS) : Option (RS) :=
  bd (ρ.1 0 48) fun x1 => if (x1 &&& (4 : Int32)) = 0 then
  (b_called_30 v1 w0 (0 : Int32) ρ)
 else
  (b_called_30 v1 w0 (1 : Int32) ρ)
def m_called (v1 : Int32) (ρ : RS) : Option (RS) :=
  bd (ρ.1 0 48) fun x1 => if (x1 &&& (16 : Int32)) = 0 then
  (b_called_15 v1 (0 : Int32) ρ)
 else
  (b_called_15 v1 (1 : Int32) ρ)
section
variable {p : Program} {l : Launch} {e : Env} {s : State} {m : MethodId} {args : Array Value} {below : List Frame} {meth : Method} {c : Code} {D : va_G} {tc : Nat → ClassId} {o : Nat}
theorem t_called_149 (S : RC p m c k_called 4 s args cn_M meth none D tc) (ρ : RS) {B : RS} (h : b_called_149  ρ = some B) {ls : Array Slot} {H : Heap} {locs : List Loc} (hl : lv_has ls 4 []) (hW : RWS D tc o s ρ H locs) : W p l e { frames := 5, cells := 0, slots := 0, locals := 129 } s m args below meth c H locs 0 0 (MQ below (RQ D tc o none B) args s 0 0 (rreg o)) (F0 m 149 ls []) := by
  have hx := S.1.1
  have hb := S.1.2.1
  unfold b_called_149 at h
  exact rm_vret S hW d_called_149 h
theorem t_called_88 (S : RC p m c k_called 4 s args cn_M meth none D tc) (ρ : RS) {B : RS} (h : b_called_88  ρ = some B) {ls : Array Slot} {H : Heap} {locs : List Loc} (hl : lv_has ls 4 []) (hW : RWS D tc o s ρ H locs) : W p l e { frames := 5, cells := 0, slots := 0, locals := 129 } s m args below meth c H locs 0 0 (MQ below (RQ D tc o none B) args s 0 0 (rreg o)) (F0 m 88 ls []) := by
  have hx := S.1.1
  have hb := S.1.2.1
  unfold b_called_88 at h
  exact rm_vret S hW d_called_88 h
theorem t_called_74 (S : RC p m c k_called 4 s args cn_M meth none D tc) (ρ : RS) {B : RS} (h : b_called_74  ρ = some B) {ls : Array Slot} {H : Heap} {locs : List Loc} (hl : lv_has ls 4 []) (hW : RWS D tc o s ρ H locs) : W p l e { frames := 5, cells := 0, slots := 0, locals := 129 } s m args below meth c H locs 0 0 (MQ below (RQ D tc o none B) args s 0 0 (rreg o)) (F0 m 74 ls []) := by
  have hx := S.1.1
  have hb := S.1.2.1
  unfold b_called_74 at h
  exact rm_vret S hW d_called_74 h
theorem t_called_60 (S : RC p m c k_called 4 s args cn_M meth none D tc) (v1 : Int32) (v2 : Int32) (v3 : Int32) (ρ : RS) {B : RS} (h : b_called_60 v1 v2 v3 ρ = some B) {ls : Array Slot} {H : Heap} {locs : List Loc} (hl : lv_has ls 4 [(0, .ref o), (1, .int v1), (2, .int v2), (3, .int v3)]) (hW : RWS D tc o s ρ H locs) : W p l e { frames := 5, cells := 0, slots := 0, locals := 129 } s m args below meth c H locs 0 0 (MQ below (RQ D tc o none B) args s 0 0 (rreg o)) (F0 m 60 ls []) := by
  have hx := S.1.1
  have hb := S.1.2.1
  unfold b_called_60 at h
  refine lv_iload_n hx hb d_called_60 rfl (lv_at hl 3 rfl) ?_
  refine rb_eq (tgt := 75) hx hb d_called_61 (by decide) h (fun h => ?_) (fun h => ?_)
  · refine lv_iload_n hx hb d_called_75 rfl (lv_at hl 2 rfl) ?_
    refine rb_eq (tgt := 88) hx hb d_called_76 (by decide) h (fun h => ?_) (fun h => ?_)
    · exact t_called_88 S  ρ h (lv_sub hl [] rfl) hW
    · refine lv_aload_n hx hb d_called_79 rfl (lv_at hl 0 rfl) ?_
      refine rm_geti S hW 48 wd_1300 (by decide) d_called_80 h (fun x1 h => ?_)
      refine lv_iconst (v := 2) hx hb d_called_83 (by decide) ?_
      refine lv_iand hx hb d_called_84 ?_
      refine rb_ne (tgt := 89) hx hb d_called_85 (by decide) h (fun h => ?_) (fun h => ?_)
      · refine lv_aload_n hx hb d_called_89 rfl (lv_at hl 0 rfl) ?_
        refine rm_geta S hW 16 11 wd_1268 (by decide) d_called_90 ?_
        refine lv_iload_n hx hb d_called_93 rfl (lv_at hl 1 rfl) ?_
        refine lv_aload_n hx hb d_called_94 rfl (lv_at hl 0 rfl) ?_
        refine rm_geti S hW 47 wd_1299 (by decide) d_called_95 h (fun x2 h => ?_)
        refine rm_iast S hW 11 2 (by decide) d_called_98 h (fun r3 H locs h hW => ?_)
        refine lv_aload_n hx hb d_called_99 rfl (lv_at hl 0 rfl) ?_
        refine lv_iload_n hx hb d_called_100 rfl (lv_at hl 1 rfl) ?_
        refine rm_cVv [.int v1] S hW (fun ρ' hc => c_known v1 r3 hc) q_known wd_1599 wd_64 wd_1597 (by decide) hl.1 rfl rfl (Nat.le_of_ble_eq_true rfl) d_called_101 h (fun r4 H locs h hW => ?_)
        refine lv_aload_n hx hb d_called_104 rfl (lv_at hl 0 rfl) ?_
        refine rm_geta S hW 38 33 wd_1290 (by decide) d_called_105 ?_
        refine lv_iload_n hx hb d_called_108 rfl (lv_at hl 1 rfl) ?_
        refine lv_ldc2 hx hb S.1.2.2.2.1 (S.1.2.2.2.2 _ (gi wd_1249 rfl)) d_called_109 ?_
        refine rm_last S hW 33 2 (by decide) d_called_112 h (fun r5 H locs h hW => ?_)
        refine lv_aload_n hx hb d_called_113 rfl (lv_at hl 0 rfl) ?_
        refine lv_iload_n hx hb d_called_114 rfl (lv_at hl 1 rfl) ?_
        refine lv_aload_n hx hb d_called_115 rfl (lv_at hl 0 rfl) ?_
        refine rm_geti S hW 47 wd_1299 (by decide) d_called_116 h (fun x6 h => ?_)
        refine rm_cVv [.int v1, .int x6] S hW (fun ρ' hc => c_measured v1 x6 r5 hc) q_measured wd_1611 wd_67 wd_1609 (by decide) hl.1 rfl rfl (Nat.le_of_ble_eq_true rfl) d_called_119 h (fun r7 H locs h hW => ?_)
        refine lv_aload_n hx hb d_called_122 rfl (lv_at hl 0 rfl) ?_
        refine rm_geta S hW 29 24 wd_1281 (by decide) d_called_123 ?_
        refine lv_iload_n hx hb d_called_126 rfl (lv_at hl 1 rfl) ?_
        refine lv_iconst (v := 0) hx hb d_called_127 (by decide) ?_
        refine rm_iast S hW 24 2 (by decide) d_called_128 h (fun r8 H locs h hW => ?_)
        refine lv_aload_n hx hb d_called_129 rfl (lv_at hl 0 rfl) ?_
        refine rm_geta S hW 14 9 wd_1266 (by decide) d_called_130 ?_
        refine lv_iload_n hx hb d_called_133 rfl (lv_at hl 1 rfl) ?_
        refine lv_iconst (v := 4) hx hb d_called_134 (by decide) ?_
        refine rm_iast S hW 9 2 (by decide) d_called_135 h (fun r9 H locs h hW => ?_)
        refine lv_aload_n hx hb d_called_136 rfl (lv_at hl 0 rfl) ?_
        refine lv_iload_n hx hb d_called_137 rfl (lv_at hl 1 rfl) ?_
        refine rm_cVi [.int v1] S hW (fun x ρ' hc => c_output v1 r9 hc) q_output wd_1508 wd_47 wd_1506 (by decide) hl.1 rfl rfl (Nat.le_of_ble_eq_true rfl) d_called_138 h (fun x11 r10 H locs h hW => ?_)
        refine rb_ne (tgt := 149) hx hb d_called_141 (by decide) h (fun h => ?_) (fun h => ?_)
        · exact t_called_149 S  r10 h (lv_sub hl [] rfl) hW
        · refine lv_aload_n hx hb d_called_144 rfl (lv_at hl 0 rfl) ?_
          refine lv_iload_n hx hb d_called_145 rfl (lv_at hl 1 rfl) ?_
          refine rm_cVv [.int v1] S hW (fun ρ' hc => c_sendAck v1 r10 hc) q_sendAck wd_1525 wd_50 wd_1523 (by decide) hl.1 rfl rfl (Nat.le_of_ble_eq_true rfl) d_called_146 h (fun r12 H locs h hW => ?_)
          exact t_called_149 S  r12 h (lv_sub hl [] rfl) hW
      · exact t_called_88 S  ρ h (lv_sub hl [] rfl) hW
  · refine lv_iload_n hx hb d_called_64 rfl (lv_at hl 2 rfl) ?_
    refine rb_eq (tgt := 74) hx hb d_called_65 (by decide) h (fun h => ?_) (fun h => ?_)
    · exact t_called_74 S  ρ h (lv_sub hl [] rfl) hW
    · refine lv_aload_n hx hb d_called_68 rfl (lv_at hl 0 rfl) ?_
      refine lv_iload_n hx hb d_called_69 rfl (lv_at hl 1 rfl) ?_
      refine lv_iconst (v := 1) hx hb d_called_70 (by decide) ?_
      refine rm_cVv [.int v1, .int (1 : Int32)] S hW (fun ρ' hc => c_broken v1 (1 : Int32) ρ hc) q_broken wd_1541 wd_52 wd_1539 (by decide) hl.1 rfl rfl (Nat.le_of_ble_eq_true rfl) d_called_71 h (fun r13 H locs h hW => ?_)
      exact t_called_74 S  r13 h (lv_sub hl [] rfl) hW
theorem t_called_59 (S : RC p m c k_called 4 s args cn_M meth none D tc) (ρ : RS) {B : RS} (h : b_called_59  ρ = some B) {ls : Array Slot} {H : Heap} {locs : List Loc} (hl : lv_has ls 4 []) (hW : RWS D tc o s ρ H locs) : W p l e { frames := 5, cells := 0, slots := 0, locals := 129 } s m args below meth c H locs 0 0 (MQ below (RQ D tc o none B) args s 0 0 (rreg o)) (F0 m 59 ls []) := by
  have hx := S.1.1
  have hb := S.1.2.1
  unfold b_called_59 at h
  exact rm_vret S hW d_called_59 h
theorem t_called_30 (S : RC p m c k_called 4 s args cn_M meth none D tc) (v1 : Int32) (v2 : Int32) (w0 : Int32) (ρ : RS) {B : RS} (h : b_called_30 v1 v2 w0 ρ = some B) {ls : Array Slot} {H : Heap} {locs : List Loc} (hl : lv_has ls 4 [(0, .ref o), (1, .int v1), (2, .int v2)]) (hW : RWS D tc o s ρ H locs) : W p l e { frames := 5, cells := 0, slots := 0, locals := 129 } s m args below meth c H locs 0 0 (MQ below (RQ D tc o none B) args s 0 0 (rreg o)) (F0 m 30 ls [.int w0]) := by
  have hx := S.1.1
  have hb := S.1.2.1
  unfold b_called_30 at h
  refine lv_istore_n (lv' := [(3, .int w0), (0, .ref o), (1, .int v1), (2, .int v2)]) hx hb d_called_30 rfl hl (by decide) rfl (fun ls hl => ?_)
  refine lv_iload_n hx hb d_called_31 rfl (lv_at hl 3 rfl) ?_
  refine rb_eq (tgt := 60) hx hb d_called_32 (by decide) h (fun h => ?_) (fun h => ?_)
  · exact t_called_60 S v1 v2 w0 ρ h (lv_sub hl [1, 2, 3, 0] rfl) hW
  · refine lv_aload_n hx hb d_called_35 rfl (lv_at hl 1 rfl) ?_
    refine rm_geti S hW 47 wd_1299 (by decide) d_called_36 h (fun x1 h => ?_)
    refine lv_aload_n hx hb d_called_39 rfl (lv_at hl 1 rfl) ?_
    refine rm_geta S hW 15 10 wd_1267 (by decide) d_called_40 ?_
    refine lv_iload_n hx hb d_called_43 rfl (lv_at hl 2 rfl) ?_
    refine rm_iald S hW 10 2 (by decide) d_called_44 h (fun x2 h => ?_)
    refine lv_iconst (v := 1) hx hb d_called_45 (by decide) ?_
    refine lv_iadd hx hb d_called_46 ?_
    refine rc_eq (tgt := 60) hx hb d_called_47 (by decide) h (fun h => ?_) (fun h => ?_)
    · exact t_called_60 S v1 v2 w0 ρ h (lv_sub hl [1, 2, 3, 0] rfl) hW
    · refine lv_iload_n hx hb d_called_50 rfl (lv_at hl 0 rfl) ?_
      refine rb_ne (tgt := 59) hx hb d_called_51 (by decide) h (fun h => ?_) (fun h => ?_)
      · exact t_called_59 S  ρ h (lv_sub hl [] rfl) hW
      · refine lv_aload_n hx hb d_called_54 rfl (lv_at hl 1 rfl) ?_
        refine lv_iload_n hx hb d_called_55 rfl (lv_at hl 2 rfl) ?_
        refine rm_cVv [.int v1] S hW (fun ρ' hc => c_answer v1 ρ hc) q_answer wd_1591 wd_62 wd_1589 (by decide) hl.1 rfl rfl (Nat.le_of_ble_eq_true rfl) d_called_56 h (fun r3 H locs h hW => ?_)
        exact t_called_59 S  r3 h (lv_sub hl [] rfl) hW
theorem t_called_15 (S : RC p m c k_called 4 s args cn_M meth none D tc) (v1 : Int32) (w0 : Int32) (ρ : RS) {B : RS} (h : b_called_15 v1 w0 ρ = some B) {ls : Array Slot} {H : Heap} {locs : List Loc} (hl : lv_has ls 4 [(0, .ref o), (1, .int v1)]) (hW : RWS D tc o s ρ H locs) : W p l e { frames := 5, cells := 0, slots := 0, locals := 129 } s m args below meth c H locs 0 0 (MQ below (RQ D tc o none B) args s 0 0 (rreg o)) (F0 m 15 ls [.int w0]) := by
  have hx := S.1.1
  have hb := S.1.2.1
  unfold b_called_15 at h
  refine lv_istore_n (lv' := [(2, .int w0), (0, .ref o), (1, .int v1)]) hx hb d_called_15 rfl hl (by decide) rfl (fun ls hl => ?_)
  refine lv_aload_n hx hb d_called_16 rfl (lv_at hl 1 rfl) ?_
  refine rm_geti S hW 48 wd_1300 (by decide) d_called_17 h (fun x1 h => ?_)
  refine lv_iconst (v := 4) hx hb d_called_20 (by decide) ?_
  refine lv_iand hx hb d_called_21 ?_
  refine rb_eq (tgt := 29) hx hb d_called_22 (by decide) h (fun h => ?_) (fun h => ?_)
  · refine lv_iconst (v := 0) hx hb d_called_29 (by decide) ?_
    exact t_called_30 S v1 w0 (0 : Int32) ρ h (lv_sub hl [1, 2, 0] rfl) hW
  · refine lv_iconst (v := 1) hx hb d_called_25 (by decide) ?_
    refine lv_goto (tgt := 30) hx hb d_called_26 (by decide) ?_
    exact t_called_30 S v1 w0 (1 : Int32) ρ h (lv_sub hl [1, 2, 0] rfl) hW
theorem t_called_0 (S : RC p m c k_called 4 s args cn_M meth none D tc) (v1 : Int32) (ρ : RS) {B : RS} (h : m_called v1 ρ = some B) {ls : Array Slot} {H : Heap} {locs : List Loc} (hl : lv_has ls 4 [(0, .ref o), (1, .int v1)]) (hW : RWS D tc o s ρ H locs) : W p l e { frames := 5, cells := 0, slots := 0, locals := 129 } s m args below meth c H locs 0 0 (MQ below (RQ D tc o none B) args s 0 0 (rreg o)) (F0 m 0 ls []) := by
  have hx := S.1.1
  have hb := S.1.2.1
  unfold m_called at h
  refine lv_aload_n hx hb d_called_0 rfl (lv_at hl 0 rfl) ?_
  refine rm_geti S hW 48 wd_1300 (by decide) d_called_1 h (fun x1 h => ?_)
  refine lv_bipush (v := 16) hx hb d_called_4 (by decide) ?_
  refine lv_iand hx hb d_called_6 ?_
  refine rb_eq (tgt := 14) hx hb d_called_7 (by decide) h (fun h => ?_) (fun h => ?_)
  · refine lv_iconst (v := 0) hx hb d_called_14 (by decide) ?_
    exact t_called_15 S v1 (0 : Int32) ρ h (lv_sub hl [0, 1] rfl) hW
  · refine lv_iconst (v := 1) hx hb d_called_10 (by decide) ?_
    refine lv_goto (tgt := 15) hx hb d_called_11 (by decide) ?_
    exact t_called_15 S v1 (1 : Int32) ρ h (lv_sub hl [0, 1] rfl) hW
theorem c_called (v1 : Int32) (ρ : RS) {B : RS} (h : m_called v1 ρ = some B) : RMet l D tc o y_called k_called 4 none 5 129 [.ref o, .int v1] ρ none B := rm_met (by decide) (Nat.le_of_ble_eq_true rfl) fun p e s m args below meth c S hW ls hl => t_called_0 S v1 ρ h hl hW
end

/-! inside (II)Z -/
abbrev k_inside : ByteArray := prog_12_method_35_code
abbrev y_inside : MethodName := ⟨cn_M, "inside", "(II)Z"⟩
theorem q_inside : Calee y_inside k_inside 3 (some .boolean) 2 := ⟨wd_1630, wd_90, by decide, by decide +kernel⟩
theorem d_inside_0 : decode k_inside 0 = .ok (.iload_n 2, 1) := by decide +kernel
theorem d_inside_1 : decode k_inside 1 = .ok (.aload_n 0, 1) := by decide +kernel
theorem d_inside_2 : decode k_inside 2 = .ok (.getfield 66, 3) := by decide +kernel
theorem d_inside_5 : decode k_inside 5 = .ok (.iload_n 1, 1) := by decide +kernel
theorem d_inside_6 : decode k_inside 6 = .ok (.iaload, 1) := by decide +kernel
theorem d_inside_7 : decode k_inside 7 = .ok (.isub, 1) := by decide +kernel
theorem d_inside_8 : decode k_inside 8 = .ok (.ifCond .lt 18, 3) := by decide +kernel
theorem d_inside_11 : decode k_inside 11 = .ok (.iload_n 2, 1) := by decide +kernel
theorem d_inside_12 : decode k_inside 12 = .ok (.aload_n 0, 1) := by decide +kernel
theorem d_inside_13 : decode k_inside 13 = .ok (.getfield 69, 3) := by decide +kernel
theorem d_inside_16 : decode k_inside 16 = .ok (.iload_n 1, 1) := by decide +kernel
theorem d_inside_17 : decode k_inside 17 = .ok (.iaload, 1) := by decide +kernel
theorem d_inside_18 : decode k_inside 18 = .ok (.isub, 1) := by decide +kernel
theorem d_inside_19 : decode k_inside 19 = .ok (.ifCond .ge 7, 3) := by decide +kernel
theorem d_inside_22 : decode k_inside 22 = .ok (.iconst 1, 1) := by decide +kernel
theorem d_inside_23 : decode k_inside 23 = .ok (.goto 4, 3) := by decide +kernel
theorem d_inside_26 : decode k_inside 26 = .ok (.iconst 0, 1) := by decide +kernel
theorem d_inside_27 : decode k_inside 27 = .ok (.ireturn, 1) := by decide +kernel
def b_inside_27 (w0 : Int32) (ρ : RS) : Option (Int32 × RS) :=
  gd (w0 = 0 ∨ w0 = 1) (some (w0, ρ))
def b_inside_26 (ρ : RS) : Option (Int32 × RS) :=
  b_inside_27 (0 : Int32) ρ
def m_inside (v1 : Int32) (v2 : Int32) (ρ : RS) : Option (Int32 × RS) :=
  gd (inb v1 2) <| bd (ρ.1 18 v1.toNatClampNeg) fun x1 => if (v2 - x1) < 0 then
  (b_inside_26  ρ)
 else
  (gd (inb v1 2) <| bd (ρ.1 19 v1.toNatClampNeg) fun x2 => if 0 ≤ (v2 - x2) then
  (b_inside_26  ρ)
 else
  (b_inside_27 (1 : Int32) ρ))
section
variable {p : Program} {l : Launch} {e : Env} {s : State} {m : MethodId} {args : Array Value} {below : List Frame} {meth : Method} {c : Code} {D : va_G} {tc : Nat → ClassId} {o : Nat}
theorem t_inside_27 (S : RC p m c k_inside 3 s args cn_M meth (some .boolean) D tc) (w0 : Int32) (ρ : RS) {B : Int32 × RS} (h : b_inside_27 w0 ρ = some B) {ls : Array Slot} {H : Heap} {locs : List Loc} (hl : lv_has ls 3 []) (hW : RWS D tc o s ρ H locs) : W p l e { frames := 0, cells := 0, slots := 0, locals := 0 } s m args below meth c H locs 0 0 (MQ below (RQ D tc o (some (.int B.1)) B.2) args s 0 0 (rreg o)) (F0 m 27 ls [.int w0]) := by
  have hx := S.1.1
  have hb := S.1.2.1
  unfold b_inside_27 at h
  exact rm_zret S hW d_inside_27 h
theorem t_inside_26 (S : RC p m c k_inside 3 s args cn_M meth (some .boolean) D tc) (ρ : RS) {B : Int32 × RS} (h : b_inside_26  ρ = some B) {ls : Array Slot} {H : Heap} {locs : List Loc} (hl : lv_has ls 3 []) (hW : RWS D tc o s ρ H locs) : W p l e { frames := 0, cells := 0, slots := 0, locals := 0 } s m args below meth c H locs 0 0 (MQ below (RQ D tc o (some (.int B.1)) B.2) args s 0 0 (rreg o)) (F0 m 26 ls []) := by
  have hx := S.1.1
  have hb := S.1.2.1
  unfold b_inside_26 at h
  refine lv_iconst (v := 0) hx hb d_inside_26 (by decide) ?_
  exact t_inside_27 S (0 : Int32) ρ h (lv_sub hl [] rfl) hW
theorem t_inside_0 (S : RC p m c k_inside 3 s args cn_M meth (some .boolean) D tc) (v1 : Int32) (v2 : Int32) (ρ : RS) {B : Int32 × RS} (h : m_inside v1 v2 ρ = some B) {ls : Array Slot} {H : Heap} {locs : List Loc} (hl : lv_has ls 3 [(0, .ref o), (1, .int v1), (2, .int v2)]) (hW : RWS D tc o s ρ H locs) : W p l e { frames := 0, cells := 0, slots := 0, locals := 0 } s m args below meth c H locs 0 0 (MQ below (RQ D tc o (some (.int B.1)) B.2) args s 0 0 (rreg o)) (F0 m 0 ls []) := by
  have hx := S.1.1
  have hb := S.1.2.1
  unfold m_inside at h
  refine lv_iload_n hx hb d_inside_0 rfl (lv_at hl 2 rfl) ?_
  refine lv_aload_n hx hb d_inside_1 rfl (lv_at hl 0 rfl) ?_
  refine rm_geta S hW 23 18 wd_1275 (by decide) d_inside_2 ?_
  refine lv_iload_n hx hb d_inside_5 rfl (lv_at hl 1 rfl) ?_
  refine rm_iald S hW 18 2 (by decide) d_inside_6 h (fun x1 h => ?_)
  refine lv_isub hx hb d_inside_7 ?_
  refine rb_lt (tgt := 26) hx hb d_inside_8 (by decide) h (fun h => ?_) (fun h => ?_)
  · exact t_inside_26 S  ρ h (lv_sub hl [] rfl) hW
  · refine lv_iload_n hx hb d_inside_11 rfl (lv_at hl 2 rfl) ?_
    refine lv_aload_n hx hb d_inside_12 rfl (lv_at hl 0 rfl) ?_
    refine rm_geta S hW 24 19 wd_1276 (by decide) d_inside_13 ?_
    refine lv_iload_n hx hb d_inside_16 rfl (lv_at hl 1 rfl) ?_
    refine rm_iald S hW 19 2 (by decide) d_inside_17 h (fun x2 h => ?_)
    refine lv_isub hx hb d_inside_18 ?_
    refine rb_ge (tgt := 26) hx hb d_inside_19 (by decide) h (fun h => ?_) (fun h => ?_)
    · exact t_inside_26 S  ρ h (lv_sub hl [] rfl) hW
    · refine lv_iconst (v := 1) hx hb d_inside_22 (by decide) ?_
      refine lv_goto (tgt := 27) hx hb d_inside_23 (by decide) ?_
      exact t_inside_27 S (1 : Int32) ρ h (lv_sub hl [] rfl) hW
theorem c_inside (v1 : Int32) (v2 : Int32) (ρ : RS) {x : Int32} {ρ' : RS} (h : m_inside v1 v2 ρ = some (x, ρ')) : RMet l D tc o y_inside k_inside 3 (some .boolean) 0 0 [.ref o, .int v1, .int v2] ρ (some (.int x)) ρ' := rm_met (by decide) (Nat.le_of_ble_eq_true rfl) fun p e s m args below meth c S hW ls hl => t_inside_0 S v1 v2 ρ h hl hW
end

