/-! comes (II)V -/
abbrev k_comes : ByteArray := prog_12_method_42_code
abbrev y_comes : MethodName := ⟨cn_M, "comes", "(II)V"⟩
theorem q_comes : Calee y_comes k_comes 4 none 2 := ⟨wd_1568, wd_90, by decide, by decide +kernel⟩
theorem d_comes_0 : decode k_comes 0 = .ok (.aload_n 0, 1) := by decide +kernel
theorem d_comes_1 : decode k_comes 1 = .ok (.iload_n 1, 1) := by decide +kernel
theorem d_comes_2 : decode k_comes 2 = .ok (.iload_n 2, 1) := by decide +kernel
theorem d_comes_3 : decode k_comes 3 = .ok (.invokevirtual 305, 3) := by decide +kernel
theorem d_comes_6 : decode k_comes 6 = .ok (.ifCond .ne 14, 3) := by decide +kernel
theorem d_comes_9 : decode k_comes 9 = .ok (.aload_n 0, 1) := by decide +kernel
theorem d_comes_10 : decode k_comes 10 = .ok (.getfield 99, 3) := by decide +kernel
theorem d_comes_13 : decode k_comes 13 = .ok (.iload_n 1, 1) := by decide +kernel
theorem d_comes_14 : decode k_comes 14 = .ok (.dup2, 1) := by decide +kernel
theorem d_comes_15 : decode k_comes 15 = .ok (.iaload, 1) := by decide +kernel
theorem d_comes_16 : decode k_comes 16 = .ok (.iconst 1, 1) := by decide +kernel
theorem d_comes_17 : decode k_comes 17 = .ok (.iadd, 1) := by decide +kernel
theorem d_comes_18 : decode k_comes 18 = .ok (.iastore, 1) := by decide +kernel
theorem d_comes_19 : decode k_comes 19 = .ok (.return_, 1) := by decide +kernel
theorem d_comes_20 : decode k_comes 20 = .ok (.aload_n 0, 1) := by decide +kernel
theorem d_comes_21 : decode k_comes 21 = .ok (.getfield 39, 3) := by decide +kernel
theorem d_comes_24 : decode k_comes 24 = .ok (.iload_n 1, 1) := by decide +kernel
theorem d_comes_25 : decode k_comes 25 = .ok (.iaload, 1) := by decide +kernel
theorem d_comes_26 : decode k_comes 26 = .ok (.ifCond .ne 18, 3) := by decide +kernel
theorem d_comes_29 : decode k_comes 29 = .ok (.aload_n 0, 1) := by decide +kernel
theorem d_comes_30 : decode k_comes 30 = .ok (.getfield 242, 3) := by decide +kernel
theorem d_comes_33 : decode k_comes 33 = .ok (.iconst 4, 1) := by decide +kernel
theorem d_comes_34 : decode k_comes 34 = .ok (.iand, 1) := by decide +kernel
theorem d_comes_35 : decode k_comes 35 = .ok (.ifCond .ne 8, 3) := by decide +kernel
theorem d_comes_38 : decode k_comes 38 = .ok (.aload_n 0, 1) := by decide +kernel
theorem d_comes_39 : decode k_comes 39 = .ok (.iload_n 1, 1) := by decide +kernel
theorem d_comes_40 : decode k_comes 40 = .ok (.invokevirtual 278, 3) := by decide +kernel
theorem d_comes_43 : decode k_comes 43 = .ok (.return_, 1) := by decide +kernel
theorem d_comes_44 : decode k_comes 44 = .ok (.aload_n 0, 1) := by decide +kernel
theorem d_comes_45 : decode k_comes 45 = .ok (.getfield 39, 3) := by decide +kernel
theorem d_comes_48 : decode k_comes 48 = .ok (.iload_n 1, 1) := by decide +kernel
theorem d_comes_49 : decode k_comes 49 = .ok (.iaload, 1) := by decide +kernel
theorem d_comes_50 : decode k_comes 50 = .ok (.iconst 1, 1) := by decide +kernel
theorem d_comes_51 : decode k_comes 51 = .ok (.if_icmp .ne 9, 3) := by decide +kernel
theorem d_comes_54 : decode k_comes 54 = .ok (.aload_n 0, 1) := by decide +kernel
theorem d_comes_55 : decode k_comes 55 = .ok (.iload_n 1, 1) := by decide +kernel
theorem d_comes_56 : decode k_comes 56 = .ok (.invokevirtual 308, 3) := by decide +kernel
theorem d_comes_59 : decode k_comes 59 = .ok (.return_, 1) := by decide +kernel
theorem d_comes_60 : decode k_comes 60 = .ok (.aload_n 0, 1) := by decide +kernel
theorem d_comes_61 : decode k_comes 61 = .ok (.getfield 39, 3) := by decide +kernel
theorem d_comes_64 : decode k_comes 64 = .ok (.iload_n 1, 1) := by decide +kernel
theorem d_comes_65 : decode k_comes 65 = .ok (.iaload, 1) := by decide +kernel
theorem d_comes_66 : decode k_comes 66 = .ok (.iconst 2, 1) := by decide +kernel
theorem d_comes_67 : decode k_comes 67 = .ok (.if_icmp .ne 9, 3) := by decide +kernel
theorem d_comes_70 : decode k_comes 70 = .ok (.aload_n 0, 1) := by decide +kernel
theorem d_comes_71 : decode k_comes 71 = .ok (.iload_n 1, 1) := by decide +kernel
theorem d_comes_72 : decode k_comes 72 = .ok (.invokevirtual 311, 3) := by decide +kernel
theorem d_comes_75 : decode k_comes 75 = .ok (.return_, 1) := by decide +kernel
theorem d_comes_76 : decode k_comes 76 = .ok (.aload_n 0, 1) := by decide +kernel
theorem d_comes_77 : decode k_comes 77 = .ok (.iload_n 1, 1) := by decide +kernel
theorem d_comes_78 : decode k_comes 78 = .ok (.invokevirtual 314, 3) := by decide +kernel
theorem d_comes_81 : decode k_comes 81 = .ok (.ifCond .eq 11, 3) := by decide +kernel
theorem d_comes_84 : decode k_comes 84 = .ok (.aload_n 0, 1) := by decide +kernel
theorem d_comes_85 : decode k_comes 85 = .ok (.iload_n 1, 1) := by decide +kernel
theorem d_comes_86 : decode k_comes 86 = .ok (.invokevirtual 317, 3) := by decide +kernel
theorem d_comes_89 : decode k_comes 89 = .ok (.ifCond .ne 4, 3) := by decide +kernel
theorem d_comes_92 : decode k_comes 92 = .ok (.return_, 1) := by decide +kernel
theorem d_comes_93 : decode k_comes 93 = .ok (.aload_n 0, 1) := by decide +kernel
theorem d_comes_94 : decode k_comes 94 = .ok (.getfield 96, 3) := by decide +kernel
theorem d_comes_97 : decode k_comes 97 = .ok (.iload_n 1, 1) := by decide +kernel
theorem d_comes_98 : decode k_comes 98 = .ok (.iaload, 1) := by decide +kernel
theorem d_comes_99 : decode k_comes 99 = .ok (.istore_n 3, 1) := by decide +kernel
theorem d_comes_100 : decode k_comes 100 = .ok (.aload_n 0, 1) := by decide +kernel
theorem d_comes_101 : decode k_comes 101 = .ok (.getfield 39, 3) := by decide +kernel
theorem d_comes_104 : decode k_comes 104 = .ok (.iload_n 1, 1) := by decide +kernel
theorem d_comes_105 : decode k_comes 105 = .ok (.iaload, 1) := by decide +kernel
theorem d_comes_106 : decode k_comes 106 = .ok (.iconst 4, 1) := by decide +kernel
theorem d_comes_107 : decode k_comes 107 = .ok (.if_icmp .lt 19, 3) := by decide +kernel
theorem d_comes_110 : decode k_comes 110 = .ok (.aload_n 0, 1) := by decide +kernel
theorem d_comes_111 : decode k_comes 111 = .ok (.getfield 39, 3) := by decide +kernel
theorem d_comes_114 : decode k_comes 114 = .ok (.iload_n 1, 1) := by decide +kernel
theorem d_comes_115 : decode k_comes 115 = .ok (.iaload, 1) := by decide +kernel
theorem d_comes_116 : decode k_comes 116 = .ok (.bipush 6, 2) := by decide +kernel
theorem d_comes_118 : decode k_comes 118 = .ok (.if_icmp .gt 8, 3) := by decide +kernel
theorem d_comes_121 : decode k_comes 121 = .ok (.aload_n 0, 1) := by decide +kernel
theorem d_comes_122 : decode k_comes 122 = .ok (.iload_n 1, 1) := by decide +kernel
theorem d_comes_123 : decode k_comes 123 = .ok (.invokevirtual 320, 3) := by decide +kernel
theorem d_comes_126 : decode k_comes 126 = .ok (.aload_n 0, 1) := by decide +kernel
theorem d_comes_127 : decode k_comes 127 = .ok (.getfield 39, 3) := by decide +kernel
theorem d_comes_130 : decode k_comes 130 = .ok (.iload_n 1, 1) := by decide +kernel
theorem d_comes_131 : decode k_comes 131 = .ok (.iaload, 1) := by decide +kernel
theorem d_comes_132 : decode k_comes 132 = .ok (.bipush 10, 2) := by decide +kernel
theorem d_comes_134 : decode k_comes 134 = .ok (.if_icmp .ne 17, 3) := by decide +kernel
theorem d_comes_137 : decode k_comes 137 = .ok (.aload_n 0, 1) := by decide +kernel
theorem d_comes_138 : decode k_comes 138 = .ok (.getfield 113, 3) := by decide +kernel
theorem d_comes_141 : decode k_comes 141 = .ok (.iload_n 1, 1) := by decide +kernel
theorem d_comes_142 : decode k_comes 142 = .ok (.aload_n 0, 1) := by decide +kernel
theorem d_comes_143 : decode k_comes 143 = .ok (.getfield 201, 3) := by decide +kernel
theorem d_comes_146 : decode k_comes 146 = .ok (.ldc2_w 296, 3) := by decide +kernel
theorem d_comes_149 : decode k_comes 149 = .ok (.ladd, 1) := by decide +kernel
theorem d_comes_150 : decode k_comes 150 = .ok (.lastore, 1) := by decide +kernel
theorem d_comes_151 : decode k_comes 151 = .ok (.aload_n 0, 1) := by decide +kernel
theorem d_comes_152 : decode k_comes 152 = .ok (.iload_n 1, 1) := by decide +kernel
theorem d_comes_153 : decode k_comes 153 = .ok (.invokevirtual 226, 3) := by decide +kernel
theorem d_comes_156 : decode k_comes 156 = .ok (.pop, 1) := by decide +kernel
theorem d_comes_157 : decode k_comes 157 = .ok (.aload_n 0, 1) := by decide +kernel
theorem d_comes_158 : decode k_comes 158 = .ok (.getfield 245, 3) := by decide +kernel
theorem d_comes_161 : decode k_comes 161 = .ok (.ifCond .gt 12, 3) := by decide +kernel
theorem d_comes_164 : decode k_comes 164 = .ok (.aload_n 0, 1) := by decide +kernel
theorem d_comes_165 : decode k_comes 165 = .ok (.getfield 242, 3) := by decide +kernel
theorem d_comes_168 : decode k_comes 168 = .ok (.iconst 1, 1) := by decide +kernel
theorem d_comes_169 : decode k_comes 169 = .ok (.iand, 1) := by decide +kernel
theorem d_comes_170 : decode k_comes 170 = .ok (.ifCond .eq 18, 3) := by decide +kernel
theorem d_comes_173 : decode k_comes 173 = .ok (.aload_n 0, 1) := by decide +kernel
theorem d_comes_174 : decode k_comes 174 = .ok (.getfield 96, 3) := by decide +kernel
theorem d_comes_177 : decode k_comes 177 = .ok (.iload_n 1, 1) := by decide +kernel
theorem d_comes_178 : decode k_comes 178 = .ok (.iaload, 1) := by decide +kernel
theorem d_comes_179 : decode k_comes 179 = .ok (.iload_n 3, 1) := by decide +kernel
theorem d_comes_180 : decode k_comes 180 = .ok (.if_icmp .ne 8, 3) := by decide +kernel
theorem d_comes_183 : decode k_comes 183 = .ok (.aload_n 0, 1) := by decide +kernel
theorem d_comes_184 : decode k_comes 184 = .ok (.iload_n 1, 1) := by decide +kernel
theorem d_comes_185 : decode k_comes 185 = .ok (.invokevirtual 287, 3) := by decide +kernel
theorem d_comes_188 : decode k_comes 188 = .ok (.return_, 1) := by decide +kernel
def b_comes_188 (ρ : RS) : Option (RS) :=
  some ρ
def b_comes_173 (v1 : Int32) (v3 : Int32) (ρ : RS) : Option (RS) :=
  gd (inb v1 2) <| bd (ρ.1 28 v1.toNatClampNeg) fun x1 => if x1 = v3 then
  (bc (m_sendAck v1 ρ) fun r2 => b_comes_188  r2)
 else
  (b_comes_188  ρ)
def b_comes_151 (v1 : Int32) (v3 : Int32) (ρ : RS) : Option (RS) :=
  bc2 (m_output v1 ρ) fun x2 r1 => bd (r1.1 0 51) fun x3 => if 0 < x3 then
  (b_comes_173 v1 v3 r1)
 else
  (bd (r1.1 0 48) fun x4 => if (x4 &&& (1 : Int32)) = 0 then
  (b_comes_188  r1)
 else
  (b_comes_173 v1 v3 r1))
def b_comes_126 (v1 : Int32) (v3 : Int32) (ρ : RS) : Option (RS) :=
  gd (inb v1 2) <| bd (ρ.1 9 v1.toNatClampNeg) fun x1 => if x1 = (10 : Int32) then
  (bd (ρ.2 0 3) fun x2 => gd (inb v1 2) <| bd (sl ρ 33 v1.toNatClampNeg (x2 + (4000 : Int64))) fun r3 => b_comes_151 v1 v3 r3)
 else
  (b_comes_151 v1 v3 ρ)
def b_comes_92 (ρ : RS) : Option (RS) :=
  some ρ
def b_comes_43 (ρ : RS) : Option (RS) :=
  some ρ
def m_comes (v1 : Int32) (v2 : Int32) (ρ : RS) : Option (RS) :=
  bc2 (m_header v1 v2 ρ) fun x2 r1 => if x2 = 0 then
  (gd (inb v1 2) <| bd (r1.1 29 v1.toNatClampNeg) fun x18 => gd (inb v1 2) <| bd (si r1 29 v1.toNatClampNeg (x18 + (1 : Int32))) fun r19 => some r19)
 else
  (gd (inb v1 2) <| bd (r1.1 9 v1.toNatClampNeg) fun x3 => if x3 = 0 then
  (bd (r1.1 0 48) fun x16 => if (x16 &&& (4 : Int32)) = 0 then
  (bc (m_answer v1 r1) fun r17 => b_comes_43  r17)
 else
  (b_comes_43  r1))
 else
  (gd (inb v1 2) <| bd (r1.1 9 v1.toNatClampNeg) fun x4 => if x4 = (1 : Int32) then
  (bc (m_listened v1 r1) fun r15 => some r15)
 else
  (gd (inb v1 2) <| bd (r1.1 9 v1.toNatClampNeg) fun x5 => if x5 = (2 : Int32) then
  (bc (m_called v1 r1) fun r14 => some r14)
 else
  (bc2 (m_admitted v1 r1) fun x7 r6 => if x7 = 0 then
  (b_comes_92  r6)
 else
  (bc2 (m_acknowledged v1 r6) fun x9 r8 => if x9 = 0 then
  (b_comes_92  r8)
 else
  (gd (inb v1 2) <| bd (r8.1 28 v1.toNatClampNeg) fun x10 => gd (inb v1 2) <| bd (r8.1 9 v1.toNatClampNeg) fun x11 => if x11 < (4 : Int32) then
  (b_comes_126 v1 x10 r8)
 else
  (gd (inb v1 2) <| bd (r8.1 9 v1.toNatClampNeg) fun x12 => if (6 : Int32) < x12 then
  (b_comes_126 v1 x10 r8)
 else
  (bc (m_received v1 r8) fun r13 => b_comes_126 v1 x10 r13))))))))
section
variable {p : Program} {l : Launch} {e : Env} {s : State} {m : MethodId} {args : Array Value} {below : List Frame} {meth : Method} {c : Code} {D : va_G} {tc : Nat → ClassId} {o : Nat}
theorem t_comes_188 (S : RC p m c k_comes 4 s args cn_M meth none D tc) (ρ : RS) {B : RS} (h : b_comes_188  ρ = some B) {ls : Array Slot} {H : Heap} {locs : List Loc} (hl : lv_has ls 4 []) (hW : RWS D tc o s ρ H locs) : W p l e { frames := 6, cells := 0, slots := 0, locals := 152 } s m args below meth c H locs 0 0 (MQ below (RQ D tc o none B) args s 0 0 (rreg o)) (F0 m 188 ls []) := by
  have hx := S.1.1
  have hb := S.1.2.1
  unfold b_comes_188 at h
  exact rm_vret S hW d_comes_188 h
theorem t_comes_173 (S : RC p m c k_comes 4 s args cn_M meth none D tc) (v1 : Int32) (v3 : Int32) (ρ : RS) {B : RS} (h : b_comes_173 v1 v3 ρ = some B) {ls : Array Slot} {H : Heap} {locs : List Loc} (hl : lv_has ls 4 [(0, .ref o), (1, .int v1), (3, .int v3)]) (hW : RWS D tc o s ρ H locs) : W p l e { frames := 6, cells := 0, slots := 0, locals := 152 } s m args below meth c H locs 0 0 (MQ below (RQ D tc o none B) args s 0 0 (rreg o)) (F0 m 173 ls []) := by
  have hx := S.1.1
  have hb := S.1.2.1
  unfold b_comes_173 at h
  refine lv_aload_n hx hb d_comes_173 rfl (lv_at hl 0 rfl) ?_
  refine rm_geta S hW 33 28 wd_1285 (by decide) d_comes_174 ?_
  refine lv_iload_n hx hb d_comes_177 rfl (lv_at hl 1 rfl) ?_
  refine rm_iald S hW 28 2 (by decide) d_comes_178 h (fun x1 h => ?_)
  refine lv_iload_n hx hb d_comes_179 rfl (lv_at hl 2 rfl) ?_
  refine rc_ne (tgt := 188) hx hb d_comes_180 (by decide) h (fun h => ?_) (fun h => ?_)
  · exact t_comes_188 S  ρ h (lv_sub hl [] rfl) hW
  · refine lv_aload_n hx hb d_comes_183 rfl (lv_at hl 0 rfl) ?_
    refine lv_iload_n hx hb d_comes_184 rfl (lv_at hl 1 rfl) ?_
    refine rm_cVv [.int v1] S hW (fun ρ' hc => c_sendAck v1 ρ hc) q_sendAck wd_1525 wd_50 wd_1523 (by decide) hl.1 rfl rfl (Nat.le_of_ble_eq_true rfl) d_comes_185 h (fun r2 H locs h hW => ?_)
    exact t_comes_188 S  r2 h (lv_sub hl [] rfl) hW
theorem t_comes_151 (S : RC p m c k_comes 4 s args cn_M meth none D tc) (v1 : Int32) (v3 : Int32) (ρ : RS) {B : RS} (h : b_comes_151 v1 v3 ρ = some B) {ls : Array Slot} {H : Heap} {locs : List Loc} (hl : lv_has ls 4 [(0, .ref o), (1, .int v1), (3, .int v3)]) (hW : RWS D tc o s ρ H locs) : W p l e { frames := 6, cells := 0, slots := 0, locals := 152 } s m args below meth c H locs 0 0 (MQ below (RQ D tc o none B) args s 0 0 (rreg o)) (F0 m 151 ls []) := by
  have hx := S.1.1
  have hb := S.1.2.1
  unfold b_comes_151 at h
  refine lv_aload_n hx hb d_comes_151 rfl (lv_at hl 0 rfl) ?_
  refine lv_iload_n hx hb d_comes_152 rfl (lv_at hl 1 rfl) ?_
  refine rm_cVi [.int v1] S hW (fun x ρ' hc => c_output v1 ρ hc) q_output wd_1508 wd_47 wd_1506 (by decide) hl.1 rfl rfl (Nat.le_of_ble_eq_true rfl) d_comes_153 h (fun x2 r1 H locs h hW => ?_)
  refine lv_pop hx hb d_comes_156 rfl ?_
  refine lv_aload_n hx hb d_comes_157 rfl (lv_at hl 0 rfl) ?_
  refine rm_geti S hW 51 wd_1303 (by decide) d_comes_158 h (fun x3 h => ?_)
  refine rb_gt (tgt := 173) hx hb d_comes_161 (by decide) h (fun h => ?_) (fun h => ?_)
  · exact t_comes_173 S v1 v3 r1 h (lv_sub hl [0, 1, 2] rfl) hW
  · refine lv_aload_n hx hb d_comes_164 rfl (lv_at hl 0 rfl) ?_
    refine rm_geti S hW 48 wd_1300 (by decide) d_comes_165 h (fun x4 h => ?_)
    refine lv_iconst (v := 1) hx hb d_comes_168 (by decide) ?_
    refine lv_iand hx hb d_comes_169 ?_
    refine rb_eq (tgt := 188) hx hb d_comes_170 (by decide) h (fun h => ?_) (fun h => ?_)
    · exact t_comes_188 S  r1 h (lv_sub hl [] rfl) hW
    · exact t_comes_173 S v1 v3 r1 h (lv_sub hl [0, 1, 2] rfl) hW
theorem t_comes_126 (S : RC p m c k_comes 4 s args cn_M meth none D tc) (v1 : Int32) (v3 : Int32) (ρ : RS) {B : RS} (h : b_comes_126 v1 v3 ρ = some B) {ls : Array Slot} {H : Heap} {locs : List Loc} (hl : lv_has ls 4 [(0, .ref o), (1, .int v1), (3, .int v3)]) (hW : RWS D tc o s ρ H locs) : W p l e { frames := 6, cells := 0, slots := 0, locals := 152 } s m args below meth c H locs 0 0 (MQ below (RQ D tc o none B) args s 0 0 (rreg o)) (F0 m 126 ls []) := by
  have hx := S.1.1
  have hb := S.1.2.1
  unfold b_comes_126 at h
  refine lv_aload_n hx hb d_comes_126 rfl (lv_at hl 0 rfl) ?_
  refine rm_geta S hW 14 9 wd_1266 (by decide) d_comes_127 ?_
  refine lv_iload_n hx hb d_comes_130 rfl (lv_at hl 1 rfl) ?_
  refine rm_iald S hW 9 2 (by decide) d_comes_131 h (fun x1 h => ?_)
  refine lv_bipush (v := 10) hx hb d_comes_132 (by decide) ?_
  refine rc_ne (tgt := 151) hx hb d_comes_134 (by decide) h (fun h => ?_) (fun h => ?_)
  · exact t_comes_151 S v1 v3 ρ h (lv_sub hl [0, 1, 2] rfl) hW
  · refine lv_aload_n hx hb d_comes_137 rfl (lv_at hl 0 rfl) ?_
    refine rm_geta S hW 38 33 wd_1290 (by decide) d_comes_138 ?_
    refine lv_iload_n hx hb d_comes_141 rfl (lv_at hl 1 rfl) ?_
    refine lv_aload_n hx hb d_comes_142 rfl (lv_at hl 0 rfl) ?_
    refine rm_getl S hW 3 wd_1255 (by decide) d_comes_143 h (fun x2 h => ?_)
    refine lv_ldc2 hx hb S.1.2.2.2.1 (S.1.2.2.2.2 _ (gi wd_1631 rfl)) d_comes_146 ?_
    refine lv_ladd hx hb d_comes_149 ?_
    refine rm_last S hW 33 2 (by decide) d_comes_150 h (fun r3 H locs h hW => ?_)
    exact t_comes_151 S v1 v3 r3 h (lv_sub hl [0, 1, 2] rfl) hW
theorem t_comes_92 (S : RC p m c k_comes 4 s args cn_M meth none D tc) (ρ : RS) {B : RS} (h : b_comes_92  ρ = some B) {ls : Array Slot} {H : Heap} {locs : List Loc} (hl : lv_has ls 4 []) (hW : RWS D tc o s ρ H locs) : W p l e { frames := 6, cells := 0, slots := 0, locals := 152 } s m args below meth c H locs 0 0 (MQ below (RQ D tc o none B) args s 0 0 (rreg o)) (F0 m 92 ls []) := by
  have hx := S.1.1
  have hb := S.1.2.1
  unfold b_comes_92 at h
  exact rm_vret S hW d_comes_92 h
theorem t_comes_43 (S : RC p m c k_comes 4 s args cn_M meth none D tc) (ρ : RS) {B : RS} (h : b_comes_43  ρ = some B) {ls : Array Slot} {H : Heap} {locs : List Loc} (hl : lv_has ls 4 []) (hW : RWS D tc o s ρ H locs) : W p l e { frames := 6, cells := 0, slots := 0, locals := 152 } s m args below meth c H locs 0 0 (MQ below (RQ D tc o none B) args s 0 0 (rreg o)) (F0 m 43 ls []) := by
  have hx := S.1.1
  have hb := S.1.2.1
  unfold b_comes_43 at h
  exact rm_vret S hW d_comes_43 h
theorem t_comes_0 (S : RC p m c k_comes 4 s args cn_M meth none D tc) (v1 : Int32) (v2 : Int32) (ρ : RS) {B : RS} (h : m_comes v1 v2 ρ = some B) {ls : Array Slot} {H : Heap} {locs : List Loc} (hl : lv_has ls 4 [(0, .ref o), (1, .int v1), (2, .int v2)]) (hW : RWS D tc o s ρ H locs) : W p l e { frames := 6, cells := 0, slots := 0, locals := 152 } s m args below meth c H locs 0 0 (MQ below (RQ D tc o none B) args s 0 0 (rreg o)) (F0 m 0 ls []) := by
  have hx := S.1.1
  have hb := S.1.2.1
  unfold m_comes at h
  refine lv_aload_n hx hb d_comes_0 rfl (lv_at hl 0 rfl) ?_
  refine lv_iload_n hx hb d_comes_1 rfl (lv_at hl 1 rfl) ?_
  refine lv_iload_n hx hb d_comes_2 rfl (lv_at hl 2 rfl) ?_
  refine rm_cVi [.int v1, .int v2] S hW (fun x ρ' hc => c_header v1 v2 ρ hc) q_header wd_1571 wd_57 wd_1569 (by decide) hl.1 rfl rfl (Nat.le_of_ble_eq_true rfl) d_comes_3 h (fun x2 r1 H locs h hW => ?_)
  refine rb_ne (tgt := 20) hx hb d_comes_6 (by decide) h (fun h => ?_) (fun h => ?_)
  · refine lv_aload_n hx hb d_comes_20 rfl (lv_at hl 0 rfl) ?_
    refine rm_geta S hW 14 9 wd_1266 (by decide) d_comes_21 ?_
    refine lv_iload_n hx hb d_comes_24 rfl (lv_at hl 1 rfl) ?_
    refine rm_iald S hW 9 2 (by decide) d_comes_25 h (fun x3 h => ?_)
    refine rb_ne (tgt := 44) hx hb d_comes_26 (by decide) h (fun h => ?_) (fun h => ?_)
    · refine lv_aload_n hx hb d_comes_44 rfl (lv_at hl 0 rfl) ?_
      refine rm_geta S hW 14 9 wd_1266 (by decide) d_comes_45 ?_
      refine lv_iload_n hx hb d_comes_48 rfl (lv_at hl 1 rfl) ?_
      refine rm_iald S hW 9 2 (by decide) d_comes_49 h (fun x4 h => ?_)
      refine lv_iconst (v := 1) hx hb d_comes_50 (by decide) ?_
      refine rc_ne (tgt := 60) hx hb d_comes_51 (by decide) h (fun h => ?_) (fun h => ?_)
      · refine lv_aload_n hx hb d_comes_60 rfl (lv_at hl 0 rfl) ?_
        refine rm_geta S hW 14 9 wd_1266 (by decide) d_comes_61 ?_
        refine lv_iload_n hx hb d_comes_64 rfl (lv_at hl 1 rfl) ?_
        refine rm_iald S hW 9 2 (by decide) d_comes_65 h (fun x5 h => ?_)
        refine lv_iconst (v := 2) hx hb d_comes_66 (by decide) ?_
        refine rc_ne (tgt := 76) hx hb d_comes_67 (by decide) h (fun h => ?_) (fun h => ?_)
        · refine lv_aload_n hx hb d_comes_76 rfl (lv_at hl 0 rfl) ?_
          refine lv_iload_n hx hb d_comes_77 rfl (lv_at hl 1 rfl) ?_
          refine rm_cVi [.int v1] S hW (fun x ρ' hc => c_admitted v1 r1 hc) q_admitted wd_1621 wd_68 wd_1619 (by decide) hl.1 rfl rfl (Nat.le_of_ble_eq_true rfl) d_comes_78 h (fun x7 r6 H locs h hW => ?_)
          refine rb_eq (tgt := 92) hx hb d_comes_81 (by decide) h (fun h => ?_) (fun h => ?_)
          · exact t_comes_92 S  r6 h (lv_sub hl [] rfl) hW
          · refine lv_aload_n hx hb d_comes_84 rfl (lv_at hl 0 rfl) ?_
            refine lv_iload_n hx hb d_comes_85 rfl (lv_at hl 1 rfl) ?_
            refine rm_cVi [.int v1] S hW (fun x ρ' hc => c_acknowledged v1 r6 hc) q_acknowledged wd_1634 wd_71 wd_1632 (by decide) hl.1 rfl rfl (Nat.le_of_ble_eq_true rfl) d_comes_86 h (fun x9 r8 H locs h hW => ?_)
            refine rb_ne (tgt := 93) hx hb d_comes_89 (by decide) h (fun h => ?_) (fun h => ?_)
            · refine lv_aload_n hx hb d_comes_93 rfl (lv_at hl 0 rfl) ?_
              refine rm_geta S hW 33 28 wd_1285 (by decide) d_comes_94 ?_
              refine lv_iload_n hx hb d_comes_97 rfl (lv_at hl 1 rfl) ?_
              refine rm_iald S hW 28 2 (by decide) d_comes_98 h (fun x10 h => ?_)
              refine lv_istore_n (lv' := [(3, .int x10), (0, .ref o), (1, .int v1), (2, .int v2)]) hx hb d_comes_99 rfl hl (by decide) rfl (fun ls hl => ?_)
              refine lv_aload_n hx hb d_comes_100 rfl (lv_at hl 1 rfl) ?_
              refine rm_geta S hW 14 9 wd_1266 (by decide) d_comes_101 ?_
              refine lv_iload_n hx hb d_comes_104 rfl (lv_at hl 2 rfl) ?_
              refine rm_iald S hW 9 2 (by decide) d_comes_105 h (fun x11 h => ?_)
              refine lv_iconst (v := 4) hx hb d_comes_106 (by decide) ?_
              refine rc_lt (tgt := 126) hx hb d_comes_107 (by decide) h (fun h => ?_) (fun h => ?_)
              · exact t_comes_126 S v1 x10 r8 h (lv_sub hl [1, 2, 0] rfl) hW
              · refine lv_aload_n hx hb d_comes_110 rfl (lv_at hl 1 rfl) ?_
                refine rm_geta S hW 14 9 wd_1266 (by decide) d_comes_111 ?_
                refine lv_iload_n hx hb d_comes_114 rfl (lv_at hl 2 rfl) ?_
                refine rm_iald S hW 9 2 (by decide) d_comes_115 h (fun x12 h => ?_)
                refine lv_bipush (v := 6) hx hb d_comes_116 (by decide) ?_
                refine rc_gt (tgt := 126) hx hb d_comes_118 (by decide) h (fun h => ?_) (fun h => ?_)
                · exact t_comes_126 S v1 x10 r8 h (lv_sub hl [1, 2, 0] rfl) hW
                · refine lv_aload_n hx hb d_comes_121 rfl (lv_at hl 1 rfl) ?_
                  refine lv_iload_n hx hb d_comes_122 rfl (lv_at hl 2 rfl) ?_
                  refine rm_cVv [.int v1] S hW (fun ρ' hc => c_received v1 r8 hc) q_received wd_1646 wd_74 wd_1644 (by decide) hl.1 rfl rfl (Nat.le_of_ble_eq_true rfl) d_comes_123 h (fun r13 H locs h hW => ?_)
                  exact t_comes_126 S v1 x10 r13 h (lv_sub hl [1, 2, 0] rfl) hW
            · exact t_comes_92 S  r8 h (lv_sub hl [] rfl) hW
        · refine lv_aload_n hx hb d_comes_70 rfl (lv_at hl 0 rfl) ?_
          refine lv_iload_n hx hb d_comes_71 rfl (lv_at hl 1 rfl) ?_
          refine rm_cVv [.int v1] S hW (fun ρ' hc => c_called v1 r1 hc) q_called wd_1607 wd_66 wd_1605 (by decide) hl.1 rfl rfl (Nat.le_of_ble_eq_true rfl) d_comes_72 h (fun r14 H locs h hW => ?_)
          exact rm_vret S hW d_comes_75 h
      · refine lv_aload_n hx hb d_comes_54 rfl (lv_at hl 0 rfl) ?_
        refine lv_iload_n hx hb d_comes_55 rfl (lv_at hl 1 rfl) ?_
        refine rm_cVv [.int v1] S hW (fun ρ' hc => c_listened v1 r1 hc) q_listened wd_1595 wd_63 wd_1593 (by decide) hl.1 rfl rfl (Nat.le_of_ble_eq_true rfl) d_comes_56 h (fun r15 H locs h hW => ?_)
        exact rm_vret S hW d_comes_59 h
    · refine lv_aload_n hx hb d_comes_29 rfl (lv_at hl 0 rfl) ?_
      refine rm_geti S hW 48 wd_1300 (by decide) d_comes_30 h (fun x16 h => ?_)
      refine lv_iconst (v := 4) hx hb d_comes_33 (by decide) ?_
      refine lv_iand hx hb d_comes_34 ?_
      refine rb_ne (tgt := 43) hx hb d_comes_35 (by decide) h (fun h => ?_) (fun h => ?_)
      · exact t_comes_43 S  r1 h (lv_sub hl [] rfl) hW
      · refine lv_aload_n hx hb d_comes_38 rfl (lv_at hl 0 rfl) ?_
        refine lv_iload_n hx hb d_comes_39 rfl (lv_at hl 1 rfl) ?_
        refine rm_cVv [.int v1] S hW (fun ρ' hc => c_answer v1 r1 hc) q_answer wd_1591 wd_62 wd_1589 (by decide) hl.1 rfl rfl (Nat.le_of_ble_eq_true rfl) d_comes_40 h (fun r17 H locs h hW => ?_)
        exact t_comes_43 S  r17 h (lv_sub hl [] rfl) hW
  · refine lv_aload_n hx hb d_comes_9 rfl (lv_at hl 0 rfl) ?_
    refine rm_geta S hW 34 29 wd_1286 (by decide) d_comes_10 ?_
    refine lv_iload_n hx hb d_comes_13 rfl (lv_at hl 1 rfl) ?_
    refine lv_dup2_11 hx hb d_comes_14 rfl rfl ?_
    refine rm_iald S hW 29 2 (by decide) d_comes_15 h (fun x18 h => ?_)
    refine lv_iconst (v := 1) hx hb d_comes_16 (by decide) ?_
    refine lv_iadd hx hb d_comes_17 ?_
    refine rm_iast S hW 29 2 (by decide) d_comes_18 h (fun r19 H locs h hW => ?_)
    exact rm_vret S hW d_comes_19 h
theorem c_comes (v1 : Int32) (v2 : Int32) (ρ : RS) {B : RS} (h : m_comes v1 v2 ρ = some B) : RMet l D tc o y_comes k_comes 4 none 6 152 [.ref o, .int v1, .int v2] ρ none B := rm_met (by decide) (Nat.le_of_ble_eq_true rfl) fun p e s m args below meth c S hW ls hl => t_comes_0 S v1 v2 ρ h hl hW
end

/-! feed (IIIII)I -/
abbrev k_feed : ByteArray := prog_12_method_43_code
abbrev y_feed : MethodName := ⟨cn_M, "feed", "(IIIII)I"⟩
theorem q_feed : Calee y_feed k_feed 8 (some .int) 5 := ⟨wd_1425, wd_90, by decide, by decide +kernel⟩
theorem d_feed_0 : decode k_feed 0 = .ok (.aload_n 0, 1) := by decide +kernel
theorem d_feed_1 : decode k_feed 1 = .ok (.iconst 0, 1) := by decide +kernel
theorem d_feed_2 : decode k_feed 2 = .ok (.putfield 140, 3) := by decide +kernel
theorem d_feed_5 : decode k_feed 5 = .ok (.aload_n 0, 1) := by decide +kernel
theorem d_feed_6 : decode k_feed 6 = .ok (.getfield 323, 3) := by decide +kernel
theorem d_feed_9 : decode k_feed 9 = .ok (.ldc_w 326, 3) := by decide +kernel
theorem d_feed_12 : decode k_feed 12 = .ok (.if_icmp .le 9, 3) := by decide +kernel
theorem d_feed_15 : decode k_feed 15 = .ok (.aload_n 0, 1) := by decide +kernel
theorem d_feed_16 : decode k_feed 16 = .ok (.iconst 1, 1) := by decide +kernel
theorem d_feed_17 : decode k_feed 17 = .ok (.invokevirtual 327, 3) := by decide +kernel
theorem d_feed_20 : decode k_feed 20 = .ok (.ireturn, 1) := by decide +kernel
theorem d_feed_21 : decode k_feed 21 = .ok (.iconst 0, 1) := by decide +kernel
theorem d_feed_22 : decode k_feed 22 = .ok (.istore 6, 2) := by decide +kernel
theorem d_feed_24 : decode k_feed 24 = .ok (.iload 6, 2) := by decide +kernel
theorem d_feed_26 : decode k_feed 26 = .ok (.bipush 20, 2) := by decide +kernel
theorem d_feed_28 : decode k_feed 28 = .ok (.if_icmp .ge 82, 3) := by decide +kernel
theorem d_feed_31 : decode k_feed 31 = .ok (.iload 6, 2) := by decide +kernel
theorem d_feed_33 : decode k_feed 33 = .ok (.iconst 4, 1) := by decide +kernel
theorem d_feed_34 : decode k_feed 34 = .ok (.if_icmp .ge 7, 3) := by decide +kernel
theorem d_feed_37 : decode k_feed 37 = .ok (.iload_n 1, 1) := by decide +kernel
theorem d_feed_38 : decode k_feed 38 = .ok (.goto 39, 3) := by decide +kernel
theorem d_feed_41 : decode k_feed 41 = .ok (.iload 6, 2) := by decide +kernel
theorem d_feed_43 : decode k_feed 43 = .ok (.bipush 8, 2) := by decide +kernel
theorem d_feed_45 : decode k_feed 45 = .ok (.if_icmp .ge 7, 3) := by decide +kernel
theorem d_feed_48 : decode k_feed 48 = .ok (.iload_n 2, 1) := by decide +kernel
theorem d_feed_49 : decode k_feed 49 = .ok (.goto 28, 3) := by decide +kernel
theorem d_feed_52 : decode k_feed 52 = .ok (.iload 6, 2) := by decide +kernel
theorem d_feed_54 : decode k_feed 54 = .ok (.bipush 12, 2) := by decide +kernel
theorem d_feed_56 : decode k_feed 56 = .ok (.if_icmp .ge 7, 3) := by decide +kernel
theorem d_feed_59 : decode k_feed 59 = .ok (.iload_n 3, 1) := by decide +kernel
theorem d_feed_60 : decode k_feed 60 = .ok (.goto 17, 3) := by decide +kernel
theorem d_feed_63 : decode k_feed 63 = .ok (.iload 6, 2) := by decide +kernel
theorem d_feed_65 : decode k_feed 65 = .ok (.bipush 16, 2) := by decide +kernel
theorem d_feed_67 : decode k_feed 67 = .ok (.if_icmp .ge 8, 3) := by decide +kernel
theorem d_feed_70 : decode k_feed 70 = .ok (.iload 4, 2) := by decide +kernel
theorem d_feed_72 : decode k_feed 72 = .ok (.goto 5, 3) := by decide +kernel
theorem d_feed_75 : decode k_feed 75 = .ok (.iload 5, 2) := by decide +kernel
theorem d_feed_77 : decode k_feed 77 = .ok (.istore 7, 2) := by decide +kernel
theorem d_feed_79 : decode k_feed 79 = .ok (.aload_n 0, 1) := by decide +kernel
theorem d_feed_80 : decode k_feed 80 = .ok (.getfield 8, 3) := by decide +kernel
theorem d_feed_83 : decode k_feed 83 = .ok (.aload_n 0, 1) := by decide +kernel
theorem d_feed_84 : decode k_feed 84 = .ok (.getfield 323, 3) := by decide +kernel
theorem d_feed_87 : decode k_feed 87 = .ok (.iload 6, 2) := by decide +kernel
theorem d_feed_89 : decode k_feed 89 = .ok (.iadd, 1) := by decide +kernel
theorem d_feed_90 : decode k_feed 90 = .ok (.iload 7, 2) := by decide +kernel
theorem d_feed_92 : decode k_feed 92 = .ok (.bipush 8, 2) := by decide +kernel
theorem d_feed_94 : decode k_feed 94 = .ok (.iconst 3, 1) := by decide +kernel
theorem d_feed_95 : decode k_feed 95 = .ok (.iload 6, 2) := by decide +kernel
theorem d_feed_97 : decode k_feed 97 = .ok (.iconst 4, 1) := by decide +kernel
theorem d_feed_98 : decode k_feed 98 = .ok (.irem, 1) := by decide +kernel
theorem d_feed_99 : decode k_feed 99 = .ok (.isub, 1) := by decide +kernel
theorem d_feed_100 : decode k_feed 100 = .ok (.imul, 1) := by decide +kernel
theorem d_feed_101 : decode k_feed 101 = .ok (.ishr, 1) := by decide +kernel
theorem d_feed_102 : decode k_feed 102 = .ok (.i2b, 1) := by decide +kernel
theorem d_feed_103 : decode k_feed 103 = .ok (.bastore, 1) := by decide +kernel
theorem d_feed_104 : decode k_feed 104 = .ok (.iinc 6 1, 3) := by decide +kernel
theorem d_feed_107 : decode k_feed 107 = .ok (.goto (-83), 3) := by decide +kernel
theorem d_feed_110 : decode k_feed 110 = .ok (.aload_n 0, 1) := by decide +kernel
theorem d_feed_111 : decode k_feed 111 = .ok (.dup, 1) := by decide +kernel
theorem d_feed_112 : decode k_feed 112 = .ok (.getfield 323, 3) := by decide +kernel
theorem d_feed_115 : decode k_feed 115 = .ok (.bipush 20, 2) := by decide +kernel
theorem d_feed_117 : decode k_feed 117 = .ok (.iadd, 1) := by decide +kernel
theorem d_feed_118 : decode k_feed 118 = .ok (.putfield 323, 3) := by decide +kernel
theorem d_feed_121 : decode k_feed 121 = .ok (.aload_n 0, 1) := by decide +kernel
theorem d_feed_122 : decode k_feed 122 = .ok (.getfield 323, 3) := by decide +kernel
theorem d_feed_125 : decode k_feed 125 = .ok (.ireturn, 1) := by decide +kernel
def b_feed_77 (rec24 : Int32 → Int32 → Int32 → Int32 → Int32 → Int32 → RS → Option (Int32 × RS)) (v1 : Int32) (v2 : Int32) (v3 : Int32) (v4 : Int32) (v5 : Int32) (v6 : Int32) (w0 : Int32) (ρ : RS) : Option (Int32 × RS) :=
  bd (ρ.1 0 2) fun x1 => gd (¬ (4 : Int32) = 0) <| gd (inb (x1 + v6) 65536) <| bd (si ρ 1 (x1 + v6).toNatClampNeg (vp_nar .byte ((w0 >>> (((8 : Int32) * ((3 : Int32) - (v6 - v6 / (4 : Int32) * (4 : Int32)))) &&& 31)).toInt8.toInt32))) fun r2 => bd (v6 + (1 : Int32)) fun x3 => rec24 v1 v2 v3 v4 v5 x3 r2
def F_feed_24 (rec24 : Int32 → Int32 → Int32 → Int32 → Int32 → Int32 → RS → Option (Int32 × RS)) (v1 : Int32) (v2 : Int32) (v3 : Int32) (v4 : Int32) (v5 : Int32) (v6 : Int32) (ρ : RS) : Option (Int32 × RS) :=
  if (20 : Int32) ≤ v6 then
  (bd (ρ.1 0 2) fun x1 => bd (si ρ 0 2 (x1 + (20 : Int32))) fun r2 => bd (r2.1 0 2) fun x3 => some (x3, r2))
 else
  (if (4 : Int32) ≤ v6 then
  (if (8 : Int32) ≤ v6 then
  (if (12 : Int32) ≤ v6 then
  (if (16 : Int32) ≤ v6 then
  (b_feed_77 rec24 v1 v2 v3 v4 v5 v6 v5 ρ)
 else
  (b_feed_77 rec24 v1 v2 v3 v4 v5 v6 v4 ρ))
 else
  (b_feed_77 rec24 v1 v2 v3 v4 v5 v6 v3 ρ))
 else
  (b_feed_77 rec24 v1 v2 v3 v4 v5 v6 v2 ρ))
 else
  (b_feed_77 rec24 v1 v2 v3 v4 v5 v6 v1 ρ))
def m_feed (v1 : Int32) (v2 : Int32) (v3 : Int32) (v4 : Int32) (v5 : Int32) (ρ : RS) : Option (Int32 × RS) :=
  bd (si ρ 0 0 (0 : Int32)) fun r1 => bd (r1.1 0 2) fun x2 => if x2 ≤ (65516 : Int32) then
  (lq7 (F_feed_24) fuel v1 v2 v3 v4 v5 (0 : Int32) r1)
 else
  (bc2 (m_fail (1 : Int32) r1) fun x4 r3 => some (x4, r3))
def P_feed_24 (p : Program) (l : Launch) (e : Env) (s : State) (m : MethodId) (args : Array Value) (below : List Frame) (meth : Method) (c : Code) (D : va_G) (tc : Nat → ClassId) (o : Nat) (v1 : Int32) (v2 : Int32) (v3 : Int32) (v4 : Int32) (v5 : Int32) (v6 : Int32) (ρ : RS) (B : Int32 × RS) : Prop := ∀ (ls : Array Slot) (H : Heap) (locs : List Loc), lv_has ls 8 [(0, .ref o), (1, .int v1), (2, .int v2), (3, .int v3), (4, .int v4), (5, .int v5), (6, .int v6)] → RWS D tc o s ρ H locs → W p l e { frames := 1, cells := 0, slots := 0, locals := 21 } s m args below meth c H locs 0 0 (MQ below (RQ D tc o (some (.int B.1)) B.2) args s 0 0 (rreg o)) (F0 m 24 ls [])
section
variable {p : Program} {l : Launch} {e : Env} {s : State} {m : MethodId} {args : Array Value} {below : List Frame} {meth : Method} {c : Code} {D : va_G} {tc : Nat → ClassId} {o : Nat}
theorem t_feed_77 (S : RC p m c k_feed 8 s args cn_M meth (some .int) D tc) {rec24 : Int32 → Int32 → Int32 → Int32 → Int32 → Int32 → RS → Option (Int32 × RS)} (hrec24 : ∀ (v1 : Int32) (v2 : Int32) (v3 : Int32) (v4 : Int32) (v5 : Int32) (v6 : Int32) (ρ : RS) (B : Int32 × RS), rec24 v1 v2 v3 v4 v5 v6 ρ = some B → P_feed_24 p l e s m args below meth c D tc o v1 v2 v3 v4 v5 v6 ρ B) (v1 : Int32) (v2 : Int32) (v3 : Int32) (v4 : Int32) (v5 : Int32) (v6 : Int32) (w0 : Int32) (ρ : RS) {B : Int32 × RS} (h : b_feed_77 rec24 v1 v2 v3 v4 v5 v6 w0 ρ = some B) {ls : Array Slot} {H : Heap} {locs : List Loc} (hl : lv_has ls 8 [(0, .ref o), (1, .int v1), (2, .int v2), (3, .int v3), (4, .int v4), (5, .int v5), (6, .int v6)]) (hW : RWS D tc o s ρ H locs) : W p l e { frames := 1, cells := 0, slots := 0, locals := 21 } s m args below meth c H locs 0 0 (MQ below (RQ D tc o (some (.int B.1)) B.2) args s 0 0 (rreg o)) (F0 m 77 ls [.int w0]) := by
  have hx := S.1.1
  have hb := S.1.2.1
  unfold b_feed_77 at h
  refine lv_istore (lv' := [(7, .int w0), (0, .ref o), (1, .int v1), (2, .int v2), (3, .int v3), (4, .int v4), (5, .int v5), (6, .int v6)]) hx hb d_feed_77 hl (by decide) rfl (fun ls hl => ?_)
  refine lv_aload_n hx hb d_feed_79 rfl (lv_at hl 1 rfl) ?_
  refine rm_geta S hW 1 1 wd_1253 (by decide) d_feed_80 ?_
  refine lv_aload_n hx hb d_feed_83 rfl (lv_at hl 1 rfl) ?_
  refine rm_geti S hW 2 wd_1254 (by decide) d_feed_84 h (fun x1 h => ?_)
  refine lv_iload hx hb d_feed_87 (lv_at hl 7 rfl) ?_
  refine lv_iadd hx hb d_feed_89 ?_
  refine lv_iload hx hb d_feed_90 (lv_at hl 0 rfl) ?_
  refine lv_bipush (v := 8) hx hb d_feed_92 (by decide) ?_
  refine lv_iconst (v := 3) hx hb d_feed_94 (by decide) ?_
  refine lv_iload hx hb d_feed_95 (lv_at hl 7 rfl) ?_
  refine lv_iconst (v := 4) hx hb d_feed_97 (by decide) ?_
  refine rv_irem hx hb d_feed_98 h (fun h => ?_)
  refine lv_isub hx hb d_feed_99 ?_
  refine lv_imul hx hb d_feed_100 ?_
  refine lv_ishr hx hb d_feed_101 ?_
  refine lv_i2b hx hb d_feed_102 rfl ?_
  refine rm_bast S hW 1 65536 (by decide) d_feed_103 h (fun r2 H locs h hW => ?_)
  refine rv_iinc (k := 7) (v := 1) (lv' := fun x3 => [(6, .int x3), (7, .int w0), (0, .ref o), (1, .int v1), (2, .int v2), (3, .int v3), (4, .int v4), (5, .int v5)]) hx hb d_feed_104 hl rfl (by decide) (by decide) (fun _ => rfl) h (fun x3 ls h hl => ?_)
  refine lv_goto (tgt := 24) hx hb d_feed_107 (by decide) ?_
  exact hrec24 v1 v2 v3 v4 v5 x3 r2 _ h _ _ _ (lv_sub hl [2, 3, 4, 5, 6, 7, 0] rfl) hW
theorem tF_feed_24 (S : RC p m c k_feed 8 s args cn_M meth (some .int) D tc) : ∀ (rec24 : Int32 → Int32 → Int32 → Int32 → Int32 → Int32 → RS → Option (Int32 × RS)), (∀ (v1 : Int32) (v2 : Int32) (v3 : Int32) (v4 : Int32) (v5 : Int32) (v6 : Int32) (ρ : RS) (B : Int32 × RS), rec24 v1 v2 v3 v4 v5 v6 ρ = some B → P_feed_24 p l e s m args below meth c D tc o v1 v2 v3 v4 v5 v6 ρ B) → ∀ (v1 : Int32) (v2 : Int32) (v3 : Int32) (v4 : Int32) (v5 : Int32) (v6 : Int32) (ρ : RS) (B : Int32 × RS), F_feed_24 rec24 v1 v2 v3 v4 v5 v6 ρ = some B → P_feed_24 p l e s m args below meth c D tc o v1 v2 v3 v4 v5 v6 ρ B := by
  intro rec24 hrec24 v1 v2 v3 v4 v5 v6 ρ B h ls H locs hl hW
  have hx := S.1.1
  have hb := S.1.2.1
  unfold F_feed_24 at h
  refine lv_iload hx hb d_feed_24 (lv_at hl 6 rfl) ?_
  refine lv_bipush (v := 20) hx hb d_feed_26 (by decide) ?_
  refine rc_ge (tgt := 110) hx hb d_feed_28 (by decide) h (fun h => ?_) (fun h => ?_)
  · refine lv_aload_n hx hb d_feed_110 rfl (lv_at hl 0 rfl) ?_
    refine lv_dup hx hb d_feed_111 rfl ?_
    refine rm_geti S hW 2 wd_1254 (by decide) d_feed_112 h (fun x1 h => ?_)
    refine lv_bipush (v := 20) hx hb d_feed_115 (by decide) ?_
    refine lv_iadd hx hb d_feed_117 ?_
    refine rm_puti S hW 2 wd_1254 (by decide) d_feed_118 h (fun r2 H locs h hW => ?_)
    refine lv_aload_n hx hb d_feed_121 rfl (lv_at hl 0 rfl) ?_
    refine rm_geti S hW 2 wd_1254 (by decide) d_feed_122 h (fun x3 h => ?_)
    exact rm_iret S hW d_feed_125 h
  · refine lv_iload hx hb d_feed_31 (lv_at hl 6 rfl) ?_
    refine lv_iconst (v := 4) hx hb d_feed_33 (by decide) ?_
    refine rc_ge (tgt := 41) hx hb d_feed_34 (by decide) h (fun h => ?_) (fun h => ?_)
    · refine lv_iload hx hb d_feed_41 (lv_at hl 6 rfl) ?_
      refine lv_bipush (v := 8) hx hb d_feed_43 (by decide) ?_
      refine rc_ge (tgt := 52) hx hb d_feed_45 (by decide) h (fun h => ?_) (fun h => ?_)
      · refine lv_iload hx hb d_feed_52 (lv_at hl 6 rfl) ?_
        refine lv_bipush (v := 12) hx hb d_feed_54 (by decide) ?_
        refine rc_ge (tgt := 63) hx hb d_feed_56 (by decide) h (fun h => ?_) (fun h => ?_)
        · refine lv_iload hx hb d_feed_63 (lv_at hl 6 rfl) ?_
          refine lv_bipush (v := 16) hx hb d_feed_65 (by decide) ?_
          refine rc_ge (tgt := 75) hx hb d_feed_67 (by decide) h (fun h => ?_) (fun h => ?_)
          · refine lv_iload hx hb d_feed_75 (lv_at hl 5 rfl) ?_
            exact t_feed_77 S hrec24 v1 v2 v3 v4 v5 v6 v5 ρ h (lv_sub hl [0, 1, 2, 3, 4, 5, 6] rfl) hW
          · refine lv_iload hx hb d_feed_70 (lv_at hl 4 rfl) ?_
            refine lv_goto (tgt := 77) hx hb d_feed_72 (by decide) ?_
            exact t_feed_77 S hrec24 v1 v2 v3 v4 v5 v6 v4 ρ h (lv_sub hl [0, 1, 2, 3, 4, 5, 6] rfl) hW
        · refine lv_iload_n hx hb d_feed_59 rfl (lv_at hl 3 rfl) ?_
          refine lv_goto (tgt := 77) hx hb d_feed_60 (by decide) ?_
          exact t_feed_77 S hrec24 v1 v2 v3 v4 v5 v6 v3 ρ h (lv_sub hl [0, 1, 2, 3, 4, 5, 6] rfl) hW
      · refine lv_iload_n hx hb d_feed_48 rfl (lv_at hl 2 rfl) ?_
        refine lv_goto (tgt := 77) hx hb d_feed_49 (by decide) ?_
        exact t_feed_77 S hrec24 v1 v2 v3 v4 v5 v6 v2 ρ h (lv_sub hl [0, 1, 2, 3, 4, 5, 6] rfl) hW
    · refine lv_iload_n hx hb d_feed_37 rfl (lv_at hl 1 rfl) ?_
      refine lv_goto (tgt := 77) hx hb d_feed_38 (by decide) ?_
      exact t_feed_77 S hrec24 v1 v2 v3 v4 v5 v6 v1 ρ h (lv_sub hl [0, 1, 2, 3, 4, 5, 6] rfl) hW
theorem t_feed_24 (S : RC p m c k_feed 8 s args cn_M meth (some .int) D tc) : ∀ (n : Nat) (v1 : Int32) (v2 : Int32) (v3 : Int32) (v4 : Int32) (v5 : Int32) (v6 : Int32) (ρ : RS) (B : Int32 × RS), lq7 (F_feed_24) n v1 v2 v3 v4 v5 v6 ρ = some B → P_feed_24 p l e s m args below meth c D tc o v1 v2 v3 v4 v5 v6 ρ B := lq7_s (tF_feed_24 S)
theorem t_feed_0 (S : RC p m c k_feed 8 s args cn_M meth (some .int) D tc) (v1 : Int32) (v2 : Int32) (v3 : Int32) (v4 : Int32) (v5 : Int32) (ρ : RS) {B : Int32 × RS} (h : m_feed v1 v2 v3 v4 v5 ρ = some B) {ls : Array Slot} {H : Heap} {locs : List Loc} (hl : lv_has ls 8 [(0, .ref o), (1, .int v1), (2, .int v2), (3, .int v3), (4, .int v4), (5, .int v5)]) (hW : RWS D tc o s ρ H locs) : W p l e { frames := 1, cells := 0, slots := 0, locals := 21 } s m args below meth c H locs 0 0 (MQ below (RQ D tc o (some (.int B.1)) B.2) args s 0 0 (rreg o)) (F0 m 0 ls []) := by
  have hx := S.1.1
  have hb := S.1.2.1
  unfold m_feed at h
  refine lv_aload_n hx hb d_feed_0 rfl (lv_at hl 0 rfl) ?_
  refine lv_iconst (v := 0) hx hb d_feed_1 (by decide) ?_
  refine rm_puti S hW 0 wd_1252 (by decide) d_feed_2 h (fun r1 H locs h hW => ?_)
  refine lv_aload_n hx hb d_feed_5 rfl (lv_at hl 0 rfl) ?_
  refine rm_geti S hW 2 wd_1254 (by decide) d_feed_6 h (fun x2 h => ?_)
  refine lv_ldcw hx hb S.1.2.2.2.1 (S.1.2.2.2.2 _ (gi wd_1426 rfl)) d_feed_9 ?_
  refine rc_le (tgt := 21) hx hb d_feed_12 (by decide) h (fun h => ?_) (fun h => ?_)
  · refine lv_iconst (v := 0) hx hb d_feed_21 (by decide) ?_
    refine lv_istore (lv' := [(6, .int (0 : Int32)), (0, .ref o), (1, .int v1), (2, .int v2), (3, .int v3), (4, .int v4), (5, .int v5)]) hx hb d_feed_22 hl (by decide) rfl (fun ls hl => ?_)
    exact t_feed_24 S fuel v1 v2 v3 v4 v5 (0 : Int32) r1 _ h _ _ _ (lv_sub hl [1, 2, 3, 4, 5, 6, 0] rfl) hW
  · refine lv_aload_n hx hb d_feed_15 rfl (lv_at hl 0 rfl) ?_
    refine lv_iconst (v := 1) hx hb d_feed_16 (by decide) ?_
    refine rm_cVi [.int (1 : Int32)] S hW (fun x ρ' hc => c_fail (1 : Int32) r1 hc) q_fail wd_1429 wd_34 wd_1427 (by decide) hl.1 rfl rfl (Nat.le_of_ble_eq_true rfl) d_feed_17 h (fun x4 r3 H locs h hW => ?_)
    exact rm_iret S hW d_feed_20 h
theorem c_feed (v1 : Int32) (v2 : Int32) (v3 : Int32) (v4 : Int32) (v5 : Int32) (ρ : RS) {x : Int32} {ρ' : RS} (h : m_feed v1 v2 v3 v4 v5 ρ = some (x, ρ')) : RMet l D tc o y_feed k_feed 8 (some .int) 1 21 [.ref o, .int v1, .int v2, .int v3, .int v4, .int v5] ρ (some (.int x)) ρ' := rm_met (by decide) (Nat.le_of_ble_eq_true rfl) fun p e s m args below meth c S hW ls hl => t_feed_0 S v1 v2 v3 v4 v5 ρ h hl hW
end

/-! end (I)I -/
abbrev k_end : ByteArray := prog_12_method_44_code
abbrev y_end : MethodName := ⟨cn_M, "end", "(I)I"⟩
theorem q_end : Calee y_end k_end 2 (some .int) 1 := ⟨wd_1434, wd_90, by decide, by decide +kernel⟩
theorem d_end_0 : decode k_end 0 = .ok (.aload_n 0, 1) := by decide +kernel
theorem d_end_1 : decode k_end 1 = .ok (.iconst 0, 1) := by decide +kernel
theorem d_end_2 : decode k_end 2 = .ok (.putfield 140, 3) := by decide +kernel
theorem d_end_5 : decode k_end 5 = .ok (.iload_n 1, 1) := by decide +kernel
theorem d_end_6 : decode k_end 6 = .ok (.ifCond .lt 11, 3) := by decide +kernel
theorem d_end_9 : decode k_end 9 = .ok (.iload_n 1, 1) := by decide +kernel
theorem d_end_10 : decode k_end 10 = .ok (.aload_n 0, 1) := by decide +kernel
theorem d_end_11 : decode k_end 11 = .ok (.getfield 323, 3) := by decide +kernel
theorem d_end_14 : decode k_end 14 = .ok (.if_icmp .le 9, 3) := by decide +kernel
theorem d_end_17 : decode k_end 17 = .ok (.aload_n 0, 1) := by decide +kernel
theorem d_end_18 : decode k_end 18 = .ok (.iconst 1, 1) := by decide +kernel
theorem d_end_19 : decode k_end 19 = .ok (.invokevirtual 327, 3) := by decide +kernel
theorem d_end_22 : decode k_end 22 = .ok (.ireturn, 1) := by decide +kernel
theorem d_end_23 : decode k_end 23 = .ok (.aload_n 0, 1) := by decide +kernel
theorem d_end_24 : decode k_end 24 = .ok (.iload_n 1, 1) := by decide +kernel
theorem d_end_25 : decode k_end 25 = .ok (.putfield 323, 3) := by decide +kernel
theorem d_end_28 : decode k_end 28 = .ok (.iload_n 1, 1) := by decide +kernel
theorem d_end_29 : decode k_end 29 = .ok (.ireturn, 1) := by decide +kernel
def b_end_17 (ρ : RS) : Option (Int32 × RS) :=
  bc2 (m_fail (1 : Int32) ρ) fun x2 r1 => some (x2, r1)
def m_end (v1 : Int32) (ρ : RS) : Option (Int32 × RS) :=
  bd (si ρ 0 0 (0 : Int32)) fun r1 => if v1 < 0 then
  (b_end_17  r1)
 else
  (bd (r1.1 0 2) fun x2 => if v1 ≤ x2 then
  (bd (si r1 0 2 v1) fun r3 => some (v1, r3))
 else
  (b_end_17  r1))
section
variable {p : Program} {l : Launch} {e : Env} {s : State} {m : MethodId} {args : Array Value} {below : List Frame} {meth : Method} {c : Code} {D : va_G} {tc : Nat → ClassId} {o : Nat}
theorem t_end_17 (S : RC p m c k_end 2 s args cn_M meth (some .int) D tc) (ρ : RS) {B : Int32 × RS} (h : b_end_17  ρ = some B) {ls : Array Slot} {H : Heap} {locs : List Loc} (hl : lv_has ls 2 [(0, .ref o)]) (hW : RWS D tc o s ρ H locs) : W p l e { frames := 1, cells := 0, slots := 0, locals := 21 } s m args below meth c H locs 0 0 (MQ below (RQ D tc o (some (.int B.1)) B.2) args s 0 0 (rreg o)) (F0 m 17 ls []) := by
  have hx := S.1.1
  have hb := S.1.2.1
  unfold b_end_17 at h
  refine lv_aload_n hx hb d_end_17 rfl (lv_at hl 0 rfl) ?_
  refine lv_iconst (v := 1) hx hb d_end_18 (by decide) ?_
  refine rm_cVi [.int (1 : Int32)] S hW (fun x ρ' hc => c_fail (1 : Int32) ρ hc) q_fail wd_1429 wd_34 wd_1427 (by decide) hl.1 rfl rfl (Nat.le_of_ble_eq_true rfl) d_end_19 h (fun x2 r1 H locs h hW => ?_)
  exact rm_iret S hW d_end_22 h
theorem t_end_0 (S : RC p m c k_end 2 s args cn_M meth (some .int) D tc) (v1 : Int32) (ρ : RS) {B : Int32 × RS} (h : m_end v1 ρ = some B) {ls : Array Slot} {H : Heap} {locs : List Loc} (hl : lv_has ls 2 [(0, .ref o), (1, .int v1)]) (hW : RWS D tc o s ρ H locs) : W p l e { frames := 1, cells := 0, slots := 0, locals := 21 } s m args below meth c H locs 0 0 (MQ below (RQ D tc o (some (.int B.1)) B.2) args s 0 0 (rreg o)) (F0 m 0 ls []) := by
  have hx := S.1.1
  have hb := S.1.2.1
  unfold m_end at h
  refine lv_aload_n hx hb d_end_0 rfl (lv_at hl 0 rfl) ?_
  refine lv_iconst (v := 0) hx hb d_end_1 (by decide) ?_
  refine rm_puti S hW 0 wd_1252 (by decide) d_end_2 h (fun r1 H locs h hW => ?_)
  refine lv_iload_n hx hb d_end_5 rfl (lv_at hl 1 rfl) ?_
  refine rb_lt (tgt := 17) hx hb d_end_6 (by decide) h (fun h => ?_) (fun h => ?_)
  · exact t_end_17 S  r1 h (lv_sub hl [0] rfl) hW
  · refine lv_iload_n hx hb d_end_9 rfl (lv_at hl 1 rfl) ?_
    refine lv_aload_n hx hb d_end_10 rfl (lv_at hl 0 rfl) ?_
    refine rm_geti S hW 2 wd_1254 (by decide) d_end_11 h (fun x2 h => ?_)
    refine rc_le (tgt := 23) hx hb d_end_14 (by decide) h (fun h => ?_) (fun h => ?_)
    · refine lv_aload_n hx hb d_end_23 rfl (lv_at hl 0 rfl) ?_
      refine lv_iload_n hx hb d_end_24 rfl (lv_at hl 1 rfl) ?_
      refine rm_puti S hW 2 wd_1254 (by decide) d_end_25 h (fun r3 H locs h hW => ?_)
      refine lv_iload_n hx hb d_end_28 rfl (lv_at hl 1 rfl) ?_
      exact rm_iret S hW d_end_29 h
    · exact t_end_17 S  r1 h (lv_sub hl [0] rfl) hW
theorem c_end (v1 : Int32) (ρ : RS) {x : Int32} {ρ' : RS} (h : m_end v1 ρ = some (x, ρ')) : RMet l D tc o y_end k_end 2 (some .int) 1 21 [.ref o, .int v1] ρ (some (.int x)) ρ' := rm_met (by decide) (Nat.le_of_ble_eq_true rfl) fun p e s m args below meth c S hW ls hl => t_end_0 S v1 ρ h hl hW
end

/-! fresh (II)V -/
abbrev k_fresh : ByteArray := prog_12_method_45_code
abbrev y_fresh : MethodName := ⟨cn_M, "fresh", "(II)V"⟩
theorem q_fresh : Calee y_fresh k_fresh 4 none 2 := ⟨wd_1446, wd_90, by decide, by decide +kernel⟩
theorem d_fresh_0 : decode k_fresh 0 = .ok (.aload_n 0, 1) := by decide +kernel
theorem d_fresh_1 : decode k_fresh 1 = .ok (.getfield 42, 3) := by decide +kernel
theorem d_fresh_4 : decode k_fresh 4 = .ok (.iload_n 1, 1) := by decide +kernel
theorem d_fresh_5 : decode k_fresh 5 = .ok (.iload_n 2, 1) := by decide +kernel
theorem d_fresh_6 : decode k_fresh 6 = .ok (.iastore, 1) := by decide +kernel
theorem d_fresh_7 : decode k_fresh 7 = .ok (.aload_n 0, 1) := by decide +kernel
theorem d_fresh_8 : decode k_fresh 8 = .ok (.getfield 45, 3) := by decide +kernel
theorem d_fresh_11 : decode k_fresh 11 = .ok (.iload_n 1, 1) := by decide +kernel
theorem d_fresh_12 : decode k_fresh 12 = .ok (.iload_n 2, 1) := by decide +kernel
theorem d_fresh_13 : decode k_fresh 13 = .ok (.iastore, 1) := by decide +kernel
theorem d_fresh_14 : decode k_fresh 14 = .ok (.aload_n 0, 1) := by decide +kernel
theorem d_fresh_15 : decode k_fresh 15 = .ok (.getfield 48, 3) := by decide +kernel
theorem d_fresh_18 : decode k_fresh 18 = .ok (.iload_n 1, 1) := by decide +kernel
theorem d_fresh_19 : decode k_fresh 19 = .ok (.iload_n 2, 1) := by decide +kernel
theorem d_fresh_20 : decode k_fresh 20 = .ok (.iastore, 1) := by decide +kernel
theorem d_fresh_21 : decode k_fresh 21 = .ok (.aload_n 0, 1) := by decide +kernel
theorem d_fresh_22 : decode k_fresh 22 = .ok (.getfield 51, 3) := by decide +kernel
theorem d_fresh_25 : decode k_fresh 25 = .ok (.iload_n 1, 1) := by decide +kernel
theorem d_fresh_26 : decode k_fresh 26 = .ok (.iload_n 2, 1) := by decide +kernel
theorem d_fresh_27 : decode k_fresh 27 = .ok (.iastore, 1) := by decide +kernel
theorem d_fresh_28 : decode k_fresh 28 = .ok (.aload_n 0, 1) := by decide +kernel
theorem d_fresh_29 : decode k_fresh 29 = .ok (.getfield 54, 3) := by decide +kernel
theorem d_fresh_32 : decode k_fresh 32 = .ok (.iload_n 1, 1) := by decide +kernel
theorem d_fresh_33 : decode k_fresh 33 = .ok (.iconst 0, 1) := by decide +kernel
theorem d_fresh_34 : decode k_fresh 34 = .ok (.iastore, 1) := by decide +kernel
theorem d_fresh_35 : decode k_fresh 35 = .ok (.aload_n 0, 1) := by decide +kernel
theorem d_fresh_36 : decode k_fresh 36 = .ok (.getfield 57, 3) := by decide +kernel
theorem d_fresh_39 : decode k_fresh 39 = .ok (.iload_n 1, 1) := by decide +kernel
theorem d_fresh_40 : decode k_fresh 40 = .ok (.iconst 0, 1) := by decide +kernel
theorem d_fresh_41 : decode k_fresh 41 = .ok (.iastore, 1) := by decide +kernel
theorem d_fresh_42 : decode k_fresh 42 = .ok (.aload_n 0, 1) := by decide +kernel
theorem d_fresh_43 : decode k_fresh 43 = .ok (.getfield 60, 3) := by decide +kernel
theorem d_fresh_46 : decode k_fresh 46 = .ok (.iload_n 1, 1) := by decide +kernel
theorem d_fresh_47 : decode k_fresh 47 = .ok (.iconst 0, 1) := by decide +kernel
theorem d_fresh_48 : decode k_fresh 48 = .ok (.iastore, 1) := by decide +kernel
theorem d_fresh_49 : decode k_fresh 49 = .ok (.aload_n 0, 1) := by decide +kernel
theorem d_fresh_50 : decode k_fresh 50 = .ok (.getfield 63, 3) := by decide +kernel
theorem d_fresh_53 : decode k_fresh 53 = .ok (.iload_n 1, 1) := by decide +kernel
theorem d_fresh_54 : decode k_fresh 54 = .ok (.iconst 0, 1) := by decide +kernel
theorem d_fresh_55 : decode k_fresh 55 = .ok (.iastore, 1) := by decide +kernel
theorem d_fresh_56 : decode k_fresh 56 = .ok (.aload_n 0, 1) := by decide +kernel
theorem d_fresh_57 : decode k_fresh 57 = .ok (.getfield 66, 3) := by decide +kernel
theorem d_fresh_60 : decode k_fresh 60 = .ok (.iload_n 1, 1) := by decide +kernel
theorem d_fresh_61 : decode k_fresh 61 = .ok (.iconst 0, 1) := by decide +kernel
theorem d_fresh_62 : decode k_fresh 62 = .ok (.iastore, 1) := by decide +kernel
theorem d_fresh_63 : decode k_fresh 63 = .ok (.aload_n 0, 1) := by decide +kernel
theorem d_fresh_64 : decode k_fresh 64 = .ok (.getfield 69, 3) := by decide +kernel
theorem d_fresh_67 : decode k_fresh 67 = .ok (.iload_n 1, 1) := by decide +kernel
theorem d_fresh_68 : decode k_fresh 68 = .ok (.iconst 0, 1) := by decide +kernel
theorem d_fresh_69 : decode k_fresh 69 = .ok (.iastore, 1) := by decide +kernel
theorem d_fresh_70 : decode k_fresh 70 = .ok (.aload_n 0, 1) := by decide +kernel
theorem d_fresh_71 : decode k_fresh 71 = .ok (.getfield 72, 3) := by decide +kernel
theorem d_fresh_74 : decode k_fresh 74 = .ok (.iload_n 1, 1) := by decide +kernel
theorem d_fresh_75 : decode k_fresh 75 = .ok (.iconst 0, 1) := by decide +kernel
theorem d_fresh_76 : decode k_fresh 76 = .ok (.iastore, 1) := by decide +kernel
theorem d_fresh_77 : decode k_fresh 77 = .ok (.aload_n 0, 1) := by decide +kernel
theorem d_fresh_78 : decode k_fresh 78 = .ok (.getfield 75, 3) := by decide +kernel
theorem d_fresh_81 : decode k_fresh 81 = .ok (.iload_n 1, 1) := by decide +kernel
theorem d_fresh_82 : decode k_fresh 82 = .ok (.ldc 32, 2) := by decide +kernel
theorem d_fresh_84 : decode k_fresh 84 = .ok (.iastore, 1) := by decide +kernel
theorem d_fresh_85 : decode k_fresh 85 = .ok (.aload_n 0, 1) := by decide +kernel
theorem d_fresh_86 : decode k_fresh 86 = .ok (.getfield 78, 3) := by decide +kernel
theorem d_fresh_89 : decode k_fresh 89 = .ok (.iload_n 1, 1) := by decide +kernel
theorem d_fresh_90 : decode k_fresh 90 = .ok (.iconst 0, 1) := by decide +kernel
theorem d_fresh_91 : decode k_fresh 91 = .ok (.iastore, 1) := by decide +kernel
theorem d_fresh_92 : decode k_fresh 92 = .ok (.aload_n 0, 1) := by decide +kernel
theorem d_fresh_93 : decode k_fresh 93 = .ok (.getfield 81, 3) := by decide +kernel
theorem d_fresh_96 : decode k_fresh 96 = .ok (.iload_n 1, 1) := by decide +kernel
theorem d_fresh_97 : decode k_fresh 97 = .ok (.sipush 1000, 3) := by decide +kernel
theorem d_fresh_100 : decode k_fresh 100 = .ok (.iastore, 1) := by decide +kernel
theorem d_fresh_101 : decode k_fresh 101 = .ok (.aload_n 0, 1) := by decide +kernel
theorem d_fresh_102 : decode k_fresh 102 = .ok (.getfield 84, 3) := by decide +kernel
theorem d_fresh_105 : decode k_fresh 105 = .ok (.iload_n 1, 1) := by decide +kernel
theorem d_fresh_106 : decode k_fresh 106 = .ok (.iconst 0, 1) := by decide +kernel
theorem d_fresh_107 : decode k_fresh 107 = .ok (.iastore, 1) := by decide +kernel
theorem d_fresh_108 : decode k_fresh 108 = .ok (.aload_n 0, 1) := by decide +kernel
theorem d_fresh_109 : decode k_fresh 109 = .ok (.getfield 87, 3) := by decide +kernel
theorem d_fresh_112 : decode k_fresh 112 = .ok (.iload_n 1, 1) := by decide +kernel
theorem d_fresh_113 : decode k_fresh 113 = .ok (.iconst (-1), 1) := by decide +kernel
theorem d_fresh_114 : decode k_fresh 114 = .ok (.iastore, 1) := by decide +kernel
theorem d_fresh_115 : decode k_fresh 115 = .ok (.aload_n 0, 1) := by decide +kernel
theorem d_fresh_116 : decode k_fresh 116 = .ok (.getfield 90, 3) := by decide +kernel
theorem d_fresh_119 : decode k_fresh 119 = .ok (.iload_n 1, 1) := by decide +kernel
theorem d_fresh_120 : decode k_fresh 120 = .ok (.iconst 0, 1) := by decide +kernel
theorem d_fresh_121 : decode k_fresh 121 = .ok (.iastore, 1) := by decide +kernel
theorem d_fresh_122 : decode k_fresh 122 = .ok (.aload_n 0, 1) := by decide +kernel
theorem d_fresh_123 : decode k_fresh 123 = .ok (.getfield 120, 3) := by decide +kernel
theorem d_fresh_126 : decode k_fresh 126 = .ok (.iload_n 1, 1) := by decide +kernel
theorem d_fresh_127 : decode k_fresh 127 = .ok (.iconst 0, 1) := by decide +kernel
theorem d_fresh_128 : decode k_fresh 128 = .ok (.bastore, 1) := by decide +kernel
theorem d_fresh_129 : decode k_fresh 129 = .ok (.aload_n 0, 1) := by decide +kernel
theorem d_fresh_130 : decode k_fresh 130 = .ok (.getfield 113, 3) := by decide +kernel
theorem d_fresh_133 : decode k_fresh 133 = .ok (.iload_n 1, 1) := by decide +kernel
theorem d_fresh_134 : decode k_fresh 134 = .ok (.ldc2_w 111, 3) := by decide +kernel
theorem d_fresh_137 : decode k_fresh 137 = .ok (.lastore, 1) := by decide +kernel
theorem d_fresh_138 : decode k_fresh 138 = .ok (.aload_n 0, 1) := by decide +kernel
theorem d_fresh_139 : decode k_fresh 139 = .ok (.getfield 96, 3) := by decide +kernel
theorem d_fresh_142 : decode k_fresh 142 = .ok (.iload_n 1, 1) := by decide +kernel
theorem d_fresh_143 : decode k_fresh 143 = .ok (.iconst 0, 1) := by decide +kernel
theorem d_fresh_144 : decode k_fresh 144 = .ok (.iastore, 1) := by decide +kernel
theorem d_fresh_145 : decode k_fresh 145 = .ok (.aload_n 0, 1) := by decide +kernel
theorem d_fresh_146 : decode k_fresh 146 = .ok (.getfield 99, 3) := by decide +kernel
theorem d_fresh_149 : decode k_fresh 149 = .ok (.iload_n 1, 1) := by decide +kernel
theorem d_fresh_150 : decode k_fresh 150 = .ok (.iconst 0, 1) := by decide +kernel
theorem d_fresh_151 : decode k_fresh 151 = .ok (.iastore, 1) := by decide +kernel
theorem d_fresh_152 : decode k_fresh 152 = .ok (.aload_n 0, 1) := by decide +kernel
theorem d_fresh_153 : decode k_fresh 153 = .ok (.getfield 102, 3) := by decide +kernel
theorem d_fresh_156 : decode k_fresh 156 = .ok (.iload_n 1, 1) := by decide +kernel
theorem d_fresh_157 : decode k_fresh 157 = .ok (.iconst 0, 1) := by decide +kernel
theorem d_fresh_158 : decode k_fresh 158 = .ok (.iastore, 1) := by decide +kernel
theorem d_fresh_159 : decode k_fresh 159 = .ok (.aload_n 0, 1) := by decide +kernel
theorem d_fresh_160 : decode k_fresh 160 = .ok (.getfield 105, 3) := by decide +kernel
theorem d_fresh_163 : decode k_fresh 163 = .ok (.iload_n 1, 1) := by decide +kernel
theorem d_fresh_164 : decode k_fresh 164 = .ok (.iconst 0, 1) := by decide +kernel
theorem d_fresh_165 : decode k_fresh 165 = .ok (.iastore, 1) := by decide +kernel
theorem d_fresh_166 : decode k_fresh 166 = .ok (.aload_n 0, 1) := by decide +kernel
theorem d_fresh_167 : decode k_fresh 167 = .ok (.getfield 108, 3) := by decide +kernel
theorem d_fresh_170 : decode k_fresh 170 = .ok (.iload_n 1, 1) := by decide +kernel
theorem d_fresh_171 : decode k_fresh 171 = .ok (.iconst 0, 1) := by decide +kernel
theorem d_fresh_172 : decode k_fresh 172 = .ok (.iastore, 1) := by decide +kernel
theorem d_fresh_173 : decode k_fresh 173 = .ok (.aload_n 0, 1) := by decide +kernel
theorem d_fresh_174 : decode k_fresh 174 = .ok (.getfield 123, 3) := by decide +kernel
theorem d_fresh_177 : decode k_fresh 177 = .ok (.iload_n 1, 1) := by decide +kernel
theorem d_fresh_178 : decode k_fresh 178 = .ok (.iconst 0, 1) := by decide +kernel
theorem d_fresh_179 : decode k_fresh 179 = .ok (.bastore, 1) := by decide +kernel
theorem d_fresh_180 : decode k_fresh 180 = .ok (.aload_n 0, 1) := by decide +kernel
theorem d_fresh_181 : decode k_fresh 181 = .ok (.getfield 126, 3) := by decide +kernel
theorem d_fresh_184 : decode k_fresh 184 = .ok (.iload_n 1, 1) := by decide +kernel
theorem d_fresh_185 : decode k_fresh 185 = .ok (.iconst 0, 1) := by decide +kernel
theorem d_fresh_186 : decode k_fresh 186 = .ok (.bastore, 1) := by decide +kernel
theorem d_fresh_187 : decode k_fresh 187 = .ok (.iconst 0, 1) := by decide +kernel
theorem d_fresh_188 : decode k_fresh 188 = .ok (.istore_n 3, 1) := by decide +kernel
theorem d_fresh_189 : decode k_fresh 189 = .ok (.iload_n 3, 1) := by decide +kernel
theorem d_fresh_190 : decode k_fresh 190 = .ok (.ldc 7, 2) := by decide +kernel
theorem d_fresh_192 : decode k_fresh 192 = .ok (.if_icmp .ge 21, 3) := by decide +kernel
theorem d_fresh_195 : decode k_fresh 195 = .ok (.aload_n 0, 1) := by decide +kernel
theorem d_fresh_196 : decode k_fresh 196 = .ok (.getfield 137, 3) := by decide +kernel
theorem d_fresh_199 : decode k_fresh 199 = .ok (.ldc 7, 2) := by decide +kernel
theorem d_fresh_201 : decode k_fresh 201 = .ok (.iload_n 1, 1) := by decide +kernel
theorem d_fresh_202 : decode k_fresh 202 = .ok (.imul, 1) := by decide +kernel
theorem d_fresh_203 : decode k_fresh 203 = .ok (.iload_n 3, 1) := by decide +kernel
theorem d_fresh_204 : decode k_fresh 204 = .ok (.iadd, 1) := by decide +kernel
theorem d_fresh_205 : decode k_fresh 205 = .ok (.iconst 0, 1) := by decide +kernel
theorem d_fresh_206 : decode k_fresh 206 = .ok (.bastore, 1) := by decide +kernel
theorem d_fresh_207 : decode k_fresh 207 = .ok (.iinc 3 1, 3) := by decide +kernel
theorem d_fresh_210 : decode k_fresh 210 = .ok (.goto (-21), 3) := by decide +kernel
theorem d_fresh_213 : decode k_fresh 213 = .ok (.return_, 1) := by decide +kernel
def F_fresh_189 (rec189 : Int32 → Int32 → RS → Option (RS)) (v1 : Int32) (v3 : Int32) (ρ : RS) : Option (RS) :=
  if (65536 : Int32) ≤ v3 then
  (some ρ)
 else
  (gd (inb (((65536 : Int32) * v1) + v3) 131072) <| bd (si ρ 40 (((65536 : Int32) * v1) + v3).toNatClampNeg (vp_nar .boolean (0 : Int32))) fun r1 => bd (v3 + (1 : Int32)) fun x2 => rec189 v1 x2 r1)
def m_fresh (v1 : Int32) (v2 : Int32) (ρ : RS) : Option (RS) :=
  gd (inb v1 2) <| bd (si ρ 10 v1.toNatClampNeg v2) fun r1 => gd (inb v1 2) <| bd (si r1 11 v1.toNatClampNeg v2) fun r2 => gd (inb v1 2) <| bd (si r2 12 v1.toNatClampNeg v2) fun r3 => gd (inb v1 2) <| bd (si r3 13 v1.toNatClampNeg v2) fun r4 => gd (inb v1 2) <| bd (si r4 14 v1.toNatClampNeg (0 : Int32)) fun r5 => gd (inb v1 2) <| bd (si r5 15 v1.toNatClampNeg (0 : Int32)) fun r6 => gd (inb v1 2) <| bd (si r6 16 v1.toNatClampNeg (0 : Int32)) fun r7 => gd (inb v1 2) <| bd (si r7 17 v1.toNatClampNeg (0 : Int32)) fun r8 => gd (inb v1 2) <| bd (si r8 18 v1.toNatClampNeg (0 : Int32)) fun r9 => gd (inb v1 2) <| bd (si r9 19 v1.toNatClampNeg (0 : Int32)) fun r10 => gd (inb v1 2) <| bd (si r10 20 v1.toNatClampNeg (0 : Int32)) fun r11 => gd (inb v1 2) <| bd (si r11 21 v1.toNatClampNeg (65535 : Int32)) fun r12 => gd (inb v1 2) <| bd (si r12 22 v1.toNatClampNeg (0 : Int32)) fun r13 => gd (inb v1 2) <| bd (si r13 23 v1.toNatClampNeg (1000 : Int32)) fun r14 => gd (inb v1 2) <| bd (si r14 24 v1.toNatClampNeg (0 : Int32)) fun r15 => gd (inb v1 2) <| bd (si r15 25 v1.toNatClampNeg (-1 : Int32)) fun r16 => gd (inb v1 2) <| bd (si r16 26 v1.toNatClampNeg (0 : Int32)) fun r17 => gd (inb v1 2) <| bd (si r17 35 v1.toNatClampNeg (vp_nar .boolean (0 : Int32))) fun r18 => gd (inb v1 2) <| bd (sl r18 33 v1.toNatClampNeg (-1 : Int64)) fun r19 => gd (inb v1 2) <| bd (si r19 28 v1.toNatClampNeg (0 : Int32)) fun r20 => gd (inb v1 2) <| bd (si r20 29 v1.toNatClampNeg (0 : Int32)) fun r21 => gd (inb v1 2) <| bd (si r21 30 v1.toNatClampNeg (0 : Int32)) fun r22 => gd (inb v1 2) <| bd (si r22 31 v1.toNatClampNeg (0 : Int32)) fun r23 => gd (inb v1 2) <| bd (si r23 32 v1.toNatClampNeg (0 : Int32)) fun r24 => gd (inb v1 2) <| bd (si r24 36 v1.toNatClampNeg (vp_nar .boolean (0 : Int32))) fun r25 => gd (inb v1 2) <| bd (si r25 37 v1.toNatClampNeg (vp_nar .boolean (0 : Int32))) fun r26 => lq3 (F_fresh_189) fuel v1 (0 : Int32) r26
def P_fresh_189 (p : Program) (l : Launch) (e : Env) (s : State) (m : MethodId) (args : Array Value) (below : List Frame) (meth : Method) (c : Code) (D : va_G) (tc : Nat → ClassId) (o : Nat) (v1 : Int32) (v3 : Int32) (ρ : RS) (B : RS) : Prop := ∀ (ls : Array Slot) (H : Heap) (locs : List Loc), lv_has ls 4 [(0, .ref o), (1, .int v1), (3, .int v3)] → RWS D tc o s ρ H locs → W p l e { frames := 0, cells := 0, slots := 0, locals := 0 } s m args below meth c H locs 0 0 (MQ below (RQ D tc o none B) args s 0 0 (rreg o)) (F0 m 189 ls [])
section
variable {p : Program} {l : Launch} {e : Env} {s : State} {m : MethodId} {args : Array Value} {below : List Frame} {meth : Method} {c : Code} {D : va_G} {tc : Nat → ClassId} {o : Nat}
theorem tF_fresh_189 (S : RC p m c k_fresh 4 s args cn_M meth none D tc) : ∀ (rec189 : Int32 → Int32 → RS → Option (RS)), (∀ (v1 : Int32) (v3 : Int32) (ρ : RS) (B : RS), rec189 v1 v3 ρ = some B → P_fresh_189 p l e s m args below meth c D tc o v1 v3 ρ B) → ∀ (v1 : Int32) (v3 : Int32) (ρ : RS) (B : RS), F_fresh_189 rec189 v1 v3 ρ = some B → P_fresh_189 p l e s m args below meth c D tc o v1 v3 ρ B := by
  intro rec189 hrec189 v1 v3 ρ B h ls H locs hl hW
  have hx := S.1.1
  have hb := S.1.2.1
  unfold F_fresh_189 at h
  refine lv_iload_n hx hb d_fresh_189 rfl (lv_at hl 2 rfl) ?_
  refine lv_ldc hx hb S.1.2.2.2.1 (S.1.2.2.2.2 _ (gi wd_1246 rfl)) d_fresh_190 ?_
  refine rc_ge (tgt := 213) hx hb d_fresh_192 (by decide) h (fun h => ?_) (fun h => ?_)
  · exact rm_vret S hW d_fresh_213 h
  · refine lv_aload_n hx hb d_fresh_195 rfl (lv_at hl 0 rfl) ?_
    refine rm_geta S hW 45 40 wd_1297 (by decide) d_fresh_196 ?_
    refine lv_ldc hx hb S.1.2.2.2.1 (S.1.2.2.2.2 _ (gi wd_1246 rfl)) d_fresh_199 ?_
    refine lv_iload_n hx hb d_fresh_201 rfl (lv_at hl 1 rfl) ?_
    refine lv_imul hx hb d_fresh_202 ?_
    refine lv_iload_n hx hb d_fresh_203 rfl (lv_at hl 2 rfl) ?_
    refine lv_iadd hx hb d_fresh_204 ?_
    refine lv_iconst (v := 0) hx hb d_fresh_205 (by decide) ?_
    refine rm_zast S hW 40 131072 (by decide) d_fresh_206 h (fun r1 H locs h hW => ?_)
    refine rv_iinc (k := 2) (v := 1) (lv' := fun x2 => [(3, .int x2), (0, .ref o), (1, .int v1)]) hx hb d_fresh_207 hl rfl (by decide) (by decide) (fun _ => rfl) h (fun x2 ls h hl => ?_)
    refine lv_goto (tgt := 189) hx hb d_fresh_210 (by decide) ?_
    exact hrec189 v1 x2 r1 _ h _ _ _ (lv_sub hl [1, 2, 0] rfl) hW
theorem t_fresh_189 (S : RC p m c k_fresh 4 s args cn_M meth none D tc) : ∀ (n : Nat) (v1 : Int32) (v3 : Int32) (ρ : RS) (B : RS), lq3 (F_fresh_189) n v1 v3 ρ = some B → P_fresh_189 p l e s m args below meth c D tc o v1 v3 ρ B := lq3_s (tF_fresh_189 S)
theorem t_fresh_0 (S : RC p m c k_fresh 4 s args cn_M meth none D tc) (v1 : Int32) (v2 : Int32) (ρ : RS) {B : RS} (h : m_fresh v1 v2 ρ = some B) {ls : Array Slot} {H : Heap} {locs : List Loc} (hl : lv_has ls 4 [(0, .ref o), (1, .int v1), (2, .int v2)]) (hW : RWS D tc o s ρ H locs) : W p l e { frames := 0, cells := 0, slots := 0, locals := 0 } s m args below meth c H locs 0 0 (MQ below (RQ D tc o none B) args s 0 0 (rreg o)) (F0 m 0 ls []) := by
  have hx := S.1.1
  have hb := S.1.2.1
  unfold m_fresh at h
  refine lv_aload_n hx hb d_fresh_0 rfl (lv_at hl 0 rfl) ?_
  refine rm_geta S hW 15 10 wd_1267 (by decide) d_fresh_1 ?_
  refine lv_iload_n hx hb d_fresh_4 rfl (lv_at hl 1 rfl) ?_
  refine lv_iload_n hx hb d_fresh_5 rfl (lv_at hl 2 rfl) ?_
  refine rm_iast S hW 10 2 (by decide) d_fresh_6 h (fun r1 H locs h hW => ?_)
  refine lv_aload_n hx hb d_fresh_7 rfl (lv_at hl 0 rfl) ?_
  refine rm_geta S hW 16 11 wd_1268 (by decide) d_fresh_8 ?_
  refine lv_iload_n hx hb d_fresh_11 rfl (lv_at hl 1 rfl) ?_
  refine lv_iload_n hx hb d_fresh_12 rfl (lv_at hl 2 rfl) ?_
  refine rm_iast S hW 11 2 (by decide) d_fresh_13 h (fun r2 H locs h hW => ?_)
  refine lv_aload_n hx hb d_fresh_14 rfl (lv_at hl 0 rfl) ?_
  refine rm_geta S hW 17 12 wd_1269 (by decide) d_fresh_15 ?_
  refine lv_iload_n hx hb d_fresh_18 rfl (lv_at hl 1 rfl) ?_
  refine lv_iload_n hx hb d_fresh_19 rfl (lv_at hl 2 rfl) ?_
  refine rm_iast S hW 12 2 (by decide) d_fresh_20 h (fun r3 H locs h hW => ?_)
  refine lv_aload_n hx hb d_fresh_21 rfl (lv_at hl 0 rfl) ?_
  refine rm_geta S hW 18 13 wd_1270 (by decide) d_fresh_22 ?_
  refine lv_iload_n hx hb d_fresh_25 rfl (lv_at hl 1 rfl) ?_
  refine lv_iload_n hx hb d_fresh_26 rfl (lv_at hl 2 rfl) ?_
  refine rm_iast S hW 13 2 (by decide) d_fresh_27 h (fun r4 H locs h hW => ?_)
  refine lv_aload_n hx hb d_fresh_28 rfl (lv_at hl 0 rfl) ?_
  refine rm_geta S hW 19 14 wd_1271 (by decide) d_fresh_29 ?_
  refine lv_iload_n hx hb d_fresh_32 rfl (lv_at hl 1 rfl) ?_
  refine lv_iconst (v := 0) hx hb d_fresh_33 (by decide) ?_
  refine rm_iast S hW 14 2 (by decide) d_fresh_34 h (fun r5 H locs h hW => ?_)
  refine lv_aload_n hx hb d_fresh_35 rfl (lv_at hl 0 rfl) ?_
  refine rm_geta S hW 20 15 wd_1272 (by decide) d_fresh_36 ?_
  refine lv_iload_n hx hb d_fresh_39 rfl (lv_at hl 1 rfl) ?_
  refine lv_iconst (v := 0) hx hb d_fresh_40 (by decide) ?_
  refine rm_iast S hW 15 2 (by decide) d_fresh_41 h (fun r6 H locs h hW => ?_)
  refine lv_aload_n hx hb d_fresh_42 rfl (lv_at hl 0 rfl) ?_
  refine rm_geta S hW 21 16 wd_1273 (by decide) d_fresh_43 ?_
  refine lv_iload_n hx hb d_fresh_46 rfl (lv_at hl 1 rfl) ?_
  refine lv_iconst (v := 0) hx hb d_fresh_47 (by decide) ?_
  refine rm_iast S hW 16 2 (by decide) d_fresh_48 h (fun r7 H locs h hW => ?_)
  refine lv_aload_n hx hb d_fresh_49 rfl (lv_at hl 0 rfl) ?_
  refine rm_geta S hW 22 17 wd_1274 (by decide) d_fresh_50 ?_
  refine lv_iload_n hx hb d_fresh_53 rfl (lv_at hl 1 rfl) ?_
  refine lv_iconst (v := 0) hx hb d_fresh_54 (by decide) ?_
  refine rm_iast S hW 17 2 (by decide) d_fresh_55 h (fun r8 H locs h hW => ?_)
  refine lv_aload_n hx hb d_fresh_56 rfl (lv_at hl 0 rfl) ?_
  refine rm_geta S hW 23 18 wd_1275 (by decide) d_fresh_57 ?_
  refine lv_iload_n hx hb d_fresh_60 rfl (lv_at hl 1 rfl) ?_
  refine lv_iconst (v := 0) hx hb d_fresh_61 (by decide) ?_
  refine rm_iast S hW 18 2 (by decide) d_fresh_62 h (fun r9 H locs h hW => ?_)
  refine lv_aload_n hx hb d_fresh_63 rfl (lv_at hl 0 rfl) ?_
  refine rm_geta S hW 24 19 wd_1276 (by decide) d_fresh_64 ?_
  refine lv_iload_n hx hb d_fresh_67 rfl (lv_at hl 1 rfl) ?_
  refine lv_iconst (v := 0) hx hb d_fresh_68 (by decide) ?_
  refine rm_iast S hW 19 2 (by decide) d_fresh_69 h (fun r10 H locs h hW => ?_)
  refine lv_aload_n hx hb d_fresh_70 rfl (lv_at hl 0 rfl) ?_
  refine rm_geta S hW 25 20 wd_1277 (by decide) d_fresh_71 ?_
  refine lv_iload_n hx hb d_fresh_74 rfl (lv_at hl 1 rfl) ?_
  refine lv_iconst (v := 0) hx hb d_fresh_75 (by decide) ?_
  refine rm_iast S hW 20 2 (by decide) d_fresh_76 h (fun r11 H locs h hW => ?_)
  refine lv_aload_n hx hb d_fresh_77 rfl (lv_at hl 0 rfl) ?_
  refine rm_geta S hW 26 21 wd_1278 (by decide) d_fresh_78 ?_
  refine lv_iload_n hx hb d_fresh_81 rfl (lv_at hl 1 rfl) ?_
  refine lv_ldc hx hb S.1.2.2.2.1 (S.1.2.2.2.2 _ (gi wd_1248 rfl)) d_fresh_82 ?_
  refine rm_iast S hW 21 2 (by decide) d_fresh_84 h (fun r12 H locs h hW => ?_)
  refine lv_aload_n hx hb d_fresh_85 rfl (lv_at hl 0 rfl) ?_
  refine rm_geta S hW 27 22 wd_1279 (by decide) d_fresh_86 ?_
  refine lv_iload_n hx hb d_fresh_89 rfl (lv_at hl 1 rfl) ?_
  refine lv_iconst (v := 0) hx hb d_fresh_90 (by decide) ?_
  refine rm_iast S hW 22 2 (by decide) d_fresh_91 h (fun r13 H locs h hW => ?_)
  refine lv_aload_n hx hb d_fresh_92 rfl (lv_at hl 0 rfl) ?_
  refine rm_geta S hW 28 23 wd_1280 (by decide) d_fresh_93 ?_
  refine lv_iload_n hx hb d_fresh_96 rfl (lv_at hl 1 rfl) ?_
  refine lv_sipush (v := 1000) hx hb d_fresh_97 (by decide) ?_
  refine rm_iast S hW 23 2 (by decide) d_fresh_100 h (fun r14 H locs h hW => ?_)
  refine lv_aload_n hx hb d_fresh_101 rfl (lv_at hl 0 rfl) ?_
  refine rm_geta S hW 29 24 wd_1281 (by decide) d_fresh_102 ?_
  refine lv_iload_n hx hb d_fresh_105 rfl (lv_at hl 1 rfl) ?_
  refine lv_iconst (v := 0) hx hb d_fresh_106 (by decide) ?_
  refine rm_iast S hW 24 2 (by decide) d_fresh_107 h (fun r15 H locs h hW => ?_)
  refine lv_aload_n hx hb d_fresh_108 rfl (lv_at hl 0 rfl) ?_
  refine rm_geta S hW 30 25 wd_1282 (by decide) d_fresh_109 ?_
  refine lv_iload_n hx hb d_fresh_112 rfl (lv_at hl 1 rfl) ?_
  refine lv_iconst (v := -1) hx hb d_fresh_113 (by decide) ?_
  refine rm_iast S hW 25 2 (by decide) d_fresh_114 h (fun r16 H locs h hW => ?_)
  refine lv_aload_n hx hb d_fresh_115 rfl (lv_at hl 0 rfl) ?_
  refine rm_geta S hW 31 26 wd_1283 (by decide) d_fresh_116 ?_
  refine lv_iload_n hx hb d_fresh_119 rfl (lv_at hl 1 rfl) ?_
  refine lv_iconst (v := 0) hx hb d_fresh_120 (by decide) ?_
  refine rm_iast S hW 26 2 (by decide) d_fresh_121 h (fun r17 H locs h hW => ?_)
  refine lv_aload_n hx hb d_fresh_122 rfl (lv_at hl 0 rfl) ?_
  refine rm_geta S hW 40 35 wd_1292 (by decide) d_fresh_123 ?_
  refine lv_iload_n hx hb d_fresh_126 rfl (lv_at hl 1 rfl) ?_
  refine lv_iconst (v := 0) hx hb d_fresh_127 (by decide) ?_
  refine rm_zast S hW 35 2 (by decide) d_fresh_128 h (fun r18 H locs h hW => ?_)
  refine lv_aload_n hx hb d_fresh_129 rfl (lv_at hl 0 rfl) ?_
  refine rm_geta S hW 38 33 wd_1290 (by decide) d_fresh_130 ?_
  refine lv_iload_n hx hb d_fresh_133 rfl (lv_at hl 1 rfl) ?_
  refine lv_ldc2 hx hb S.1.2.2.2.1 (S.1.2.2.2.2 _ (gi wd_1249 rfl)) d_fresh_134 ?_
  refine rm_last S hW 33 2 (by decide) d_fresh_137 h (fun r19 H locs h hW => ?_)
  refine lv_aload_n hx hb d_fresh_138 rfl (lv_at hl 0 rfl) ?_
  refine rm_geta S hW 33 28 wd_1285 (by decide) d_fresh_139 ?_
  refine lv_iload_n hx hb d_fresh_142 rfl (lv_at hl 1 rfl) ?_
  refine lv_iconst (v := 0) hx hb d_fresh_143 (by decide) ?_
  refine rm_iast S hW 28 2 (by decide) d_fresh_144 h (fun r20 H locs h hW => ?_)
  refine lv_aload_n hx hb d_fresh_145 rfl (lv_at hl 0 rfl) ?_
  refine rm_geta S hW 34 29 wd_1286 (by decide) d_fresh_146 ?_
  refine lv_iload_n hx hb d_fresh_149 rfl (lv_at hl 1 rfl) ?_
  refine lv_iconst (v := 0) hx hb d_fresh_150 (by decide) ?_
  refine rm_iast S hW 29 2 (by decide) d_fresh_151 h (fun r21 H locs h hW => ?_)
  refine lv_aload_n hx hb d_fresh_152 rfl (lv_at hl 0 rfl) ?_
  refine rm_geta S hW 35 30 wd_1287 (by decide) d_fresh_153 ?_
  refine lv_iload_n hx hb d_fresh_156 rfl (lv_at hl 1 rfl) ?_
  refine lv_iconst (v := 0) hx hb d_fresh_157 (by decide) ?_
  refine rm_iast S hW 30 2 (by decide) d_fresh_158 h (fun r22 H locs h hW => ?_)
  refine lv_aload_n hx hb d_fresh_159 rfl (lv_at hl 0 rfl) ?_
  refine rm_geta S hW 36 31 wd_1288 (by decide) d_fresh_160 ?_
  refine lv_iload_n hx hb d_fresh_163 rfl (lv_at hl 1 rfl) ?_
  refine lv_iconst (v := 0) hx hb d_fresh_164 (by decide) ?_
  refine rm_iast S hW 31 2 (by decide) d_fresh_165 h (fun r23 H locs h hW => ?_)
  refine lv_aload_n hx hb d_fresh_166 rfl (lv_at hl 0 rfl) ?_
  refine rm_geta S hW 37 32 wd_1289 (by decide) d_fresh_167 ?_
  refine lv_iload_n hx hb d_fresh_170 rfl (lv_at hl 1 rfl) ?_
  refine lv_iconst (v := 0) hx hb d_fresh_171 (by decide) ?_
  refine rm_iast S hW 32 2 (by decide) d_fresh_172 h (fun r24 H locs h hW => ?_)
  refine lv_aload_n hx hb d_fresh_173 rfl (lv_at hl 0 rfl) ?_
  refine rm_geta S hW 41 36 wd_1293 (by decide) d_fresh_174 ?_
  refine lv_iload_n hx hb d_fresh_177 rfl (lv_at hl 1 rfl) ?_
  refine lv_iconst (v := 0) hx hb d_fresh_178 (by decide) ?_
  refine rm_zast S hW 36 2 (by decide) d_fresh_179 h (fun r25 H locs h hW => ?_)
  refine lv_aload_n hx hb d_fresh_180 rfl (lv_at hl 0 rfl) ?_
  refine rm_geta S hW 42 37 wd_1294 (by decide) d_fresh_181 ?_
  refine lv_iload_n hx hb d_fresh_184 rfl (lv_at hl 1 rfl) ?_
  refine lv_iconst (v := 0) hx hb d_fresh_185 (by decide) ?_
  refine rm_zast S hW 37 2 (by decide) d_fresh_186 h (fun r26 H locs h hW => ?_)
  refine lv_iconst (v := 0) hx hb d_fresh_187 (by decide) ?_
  refine lv_istore_n (lv' := [(3, .int (0 : Int32)), (0, .ref o), (1, .int v1), (2, .int v2)]) hx hb d_fresh_188 rfl hl (by decide) rfl (fun ls hl => ?_)
  exact t_fresh_189 S fuel v1 (0 : Int32) r26 _ h _ _ _ (lv_sub hl [1, 2, 0] rfl) hW
theorem c_fresh (v1 : Int32) (v2 : Int32) (ρ : RS) {B : RS} (h : m_fresh v1 v2 ρ = some B) : RMet l D tc o y_fresh k_fresh 4 none 0 0 [.ref o, .int v1, .int v2] ρ none B := rm_met (by decide) (Nat.le_of_ble_eq_true rfl) fun p e s m args below meth c S hW ls hl => t_fresh_0 S v1 v2 ρ h hl hW
end

/-! open (II)I -/
abbrev k_open : ByteArray := prog_12_method_46_code
abbrev y_open : MethodName := ⟨cn_M, "open", "(II)I"⟩
theorem q_open : Calee y_open k_open 3 (some .int) 2 := ⟨wd_1438, wd_90, by decide, by decide +kernel⟩
theorem d_open_0 : decode k_open 0 = .ok (.aload_n 0, 1) := by decide +kernel
theorem d_open_1 : decode k_open 1 = .ok (.iconst 0, 1) := by decide +kernel
theorem d_open_2 : decode k_open 2 = .ok (.putfield 140, 3) := by decide +kernel
theorem d_open_5 : decode k_open 5 = .ok (.aload_n 0, 1) := by decide +kernel
theorem d_open_6 : decode k_open 6 = .ok (.dup, 1) := by decide +kernel
theorem d_open_7 : decode k_open 7 = .ok (.getfield 172, 3) := by decide +kernel
theorem d_open_10 : decode k_open 10 = .ok (.iconst 1, 1) := by decide +kernel
theorem d_open_11 : decode k_open 11 = .ok (.iadd, 1) := by decide +kernel
theorem d_open_12 : decode k_open 12 = .ok (.putfield 172, 3) := by decide +kernel
theorem d_open_15 : decode k_open 15 = .ok (.aload_n 0, 1) := by decide +kernel
theorem d_open_16 : decode k_open 16 = .ok (.getfield 144, 3) := by decide +kernel
theorem d_open_19 : decode k_open 19 = .ok (.ifCond .le 11, 3) := by decide +kernel
theorem d_open_22 : decode k_open 22 = .ok (.aload_n 0, 1) := by decide +kernel
theorem d_open_23 : decode k_open 23 = .ok (.iconst 0, 1) := by decide +kernel
theorem d_open_24 : decode k_open 24 = .ok (.invokevirtual 330, 3) := by decide +kernel
theorem d_open_27 : decode k_open 27 = .ok (.goto (-12), 3) := by decide +kernel
theorem d_open_30 : decode k_open 30 = .ok (.aload_n 0, 1) := by decide +kernel
theorem d_open_31 : decode k_open 31 = .ok (.iconst 0, 1) := by decide +kernel
theorem d_open_32 : decode k_open 32 = .ok (.iload_n 1, 1) := by decide +kernel
theorem d_open_33 : decode k_open 33 = .ok (.invokevirtual 333, 3) := by decide +kernel
theorem d_open_36 : decode k_open 36 = .ok (.aload_n 0, 1) := by decide +kernel
theorem d_open_37 : decode k_open 37 = .ok (.iconst 1, 1) := by decide +kernel
theorem d_open_38 : decode k_open 38 = .ok (.iload_n 2, 1) := by decide +kernel
theorem d_open_39 : decode k_open 39 = .ok (.invokevirtual 333, 3) := by decide +kernel
theorem d_open_42 : decode k_open 42 = .ok (.aload_n 0, 1) := by decide +kernel
theorem d_open_43 : decode k_open 43 = .ok (.getfield 39, 3) := by decide +kernel
theorem d_open_46 : decode k_open 46 = .ok (.iconst 1, 1) := by decide +kernel
theorem d_open_47 : decode k_open 47 = .ok (.iconst 1, 1) := by decide +kernel
theorem d_open_48 : decode k_open 48 = .ok (.iastore, 1) := by decide +kernel
theorem d_open_49 : decode k_open 49 = .ok (.aload_n 0, 1) := by decide +kernel
theorem d_open_50 : decode k_open 50 = .ok (.getfield 39, 3) := by decide +kernel
theorem d_open_53 : decode k_open 53 = .ok (.iconst 0, 1) := by decide +kernel
theorem d_open_54 : decode k_open 54 = .ok (.iconst 2, 1) := by decide +kernel
theorem d_open_55 : decode k_open 55 = .ok (.iastore, 1) := by decide +kernel
theorem d_open_56 : decode k_open 56 = .ok (.aload_n 0, 1) := by decide +kernel
theorem d_open_57 : decode k_open 57 = .ok (.iconst 0, 1) := by decide +kernel
theorem d_open_58 : decode k_open 58 = .ok (.iconst 2, 1) := by decide +kernel
theorem d_open_59 : decode k_open 59 = .ok (.iload_n 1, 1) := by decide +kernel
theorem d_open_60 : decode k_open 60 = .ok (.iconst 0, 1) := by decide +kernel
theorem d_open_61 : decode k_open 61 = .ok (.iconst 0, 1) := by decide +kernel
theorem d_open_62 : decode k_open 62 = .ok (.invokevirtual 205, 3) := by decide +kernel
theorem d_open_65 : decode k_open 65 = .ok (.aload_n 0, 1) := by decide +kernel
theorem d_open_66 : decode k_open 66 = .ok (.getfield 48, 3) := by decide +kernel
theorem d_open_69 : decode k_open 69 = .ok (.iconst 0, 1) := by decide +kernel
theorem d_open_70 : decode k_open 70 = .ok (.iload_n 1, 1) := by decide +kernel
theorem d_open_71 : decode k_open 71 = .ok (.iconst 1, 1) := by decide +kernel
theorem d_open_72 : decode k_open 72 = .ok (.iadd, 1) := by decide +kernel
theorem d_open_73 : decode k_open 73 = .ok (.iastore, 1) := by decide +kernel
theorem d_open_74 : decode k_open 74 = .ok (.aload_n 0, 1) := by decide +kernel
theorem d_open_75 : decode k_open 75 = .ok (.getfield 113, 3) := by decide +kernel
theorem d_open_78 : decode k_open 78 = .ok (.iconst 0, 1) := by decide +kernel
theorem d_open_79 : decode k_open 79 = .ok (.aload_n 0, 1) := by decide +kernel
theorem d_open_80 : decode k_open 80 = .ok (.getfield 201, 3) := by decide +kernel
theorem d_open_83 : decode k_open 83 = .ok (.aload_n 0, 1) := by decide +kernel
theorem d_open_84 : decode k_open 84 = .ok (.getfield 81, 3) := by decide +kernel
theorem d_open_87 : decode k_open 87 = .ok (.iconst 0, 1) := by decide +kernel
theorem d_open_88 : decode k_open 88 = .ok (.iaload, 1) := by decide +kernel
theorem d_open_89 : decode k_open 89 = .ok (.i2l, 1) := by decide +kernel
theorem d_open_90 : decode k_open 90 = .ok (.ladd, 1) := by decide +kernel
theorem d_open_91 : decode k_open 91 = .ok (.lastore, 1) := by decide +kernel
theorem d_open_92 : decode k_open 92 = .ok (.aload_n 0, 1) := by decide +kernel
theorem d_open_93 : decode k_open 93 = .ok (.getfield 172, 3) := by decide +kernel
theorem d_open_96 : decode k_open 96 = .ok (.iconst 1, 1) := by decide +kernel
theorem d_open_97 : decode k_open 97 = .ok (.isub, 1) := by decide +kernel
theorem d_open_98 : decode k_open 98 = .ok (.ireturn, 1) := by decide +kernel
def F_open_15 (rec15 : Int32 → Int32 → RS → Option (Int32 × RS)) (v1 : Int32) (v2 : Int32) (ρ : RS) : Option (Int32 × RS) :=
  bd (ρ.1 0 10) fun x1 => if x1 ≤ 0 then
  (bc (m_fresh (0 : Int32) v1 ρ) fun r2 => bc (m_fresh (1 : Int32) v2 r2) fun r3 => gd (inb (1 : Int32) 2) <| bd (si r3 9 (1 : Int32).toNatClampNeg (1 : Int32)) fun r4 => gd (inb (0 : Int32) 2) <| bd (si r4 9 (0 : Int32).toNatClampNeg (2 : Int32)) fun r5 => bc (m_send (0 : Int32) (2 : Int32) v1 (0 : Int32) (0 : Int32) r5) fun r6 => gd (inb (0 : Int32) 2) <| bd (si r6 12 (0 : Int32).toNatClampNeg (v1 + (1 : Int32))) fun r7 => bd (r7.2 0 3) fun x8 => gd (inb (0 : Int32) 2) <| bd (r7.1 23 (0 : Int32).toNatClampNeg) fun x9 => gd (inb (0 : Int32) 2) <| bd (sl r7 33 (0 : Int32).toNatClampNeg (x8 + (x9.toInt64))) fun r10 => bd (r10.1 0 4) fun x11 => some (x11 - (1 : Int32), r10))
 else
  (bc (m_removed (0 : Int32) ρ) fun r12 => rec15 v1 v2 r12)
def m_open (v1 : Int32) (v2 : Int32) (ρ : RS) : Option (Int32 × RS) :=
  bd (si ρ 0 0 (0 : Int32)) fun r1 => bd (r1.1 0 4) fun x2 => bd (si r1 0 4 (x2 + (1 : Int32))) fun r3 => lq3 (F_open_15) fuel v1 v2 r3
def P_open_15 (p : Program) (l : Launch) (e : Env) (s : State) (m : MethodId) (args : Array Value) (below : List Frame) (meth : Method) (c : Code) (D : va_G) (tc : Nat → ClassId) (o : Nat) (v1 : Int32) (v2 : Int32) (ρ : RS) (B : Int32 × RS) : Prop := ∀ (ls : Array Slot) (H : Heap) (locs : List Loc), lv_has ls 3 [(0, .ref o), (1, .int v1), (2, .int v2)] → RWS D tc o s ρ H locs → W p l e { frames := 4, cells := 0, slots := 0, locals := 103 } s m args below meth c H locs 0 0 (MQ below (RQ D tc o (some (.int B.1)) B.2) args s 0 0 (rreg o)) (F0 m 15 ls [])
section
variable {p : Program} {l : Launch} {e : Env} {s : State} {m : MethodId} {args : Array Value} {below : List Frame} {meth : Method} {c : Code} {D : va_G} {tc : Nat → ClassId} {o : Nat}
theorem tF_open_15 (S : RC p m c k_open 3 s args cn_M meth (some .int) D tc) : ∀ (rec15 : Int32 → Int32 → RS → Option (Int32 × RS)), (∀ (v1 : Int32) (v2 : Int32) (ρ : RS) (B : Int32 × RS), rec15 v1 v2 ρ = some B → P_open_15 p l e s m args below meth c D tc o v1 v2 ρ B) → ∀ (v1 : Int32) (v2 : Int32) (ρ : RS) (B : Int32 × RS), F_open_15 rec15 v1 v2 ρ = some B → P_open_15 p l e s m args below meth c D tc o v1 v2 ρ B := by
  intro rec15 hrec15 v1 v2 ρ B h ls H locs hl hW
  have hx := S.1.1
  have hb := S.1.2.1
  unfold F_open_15 at h
  refine lv_aload_n hx hb d_open_15 rfl (lv_at hl 0 rfl) ?_
  refine rm_geti S hW 10 wd_1262 (by decide) d_open_16 h (fun x1 h => ?_)
  refine rb_le (tgt := 30) hx hb d_open_19 (by decide) h (fun h => ?_) (fun h => ?_)
  · refine lv_aload_n hx hb d_open_30 rfl (lv_at hl 0 rfl) ?_
    refine lv_iconst (v := 0) hx hb d_open_31 (by decide) ?_
    refine lv_iload_n hx hb d_open_32 rfl (lv_at hl 1 rfl) ?_
    refine rm_cVv [.int (0 : Int32), .int v1] S hW (fun ρ' hc => c_fresh (0 : Int32) v1 ρ hc) q_fresh wd_1445 wd_36 wd_1443 (by decide) hl.1 rfl rfl (Nat.le_of_ble_eq_true rfl) d_open_33 h (fun r2 H locs h hW => ?_)
    refine lv_aload_n hx hb d_open_36 rfl (lv_at hl 0 rfl) ?_
    refine lv_iconst (v := 1) hx hb d_open_37 (by decide) ?_
    refine lv_iload_n hx hb d_open_38 rfl (lv_at hl 2 rfl) ?_
    refine rm_cVv [.int (1 : Int32), .int v2] S hW (fun ρ' hc => c_fresh (1 : Int32) v2 r2 hc) q_fresh wd_1445 wd_36 wd_1443 (by decide) hl.1 rfl rfl (Nat.le_of_ble_eq_true rfl) d_open_39 h (fun r3 H locs h hW => ?_)
    refine lv_aload_n hx hb d_open_42 rfl (lv_at hl 0 rfl) ?_
    refine rm_geta S hW 14 9 wd_1266 (by decide) d_open_43 ?_
    refine lv_iconst (v := 1) hx hb d_open_46 (by decide) ?_
    refine lv_iconst (v := 1) hx hb d_open_47 (by decide) ?_
    refine rm_iast S hW 9 2 (by decide) d_open_48 h (fun r4 H locs h hW => ?_)
    refine lv_aload_n hx hb d_open_49 rfl (lv_at hl 0 rfl) ?_
    refine rm_geta S hW 14 9 wd_1266 (by decide) d_open_50 ?_
    refine lv_iconst (v := 0) hx hb d_open_53 (by decide) ?_
    refine lv_iconst (v := 2) hx hb d_open_54 (by decide) ?_
    refine rm_iast S hW 9 2 (by decide) d_open_55 h (fun r5 H locs h hW => ?_)
    refine lv_aload_n hx hb d_open_56 rfl (lv_at hl 0 rfl) ?_
    refine lv_iconst (v := 0) hx hb d_open_57 (by decide) ?_
    refine lv_iconst (v := 2) hx hb d_open_58 (by decide) ?_
    refine lv_iload_n hx hb d_open_59 rfl (lv_at hl 1 rfl) ?_
    refine lv_iconst (v := 0) hx hb d_open_60 (by decide) ?_
    refine lv_iconst (v := 0) hx hb d_open_61 (by decide) ?_
    refine rm_cVv [.int (0 : Int32), .int (2 : Int32), .int v1, .int (0 : Int32), .int (0 : Int32)] S hW (fun ρ' hc => c_send (0 : Int32) (2 : Int32) v1 (0 : Int32) (0 : Int32) r5 hc) q_send wd_1449 wd_37 wd_1447 (by decide) hl.1 rfl rfl (Nat.le_of_ble_eq_true rfl) d_open_62 h (fun r6 H locs h hW => ?_)
    refine lv_aload_n hx hb d_open_65 rfl (lv_at hl 0 rfl) ?_
    refine rm_geta S hW 17 12 wd_1269 (by decide) d_open_66 ?_
    refine lv_iconst (v := 0) hx hb d_open_69 (by decide) ?_
    refine lv_iload_n hx hb d_open_70 rfl (lv_at hl 1 rfl) ?_
    refine lv_iconst (v := 1) hx hb d_open_71 (by decide) ?_
    refine lv_iadd hx hb d_open_72 ?_
    refine rm_iast S hW 12 2 (by decide) d_open_73 h (fun r7 H locs h hW => ?_)
    refine lv_aload_n hx hb d_open_74 rfl (lv_at hl 0 rfl) ?_
    refine rm_geta S hW 38 33 wd_1290 (by decide) d_open_75 ?_
    refine lv_iconst (v := 0) hx hb d_open_78 (by decide) ?_
    refine lv_aload_n hx hb d_open_79 rfl (lv_at hl 0 rfl) ?_
    refine rm_getl S hW 3 wd_1255 (by decide) d_open_80 h (fun x8 h => ?_)
    refine lv_aload_n hx hb d_open_83 rfl (lv_at hl 0 rfl) ?_
    refine rm_geta S hW 28 23 wd_1280 (by decide) d_open_84 ?_
    refine lv_iconst (v := 0) hx hb d_open_87 (by decide) ?_
    refine rm_iald S hW 23 2 (by decide) d_open_88 h (fun x9 h => ?_)
    refine lv_i2l hx hb d_open_89 rfl ?_
    refine lv_ladd hx hb d_open_90 ?_
    refine rm_last S hW 33 2 (by decide) d_open_91 h (fun r10 H locs h hW => ?_)
    refine lv_aload_n hx hb d_open_92 rfl (lv_at hl 0 rfl) ?_
    refine rm_geti S hW 4 wd_1256 (by decide) d_open_93 h (fun x11 h => ?_)
    refine lv_iconst (v := 1) hx hb d_open_96 (by decide) ?_
    refine lv_isub hx hb d_open_97 ?_
    exact rm_iret S hW d_open_98 h
  · refine lv_aload_n hx hb d_open_22 rfl (lv_at hl 0 rfl) ?_
    refine lv_iconst (v := 0) hx hb d_open_23 (by decide) ?_
    refine rm_cVv [.int (0 : Int32)] S hW (fun ρ' hc => c_removed (0 : Int32) ρ hc) q_removed wd_1441 wd_35 wd_1439 (by decide) hl.1 rfl rfl (Nat.le_of_ble_eq_true rfl) d_open_24 h (fun r12 H locs h hW => ?_)
    refine lv_goto (tgt := 15) hx hb d_open_27 (by decide) ?_
    exact hrec15 v1 v2 r12 _ h _ _ _ (lv_sub hl [0, 1, 2] rfl) hW
theorem t_open_15 (S : RC p m c k_open 3 s args cn_M meth (some .int) D tc) : ∀ (n : Nat) (v1 : Int32) (v2 : Int32) (ρ : RS) (B : Int32 × RS), lq3 (F_open_15) n v1 v2 ρ = some B → P_open_15 p l e s m args below meth c D tc o v1 v2 ρ B := lq3_s (tF_open_15 S)
theorem t_open_0 (S : RC p m c k_open 3 s args cn_M meth (some .int) D tc) (v1 : Int32) (v2 : Int32) (ρ : RS) {B : Int32 × RS} (h : m_open v1 v2 ρ = some B) {ls : Array Slot} {H : Heap} {locs : List Loc} (hl : lv_has ls 3 [(0, .ref o), (1, .int v1), (2, .int v2)]) (hW : RWS D tc o s ρ H locs) : W p l e { frames := 4, cells := 0, slots := 0, locals := 103 } s m args below meth c H locs 0 0 (MQ below (RQ D tc o (some (.int B.1)) B.2) args s 0 0 (rreg o)) (F0 m 0 ls []) := by
  have hx := S.1.1
  have hb := S.1.2.1
  unfold m_open at h
  refine lv_aload_n hx hb d_open_0 rfl (lv_at hl 0 rfl) ?_
  refine lv_iconst (v := 0) hx hb d_open_1 (by decide) ?_
  refine rm_puti S hW 0 wd_1252 (by decide) d_open_2 h (fun r1 H locs h hW => ?_)
  refine lv_aload_n hx hb d_open_5 rfl (lv_at hl 0 rfl) ?_
  refine lv_dup hx hb d_open_6 rfl ?_
  refine rm_geti S hW 4 wd_1256 (by decide) d_open_7 h (fun x2 h => ?_)
  refine lv_iconst (v := 1) hx hb d_open_10 (by decide) ?_
  refine lv_iadd hx hb d_open_11 ?_
  refine rm_puti S hW 4 wd_1256 (by decide) d_open_12 h (fun r3 H locs h hW => ?_)
  exact t_open_15 S fuel v1 v2 r3 _ h _ _ _ (lv_sub hl [0, 1, 2] rfl) hW
theorem c_open (v1 : Int32) (v2 : Int32) (ρ : RS) {x : Int32} {ρ' : RS} (h : m_open v1 v2 ρ = some (x, ρ')) : RMet l D tc o y_open k_open 3 (some .int) 4 103 [.ref o, .int v1, .int v2] ρ (some (.int x)) ρ' := rm_met (by decide) (Nat.le_of_ble_eq_true rfl) fun p e s m args below meth c S hW ls hl => t_open_0 S v1 v2 ρ h hl hW
end

