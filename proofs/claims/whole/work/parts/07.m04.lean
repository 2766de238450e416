/-! timer (I)V -/
abbrev k_timer : ByteArray := prog_12_method_26_code
abbrev y_timer : MethodName := ⟨cn_M, "timer", "(I)V"⟩
theorem q_timer : Calee y_timer k_timer 2 none 1 := ⟨wd_1551, wd_90, by decide, by decide +kernel⟩
theorem d_timer_0 : decode k_timer 0 = .ok (.aload_n 0, 1) := by decide +kernel
theorem d_timer_1 : decode k_timer 1 = .ok (.getfield 113, 3) := by decide +kernel
theorem d_timer_4 : decode k_timer 4 = .ok (.iload_n 1, 1) := by decide +kernel
theorem d_timer_5 : decode k_timer 5 = .ok (.ldc2_w 111, 3) := by decide +kernel
theorem d_timer_8 : decode k_timer 8 = .ok (.lastore, 1) := by decide +kernel
theorem d_timer_9 : decode k_timer 9 = .ok (.aload_n 0, 1) := by decide +kernel
theorem d_timer_10 : decode k_timer 10 = .ok (.getfield 39, 3) := by decide +kernel
theorem d_timer_13 : decode k_timer 13 = .ok (.iload_n 1, 1) := by decide +kernel
theorem d_timer_14 : decode k_timer 14 = .ok (.iaload, 1) := by decide +kernel
theorem d_timer_15 : decode k_timer 15 = .ok (.bipush 10, 2) := by decide +kernel
theorem d_timer_17 : decode k_timer 17 = .ok (.if_icmp .ne 9, 3) := by decide +kernel
theorem d_timer_20 : decode k_timer 20 = .ok (.aload_n 0, 1) := by decide +kernel
theorem d_timer_21 : decode k_timer 21 = .ok (.iload_n 1, 1) := by decide +kernel
theorem d_timer_22 : decode k_timer 22 = .ok (.invokevirtual 215, 3) := by decide +kernel
theorem d_timer_25 : decode k_timer 25 = .ok (.return_, 1) := by decide +kernel
theorem d_timer_26 : decode k_timer 26 = .ok (.aload_n 0, 1) := by decide +kernel
theorem d_timer_27 : decode k_timer 27 = .ok (.getfield 84, 3) := by decide +kernel
theorem d_timer_30 : decode k_timer 30 = .ok (.iload_n 1, 1) := by decide +kernel
theorem d_timer_31 : decode k_timer 31 = .ok (.iaload, 1) := by decide +kernel
theorem d_timer_32 : decode k_timer 32 = .ok (.bipush 8, 2) := by decide +kernel
theorem d_timer_34 : decode k_timer 34 = .ok (.if_icmp .ne 10, 3) := by decide +kernel
theorem d_timer_37 : decode k_timer 37 = .ok (.aload_n 0, 1) := by decide +kernel
theorem d_timer_38 : decode k_timer 38 = .ok (.iload_n 1, 1) := by decide +kernel
theorem d_timer_39 : decode k_timer 39 = .ok (.iconst 2, 1) := by decide +kernel
theorem d_timer_40 : decode k_timer 40 = .ok (.invokevirtual 218, 3) := by decide +kernel
theorem d_timer_43 : decode k_timer 43 = .ok (.return_, 1) := by decide +kernel
theorem d_timer_44 : decode k_timer 44 = .ok (.aload_n 0, 1) := by decide +kernel
theorem d_timer_45 : decode k_timer 45 = .ok (.getfield 84, 3) := by decide +kernel
theorem d_timer_48 : decode k_timer 48 = .ok (.iload_n 1, 1) := by decide +kernel
theorem d_timer_49 : decode k_timer 49 = .ok (.dup2, 1) := by decide +kernel
theorem d_timer_50 : decode k_timer 50 = .ok (.iaload, 1) := by decide +kernel
theorem d_timer_51 : decode k_timer 51 = .ok (.iconst 1, 1) := by decide +kernel
theorem d_timer_52 : decode k_timer 52 = .ok (.iadd, 1) := by decide +kernel
theorem d_timer_53 : decode k_timer 53 = .ok (.iastore, 1) := by decide +kernel
theorem d_timer_54 : decode k_timer 54 = .ok (.aload_n 0, 1) := by decide +kernel
theorem d_timer_55 : decode k_timer 55 = .ok (.getfield 81, 3) := by decide +kernel
theorem d_timer_58 : decode k_timer 58 = .ok (.iload_n 1, 1) := by decide +kernel
theorem d_timer_59 : decode k_timer 59 = .ok (.aload_n 0, 1) := by decide +kernel
theorem d_timer_60 : decode k_timer 60 = .ok (.getfield 81, 3) := by decide +kernel
theorem d_timer_63 : decode k_timer 63 = .ok (.iload_n 1, 1) := by decide +kernel
theorem d_timer_64 : decode k_timer 64 = .ok (.iaload, 1) := by decide +kernel
theorem d_timer_65 : decode k_timer 65 = .ok (.sipush 30000, 3) := by decide +kernel
theorem d_timer_68 : decode k_timer 68 = .ok (.if_icmp .le 8, 3) := by decide +kernel
theorem d_timer_71 : decode k_timer 71 = .ok (.ldc 222, 2) := by decide +kernel
theorem d_timer_73 : decode k_timer 73 = .ok (.goto 11, 3) := by decide +kernel
theorem d_timer_76 : decode k_timer 76 = .ok (.iconst 2, 1) := by decide +kernel
theorem d_timer_77 : decode k_timer 77 = .ok (.aload_n 0, 1) := by decide +kernel
theorem d_timer_78 : decode k_timer 78 = .ok (.getfield 81, 3) := by decide +kernel
theorem d_timer_81 : decode k_timer 81 = .ok (.iload_n 1, 1) := by decide +kernel
theorem d_timer_82 : decode k_timer 82 = .ok (.iaload, 1) := by decide +kernel
theorem d_timer_83 : decode k_timer 83 = .ok (.imul, 1) := by decide +kernel
theorem d_timer_84 : decode k_timer 84 = .ok (.iastore, 1) := by decide +kernel
theorem d_timer_85 : decode k_timer 85 = .ok (.aload_n 0, 1) := by decide +kernel
theorem d_timer_86 : decode k_timer 86 = .ok (.getfield 120, 3) := by decide +kernel
theorem d_timer_89 : decode k_timer 89 = .ok (.iload_n 1, 1) := by decide +kernel
theorem d_timer_90 : decode k_timer 90 = .ok (.iconst 0, 1) := by decide +kernel
theorem d_timer_91 : decode k_timer 91 = .ok (.bastore, 1) := by decide +kernel
theorem d_timer_92 : decode k_timer 92 = .ok (.aload_n 0, 1) := by decide +kernel
theorem d_timer_93 : decode k_timer 93 = .ok (.getfield 39, 3) := by decide +kernel
theorem d_timer_96 : decode k_timer 96 = .ok (.iload_n 1, 1) := by decide +kernel
theorem d_timer_97 : decode k_timer 97 = .ok (.iaload, 1) := by decide +kernel
theorem d_timer_98 : decode k_timer 98 = .ok (.iconst 2, 1) := by decide +kernel
theorem d_timer_99 : decode k_timer 99 = .ok (.if_icmp .eq 13, 3) := by decide +kernel
theorem d_timer_102 : decode k_timer 102 = .ok (.aload_n 0, 1) := by decide +kernel
theorem d_timer_103 : decode k_timer 103 = .ok (.getfield 39, 3) := by decide +kernel
theorem d_timer_106 : decode k_timer 106 = .ok (.iload_n 1, 1) := by decide +kernel
theorem d_timer_107 : decode k_timer 107 = .ok (.iaload, 1) := by decide +kernel
theorem d_timer_108 : decode k_timer 108 = .ok (.iconst 3, 1) := by decide +kernel
theorem d_timer_109 : decode k_timer 109 = .ok (.if_icmp .ne 20, 3) := by decide +kernel
theorem d_timer_112 : decode k_timer 112 = .ok (.aload_n 0, 1) := by decide +kernel
theorem d_timer_113 : decode k_timer 113 = .ok (.iload_n 1, 1) := by decide +kernel
theorem d_timer_114 : decode k_timer 114 = .ok (.iconst 2, 1) := by decide +kernel
theorem d_timer_115 : decode k_timer 115 = .ok (.aload_n 0, 1) := by decide +kernel
theorem d_timer_116 : decode k_timer 116 = .ok (.getfield 42, 3) := by decide +kernel
theorem d_timer_119 : decode k_timer 119 = .ok (.iload_n 1, 1) := by decide +kernel
theorem d_timer_120 : decode k_timer 120 = .ok (.iaload, 1) := by decide +kernel
theorem d_timer_121 : decode k_timer 121 = .ok (.iconst 0, 1) := by decide +kernel
theorem d_timer_122 : decode k_timer 122 = .ok (.iconst 0, 1) := by decide +kernel
theorem d_timer_123 : decode k_timer 123 = .ok (.invokevirtual 205, 3) := by decide +kernel
theorem d_timer_126 : decode k_timer 126 = .ok (.goto 99, 3) := by decide +kernel
theorem d_timer_129 : decode k_timer 129 = .ok (.aload_n 0, 1) := by decide +kernel
theorem d_timer_130 : decode k_timer 130 = .ok (.getfield 75, 3) := by decide +kernel
theorem d_timer_133 : decode k_timer 133 = .ok (.iload_n 1, 1) := by decide +kernel
theorem d_timer_134 : decode k_timer 134 = .ok (.aload_n 0, 1) := by decide +kernel
theorem d_timer_135 : decode k_timer 135 = .ok (.iload_n 1, 1) := by decide +kernel
theorem d_timer_136 : decode k_timer 136 = .ok (.invokevirtual 223, 3) := by decide +kernel
theorem d_timer_139 : decode k_timer 139 = .ok (.iastore, 1) := by decide +kernel
theorem d_timer_140 : decode k_timer 140 = .ok (.aload_n 0, 1) := by decide +kernel
theorem d_timer_141 : decode k_timer 141 = .ok (.getfield 72, 3) := by decide +kernel
theorem d_timer_144 : decode k_timer 144 = .ok (.iload_n 1, 1) := by decide +kernel
theorem d_timer_145 : decode k_timer 145 = .ok (.aload_n 0, 1) := by decide +kernel
theorem d_timer_146 : decode k_timer 146 = .ok (.getfield 63, 3) := by decide +kernel
theorem d_timer_149 : decode k_timer 149 = .ok (.iload_n 1, 1) := by decide +kernel
theorem d_timer_150 : decode k_timer 150 = .ok (.iaload, 1) := by decide +kernel
theorem d_timer_151 : decode k_timer 151 = .ok (.iastore, 1) := by decide +kernel
theorem d_timer_152 : decode k_timer 152 = .ok (.aload_n 0, 1) := by decide +kernel
theorem d_timer_153 : decode k_timer 153 = .ok (.getfield 78, 3) := by decide +kernel
theorem d_timer_156 : decode k_timer 156 = .ok (.iload_n 1, 1) := by decide +kernel
theorem d_timer_157 : decode k_timer 157 = .ok (.iconst 0, 1) := by decide +kernel
theorem d_timer_158 : decode k_timer 158 = .ok (.iastore, 1) := by decide +kernel
theorem d_timer_159 : decode k_timer 159 = .ok (.aload_n 0, 1) := by decide +kernel
theorem d_timer_160 : decode k_timer 160 = .ok (.getfield 48, 3) := by decide +kernel
theorem d_timer_163 : decode k_timer 163 = .ok (.iload_n 1, 1) := by decide +kernel
theorem d_timer_164 : decode k_timer 164 = .ok (.aload_n 0, 1) := by decide +kernel
theorem d_timer_165 : decode k_timer 165 = .ok (.getfield 45, 3) := by decide +kernel
theorem d_timer_168 : decode k_timer 168 = .ok (.iload_n 1, 1) := by decide +kernel
theorem d_timer_169 : decode k_timer 169 = .ok (.iaload, 1) := by decide +kernel
theorem d_timer_170 : decode k_timer 170 = .ok (.iastore, 1) := by decide +kernel
theorem d_timer_171 : decode k_timer 171 = .ok (.aload_n 0, 1) := by decide +kernel
theorem d_timer_172 : decode k_timer 172 = .ok (.iload_n 1, 1) := by decide +kernel
theorem d_timer_173 : decode k_timer 173 = .ok (.invokevirtual 226, 3) := by decide +kernel
theorem d_timer_176 : decode k_timer 176 = .ok (.ifCond .ne 49, 3) := by decide +kernel
theorem d_timer_179 : decode k_timer 179 = .ok (.aload_n 0, 1) := by decide +kernel
theorem d_timer_180 : decode k_timer 180 = .ok (.iload_n 1, 1) := by decide +kernel
theorem d_timer_181 : decode k_timer 181 = .ok (.invokevirtual 209, 3) := by decide +kernel
theorem d_timer_184 : decode k_timer 184 = .ok (.ifCond .le 41, 3) := by decide +kernel
theorem d_timer_187 : decode k_timer 187 = .ok (.aload_n 0, 1) := by decide +kernel
theorem d_timer_188 : decode k_timer 188 = .ok (.iload_n 1, 1) := by decide +kernel
theorem d_timer_189 : decode k_timer 189 = .ok (.iconst 0, 1) := by decide +kernel
theorem d_timer_190 : decode k_timer 190 = .ok (.aload_n 0, 1) := by decide +kernel
theorem d_timer_191 : decode k_timer 191 = .ok (.getfield 48, 3) := by decide +kernel
theorem d_timer_194 : decode k_timer 194 = .ok (.iload_n 1, 1) := by decide +kernel
theorem d_timer_195 : decode k_timer 195 = .ok (.iaload, 1) := by decide +kernel
theorem d_timer_196 : decode k_timer 196 = .ok (.aload_n 0, 1) := by decide +kernel
theorem d_timer_197 : decode k_timer 197 = .ok (.getfield 48, 3) := by decide +kernel
theorem d_timer_200 : decode k_timer 200 = .ok (.iload_n 1, 1) := by decide +kernel
theorem d_timer_201 : decode k_timer 201 = .ok (.iaload, 1) := by decide +kernel
theorem d_timer_202 : decode k_timer 202 = .ok (.aload_n 0, 1) := by decide +kernel
theorem d_timer_203 : decode k_timer 203 = .ok (.getfield 42, 3) := by decide +kernel
theorem d_timer_206 : decode k_timer 206 = .ok (.iload_n 1, 1) := by decide +kernel
theorem d_timer_207 : decode k_timer 207 = .ok (.iaload, 1) := by decide +kernel
theorem d_timer_208 : decode k_timer 208 = .ok (.isub, 1) := by decide +kernel
theorem d_timer_209 : decode k_timer 209 = .ok (.iconst 1, 1) := by decide +kernel
theorem d_timer_210 : decode k_timer 210 = .ok (.isub, 1) := by decide +kernel
theorem d_timer_211 : decode k_timer 211 = .ok (.iconst 1, 1) := by decide +kernel
theorem d_timer_212 : decode k_timer 212 = .ok (.invokevirtual 205, 3) := by decide +kernel
theorem d_timer_215 : decode k_timer 215 = .ok (.aload_n 0, 1) := by decide +kernel
theorem d_timer_216 : decode k_timer 216 = .ok (.getfield 48, 3) := by decide +kernel
theorem d_timer_219 : decode k_timer 219 = .ok (.iload_n 1, 1) := by decide +kernel
theorem d_timer_220 : decode k_timer 220 = .ok (.dup2, 1) := by decide +kernel
theorem d_timer_221 : decode k_timer 221 = .ok (.iaload, 1) := by decide +kernel
theorem d_timer_222 : decode k_timer 222 = .ok (.iconst 1, 1) := by decide +kernel
theorem d_timer_223 : decode k_timer 223 = .ok (.iadd, 1) := by decide +kernel
theorem d_timer_224 : decode k_timer 224 = .ok (.iastore, 1) := by decide +kernel
theorem d_timer_225 : decode k_timer 225 = .ok (.aload_n 0, 1) := by decide +kernel
theorem d_timer_226 : decode k_timer 226 = .ok (.getfield 113, 3) := by decide +kernel
theorem d_timer_229 : decode k_timer 229 = .ok (.iload_n 1, 1) := by decide +kernel
theorem d_timer_230 : decode k_timer 230 = .ok (.aload_n 0, 1) := by decide +kernel
theorem d_timer_231 : decode k_timer 231 = .ok (.getfield 201, 3) := by decide +kernel
theorem d_timer_234 : decode k_timer 234 = .ok (.aload_n 0, 1) := by decide +kernel
theorem d_timer_235 : decode k_timer 235 = .ok (.getfield 81, 3) := by decide +kernel
theorem d_timer_238 : decode k_timer 238 = .ok (.iload_n 1, 1) := by decide +kernel
theorem d_timer_239 : decode k_timer 239 = .ok (.iaload, 1) := by decide +kernel
theorem d_timer_240 : decode k_timer 240 = .ok (.i2l, 1) := by decide +kernel
theorem d_timer_241 : decode k_timer 241 = .ok (.ladd, 1) := by decide +kernel
theorem d_timer_242 : decode k_timer 242 = .ok (.lastore, 1) := by decide +kernel
theorem d_timer_243 : decode k_timer 243 = .ok (.return_, 1) := by decide +kernel
def b_timer_225 (v1 : Int32) (ρ : RS) : Option (RS) :=
  bd (ρ.2 0 3) fun x1 => gd (inb v1 2) <| bd (ρ.1 23 v1.toNatClampNeg) fun x2 => gd (inb v1 2) <| bd (sl ρ 33 v1.toNatClampNeg (x1 + (x2.toInt64))) fun r3 => some r3
def b_timer_112 (v1 : Int32) (ρ : RS) : Option (RS) :=
  gd (inb v1 2) <| bd (ρ.1 10 v1.toNatClampNeg) fun x1 => bc (m_send v1 (2 : Int32) x1 (0 : Int32) (0 : Int32) ρ) fun r2 => b_timer_225 v1 r2
def b_timer_84 (v1 : Int32) (w1 : Int32) (w2 : Int32) (ρ : RS) : Option (RS) :=
  gd (inb w1 2) <| bd (si ρ 23 w1.toNatClampNeg w2) fun r1 => gd (inb v1 2) <| bd (si r1 35 v1.toNatClampNeg (vp_nar .boolean (0 : Int32))) fun r2 => gd (inb v1 2) <| bd (r2.1 9 v1.toNatClampNeg) fun x3 => if x3 = (2 : Int32) then
  (b_timer_112 v1 r2)
 else
  (gd (inb v1 2) <| bd (r2.1 9 v1.toNatClampNeg) fun x4 => if x4 = (3 : Int32) then
  (b_timer_112 v1 r2)
 else
  (bc2 (m_least v1 r2) fun x6 r5 => gd (inb v1 2) <| bd (si r5 21 v1.toNatClampNeg x6) fun r7 => gd (inb v1 2) <| bd (r7.1 17 v1.toNatClampNeg) fun x8 => gd (inb v1 2) <| bd (si r7 20 v1.toNatClampNeg x8) fun r9 => gd (inb v1 2) <| bd (si r9 22 v1.toNatClampNeg (0 : Int32)) fun r10 => gd (inb v1 2) <| bd (r10.1 11 v1.toNatClampNeg) fun x11 => gd (inb v1 2) <| bd (si r10 12 v1.toNatClampNeg x11) fun r12 => bc2 (m_output v1 r12) fun x14 r13 => if x14 = 0 then
  (bc2 (m_left v1 r13) fun x16 r15 => if x16 ≤ 0 then
  (b_timer_225 v1 r15)
 else
  (gd (inb v1 2) <| bd (r15.1 12 v1.toNatClampNeg) fun x17 => gd (inb v1 2) <| bd (r15.1 12 v1.toNatClampNeg) fun x18 => gd (inb v1 2) <| bd (r15.1 10 v1.toNatClampNeg) fun x19 => bc (m_send v1 (0 : Int32) x17 ((x18 - x19) - (1 : Int32)) (1 : Int32) r15) fun r20 => gd (inb v1 2) <| bd (r20.1 12 v1.toNatClampNeg) fun x21 => gd (inb v1 2) <| bd (si r20 12 v1.toNatClampNeg (x21 + (1 : Int32))) fun r22 => b_timer_225 v1 r22))
 else
  (b_timer_225 v1 r13)))
def m_timer (v1 : Int32) (ρ : RS) : Option (RS) :=
  gd (inb v1 2) <| bd (sl ρ 33 v1.toNatClampNeg (-1 : Int64)) fun r1 => gd (inb v1 2) <| bd (r1.1 9 v1.toNatClampNeg) fun x2 => if x2 = (10 : Int32) then
  (bc (m_finished v1 r1) fun r9 => some r9)
 else
  (gd (inb v1 2) <| bd (r1.1 24 v1.toNatClampNeg) fun x3 => if x3 = (8 : Int32) then
  (bc (m_broken v1 (2 : Int32) r1) fun r8 => some r8)
 else
  (gd (inb v1 2) <| bd (r1.1 24 v1.toNatClampNeg) fun x4 => gd (inb v1 2) <| bd (si r1 24 v1.toNatClampNeg (x4 + (1 : Int32))) fun r5 => gd (inb v1 2) <| bd (r5.1 23 v1.toNatClampNeg) fun x6 => if x6 ≤ (30000 : Int32) then
  (gd (inb v1 2) <| bd (r5.1 23 v1.toNatClampNeg) fun x7 => b_timer_84 v1 v1 ((2 : Int32) * x7) r5)
 else
  (b_timer_84 v1 v1 (60000 : Int32) r5)))
section
variable {p : Program} {l : Launch} {e : Env} {s : State} {m : MethodId} {args : Array Value} {below : List Frame} {meth : Method} {c : Code} {D : va_G} {tc : Nat → ClassId} {o : Nat}
theorem t_timer_225 (S : RC p m c k_timer 2 s args cn_M meth none D tc) (v1 : Int32) (ρ : RS) {B : RS} (h : b_timer_225 v1 ρ = some B) {ls : Array Slot} {H : Heap} {locs : List Loc} (hl : lv_has ls 2 [(0, .ref o), (1, .int v1)]) (hW : RWS D tc o s ρ H locs) : W p l e { frames := 5, cells := 0, slots := 0, locals := 129 } s m args below meth c H locs 0 0 (MQ below (RQ D tc o none B) args s 0 0 (rreg o)) (F0 m 225 ls []) := by
  have hx := S.1.1
  have hb := S.1.2.1
  unfold b_timer_225 at h
  refine lv_aload_n hx hb d_timer_225 rfl (lv_at hl 0 rfl) ?_
  refine rm_geta S hW 38 33 wd_1290 (by decide) d_timer_226 ?_
  refine lv_iload_n hx hb d_timer_229 rfl (lv_at hl 1 rfl) ?_
  refine lv_aload_n hx hb d_timer_230 rfl (lv_at hl 0 rfl) ?_
  refine rm_getl S hW 3 wd_1255 (by decide) d_timer_231 h (fun x1 h => ?_)
  refine lv_aload_n hx hb d_timer_234 rfl (lv_at hl 0 rfl) ?_
  refine rm_geta S hW 28 23 wd_1280 (by decide) d_timer_235 ?_
  refine lv_iload_n hx hb d_timer_238 rfl (lv_at hl 1 rfl) ?_
  refine rm_iald S hW 23 2 (by decide) d_timer_239 h (fun x2 h => ?_)
  refine lv_i2l hx hb d_timer_240 rfl ?_
  refine lv_ladd hx hb d_timer_241 ?_
  refine rm_last S hW 33 2 (by decide) d_timer_242 h (fun r3 H locs h hW => ?_)
  exact rm_vret S hW d_timer_243 h
theorem t_timer_112 (S : RC p m c k_timer 2 s args cn_M meth none D tc) (v1 : Int32) (ρ : RS) {B : RS} (h : b_timer_112 v1 ρ = some B) {ls : Array Slot} {H : Heap} {locs : List Loc} (hl : lv_has ls 2 [(0, .ref o), (1, .int v1)]) (hW : RWS D tc o s ρ H locs) : W p l e { frames := 5, cells := 0, slots := 0, locals := 129 } s m args below meth c H locs 0 0 (MQ below (RQ D tc o none B) args s 0 0 (rreg o)) (F0 m 112 ls []) := by
  have hx := S.1.1
  have hb := S.1.2.1
  unfold b_timer_112 at h
  refine lv_aload_n hx hb d_timer_112 rfl (lv_at hl 0 rfl) ?_
  refine lv_iload_n hx hb d_timer_113 rfl (lv_at hl 1 rfl) ?_
  refine lv_iconst (v := 2) hx hb d_timer_114 (by decide) ?_
  refine lv_aload_n hx hb d_timer_115 rfl (lv_at hl 0 rfl) ?_
  refine rm_geta S hW 15 10 wd_1267 (by decide) d_timer_116 ?_
  refine lv_iload_n hx hb d_timer_119 rfl (lv_at hl 1 rfl) ?_
  refine rm_iald S hW 10 2 (by decide) d_timer_120 h (fun x1 h => ?_)
  refine lv_iconst (v := 0) hx hb d_timer_121 (by decide) ?_
  refine lv_iconst (v := 0) hx hb d_timer_122 (by decide) ?_
  refine rm_cVv [.int v1, .int (2 : Int32), .int x1, .int (0 : Int32), .int (0 : Int32)] S hW (fun ρ' hc => c_send v1 (2 : Int32) x1 (0 : Int32) (0 : Int32) ρ hc) q_send wd_1449 wd_37 wd_1447 (by decide) hl.1 rfl rfl (Nat.le_of_ble_eq_true rfl) d_timer_123 h (fun r2 H locs h hW => ?_)
  refine lv_goto (tgt := 225) hx hb d_timer_126 (by decide) ?_
  exact t_timer_225 S v1 r2 h (lv_sub hl [0, 1] rfl) hW
theorem t_timer_84 (S : RC p m c k_timer 2 s args cn_M meth none D tc) (v1 : Int32) (w1 : Int32) (w2 : Int32) (ρ : RS) {B : RS} (h : b_timer_84 v1 w1 w2 ρ = some B) {ls : Array Slot} {H : Heap} {locs : List Loc} (hl : lv_has ls 2 [(0, .ref o), (1, .int v1)]) (hW : RWS D tc o s ρ H locs) : W p l e { frames := 5, cells := 0, slots := 0, locals := 129 } s m args below meth c H locs 0 0 (MQ below (RQ D tc o none B) args s 0 0 (rreg o)) (F0 m 84 ls [.int w2, .int w1, .ref (o + 23)]) := by
  have hx := S.1.1
  have hb := S.1.2.1
  unfold b_timer_84 at h
  refine rm_iast S hW 23 2 (by decide) d_timer_84 h (fun r1 H locs h hW => ?_)
  refine lv_aload_n hx hb d_timer_85 rfl (lv_at hl 0 rfl) ?_
  refine rm_geta S hW 40 35 wd_1292 (by decide) d_timer_86 ?_
  refine lv_iload_n hx hb d_timer_89 rfl (lv_at hl 1 rfl) ?_
  refine lv_iconst (v := 0) hx hb d_timer_90 (by decide) ?_
  refine rm_zast S hW 35 2 (by decide) d_timer_91 h (fun r2 H locs h hW => ?_)
  refine lv_aload_n hx hb d_timer_92 rfl (lv_at hl 0 rfl) ?_
  refine rm_geta S hW 14 9 wd_1266 (by decide) d_timer_93 ?_
  refine lv_iload_n hx hb d_timer_96 rfl (lv_at hl 1 rfl) ?_
  refine rm_iald S hW 9 2 (by decide) d_timer_97 h (fun x3 h => ?_)
  refine lv_iconst (v := 2) hx hb d_timer_98 (by decide) ?_
  refine rc_eq (tgt := 112) hx hb d_timer_99 (by decide) h (fun h => ?_) (fun h => ?_)
  · exact t_timer_112 S v1 r2 h (lv_sub hl [0, 1] rfl) hW
  · refine lv_aload_n hx hb d_timer_102 rfl (lv_at hl 0 rfl) ?_
    refine rm_geta S hW 14 9 wd_1266 (by decide) d_timer_103 ?_
    refine lv_iload_n hx hb d_timer_106 rfl (lv_at hl 1 rfl) ?_
    refine rm_iald S hW 9 2 (by decide) d_timer_107 h (fun x4 h => ?_)
    refine lv_iconst (v := 3) hx hb d_timer_108 (by decide) ?_
    refine rc_ne (tgt := 129) hx hb d_timer_109 (by decide) h (fun h => ?_) (fun h => ?_)
    · refine lv_aload_n hx hb d_timer_129 rfl (lv_at hl 0 rfl) ?_
      refine rm_geta S hW 26 21 wd_1278 (by decide) d_timer_130 ?_
      refine lv_iload_n hx hb d_timer_133 rfl (lv_at hl 1 rfl) ?_
      refine lv_aload_n hx hb d_timer_134 rfl (lv_at hl 0 rfl) ?_
      refine lv_iload_n hx hb d_timer_135 rfl (lv_at hl 1 rfl) ?_
      refine rm_cVi [.int v1] S hW (fun x ρ' hc => c_least v1 r2 hc) q_least wd_1555 wd_54 wd_1553 (by decide) hl.1 rfl rfl (Nat.le_of_ble_eq_true rfl) d_timer_136 h (fun x6 r5 H locs h hW => ?_)
      refine rm_iast S hW 21 2 (by decide) d_timer_139 h (fun r7 H locs h hW => ?_)
      refine lv_aload_n hx hb d_timer_140 rfl (lv_at hl 0 rfl) ?_
      refine rm_geta S hW 25 20 wd_1277 (by decide) d_timer_141 ?_
      refine lv_iload_n hx hb d_timer_144 rfl (lv_at hl 1 rfl) ?_
      refine lv_aload_n hx hb d_timer_145 rfl (lv_at hl 0 rfl) ?_
      refine rm_geta S hW 22 17 wd_1274 (by decide) d_timer_146 ?_
      refine lv_iload_n hx hb d_timer_149 rfl (lv_at hl 1 rfl) ?_
      refine rm_iald S hW 17 2 (by decide) d_timer_150 h (fun x8 h => ?_)
      refine rm_iast S hW 20 2 (by decide) d_timer_151 h (fun r9 H locs h hW => ?_)
      refine lv_aload_n hx hb d_timer_152 rfl (lv_at hl 0 rfl) ?_
      refine rm_geta S hW 27 22 wd_1279 (by decide) d_timer_153 ?_
      refine lv_iload_n hx hb d_timer_156 rfl (lv_at hl 1 rfl) ?_
      refine lv_iconst (v := 0) hx hb d_timer_157 (by decide) ?_
      refine rm_iast S hW 22 2 (by decide) d_timer_158 h (fun r10 H locs h hW => ?_)
      refine lv_aload_n hx hb d_timer_159 rfl (lv_at hl 0 rfl) ?_
      refine rm_geta S hW 17 12 wd_1269 (by decide) d_timer_160 ?_
      refine lv_iload_n hx hb d_timer_163 rfl (lv_at hl 1 rfl) ?_
      refine lv_aload_n hx hb d_timer_164 rfl (lv_at hl 0 rfl) ?_
      refine rm_geta S hW 16 11 wd_1268 (by decide) d_timer_165 ?_
      refine lv_iload_n hx hb d_timer_168 rfl (lv_at hl 1 rfl) ?_
      refine rm_iald S hW 11 2 (by decide) d_timer_169 h (fun x11 h => ?_)
      refine rm_iast S hW 12 2 (by decide) d_timer_170 h (fun r12 H locs h hW => ?_)
      refine lv_aload_n hx hb d_timer_171 rfl (lv_at hl 0 rfl) ?_
      refine lv_iload_n hx hb d_timer_172 rfl (lv_at hl 1 rfl) ?_
      refine rm_cVi [.int v1] S hW (fun x ρ' hc => c_output v1 r12 hc) q_output wd_1508 wd_47 wd_1506 (by decide) hl.1 rfl rfl (Nat.le_of_ble_eq_true rfl) d_timer_173 h (fun x14 r13 H locs h hW => ?_)
      refine rb_ne (tgt := 225) hx hb d_timer_176 (by decide) h (fun h => ?_) (fun h => ?_)
      · exact t_timer_225 S v1 r13 h (lv_sub hl [0, 1] rfl) hW
      · refine lv_aload_n hx hb d_timer_179 rfl (lv_at hl 0 rfl) ?_
        refine lv_iload_n hx hb d_timer_180 rfl (lv_at hl 1 rfl) ?_
        refine rm_cVi [.int v1] S hW (fun x ρ' hc => c_left v1 r13 hc) q_left wd_1512 wd_48 wd_1510 (by decide) hl.1 rfl rfl (Nat.le_of_ble_eq_true rfl) d_timer_181 h (fun x16 r15 H locs h hW => ?_)
        refine rb_le (tgt := 225) hx hb d_timer_184 (by decide) h (fun h => ?_) (fun h => ?_)
        · exact t_timer_225 S v1 r15 h (lv_sub hl [0, 1] rfl) hW
        · refine lv_aload_n hx hb d_timer_187 rfl (lv_at hl 0 rfl) ?_
          refine lv_iload_n hx hb d_timer_188 rfl (lv_at hl 1 rfl) ?_
          refine lv_iconst (v := 0) hx hb d_timer_189 (by decide) ?_
          refine lv_aload_n hx hb d_timer_190 rfl (lv_at hl 0 rfl) ?_
          refine rm_geta S hW 17 12 wd_1269 (by decide) d_timer_191 ?_
          refine lv_iload_n hx hb d_timer_194 rfl (lv_at hl 1 rfl) ?_
          refine rm_iald S hW 12 2 (by decide) d_timer_195 h (fun x17 h => ?_)
          refine lv_aload_n hx hb d_timer_196 rfl (lv_at hl 0 rfl) ?_
          refine rm_geta S hW 17 12 wd_1269 (by decide) d_timer_197 ?_
          refine lv_iload_n hx hb d_timer_200 rfl (lv_at hl 1 rfl) ?_
          refine rm_iald S hW 12 2 (by decide) d_timer_201 h (fun x18 h => ?_)
          refine lv_aload_n hx hb d_timer_202 rfl (lv_at hl 0 rfl) ?_
          refine rm_geta S hW 15 10 wd_1267 (by decide) d_timer_203 ?_
          refine lv_iload_n hx hb d_timer_206 rfl (lv_at hl 1 rfl) ?_
          refine rm_iald S hW 10 2 (by decide) d_timer_207 h (fun x19 h => ?_)
          refine lv_isub hx hb d_timer_208 ?_
          refine lv_iconst (v := 1) hx hb d_timer_209 (by decide) ?_
          refine lv_isub hx hb d_timer_210 ?_
          refine lv_iconst (v := 1) hx hb d_timer_211 (by decide) ?_
          refine rm_cVv [.int v1, .int (0 : Int32), .int x17, .int ((x18 - x19) - (1 : Int32)), .int (1 : Int32)] S hW (fun ρ' hc => c_send v1 (0 : Int32) x17 ((x18 - x19) - (1 : Int32)) (1 : Int32) r15 hc) q_send wd_1449 wd_37 wd_1447 (by decide) hl.1 rfl rfl (Nat.le_of_ble_eq_true rfl) d_timer_212 h (fun r20 H locs h hW => ?_)
          refine lv_aload_n hx hb d_timer_215 rfl (lv_at hl 0 rfl) ?_
          refine rm_geta S hW 17 12 wd_1269 (by decide) d_timer_216 ?_
          refine lv_iload_n hx hb d_timer_219 rfl (lv_at hl 1 rfl) ?_
          refine lv_dup2_11 hx hb d_timer_220 rfl rfl ?_
          refine rm_iald S hW 12 2 (by decide) d_timer_221 h (fun x21 h => ?_)
          refine lv_iconst (v := 1) hx hb d_timer_222 (by decide) ?_
          refine lv_iadd hx hb d_timer_223 ?_
          refine rm_iast S hW 12 2 (by decide) d_timer_224 h (fun r22 H locs h hW => ?_)
          exact t_timer_225 S v1 r22 h (lv_sub hl [0, 1] rfl) hW
    · exact t_timer_112 S v1 r2 h (lv_sub hl [0, 1] rfl) hW
theorem t_timer_0 (S : RC p m c k_timer 2 s args cn_M meth none D tc) (v1 : Int32) (ρ : RS) {B : RS} (h : m_timer v1 ρ = some B) {ls : Array Slot} {H : Heap} {locs : List Loc} (hl : lv_has ls 2 [(0, .ref o), (1, .int v1)]) (hW : RWS D tc o s ρ H locs) : W p l e { frames := 5, cells := 0, slots := 0, locals := 129 } s m args below meth c H locs 0 0 (MQ below (RQ D tc o none B) args s 0 0 (rreg o)) (F0 m 0 ls []) := by
  have hx := S.1.1
  have hb := S.1.2.1
  unfold m_timer at h
  refine lv_aload_n hx hb d_timer_0 rfl (lv_at hl 0 rfl) ?_
  refine rm_geta S hW 38 33 wd_1290 (by decide) d_timer_1 ?_
  refine lv_iload_n hx hb d_timer_4 rfl (lv_at hl 1 rfl) ?_
  refine lv_ldc2 hx hb S.1.2.2.2.1 (S.1.2.2.2.2 _ (gi wd_1249 rfl)) d_timer_5 ?_
  refine rm_last S hW 33 2 (by decide) d_timer_8 h (fun r1 H locs h hW => ?_)
  refine lv_aload_n hx hb d_timer_9 rfl (lv_at hl 0 rfl) ?_
  refine rm_geta S hW 14 9 wd_1266 (by decide) d_timer_10 ?_
  refine lv_iload_n hx hb d_timer_13 rfl (lv_at hl 1 rfl) ?_
  refine rm_iald S hW 9 2 (by decide) d_timer_14 h (fun x2 h => ?_)
  refine lv_bipush (v := 10) hx hb d_timer_15 (by decide) ?_
  refine rc_ne (tgt := 26) hx hb d_timer_17 (by decide) h (fun h => ?_) (fun h => ?_)
  · refine lv_aload_n hx hb d_timer_26 rfl (lv_at hl 0 rfl) ?_
    refine rm_geta S hW 29 24 wd_1281 (by decide) d_timer_27 ?_
    refine lv_iload_n hx hb d_timer_30 rfl (lv_at hl 1 rfl) ?_
    refine rm_iald S hW 24 2 (by decide) d_timer_31 h (fun x3 h => ?_)
    refine lv_bipush (v := 8) hx hb d_timer_32 (by decide) ?_
    refine rc_ne (tgt := 44) hx hb d_timer_34 (by decide) h (fun h => ?_) (fun h => ?_)
    · refine lv_aload_n hx hb d_timer_44 rfl (lv_at hl 0 rfl) ?_
      refine rm_geta S hW 29 24 wd_1281 (by decide) d_timer_45 ?_
      refine lv_iload_n hx hb d_timer_48 rfl (lv_at hl 1 rfl) ?_
      refine lv_dup2_11 hx hb d_timer_49 rfl rfl ?_
      refine rm_iald S hW 24 2 (by decide) d_timer_50 h (fun x4 h => ?_)
      refine lv_iconst (v := 1) hx hb d_timer_51 (by decide) ?_
      refine lv_iadd hx hb d_timer_52 ?_
      refine rm_iast S hW 24 2 (by decide) d_timer_53 h (fun r5 H locs h hW => ?_)
      refine lv_aload_n hx hb d_timer_54 rfl (lv_at hl 0 rfl) ?_
      refine rm_geta S hW 28 23 wd_1280 (by decide) d_timer_55 ?_
      refine lv_iload_n hx hb d_timer_58 rfl (lv_at hl 1 rfl) ?_
      refine lv_aload_n hx hb d_timer_59 rfl (lv_at hl 0 rfl) ?_
      refine rm_geta S hW 28 23 wd_1280 (by decide) d_timer_60 ?_
      refine lv_iload_n hx hb d_timer_63 rfl (lv_at hl 1 rfl) ?_
      refine rm_iald S hW 23 2 (by decide) d_timer_64 h (fun x6 h => ?_)
      refine lv_sipush (v := 30000) hx hb d_timer_65 (by decide) ?_
      refine rc_le (tgt := 76) hx hb d_timer_68 (by decide) h (fun h => ?_) (fun h => ?_)
      · refine lv_iconst (v := 2) hx hb d_timer_76 (by decide) ?_
        refine lv_aload_n hx hb d_timer_77 rfl (lv_at hl 0 rfl) ?_
        refine rm_geta S hW 28 23 wd_1280 (by decide) d_timer_78 ?_
        refine lv_iload_n hx hb d_timer_81 rfl (lv_at hl 1 rfl) ?_
        refine rm_iald S hW 23 2 (by decide) d_timer_82 h (fun x7 h => ?_)
        refine lv_imul hx hb d_timer_83 ?_
        exact t_timer_84 S v1 v1 ((2 : Int32) * x7) r5 h (lv_sub hl [0, 1] rfl) hW
      · refine lv_ldc hx hb S.1.2.2.2.1 (S.1.2.2.2.2 _ (gi wd_1552 rfl)) d_timer_71 ?_
        refine lv_goto (tgt := 84) hx hb d_timer_73 (by decide) ?_
        exact t_timer_84 S v1 v1 (60000 : Int32) r5 h (lv_sub hl [0, 1] rfl) hW
    · refine lv_aload_n hx hb d_timer_37 rfl (lv_at hl 0 rfl) ?_
      refine lv_iload_n hx hb d_timer_38 rfl (lv_at hl 1 rfl) ?_
      refine lv_iconst (v := 2) hx hb d_timer_39 (by decide) ?_
      refine rm_cVv [.int v1, .int (2 : Int32)] S hW (fun ρ' hc => c_broken v1 (2 : Int32) r1 hc) q_broken wd_1541 wd_52 wd_1539 (by decide) hl.1 rfl rfl (Nat.le_of_ble_eq_true rfl) d_timer_40 h (fun r8 H locs h hW => ?_)
      exact rm_vret S hW d_timer_43 h
  · refine lv_aload_n hx hb d_timer_20 rfl (lv_at hl 0 rfl) ?_
    refine lv_iload_n hx hb d_timer_21 rfl (lv_at hl 1 rfl) ?_
    refine rm_cVv [.int v1] S hW (fun ρ' hc => c_finished v1 r1 hc) q_finished wd_1533 wd_51 wd_1531 (by decide) hl.1 rfl rfl (Nat.le_of_ble_eq_true rfl) d_timer_22 h (fun r9 H locs h hW => ?_)
    exact rm_vret S hW d_timer_25 h
theorem c_timer (v1 : Int32) (ρ : RS) {B : RS} (h : m_timer v1 ρ = some B) : RMet l D tc o y_timer k_timer 2 none 5 129 [.ref o, .int v1] ρ none B := rm_met (by decide) (Nat.le_of_ble_eq_true rfl) fun p e s m args below meth c S hW ls hl => t_timer_0 S v1 ρ h hl hW
end

/-! measured (II)V -/
abbrev k_measured : ByteArray := prog_12_method_27_code
abbrev y_measured : MethodName := ⟨cn_M, "measured", "(II)V"⟩
theorem q_measured : Calee y_measured k_measured 6 none 2 := ⟨wd_1612, wd_90, by decide, by decide +kernel⟩
theorem d_measured_0 : decode k_measured 0 = .ok (.aload_n 0, 1) := by decide +kernel
theorem d_measured_1 : decode k_measured 1 = .ok (.getfield 120, 3) := by decide +kernel
theorem d_measured_4 : decode k_measured 4 = .ok (.iload_n 1, 1) := by decide +kernel
theorem d_measured_5 : decode k_measured 5 = .ok (.baload, 1) := by decide +kernel
theorem d_measured_6 : decode k_measured 6 = .ok (.ifCond .eq 14, 3) := by decide +kernel
theorem d_measured_9 : decode k_measured 9 = .ok (.iload_n 2, 1) := by decide +kernel
theorem d_measured_10 : decode k_measured 10 = .ok (.aload_n 0, 1) := by decide +kernel
theorem d_measured_11 : decode k_measured 11 = .ok (.getfield 93, 3) := by decide +kernel
theorem d_measured_14 : decode k_measured 14 = .ok (.iload_n 1, 1) := by decide +kernel
theorem d_measured_15 : decode k_measured 15 = .ok (.iaload, 1) := by decide +kernel
theorem d_measured_16 : decode k_measured 16 = .ok (.isub, 1) := by decide +kernel
theorem d_measured_17 : decode k_measured 17 = .ok (.ifCond .ge 4, 3) := by decide +kernel
theorem d_measured_20 : decode k_measured 20 = .ok (.return_, 1) := by decide +kernel
theorem d_measured_21 : decode k_measured 21 = .ok (.aload_n 0, 1) := by decide +kernel
theorem d_measured_22 : decode k_measured 22 = .ok (.getfield 201, 3) := by decide +kernel
theorem d_measured_25 : decode k_measured 25 = .ok (.aload_n 0, 1) := by decide +kernel
theorem d_measured_26 : decode k_measured 26 = .ok (.getfield 117, 3) := by decide +kernel
theorem d_measured_29 : decode k_measured 29 = .ok (.iload_n 1, 1) := by decide +kernel
theorem d_measured_30 : decode k_measured 30 = .ok (.laload, 1) := by decide +kernel
theorem d_measured_31 : decode k_measured 31 = .ok (.lsub, 1) := by decide +kernel
theorem d_measured_32 : decode k_measured 32 = .ok (.l2i, 1) := by decide +kernel
theorem d_measured_33 : decode k_measured 33 = .ok (.istore_n 3, 1) := by decide +kernel
theorem d_measured_34 : decode k_measured 34 = .ok (.aload_n 0, 1) := by decide +kernel
theorem d_measured_35 : decode k_measured 35 = .ok (.getfield 120, 3) := by decide +kernel
theorem d_measured_38 : decode k_measured 38 = .ok (.iload_n 1, 1) := by decide +kernel
theorem d_measured_39 : decode k_measured 39 = .ok (.iconst 0, 1) := by decide +kernel
theorem d_measured_40 : decode k_measured 40 = .ok (.bastore, 1) := by decide +kernel
theorem d_measured_41 : decode k_measured 41 = .ok (.aload_n 0, 1) := by decide +kernel
theorem d_measured_42 : decode k_measured 42 = .ok (.getfield 87, 3) := by decide +kernel
theorem d_measured_45 : decode k_measured 45 = .ok (.iload_n 1, 1) := by decide +kernel
theorem d_measured_46 : decode k_measured 46 = .ok (.iaload, 1) := by decide +kernel
theorem d_measured_47 : decode k_measured 47 = .ok (.ifCond .ge 22, 3) := by decide +kernel
theorem d_measured_50 : decode k_measured 50 = .ok (.aload_n 0, 1) := by decide +kernel
theorem d_measured_51 : decode k_measured 51 = .ok (.getfield 87, 3) := by decide +kernel
theorem d_measured_54 : decode k_measured 54 = .ok (.iload_n 1, 1) := by decide +kernel
theorem d_measured_55 : decode k_measured 55 = .ok (.iload_n 3, 1) := by decide +kernel
theorem d_measured_56 : decode k_measured 56 = .ok (.iastore, 1) := by decide +kernel
theorem d_measured_57 : decode k_measured 57 = .ok (.aload_n 0, 1) := by decide +kernel
theorem d_measured_58 : decode k_measured 58 = .ok (.getfield 90, 3) := by decide +kernel
theorem d_measured_61 : decode k_measured 61 = .ok (.iload_n 1, 1) := by decide +kernel
theorem d_measured_62 : decode k_measured 62 = .ok (.iload_n 3, 1) := by decide +kernel
theorem d_measured_63 : decode k_measured 63 = .ok (.iconst 2, 1) := by decide +kernel
theorem d_measured_64 : decode k_measured 64 = .ok (.idiv, 1) := by decide +kernel
theorem d_measured_65 : decode k_measured 65 = .ok (.iastore, 1) := by decide +kernel
theorem d_measured_66 : decode k_measured 66 = .ok (.goto 85, 3) := by decide +kernel
theorem d_measured_69 : decode k_measured 69 = .ok (.iload_n 3, 1) := by decide +kernel
theorem d_measured_70 : decode k_measured 70 = .ok (.aload_n 0, 1) := by decide +kernel
theorem d_measured_71 : decode k_measured 71 = .ok (.getfield 87, 3) := by decide +kernel
theorem d_measured_74 : decode k_measured 74 = .ok (.iload_n 1, 1) := by decide +kernel
theorem d_measured_75 : decode k_measured 75 = .ok (.iaload, 1) := by decide +kernel
theorem d_measured_76 : decode k_measured 76 = .ok (.if_icmp .le 14, 3) := by decide +kernel
theorem d_measured_79 : decode k_measured 79 = .ok (.iload_n 3, 1) := by decide +kernel
theorem d_measured_80 : decode k_measured 80 = .ok (.aload_n 0, 1) := by decide +kernel
theorem d_measured_81 : decode k_measured 81 = .ok (.getfield 87, 3) := by decide +kernel
theorem d_measured_84 : decode k_measured 84 = .ok (.iload_n 1, 1) := by decide +kernel
theorem d_measured_85 : decode k_measured 85 = .ok (.iaload, 1) := by decide +kernel
theorem d_measured_86 : decode k_measured 86 = .ok (.isub, 1) := by decide +kernel
theorem d_measured_87 : decode k_measured 87 = .ok (.goto 11, 3) := by decide +kernel
theorem d_measured_90 : decode k_measured 90 = .ok (.aload_n 0, 1) := by decide +kernel
theorem d_measured_91 : decode k_measured 91 = .ok (.getfield 87, 3) := by decide +kernel
theorem d_measured_94 : decode k_measured 94 = .ok (.iload_n 1, 1) := by decide +kernel
theorem d_measured_95 : decode k_measured 95 = .ok (.iaload, 1) := by decide +kernel
theorem d_measured_96 : decode k_measured 96 = .ok (.iload_n 3, 1) := by decide +kernel
theorem d_measured_97 : decode k_measured 97 = .ok (.isub, 1) := by decide +kernel
theorem d_measured_98 : decode k_measured 98 = .ok (.istore 4, 2) := by decide +kernel
theorem d_measured_100 : decode k_measured 100 = .ok (.aload_n 0, 1) := by decide +kernel
theorem d_measured_101 : decode k_measured 101 = .ok (.getfield 90, 3) := by decide +kernel
theorem d_measured_104 : decode k_measured 104 = .ok (.iload_n 1, 1) := by decide +kernel
theorem d_measured_105 : decode k_measured 105 = .ok (.ldc2_w 230, 3) := by decide +kernel
theorem d_measured_108 : decode k_measured 108 = .ok (.aload_n 0, 1) := by decide +kernel
theorem d_measured_109 : decode k_measured 109 = .ok (.getfield 90, 3) := by decide +kernel
theorem d_measured_112 : decode k_measured 112 = .ok (.iload_n 1, 1) := by decide +kernel
theorem d_measured_113 : decode k_measured 113 = .ok (.iaload, 1) := by decide +kernel
theorem d_measured_114 : decode k_measured 114 = .ok (.i2l, 1) := by decide +kernel
theorem d_measured_115 : decode k_measured 115 = .ok (.lmul, 1) := by decide +kernel
theorem d_measured_116 : decode k_measured 116 = .ok (.iload 4, 2) := by decide +kernel
theorem d_measured_118 : decode k_measured 118 = .ok (.i2l, 1) := by decide +kernel
theorem d_measured_119 : decode k_measured 119 = .ok (.ladd, 1) := by decide +kernel
theorem d_measured_120 : decode k_measured 120 = .ok (.ldc2_w 232, 3) := by decide +kernel
theorem d_measured_123 : decode k_measured 123 = .ok (.ldiv, 1) := by decide +kernel
theorem d_measured_124 : decode k_measured 124 = .ok (.l2i, 1) := by decide +kernel
theorem d_measured_125 : decode k_measured 125 = .ok (.iastore, 1) := by decide +kernel
theorem d_measured_126 : decode k_measured 126 = .ok (.aload_n 0, 1) := by decide +kernel
theorem d_measured_127 : decode k_measured 127 = .ok (.getfield 87, 3) := by decide +kernel
theorem d_measured_130 : decode k_measured 130 = .ok (.iload_n 1, 1) := by decide +kernel
theorem d_measured_131 : decode k_measured 131 = .ok (.ldc2_w 234, 3) := by decide +kernel
theorem d_measured_134 : decode k_measured 134 = .ok (.aload_n 0, 1) := by decide +kernel
theorem d_measured_135 : decode k_measured 135 = .ok (.getfield 87, 3) := by decide +kernel
theorem d_measured_138 : decode k_measured 138 = .ok (.iload_n 1, 1) := by decide +kernel
theorem d_measured_139 : decode k_measured 139 = .ok (.iaload, 1) := by decide +kernel
theorem d_measured_140 : decode k_measured 140 = .ok (.i2l, 1) := by decide +kernel
theorem d_measured_141 : decode k_measured 141 = .ok (.lmul, 1) := by decide +kernel
theorem d_measured_142 : decode k_measured 142 = .ok (.iload_n 3, 1) := by decide +kernel
theorem d_measured_143 : decode k_measured 143 = .ok (.i2l, 1) := by decide +kernel
theorem d_measured_144 : decode k_measured 144 = .ok (.ladd, 1) := by decide +kernel
theorem d_measured_145 : decode k_measured 145 = .ok (.ldc2_w 236, 3) := by decide +kernel
theorem d_measured_148 : decode k_measured 148 = .ok (.ldiv, 1) := by decide +kernel
theorem d_measured_149 : decode k_measured 149 = .ok (.l2i, 1) := by decide +kernel
theorem d_measured_150 : decode k_measured 150 = .ok (.iastore, 1) := by decide +kernel
theorem d_measured_151 : decode k_measured 151 = .ok (.aload_n 0, 1) := by decide +kernel
theorem d_measured_152 : decode k_measured 152 = .ok (.getfield 87, 3) := by decide +kernel
theorem d_measured_155 : decode k_measured 155 = .ok (.iload_n 1, 1) := by decide +kernel
theorem d_measured_156 : decode k_measured 156 = .ok (.iaload, 1) := by decide +kernel
theorem d_measured_157 : decode k_measured 157 = .ok (.i2l, 1) := by decide +kernel
theorem d_measured_158 : decode k_measured 158 = .ok (.ldc2_w 232, 3) := by decide +kernel
theorem d_measured_161 : decode k_measured 161 = .ok (.aload_n 0, 1) := by decide +kernel
theorem d_measured_162 : decode k_measured 162 = .ok (.getfield 90, 3) := by decide +kernel
theorem d_measured_165 : decode k_measured 165 = .ok (.iload_n 1, 1) := by decide +kernel
theorem d_measured_166 : decode k_measured 166 = .ok (.iaload, 1) := by decide +kernel
theorem d_measured_167 : decode k_measured 167 = .ok (.i2l, 1) := by decide +kernel
theorem d_measured_168 : decode k_measured 168 = .ok (.lmul, 1) := by decide +kernel
theorem d_measured_169 : decode k_measured 169 = .ok (.ladd, 1) := by decide +kernel
theorem d_measured_170 : decode k_measured 170 = .ok (.lstore 4, 2) := by decide +kernel
theorem d_measured_172 : decode k_measured 172 = .ok (.aload_n 0, 1) := by decide +kernel
theorem d_measured_173 : decode k_measured 173 = .ok (.getfield 81, 3) := by decide +kernel
theorem d_measured_176 : decode k_measured 176 = .ok (.iload_n 1, 1) := by decide +kernel
theorem d_measured_177 : decode k_measured 177 = .ok (.lload 4, 2) := by decide +kernel
theorem d_measured_179 : decode k_measured 179 = .ok (.ldc2_w 238, 3) := by decide +kernel
theorem d_measured_182 : decode k_measured 182 = .ok (.lcmp, 1) := by decide +kernel
theorem d_measured_183 : decode k_measured 183 = .ok (.ifCond .ge 9, 3) := by decide +kernel
theorem d_measured_186 : decode k_measured 186 = .ok (.sipush 200, 3) := by decide +kernel
theorem d_measured_189 : decode k_measured 189 = .ok (.goto 20, 3) := by decide +kernel
theorem d_measured_192 : decode k_measured 192 = .ok (.lload 4, 2) := by decide +kernel
theorem d_measured_194 : decode k_measured 194 = .ok (.ldc2_w 240, 3) := by decide +kernel
theorem d_measured_197 : decode k_measured 197 = .ok (.lcmp, 1) := by decide +kernel
theorem d_measured_198 : decode k_measured 198 = .ok (.ifCond .le 8, 3) := by decide +kernel
theorem d_measured_201 : decode k_measured 201 = .ok (.ldc 222, 2) := by decide +kernel
theorem d_measured_203 : decode k_measured 203 = .ok (.goto 6, 3) := by decide +kernel
theorem d_measured_206 : decode k_measured 206 = .ok (.lload 4, 2) := by decide +kernel
theorem d_measured_208 : decode k_measured 208 = .ok (.l2i, 1) := by decide +kernel
theorem d_measured_209 : decode k_measured 209 = .ok (.iastore, 1) := by decide +kernel
theorem d_measured_210 : decode k_measured 210 = .ok (.return_, 1) := by decide +kernel
def b_measured_209 (w1 : Int32) (w2 : Int32) (ρ : RS) : Option (RS) :=
  gd (inb w1 2) <| bd (si ρ 23 w1.toNatClampNeg w2) fun r1 => some r1
def b_measured_151 (v1 : Int32) (ρ : RS) : Option (RS) :=
  gd (inb v1 2) <| bd (ρ.1 25 v1.toNatClampNeg) fun x1 => gd (inb v1 2) <| bd (ρ.1 26 v1.toNatClampNeg) fun x2 => bd ((x1.toInt64) + ((4 : Int64) * (x2.toInt64))) fun x3 => if 0 ≤ (lg_cmp x3 (200 : Int64)) then
  (if (lg_cmp x3 (60000 : Int64)) ≤ 0 then
  (b_measured_209 v1 (x3.toInt32) ρ)
 else
  (b_measured_209 v1 (60000 : Int32) ρ))
 else
  (b_measured_209 v1 (200 : Int32) ρ)
def b_measured_98 (v1 : Int32) (v3 : Int32) (w0 : Int32) (ρ : RS) : Option (RS) :=
  gd (inb v1 2) <| bd (ρ.1 26 v1.toNatClampNeg) fun x1 => gd (¬ (4 : Int64) = 0) <| gd (inb v1 2) <| bd (si ρ 26 v1.toNatClampNeg (((((3 : Int64) * (x1.toInt64)) + (w0.toInt64)) / (4 : Int64)).toInt32)) fun r2 => gd (inb v1 2) <| bd (r2.1 25 v1.toNatClampNeg) fun x3 => gd (¬ (8 : Int64) = 0) <| gd (inb v1 2) <| bd (si r2 25 v1.toNatClampNeg (((((7 : Int64) * (x3.toInt64)) + (v3.toInt64)) / (8 : Int64)).toInt32)) fun r4 => b_measured_151 v1 r4
def b_measured_20 (ρ : RS) : Option (RS) :=
  some ρ
def m_measured (v1 : Int32) (v2 : Int32) (ρ : RS) : Option (RS) :=
  gd (inb v1 2) <| bd (ρ.1 35 v1.toNatClampNeg) fun x1 => if x1 = 0 then
  (b_measured_20  ρ)
 else
  (gd (inb v1 2) <| bd (ρ.1 27 v1.toNatClampNeg) fun x2 => if 0 ≤ (v2 - x2) then
  (bd (ρ.2 0 3) fun x3 => gd (inb v1 2) <| bd (ρ.2 34 v1.toNatClampNeg) fun x4 => bd ((x3 - x4).toInt32) fun x5 => gd (inb v1 2) <| bd (si ρ 35 v1.toNatClampNeg (vp_nar .boolean (0 : Int32))) fun r6 => gd (inb v1 2) <| bd (r6.1 25 v1.toNatClampNeg) fun x7 => if 0 ≤ x7 then
  (gd (inb v1 2) <| bd (r6.1 25 v1.toNatClampNeg) fun x8 => if x5 ≤ x8 then
  (gd (inb v1 2) <| bd (r6.1 25 v1.toNatClampNeg) fun x9 => b_measured_98 v1 x5 (x9 - x5) r6)
 else
  (gd (inb v1 2) <| bd (r6.1 25 v1.toNatClampNeg) fun x10 => b_measured_98 v1 x5 (x5 - x10) r6))
 else
  (gd (inb v1 2) <| bd (si r6 25 v1.toNatClampNeg x5) fun r11 => gd (¬ (2 : Int32) = 0) <| gd (inb v1 2) <| bd (si r11 26 v1.toNatClampNeg (x5 / (2 : Int32))) fun r12 => b_measured_151 v1 r12))
 else
  (b_measured_20  ρ))
section
variable {p : Program} {l : Launch} {e : Env} {s : State} {m : MethodId} {args : Array Value} {below : List Frame} {meth : Method} {c : Code} {D : va_G} {tc : Nat → ClassId} {o : Nat}
theorem t_measured_209 (S : RC p m c k_measured 6 s args cn_M meth none D tc) (w1 : Int32) (w2 : Int32) (ρ : RS) {B : RS} (h : b_measured_209 w1 w2 ρ = some B) {ls : Array Slot} {H : Heap} {locs : List Loc} (hl : lv_has ls 6 []) (hW : RWS D tc o s ρ H locs) : W p l e { frames := 0, cells := 0, slots := 0, locals := 0 } s m args below meth c H locs 0 0 (MQ below (RQ D tc o none B) args s 0 0 (rreg o)) (F0 m 209 ls [.int w2, .int w1, .ref (o + 23)]) := by
  have hx := S.1.1
  have hb := S.1.2.1
  unfold b_measured_209 at h
  refine rm_iast S hW 23 2 (by decide) d_measured_209 h (fun r1 H locs h hW => ?_)
  exact rm_vret S hW d_measured_210 h
theorem t_measured_151 (S : RC p m c k_measured 6 s args cn_M meth none D tc) (v1 : Int32) (ρ : RS) {B : RS} (h : b_measured_151 v1 ρ = some B) {ls : Array Slot} {H : Heap} {locs : List Loc} (hl : lv_has ls 6 [(0, .ref o), (1, .int v1)]) (hW : RWS D tc o s ρ H locs) : W p l e { frames := 0, cells := 0, slots := 0, locals := 0 } s m args below meth c H locs 0 0 (MQ below (RQ D tc o none B) args s 0 0 (rreg o)) (F0 m 151 ls []) := by
  have hx := S.1.1
  have hb := S.1.2.1
  unfold b_measured_151 at h
  refine lv_aload_n hx hb d_measured_151 rfl (lv_at hl 0 rfl) ?_
  refine rm_geta S hW 30 25 wd_1282 (by decide) d_measured_152 ?_
  refine lv_iload_n hx hb d_measured_155 rfl (lv_at hl 1 rfl) ?_
  refine rm_iald S hW 25 2 (by decide) d_measured_156 h (fun x1 h => ?_)
  refine lv_i2l hx hb d_measured_157 rfl ?_
  refine lv_ldc2 hx hb S.1.2.2.2.1 (S.1.2.2.2.2 _ (gi wd_1614 rfl)) d_measured_158 ?_
  refine lv_aload_n hx hb d_measured_161 rfl (lv_at hl 0 rfl) ?_
  refine rm_geta S hW 31 26 wd_1283 (by decide) d_measured_162 ?_
  refine lv_iload_n hx hb d_measured_165 rfl (lv_at hl 1 rfl) ?_
  refine rm_iald S hW 26 2 (by decide) d_measured_166 h (fun x2 h => ?_)
  refine lv_i2l hx hb d_measured_167 rfl ?_
  refine lv_lmul hx hb d_measured_168 ?_
  refine lv_ladd hx hb d_measured_169 ?_
  refine rv_l h (fun x3 h => ?_)
  refine lv_lstore (lv' := [(4, .long x3), (0, .ref o), (1, .int v1)]) hx hb d_measured_170 hl (by decide) rfl (fun ls hl => ?_)
  refine lv_aload_n hx hb d_measured_172 rfl (lv_at hl 1 rfl) ?_
  refine rm_geta S hW 28 23 wd_1280 (by decide) d_measured_173 ?_
  refine lv_iload_n hx hb d_measured_176 rfl (lv_at hl 2 rfl) ?_
  refine lv_lload hx hb d_measured_177 (lv_at hl 0 rfl) ?_
  refine lv_ldc2 hx hb S.1.2.2.2.1 (S.1.2.2.2.2 _ (gi wd_1617 rfl)) d_measured_179 ?_
  refine W.lcmp hx hb d_measured_182 ?_
  refine rb_ge (tgt := 192) hx hb d_measured_183 (by decide) h (fun h => ?_) (fun h => ?_)
  · refine lv_lload hx hb d_measured_192 (lv_at hl 0 rfl) ?_
    refine lv_ldc2 hx hb S.1.2.2.2.1 (S.1.2.2.2.2 _ (gi wd_1618 rfl)) d_measured_194 ?_
    refine W.lcmp hx hb d_measured_197 ?_
    refine rb_le (tgt := 206) hx hb d_measured_198 (by decide) h (fun h => ?_) (fun h => ?_)
    · refine lv_lload hx hb d_measured_206 (lv_at hl 0 rfl) ?_
      refine lv_l2i hx hb d_measured_208 rfl ?_
      exact t_measured_209 S v1 (x3.toInt32) ρ h (lv_sub hl [] rfl) hW
    · refine lv_ldc hx hb S.1.2.2.2.1 (S.1.2.2.2.2 _ (gi wd_1552 rfl)) d_measured_201 ?_
      refine lv_goto (tgt := 209) hx hb d_measured_203 (by decide) ?_
      exact t_measured_209 S v1 (60000 : Int32) ρ h (lv_sub hl [] rfl) hW
  · refine lv_sipush (v := 200) hx hb d_measured_186 (by decide) ?_
    refine lv_goto (tgt := 209) hx hb d_measured_189 (by decide) ?_
    exact t_measured_209 S v1 (200 : Int32) ρ h (lv_sub hl [] rfl) hW
theorem t_measured_98 (S : RC p m c k_measured 6 s args cn_M meth none D tc) (v1 : Int32) (v3 : Int32) (w0 : Int32) (ρ : RS) {B : RS} (h : b_measured_98 v1 v3 w0 ρ = some B) {ls : Array Slot} {H : Heap} {locs : List Loc} (hl : lv_has ls 6 [(0, .ref o), (1, .int v1), (3, .int v3)]) (hW : RWS D tc o s ρ H locs) : W p l e { frames := 0, cells := 0, slots := 0, locals := 0 } s m args below meth c H locs 0 0 (MQ below (RQ D tc o none B) args s 0 0 (rreg o)) (F0 m 98 ls [.int w0]) := by
  have hx := S.1.1
  have hb := S.1.2.1
  unfold b_measured_98 at h
  refine lv_istore (lv' := [(4, .int w0), (0, .ref o), (1, .int v1), (3, .int v3)]) hx hb d_measured_98 hl (by decide) rfl (fun ls hl => ?_)
  refine lv_aload_n hx hb d_measured_100 rfl (lv_at hl 1 rfl) ?_
  refine rm_geta S hW 31 26 wd_1283 (by decide) d_measured_101 ?_
  refine lv_iload_n hx hb d_measured_104 rfl (lv_at hl 2 rfl) ?_
  refine lv_ldc2 hx hb S.1.2.2.2.1 (S.1.2.2.2.2 _ (gi wd_1613 rfl)) d_measured_105 ?_
  refine lv_aload_n hx hb d_measured_108 rfl (lv_at hl 1 rfl) ?_
  refine rm_geta S hW 31 26 wd_1283 (by decide) d_measured_109 ?_
  refine lv_iload_n hx hb d_measured_112 rfl (lv_at hl 2 rfl) ?_
  refine rm_iald S hW 26 2 (by decide) d_measured_113 h (fun x1 h => ?_)
  refine lv_i2l hx hb d_measured_114 rfl ?_
  refine lv_lmul hx hb d_measured_115 ?_
  refine lv_iload hx hb d_measured_116 (lv_at hl 0 rfl) ?_
  refine lv_i2l hx hb d_measured_118 rfl ?_
  refine lv_ladd hx hb d_measured_119 ?_
  refine lv_ldc2 hx hb S.1.2.2.2.1 (S.1.2.2.2.2 _ (gi wd_1614 rfl)) d_measured_120 ?_
  refine rv_ldiv hx hb d_measured_123 h (fun h => ?_)
  refine lv_l2i hx hb d_measured_124 rfl ?_
  refine rm_iast S hW 26 2 (by decide) d_measured_125 h (fun r2 H locs h hW => ?_)
  refine lv_aload_n hx hb d_measured_126 rfl (lv_at hl 1 rfl) ?_
  refine rm_geta S hW 30 25 wd_1282 (by decide) d_measured_127 ?_
  refine lv_iload_n hx hb d_measured_130 rfl (lv_at hl 2 rfl) ?_
  refine lv_ldc2 hx hb S.1.2.2.2.1 (S.1.2.2.2.2 _ (gi wd_1615 rfl)) d_measured_131 ?_
  refine lv_aload_n hx hb d_measured_134 rfl (lv_at hl 1 rfl) ?_
  refine rm_geta S hW 30 25 wd_1282 (by decide) d_measured_135 ?_
  refine lv_iload_n hx hb d_measured_138 rfl (lv_at hl 2 rfl) ?_
  refine rm_iald S hW 25 2 (by decide) d_measured_139 h (fun x3 h => ?_)
  refine lv_i2l hx hb d_measured_140 rfl ?_
  refine lv_lmul hx hb d_measured_141 ?_
  refine lv_iload_n hx hb d_measured_142 rfl (lv_at hl 3 rfl) ?_
  refine lv_i2l hx hb d_measured_143 rfl ?_
  refine lv_ladd hx hb d_measured_144 ?_
  refine lv_ldc2 hx hb S.1.2.2.2.1 (S.1.2.2.2.2 _ (gi wd_1616 rfl)) d_measured_145 ?_
  refine rv_ldiv hx hb d_measured_148 h (fun h => ?_)
  refine lv_l2i hx hb d_measured_149 rfl ?_
  refine rm_iast S hW 25 2 (by decide) d_measured_150 h (fun r4 H locs h hW => ?_)
  exact t_measured_151 S v1 r4 h (lv_sub hl [1, 2] rfl) hW
theorem t_measured_20 (S : RC p m c k_measured 6 s args cn_M meth none D tc) (ρ : RS) {B : RS} (h : b_measured_20  ρ = some B) {ls : Array Slot} {H : Heap} {locs : List Loc} (hl : lv_has ls 6 []) (hW : RWS D tc o s ρ H locs) : W p l e { frames := 0, cells := 0, slots := 0, locals := 0 } s m args below meth c H locs 0 0 (MQ below (RQ D tc o none B) args s 0 0 (rreg o)) (F0 m 20 ls []) := by
  have hx := S.1.1
  have hb := S.1.2.1
  unfold b_measured_20 at h
  exact rm_vret S hW d_measured_20 h
theorem t_measured_0 (S : RC p m c k_measured 6 s args cn_M meth none D tc) (v1 : Int32) (v2 : Int32) (ρ : RS) {B : RS} (h : m_measured v1 v2 ρ = some B) {ls : Array Slot} {H : Heap} {locs : List Loc} (hl : lv_has ls 6 [(0, .ref o), (1, .int v1), (2, .int v2)]) (hW : RWS D tc o s ρ H locs) : W p l e { frames := 0, cells := 0, slots := 0, locals := 0 } s m args below meth c H locs 0 0 (MQ below (RQ D tc o none B) args s 0 0 (rreg o)) (F0 m 0 ls []) := by
  have hx := S.1.1
  have hb := S.1.2.1
  unfold m_measured at h
  refine lv_aload_n hx hb d_measured_0 rfl (lv_at hl 0 rfl) ?_
  refine rm_geta S hW 40 35 wd_1292 (by decide) d_measured_1 ?_
  refine lv_iload_n hx hb d_measured_4 rfl (lv_at hl 1 rfl) ?_
  refine rm_zald S hW 35 2 (by decide) d_measured_5 h (fun x1 h => ?_)
  refine rb_eq (tgt := 20) hx hb d_measured_6 (by decide) h (fun h => ?_) (fun h => ?_)
  · exact t_measured_20 S  ρ h (lv_sub hl [] rfl) hW
  · refine lv_iload_n hx hb d_measured_9 rfl (lv_at hl 2 rfl) ?_
    refine lv_aload_n hx hb d_measured_10 rfl (lv_at hl 0 rfl) ?_
    refine rm_geta S hW 32 27 wd_1284 (by decide) d_measured_11 ?_
    refine lv_iload_n hx hb d_measured_14 rfl (lv_at hl 1 rfl) ?_
    refine rm_iald S hW 27 2 (by decide) d_measured_15 h (fun x2 h => ?_)
    refine lv_isub hx hb d_measured_16 ?_
    refine rb_ge (tgt := 21) hx hb d_measured_17 (by decide) h (fun h => ?_) (fun h => ?_)
    · refine lv_aload_n hx hb d_measured_21 rfl (lv_at hl 0 rfl) ?_
      refine rm_getl S hW 3 wd_1255 (by decide) d_measured_22 h (fun x3 h => ?_)
      refine lv_aload_n hx hb d_measured_25 rfl (lv_at hl 0 rfl) ?_
      refine rm_geta S hW 39 34 wd_1291 (by decide) d_measured_26 ?_
      refine lv_iload_n hx hb d_measured_29 rfl (lv_at hl 1 rfl) ?_
      refine rm_lald S hW 34 2 (by decide) d_measured_30 h (fun x4 h => ?_)
      refine lv_lsub hx hb d_measured_31 ?_
      refine lv_l2i hx hb d_measured_32 rfl ?_
      refine rv_i h (fun x5 h => ?_)
      refine lv_istore_n (lv' := [(3, .int x5), (0, .ref o), (1, .int v1), (2, .int v2)]) hx hb d_measured_33 rfl hl (by decide) rfl (fun ls hl => ?_)
      refine lv_aload_n hx hb d_measured_34 rfl (lv_at hl 1 rfl) ?_
      refine rm_geta S hW 40 35 wd_1292 (by decide) d_measured_35 ?_
      refine lv_iload_n hx hb d_measured_38 rfl (lv_at hl 2 rfl) ?_
      refine lv_iconst (v := 0) hx hb d_measured_39 (by decide) ?_
      refine rm_zast S hW 35 2 (by decide) d_measured_40 h (fun r6 H locs h hW => ?_)
      refine lv_aload_n hx hb d_measured_41 rfl (lv_at hl 1 rfl) ?_
      refine rm_geta S hW 30 25 wd_1282 (by decide) d_measured_42 ?_
      refine lv_iload_n hx hb d_measured_45 rfl (lv_at hl 2 rfl) ?_
      refine rm_iald S hW 25 2 (by decide) d_measured_46 h (fun x7 h => ?_)
      refine rb_ge (tgt := 69) hx hb d_measured_47 (by decide) h (fun h => ?_) (fun h => ?_)
      · refine lv_iload_n hx hb d_measured_69 rfl (lv_at hl 0 rfl) ?_
        refine lv_aload_n hx hb d_measured_70 rfl (lv_at hl 1 rfl) ?_
        refine rm_geta S hW 30 25 wd_1282 (by decide) d_measured_71 ?_
        refine lv_iload_n hx hb d_measured_74 rfl (lv_at hl 2 rfl) ?_
        refine rm_iald S hW 25 2 (by decide) d_measured_75 h (fun x8 h => ?_)
        refine rc_le (tgt := 90) hx hb d_measured_76 (by decide) h (fun h => ?_) (fun h => ?_)
        · refine lv_aload_n hx hb d_measured_90 rfl (lv_at hl 1 rfl) ?_
          refine rm_geta S hW 30 25 wd_1282 (by decide) d_measured_91 ?_
          refine lv_iload_n hx hb d_measured_94 rfl (lv_at hl 2 rfl) ?_
          refine rm_iald S hW 25 2 (by decide) d_measured_95 h (fun x9 h => ?_)
          refine lv_iload_n hx hb d_measured_96 rfl (lv_at hl 0 rfl) ?_
          refine lv_isub hx hb d_measured_97 ?_
          exact t_measured_98 S v1 x5 (x9 - x5) r6 h (lv_sub hl [1, 2, 0] rfl) hW
        · refine lv_iload_n hx hb d_measured_79 rfl (lv_at hl 0 rfl) ?_
          refine lv_aload_n hx hb d_measured_80 rfl (lv_at hl 1 rfl) ?_
          refine rm_geta S hW 30 25 wd_1282 (by decide) d_measured_81 ?_
          refine lv_iload_n hx hb d_measured_84 rfl (lv_at hl 2 rfl) ?_
          refine rm_iald S hW 25 2 (by decide) d_measured_85 h (fun x10 h => ?_)
          refine lv_isub hx hb d_measured_86 ?_
          refine lv_goto (tgt := 98) hx hb d_measured_87 (by decide) ?_
          exact t_measured_98 S v1 x5 (x5 - x10) r6 h (lv_sub hl [1, 2, 0] rfl) hW
      · refine lv_aload_n hx hb d_measured_50 rfl (lv_at hl 1 rfl) ?_
        refine rm_geta S hW 30 25 wd_1282 (by decide) d_measured_51 ?_
        refine lv_iload_n hx hb d_measured_54 rfl (lv_at hl 2 rfl) ?_
        refine lv_iload_n hx hb d_measured_55 rfl (lv_at hl 0 rfl) ?_
        refine rm_iast S hW 25 2 (by decide) d_measured_56 h (fun r11 H locs h hW => ?_)
        refine lv_aload_n hx hb d_measured_57 rfl (lv_at hl 1 rfl) ?_
        refine rm_geta S hW 31 26 wd_1283 (by decide) d_measured_58 ?_
        refine lv_iload_n hx hb d_measured_61 rfl (lv_at hl 2 rfl) ?_
        refine lv_iload_n hx hb d_measured_62 rfl (lv_at hl 0 rfl) ?_
        refine lv_iconst (v := 2) hx hb d_measured_63 (by decide) ?_
        refine rv_idiv hx hb d_measured_64 h (fun h => ?_)
        refine rm_iast S hW 26 2 (by decide) d_measured_65 h (fun r12 H locs h hW => ?_)
        refine lv_goto (tgt := 151) hx hb d_measured_66 (by decide) ?_
        exact t_measured_151 S v1 r12 h (lv_sub hl [1, 2] rfl) hW
    · exact t_measured_20 S  ρ h (lv_sub hl [] rfl) hW
theorem c_measured (v1 : Int32) (v2 : Int32) (ρ : RS) {B : RS} (h : m_measured v1 v2 ρ = some B) : RMet l D tc o y_measured k_measured 6 none 0 0 [.ref o, .int v1, .int v2] ρ none B := rm_met (by decide) (Nat.le_of_ble_eq_true rfl) fun p e s m args below meth c S hW ls hl => t_measured_0 S v1 v2 ρ h hl hW
end

/-! answer (I)V -/
abbrev k_answer : ByteArray := prog_12_method_28_code
abbrev y_answer : MethodName := ⟨cn_M, "answer", "(I)V"⟩
theorem q_answer : Calee y_answer k_answer 5 none 1 := ⟨wd_1592, wd_90, by decide, by decide +kernel⟩
theorem d_answer_0 : decode k_answer 0 = .ok (.aload_n 0, 1) := by decide +kernel
theorem d_answer_1 : decode k_answer 1 = .ok (.getfield 242, 3) := by decide +kernel
theorem d_answer_4 : decode k_answer 4 = .ok (.bipush 16, 2) := by decide +kernel
theorem d_answer_6 : decode k_answer 6 = .ok (.iand, 1) := by decide +kernel
theorem d_answer_7 : decode k_answer 7 = .ok (.ifCond .eq 7, 3) := by decide +kernel
theorem d_answer_10 : decode k_answer 10 = .ok (.iconst 1, 1) := by decide +kernel
theorem d_answer_11 : decode k_answer 11 = .ok (.goto 4, 3) := by decide +kernel
theorem d_answer_14 : decode k_answer 14 = .ok (.iconst 0, 1) := by decide +kernel
theorem d_answer_15 : decode k_answer 15 = .ok (.istore_n 2, 1) := by decide +kernel
theorem d_answer_16 : decode k_answer 16 = .ok (.aload_n 0, 1) := by decide +kernel
theorem d_answer_17 : decode k_answer 17 = .ok (.getfield 245, 3) := by decide +kernel
theorem d_answer_20 : decode k_answer 20 = .ok (.aload_n 0, 1) := by decide +kernel
theorem d_answer_21 : decode k_answer 21 = .ok (.getfield 242, 3) := by decide +kernel
theorem d_answer_24 : decode k_answer 24 = .ok (.iconst 2, 1) := by decide +kernel
theorem d_answer_25 : decode k_answer 25 = .ok (.iand, 1) := by decide +kernel
theorem d_answer_26 : decode k_answer 26 = .ok (.ifCond .eq 7, 3) := by decide +kernel
theorem d_answer_29 : decode k_answer 29 = .ok (.iconst 1, 1) := by decide +kernel
theorem d_answer_30 : decode k_answer 30 = .ok (.goto 4, 3) := by decide +kernel
theorem d_answer_33 : decode k_answer 33 = .ok (.iconst 0, 1) := by decide +kernel
theorem d_answer_34 : decode k_answer 34 = .ok (.iadd, 1) := by decide +kernel
theorem d_answer_35 : decode k_answer 35 = .ok (.aload_n 0, 1) := by decide +kernel
theorem d_answer_36 : decode k_answer 36 = .ok (.getfield 242, 3) := by decide +kernel
theorem d_answer_39 : decode k_answer 39 = .ok (.iconst 1, 1) := by decide +kernel
theorem d_answer_40 : decode k_answer 40 = .ok (.iand, 1) := by decide +kernel
theorem d_answer_41 : decode k_answer 41 = .ok (.ifCond .eq 7, 3) := by decide +kernel
theorem d_answer_44 : decode k_answer 44 = .ok (.iconst 1, 1) := by decide +kernel
theorem d_answer_45 : decode k_answer 45 = .ok (.goto 4, 3) := by decide +kernel
theorem d_answer_48 : decode k_answer 48 = .ok (.iconst 0, 1) := by decide +kernel
theorem d_answer_49 : decode k_answer 49 = .ok (.iadd, 1) := by decide +kernel
theorem d_answer_50 : decode k_answer 50 = .ok (.istore_n 3, 1) := by decide +kernel
theorem d_answer_51 : decode k_answer 51 = .ok (.aload_n 0, 1) := by decide +kernel
theorem d_answer_52 : decode k_answer 52 = .ok (.iload_n 1, 1) := by decide +kernel
theorem d_answer_53 : decode k_answer 53 = .ok (.iload_n 2, 1) := by decide +kernel
theorem d_answer_54 : decode k_answer 54 = .ok (.ifCond .eq 7, 3) := by decide +kernel
theorem d_answer_57 : decode k_answer 57 = .ok (.iconst 4, 1) := by decide +kernel
theorem d_answer_58 : decode k_answer 58 = .ok (.goto 5, 3) := by decide +kernel
theorem d_answer_61 : decode k_answer 61 = .ok (.bipush 20, 2) := by decide +kernel
theorem d_answer_63 : decode k_answer 63 = .ok (.iload_n 2, 1) := by decide +kernel
theorem d_answer_64 : decode k_answer 64 = .ok (.ifCond .eq 10, 3) := by decide +kernel
theorem d_answer_67 : decode k_answer 67 = .ok (.aload_n 0, 1) := by decide +kernel
theorem d_answer_68 : decode k_answer 68 = .ok (.getfield 248, 3) := by decide +kernel
theorem d_answer_71 : decode k_answer 71 = .ok (.goto 4, 3) := by decide +kernel
theorem d_answer_74 : decode k_answer 74 = .ok (.iconst 0, 1) := by decide +kernel
theorem d_answer_75 : decode k_answer 75 = .ok (.iload_n 2, 1) := by decide +kernel
theorem d_answer_76 : decode k_answer 76 = .ok (.ifCond .eq 7, 3) := by decide +kernel
theorem d_answer_79 : decode k_answer 79 = .ok (.iconst 0, 1) := by decide +kernel
theorem d_answer_80 : decode k_answer 80 = .ok (.goto 9, 3) := by decide +kernel
theorem d_answer_83 : decode k_answer 83 = .ok (.aload_n 0, 1) := by decide +kernel
theorem d_answer_84 : decode k_answer 84 = .ok (.getfield 251, 3) := by decide +kernel
theorem d_answer_87 : decode k_answer 87 = .ok (.iload_n 3, 1) := by decide +kernel
theorem d_answer_88 : decode k_answer 88 = .ok (.iadd, 1) := by decide +kernel
theorem d_answer_89 : decode k_answer 89 = .ok (.iconst 0, 1) := by decide +kernel
theorem d_answer_90 : decode k_answer 90 = .ok (.iconst 0, 1) := by decide +kernel
theorem d_answer_91 : decode k_answer 91 = .ok (.iconst 0, 1) := by decide +kernel
theorem d_answer_92 : decode k_answer 92 = .ok (.invokevirtual 192, 3) := by decide +kernel
theorem d_answer_95 : decode k_answer 95 = .ok (.istore 4, 2) := by decide +kernel
theorem d_answer_97 : decode k_answer 97 = .ok (.iload 4, 2) := by decide +kernel
theorem d_answer_99 : decode k_answer 99 = .ok (.ifCond .lt 9, 3) := by decide +kernel
theorem d_answer_102 : decode k_answer 102 = .ok (.aload_n 0, 1) := by decide +kernel
theorem d_answer_103 : decode k_answer 103 = .ok (.iload 4, 2) := by decide +kernel
theorem d_answer_105 : decode k_answer 105 = .ok (.invokevirtual 197, 3) := by decide +kernel
theorem d_answer_108 : decode k_answer 108 = .ok (.return_, 1) := by decide +kernel
def b_answer_108 (ρ : RS) : Option (RS) :=
  some ρ
def b_answer_89 (w1 : Int32) (w2 : Int32) (w3 : Int32) (w4 : Int32) (ρ : RS) : Option (RS) :=
  bc2 (m_written w1 w2 w3 w4 (0 : Int32) (0 : Int32) (0 : Int32) ρ) fun x2 r1 => if x2 < 0 then
  (b_answer_108  r1)
 else
  (bc (m_sealed x2 r1) fun r3 => b_answer_108  r3)
def b_answer_75 (v2 : Int32) (v3 : Int32) (w1 : Int32) (w2 : Int32) (w3 : Int32) (ρ : RS) : Option (RS) :=
  if v2 = 0 then
  (bd (ρ.1 0 46) fun x1 => b_answer_89 w1 w2 w3 (x1 + v3) ρ)
 else
  (b_answer_89 w1 w2 w3 (0 : Int32) ρ)
def b_answer_63 (v2 : Int32) (v3 : Int32) (w1 : Int32) (w2 : Int32) (ρ : RS) : Option (RS) :=
  if v2 = 0 then
  (b_answer_75 v2 v3 w1 w2 (0 : Int32) ρ)
 else
  (bd (ρ.1 0 47) fun x1 => b_answer_75 v2 v3 w1 w2 x1 ρ)
def b_answer_49 (v1 : Int32) (v2 : Int32) (w0 : Int32) (w1 : Int32) (ρ : RS) : Option (RS) :=
  bd (w0 + w1) fun x1 => if v2 = 0 then
  (b_answer_63 v2 x1 v1 (20 : Int32) ρ)
 else
  (b_answer_63 v2 x1 v1 (4 : Int32) ρ)
def b_answer_34 (v1 : Int32) (v2 : Int32) (w0 : Int32) (w1 : Int32) (ρ : RS) : Option (RS) :=
  bd (ρ.1 0 48) fun x1 => if (x1 &&& (1 : Int32)) = 0 then
  (b_answer_49 v1 v2 (w0 + w1) (0 : Int32) ρ)
 else
  (b_answer_49 v1 v2 (w0 + w1) (1 : Int32) ρ)
def b_answer_15 (v1 : Int32) (w0 : Int32) (ρ : RS) : Option (RS) :=
  bd (ρ.1 0 51) fun x1 => bd (ρ.1 0 48) fun x2 => if (x2 &&& (2 : Int32)) = 0 then
  (b_answer_34 v1 w0 x1 (0 : Int32) ρ)
 else
  (b_answer_34 v1 w0 x1 (1 : Int32) ρ)
def m_answer (v1 : Int32) (ρ : RS) : Option (RS) :=
  bd (ρ.1 0 48) fun x1 => if (x1 &&& (16 : Int32)) = 0 then
  (b_answer_15 v1 (0 : Int32) ρ)
 else
  (b_answer_15 v1 (1 : Int32) ρ)
section
variable {p : Program} {l : Launch} {e : Env} {s : State} {m : MethodId} {args : Array Value} {below : List Frame} {meth : Method} {c : Code} {D : va_G} {tc : Nat → ClassId} {o : Nat}
theorem t_answer_108 (S : RC p m c k_answer 5 s args cn_M meth none D tc) (ρ : RS) {B : RS} (h : b_answer_108  ρ = some B) {ls : Array Slot} {H : Heap} {locs : List Loc} (hl : lv_has ls 5 []) (hW : RWS D tc o s ρ H locs) : W p l e { frames := 3, cells := 0, slots := 0, locals := 72 } s m args below meth c H locs 0 0 (MQ below (RQ D tc o none B) args s 0 0 (rreg o)) (F0 m 108 ls []) := by
  have hx := S.1.1
  have hb := S.1.2.1
  unfold b_answer_108 at h
  exact rm_vret S hW d_answer_108 h
theorem t_answer_89 (S : RC p m c k_answer 5 s args cn_M meth none D tc) (w1 : Int32) (w2 : Int32) (w3 : Int32) (w4 : Int32) (ρ : RS) {B : RS} (h : b_answer_89 w1 w2 w3 w4 ρ = some B) {ls : Array Slot} {H : Heap} {locs : List Loc} (hl : lv_has ls 5 [(0, .ref o)]) (hW : RWS D tc o s ρ H locs) : W p l e { frames := 3, cells := 0, slots := 0, locals := 72 } s m args below meth c H locs 0 0 (MQ below (RQ D tc o none B) args s 0 0 (rreg o)) (F0 m 89 ls [.int w4, .int w3, .int w2, .int w1, .ref o]) := by
  have hx := S.1.1
  have hb := S.1.2.1
  unfold b_answer_89 at h
  refine lv_iconst (v := 0) hx hb d_answer_89 (by decide) ?_
  refine lv_iconst (v := 0) hx hb d_answer_90 (by decide) ?_
  refine lv_iconst (v := 0) hx hb d_answer_91 (by decide) ?_
  refine rm_cVi [.int w1, .int w2, .int w3, .int w4, .int (0 : Int32), .int (0 : Int32), .int (0 : Int32)] S hW (fun x ρ' hc => c_written w1 w2 w3 w4 (0 : Int32) (0 : Int32) (0 : Int32) ρ hc) q_written wd_1460 wd_39 wd_1458 (by decide) hl.1 rfl rfl (Nat.le_of_ble_eq_true rfl) d_answer_92 h (fun x2 r1 H locs h hW => ?_)
  refine lv_istore (lv' := [(4, .int x2), (0, .ref o)]) hx hb d_answer_95 hl (by decide) rfl (fun ls hl => ?_)
  refine lv_iload hx hb d_answer_97 (lv_at hl 0 rfl) ?_
  refine rb_lt (tgt := 108) hx hb d_answer_99 (by decide) h (fun h => ?_) (fun h => ?_)
  · exact t_answer_108 S  r1 h (lv_sub hl [] rfl) hW
  · refine lv_aload_n hx hb d_answer_102 rfl (lv_at hl 1 rfl) ?_
    refine lv_iload hx hb d_answer_103 (lv_at hl 0 rfl) ?_
    refine rm_cVv [.int x2] S hW (fun ρ' hc => c_sealed x2 r1 hc) q_sealed wd_1482 wd_44 wd_1480 (by decide) hl.1 rfl rfl (Nat.le_of_ble_eq_true rfl) d_answer_105 h (fun r3 H locs h hW => ?_)
    exact t_answer_108 S  r3 h (lv_sub hl [] rfl) hW
theorem t_answer_75 (S : RC p m c k_answer 5 s args cn_M meth none D tc) (v2 : Int32) (v3 : Int32) (w1 : Int32) (w2 : Int32) (w3 : Int32) (ρ : RS) {B : RS} (h : b_answer_75 v2 v3 w1 w2 w3 ρ = some B) {ls : Array Slot} {H : Heap} {locs : List Loc} (hl : lv_has ls 5 [(0, .ref o), (2, .int v2), (3, .int v3)]) (hW : RWS D tc o s ρ H locs) : W p l e { frames := 3, cells := 0, slots := 0, locals := 72 } s m args below meth c H locs 0 0 (MQ below (RQ D tc o none B) args s 0 0 (rreg o)) (F0 m 75 ls [.int w3, .int w2, .int w1, .ref o]) := by
  have hx := S.1.1
  have hb := S.1.2.1
  unfold b_answer_75 at h
  refine lv_iload_n hx hb d_answer_75 rfl (lv_at hl 1 rfl) ?_
  refine rb_eq (tgt := 83) hx hb d_answer_76 (by decide) h (fun h => ?_) (fun h => ?_)
  · refine lv_aload_n hx hb d_answer_83 rfl (lv_at hl 0 rfl) ?_
    refine rm_geti S hW 46 wd_1298 (by decide) d_answer_84 h (fun x1 h => ?_)
    refine lv_iload_n hx hb d_answer_87 rfl (lv_at hl 2 rfl) ?_
    refine lv_iadd hx hb d_answer_88 ?_
    exact t_answer_89 S w1 w2 w3 (x1 + v3) ρ h (lv_sub hl [0] rfl) hW
  · refine lv_iconst (v := 0) hx hb d_answer_79 (by decide) ?_
    refine lv_goto (tgt := 89) hx hb d_answer_80 (by decide) ?_
    exact t_answer_89 S w1 w2 w3 (0 : Int32) ρ h (lv_sub hl [0] rfl) hW
theorem t_answer_63 (S : RC p m c k_answer 5 s args cn_M meth none D tc) (v2 : Int32) (v3 : Int32) (w1 : Int32) (w2 : Int32) (ρ : RS) {B : RS} (h : b_answer_63 v2 v3 w1 w2 ρ = some B) {ls : Array Slot} {H : Heap} {locs : List Loc} (hl : lv_has ls 5 [(0, .ref o), (2, .int v2), (3, .int v3)]) (hW : RWS D tc o s ρ H locs) : W p l e { frames := 3, cells := 0, slots := 0, locals := 72 } s m args below meth c H locs 0 0 (MQ below (RQ D tc o none B) args s 0 0 (rreg o)) (F0 m 63 ls [.int w2, .int w1, .ref o]) := by
  have hx := S.1.1
  have hb := S.1.2.1
  unfold b_answer_63 at h
  refine lv_iload_n hx hb d_answer_63 rfl (lv_at hl 1 rfl) ?_
  refine rb_eq (tgt := 74) hx hb d_answer_64 (by decide) h (fun h => ?_) (fun h => ?_)
  · refine lv_iconst (v := 0) hx hb d_answer_74 (by decide) ?_
    exact t_answer_75 S v2 v3 w1 w2 (0 : Int32) ρ h (lv_sub hl [0, 1, 2] rfl) hW
  · refine lv_aload_n hx hb d_answer_67 rfl (lv_at hl 0 rfl) ?_
    refine rm_geti S hW 47 wd_1299 (by decide) d_answer_68 h (fun x1 h => ?_)
    refine lv_goto (tgt := 75) hx hb d_answer_71 (by decide) ?_
    exact t_answer_75 S v2 v3 w1 w2 x1 ρ h (lv_sub hl [0, 1, 2] rfl) hW
theorem t_answer_49 (S : RC p m c k_answer 5 s args cn_M meth none D tc) (v1 : Int32) (v2 : Int32) (w0 : Int32) (w1 : Int32) (ρ : RS) {B : RS} (h : b_answer_49 v1 v2 w0 w1 ρ = some B) {ls : Array Slot} {H : Heap} {locs : List Loc} (hl : lv_has ls 5 [(0, .ref o), (1, .int v1), (2, .int v2)]) (hW : RWS D tc o s ρ H locs) : W p l e { frames := 3, cells := 0, slots := 0, locals := 72 } s m args below meth c H locs 0 0 (MQ below (RQ D tc o none B) args s 0 0 (rreg o)) (F0 m 49 ls [.int w1, .int w0]) := by
  have hx := S.1.1
  have hb := S.1.2.1
  unfold b_answer_49 at h
  refine lv_iadd hx hb d_answer_49 ?_
  refine rv_i h (fun x1 h => ?_)
  refine lv_istore_n (lv' := [(3, .int x1), (0, .ref o), (1, .int v1), (2, .int v2)]) hx hb d_answer_50 rfl hl (by decide) rfl (fun ls hl => ?_)
  refine lv_aload_n hx hb d_answer_51 rfl (lv_at hl 1 rfl) ?_
  refine lv_iload_n hx hb d_answer_52 rfl (lv_at hl 2 rfl) ?_
  refine lv_iload_n hx hb d_answer_53 rfl (lv_at hl 3 rfl) ?_
  refine rb_eq (tgt := 61) hx hb d_answer_54 (by decide) h (fun h => ?_) (fun h => ?_)
  · refine lv_bipush (v := 20) hx hb d_answer_61 (by decide) ?_
    exact t_answer_63 S v2 x1 v1 (20 : Int32) ρ h (lv_sub hl [1, 3, 0] rfl) hW
  · refine lv_iconst (v := 4) hx hb d_answer_57 (by decide) ?_
    refine lv_goto (tgt := 63) hx hb d_answer_58 (by decide) ?_
    exact t_answer_63 S v2 x1 v1 (4 : Int32) ρ h (lv_sub hl [1, 3, 0] rfl) hW
theorem t_answer_34 (S : RC p m c k_answer 5 s args cn_M meth none D tc) (v1 : Int32) (v2 : Int32) (w0 : Int32) (w1 : Int32) (ρ : RS) {B : RS} (h : b_answer_34 v1 v2 w0 w1 ρ = some B) {ls : Array Slot} {H : Heap} {locs : List Loc} (hl : lv_has ls 5 [(0, .ref o), (1, .int v1), (2, .int v2)]) (hW : RWS D tc o s ρ H locs) : W p l e { frames := 3, cells := 0, slots := 0, locals := 72 } s m args below meth c H locs 0 0 (MQ below (RQ D tc o none B) args s 0 0 (rreg o)) (F0 m 34 ls [.int w1, .int w0]) := by
  have hx := S.1.1
  have hb := S.1.2.1
  unfold b_answer_34 at h
  refine lv_iadd hx hb d_answer_34 ?_
  refine lv_aload_n hx hb d_answer_35 rfl (lv_at hl 0 rfl) ?_
  refine rm_geti S hW 48 wd_1300 (by decide) d_answer_36 h (fun x1 h => ?_)
  refine lv_iconst (v := 1) hx hb d_answer_39 (by decide) ?_
  refine lv_iand hx hb d_answer_40 ?_
  refine rb_eq (tgt := 48) hx hb d_answer_41 (by decide) h (fun h => ?_) (fun h => ?_)
  · refine lv_iconst (v := 0) hx hb d_answer_48 (by decide) ?_
    exact t_answer_49 S v1 v2 (w0 + w1) (0 : Int32) ρ h (lv_sub hl [0, 1, 2] rfl) hW
  · refine lv_iconst (v := 1) hx hb d_answer_44 (by decide) ?_
    refine lv_goto (tgt := 49) hx hb d_answer_45 (by decide) ?_
    exact t_answer_49 S v1 v2 (w0 + w1) (1 : Int32) ρ h (lv_sub hl [0, 1, 2] rfl) hW
theorem t_answer_15 (S : RC p m c k_answer 5 s args cn_M meth none D tc) (v1 : Int32) (w0 : Int32) (ρ : RS) {B : RS} (h : b_answer_15 v1 w0 ρ = some B) {ls : Array Slot} {H : Heap} {locs : List Loc} (hl : lv_has ls 5 [(0, .ref o), (1, .int v1)]) (hW : RWS D tc o s ρ H locs) : W p l e { frames := 3, cells := 0, slots := 0, locals := 72 } s m args below meth c H locs 0 0 (MQ below (RQ D tc o none B) args s 0 0 (rreg o)) (F0 m 15 ls [.int w0]) := by
  have hx := S.1.1
  have hb := S.1.2.1
  unfold b_answer_15 at h
  refine lv_istore_n (lv' := [(2, .int w0), (0, .ref o), (1, .int v1)]) hx hb d_answer_15 rfl hl (by decide) rfl (fun ls hl => ?_)
  refine lv_aload_n hx hb d_answer_16 rfl (lv_at hl 1 rfl) ?_
  refine rm_geti S hW 51 wd_1303 (by decide) d_answer_17 h (fun x1 h => ?_)
  refine lv_aload_n hx hb d_answer_20 rfl (lv_at hl 1 rfl) ?_
  refine rm_geti S hW 48 wd_1300 (by decide) d_answer_21 h (fun x2 h => ?_)
  refine lv_iconst (v := 2) hx hb d_answer_24 (by decide) ?_
  refine lv_iand hx hb d_answer_25 ?_
  refine rb_eq (tgt := 33) hx hb d_answer_26 (by decide) h (fun h => ?_) (fun h => ?_)
  · refine lv_iconst (v := 0) hx hb d_answer_33 (by decide) ?_
    exact t_answer_34 S v1 w0 x1 (0 : Int32) ρ h (lv_sub hl [1, 2, 0] rfl) hW
  · refine lv_iconst (v := 1) hx hb d_answer_29 (by decide) ?_
    refine lv_goto (tgt := 34) hx hb d_answer_30 (by decide) ?_
    exact t_answer_34 S v1 w0 x1 (1 : Int32) ρ h (lv_sub hl [1, 2, 0] rfl) hW
theorem t_answer_0 (S : RC p m c k_answer 5 s args cn_M meth none D tc) (v1 : Int32) (ρ : RS) {B : RS} (h : m_answer v1 ρ = some B) {ls : Array Slot} {H : Heap} {locs : List Loc} (hl : lv_has ls 5 [(0, .ref o), (1, .int v1)]) (hW : RWS D tc o s ρ H locs) : W p l e { frames := 3, cells := 0, slots := 0, locals := 72 } s m args below meth c H locs 0 0 (MQ below (RQ D tc o none B) args s 0 0 (rreg o)) (F0 m 0 ls []) := by
  have hx := S.1.1
  have hb := S.1.2.1
  unfold m_answer at h
  refine lv_aload_n hx hb d_answer_0 rfl (lv_at hl 0 rfl) ?_
  refine rm_geti S hW 48 wd_1300 (by decide) d_answer_1 h (fun x1 h => ?_)
  refine lv_bipush (v := 16) hx hb d_answer_4 (by decide) ?_
  refine lv_iand hx hb d_answer_6 ?_
  refine rb_eq (tgt := 14) hx hb d_answer_7 (by decide) h (fun h => ?_) (fun h => ?_)
  · refine lv_iconst (v := 0) hx hb d_answer_14 (by decide) ?_
    exact t_answer_15 S v1 (0 : Int32) ρ h (lv_sub hl [0, 1] rfl) hW
  · refine lv_iconst (v := 1) hx hb d_answer_10 (by decide) ?_
    refine lv_goto (tgt := 15) hx hb d_answer_11 (by decide) ?_
    exact t_answer_15 S v1 (1 : Int32) ρ h (lv_sub hl [0, 1] rfl) hW
theorem c_answer (v1 : Int32) (ρ : RS) {B : RS} (h : m_answer v1 ρ = some B) : RMet l D tc o y_answer k_answer 5 none 3 72 [.ref o, .int v1] ρ none B := rm_met (by decide) (Nat.le_of_ble_eq_true rfl) fun p e s m args below meth c S hW ls hl => t_answer_0 S v1 ρ h hl hW
end

/-! options (II)V -/
abbrev k_options : ByteArray := prog_12_method_30_code
abbrev y_options : MethodName := ⟨cn_M, "options", "(II)V"⟩
theorem q_options : Calee y_options k_options 7 none 2 := ⟨wd_1588, wd_90, by decide, by decide +kernel⟩
theorem d_options_0 : decode k_options 0 = .ok (.bipush 20, 2) := by decide +kernel
theorem d_options_2 : decode k_options 2 = .ok (.istore_n 3, 1) := by decide +kernel
theorem d_options_3 : decode k_options 3 = .ok (.iconst 1, 1) := by decide +kernel
theorem d_options_4 : decode k_options 4 = .ok (.istore 4, 2) := by decide +kernel
theorem d_options_6 : decode k_options 6 = .ok (.iload 4, 2) := by decide +kernel
theorem d_options_8 : decode k_options 8 = .ok (.ifCond .eq 112, 3) := by decide +kernel
theorem d_options_11 : decode k_options 11 = .ok (.iload_n 3, 1) := by decide +kernel
theorem d_options_12 : decode k_options 12 = .ok (.iload_n 2, 1) := by decide +kernel
theorem d_options_13 : decode k_options 13 = .ok (.if_icmp .ge 107, 3) := by decide +kernel
theorem d_options_16 : decode k_options 16 = .ok (.aload_n 0, 1) := by decide +kernel
theorem d_options_17 : decode k_options 17 = .ok (.iload_n 1, 1) := by decide +kernel
theorem d_options_18 : decode k_options 18 = .ok (.iload_n 3, 1) := by decide +kernel
theorem d_options_19 : decode k_options 19 = .ok (.invokevirtual 154, 3) := by decide +kernel
theorem d_options_22 : decode k_options 22 = .ok (.istore 5, 2) := by decide +kernel
theorem d_options_24 : decode k_options 24 = .ok (.iload 5, 2) := by decide +kernel
theorem d_options_26 : decode k_options 26 = .ok (.iconst 1, 1) := by decide +kernel
theorem d_options_27 : decode k_options 27 = .ok (.if_icmp .ne 9, 3) := by decide +kernel
theorem d_options_30 : decode k_options 30 = .ok (.iinc 3 1, 3) := by decide +kernel
theorem d_options_33 : decode k_options 33 = .ok (.goto (-27), 3) := by decide +kernel
theorem d_options_36 : decode k_options 36 = .ok (.iload 5, 2) := by decide +kernel
theorem d_options_38 : decode k_options 38 = .ok (.ifCond .eq 10, 3) := by decide +kernel
theorem d_options_41 : decode k_options 41 = .ok (.iload_n 3, 1) := by decide +kernel
theorem d_options_42 : decode k_options 42 = .ok (.iconst 1, 1) := by decide +kernel
theorem d_options_43 : decode k_options 43 = .ok (.iadd, 1) := by decide +kernel
theorem d_options_44 : decode k_options 44 = .ok (.iload_n 2, 1) := by decide +kernel
theorem d_options_45 : decode k_options 45 = .ok (.if_icmp .lt 7, 3) := by decide +kernel
theorem d_options_48 : decode k_options 48 = .ok (.iconst 0, 1) := by decide +kernel
theorem d_options_49 : decode k_options 49 = .ok (.goto 11, 3) := by decide +kernel
theorem d_options_52 : decode k_options 52 = .ok (.aload_n 0, 1) := by decide +kernel
theorem d_options_53 : decode k_options 53 = .ok (.iload_n 1, 1) := by decide +kernel
theorem d_options_54 : decode k_options 54 = .ok (.iload_n 3, 1) := by decide +kernel
theorem d_options_55 : decode k_options 55 = .ok (.iconst 1, 1) := by decide +kernel
theorem d_options_56 : decode k_options 56 = .ok (.iadd, 1) := by decide +kernel
theorem d_options_57 : decode k_options 57 = .ok (.invokevirtual 154, 3) := by decide +kernel
theorem d_options_60 : decode k_options 60 = .ok (.istore 6, 2) := by decide +kernel
theorem d_options_62 : decode k_options 62 = .ok (.iload 6, 2) := by decide +kernel
theorem d_options_64 : decode k_options 64 = .ok (.iconst 2, 1) := by decide +kernel
theorem d_options_65 : decode k_options 65 = .ok (.if_icmp .lt 15, 3) := by decide +kernel
theorem d_options_68 : decode k_options 68 = .ok (.iload_n 3, 1) := by decide +kernel
theorem d_options_69 : decode k_options 69 = .ok (.iload 6, 2) := by decide +kernel
theorem d_options_71 : decode k_options 71 = .ok (.iadd, 1) := by decide +kernel
theorem d_options_72 : decode k_options 72 = .ok (.iload_n 2, 1) := by decide +kernel
theorem d_options_73 : decode k_options 73 = .ok (.if_icmp .gt 7, 3) := by decide +kernel
theorem d_options_76 : decode k_options 76 = .ok (.iconst 1, 1) := by decide +kernel
theorem d_options_77 : decode k_options 77 = .ok (.goto 4, 3) := by decide +kernel
theorem d_options_80 : decode k_options 80 = .ok (.iconst 0, 1) := by decide +kernel
theorem d_options_81 : decode k_options 81 = .ok (.istore 4, 2) := by decide +kernel
theorem d_options_83 : decode k_options 83 = .ok (.iload 4, 2) := by decide +kernel
theorem d_options_85 : decode k_options 85 = .ok (.ifCond .eq 27, 3) := by decide +kernel
theorem d_options_88 : decode k_options 88 = .ok (.iload 5, 2) := by decide +kernel
theorem d_options_90 : decode k_options 90 = .ok (.iconst 2, 1) := by decide +kernel
theorem d_options_91 : decode k_options 91 = .ok (.if_icmp .ne 21, 3) := by decide +kernel
theorem d_options_94 : decode k_options 94 = .ok (.iload 6, 2) := by decide +kernel
theorem d_options_96 : decode k_options 96 = .ok (.iconst 4, 1) := by decide +kernel
theorem d_options_97 : decode k_options 97 = .ok (.if_icmp .ne 15, 3) := by decide +kernel
theorem d_options_100 : decode k_options 100 = .ok (.aload_n 0, 1) := by decide +kernel
theorem d_options_101 : decode k_options 101 = .ok (.aload_n 0, 1) := by decide +kernel
theorem d_options_102 : decode k_options 102 = .ok (.iload_n 1, 1) := by decide +kernel
theorem d_options_103 : decode k_options 103 = .ok (.iload_n 3, 1) := by decide +kernel
theorem d_options_104 : decode k_options 104 = .ok (.iconst 2, 1) := by decide +kernel
theorem d_options_105 : decode k_options 105 = .ok (.iadd, 1) := by decide +kernel
theorem d_options_106 : decode k_options 106 = .ok (.invokevirtual 158, 3) := by decide +kernel
theorem d_options_109 : decode k_options 109 = .ok (.putfield 269, 3) := by decide +kernel
theorem d_options_112 : decode k_options 112 = .ok (.iload_n 3, 1) := by decide +kernel
theorem d_options_113 : decode k_options 113 = .ok (.iload 6, 2) := by decide +kernel
theorem d_options_115 : decode k_options 115 = .ok (.iadd, 1) := by decide +kernel
theorem d_options_116 : decode k_options 116 = .ok (.istore_n 3, 1) := by decide +kernel
theorem d_options_117 : decode k_options 117 = .ok (.goto (-111), 3) := by decide +kernel
theorem d_options_120 : decode k_options 120 = .ok (.return_, 1) := by decide +kernel
def b_options_120 (ρ : RS) : Option (RS) :=
  some ρ
def b_options_112 (rec6 : Int32 → Int32 → Int32 → Int32 → RS → Option (RS)) (v1 : Int32) (v2 : Int32) (v3 : Int32) (v4 : Int32) (v6 : Int32) (ρ : RS) : Option (RS) :=
  bd (v3 + v6) fun x1 => rec6 v1 v2 x1 v4 ρ
def b_options_81 (rec6 : Int32 → Int32 → Int32 → Int32 → RS → Option (RS)) (v1 : Int32) (v2 : Int32) (v3 : Int32) (v5 : Int32) (v6 : Int32) (w0 : Int32) (ρ : RS) : Option (RS) :=
  if w0 = 0 then
  (b_options_112 rec6 v1 v2 v3 w0 v6 ρ)
 else
  (if v5 = (2 : Int32) then
  (if v6 = (4 : Int32) then
  (bc2 (m_two v1 (v3 + (2 : Int32)) ρ) fun x2 r1 => bd (si r1 0 53 x2) fun r3 => b_options_112 rec6 v1 v2 v3 w0 v6 r3)
 else
  (b_options_112 rec6 v1 v2 v3 w0 v6 ρ))
 else
  (b_options_112 rec6 v1 v2 v3 w0 v6 ρ))
def b_options_80 (rec6 : Int32 → Int32 → Int32 → Int32 → RS → Option (RS)) (v1 : Int32) (v2 : Int32) (v3 : Int32) (v5 : Int32) (v6 : Int32) (ρ : RS) : Option (RS) :=
  b_options_81 rec6 v1 v2 v3 v5 v6 (0 : Int32) ρ
def b_options_60 (rec6 : Int32 → Int32 → Int32 → Int32 → RS → Option (RS)) (v1 : Int32) (v2 : Int32) (v3 : Int32) (v5 : Int32) (w0 : Int32) (ρ : RS) : Option (RS) :=
  if w0 < (2 : Int32) then
  (b_options_80 rec6 v1 v2 v3 v5 w0 ρ)
 else
  (if v2 < (v3 + w0) then
  (b_options_80 rec6 v1 v2 v3 v5 w0 ρ)
 else
  (b_options_81 rec6 v1 v2 v3 v5 w0 (1 : Int32) ρ))
def b_options_48 (rec6 : Int32 → Int32 → Int32 → Int32 → RS → Option (RS)) (v1 : Int32) (v2 : Int32) (v3 : Int32) (v5 : Int32) (ρ : RS) : Option (RS) :=
  b_options_60 rec6 v1 v2 v3 v5 (0 : Int32) ρ
def F_options_6 (rec6 : Int32 → Int32 → Int32 → Int32 → RS → Option (RS)) (v1 : Int32) (v2 : Int32) (v3 : Int32) (v4 : Int32) (ρ : RS) : Option (RS) :=
  if v4 = 0 then
  (b_options_120  ρ)
 else
  (if v2 ≤ v3 then
  (b_options_120  ρ)
 else
  (bc2 (m_here v1 v3 ρ) fun x2 r1 => if x2 = (1 : Int32) then
  (bd (v3 + (1 : Int32)) fun x5 => rec6 v1 v2 x5 v4 r1)
 else
  (if x2 = 0 then
  (b_options_48 rec6 v1 v2 v3 x2 r1)
 else
  (if (v3 + (1 : Int32)) < v2 then
  (bc2 (m_here v1 (v3 + (1 : Int32)) r1) fun x4 r3 => b_options_60 rec6 v1 v2 v3 x2 x4 r3)
 else
  (b_options_48 rec6 v1 v2 v3 x2 r1)))))
def m_options (v1 : Int32) (v2 : Int32) (ρ : RS) : Option (RS) :=
  lq5 (F_options_6) fuel v1 v2 (20 : Int32) (1 : Int32) ρ
def P_options_6 (p : Program) (l : Launch) (e : Env) (s : State) (m : MethodId) (args : Array Value) (below : List Frame) (meth : Method) (c : Code) (D : va_G) (tc : Nat → ClassId) (o : Nat) (v1 : Int32) (v2 : Int32) (v3 : Int32) (v4 : Int32) (ρ : RS) (B : RS) : Prop := ∀ (ls : Array Slot) (H : Heap) (locs : List Loc), lv_has ls 7 [(0, .ref o), (1, .int v1), (2, .int v2), (3, .int v3), (4, .int v4)] → RWS D tc o s ρ H locs → W p l e { frames := 2, cells := 0, slots := 0, locals := 44 } s m args below meth c H locs 0 0 (MQ below (RQ D tc o none B) args s 0 0 (rreg o)) (F0 m 6 ls [])
section
variable {p : Program} {l : Launch} {e : Env} {s : State} {m : MethodId} {args : Array Value} {below : List Frame} {meth : Method} {c : Code} {D : va_G} {tc : Nat → ClassId} {o : Nat}
theorem t_options_120 (S : RC p m c k_options 7 s args cn_M meth none D tc) (ρ : RS) {B : RS} (h : b_options_120  ρ = some B) {ls : Array Slot} {H : Heap} {locs : List Loc} (hl : lv_has ls 7 []) (hW : RWS D tc o s ρ H locs) : W p l e { frames := 2, cells := 0, slots := 0, locals := 44 } s m args below meth c H locs 0 0 (MQ below (RQ D tc o none B) args s 0 0 (rreg o)) (F0 m 120 ls []) := by
  have hx := S.1.1
  have hb := S.1.2.1
  unfold b_options_120 at h
  exact rm_vret S hW d_options_120 h
theorem t_options_112 (S : RC p m c k_options 7 s args cn_M meth none D tc) {rec6 : Int32 → Int32 → Int32 → Int32 → RS → Option (RS)} (hrec6 : ∀ (v1 : Int32) (v2 : Int32) (v3 : Int32) (v4 : Int32) (ρ : RS) (B : RS), rec6 v1 v2 v3 v4 ρ = some B → P_options_6 p l e s m args below meth c D tc o v1 v2 v3 v4 ρ B) (v1 : Int32) (v2 : Int32) (v3 : Int32) (v4 : Int32) (v6 : Int32) (ρ : RS) {B : RS} (h : b_options_112 rec6 v1 v2 v3 v4 v6 ρ = some B) {ls : Array Slot} {H : Heap} {locs : List Loc} (hl : lv_has ls 7 [(0, .ref o), (1, .int v1), (2, .int v2), (3, .int v3), (4, .int v4), (6, .int v6)]) (hW : RWS D tc o s ρ H locs) : W p l e { frames := 2, cells := 0, slots := 0, locals := 44 } s m args below meth c H locs 0 0 (MQ below (RQ D tc o none B) args s 0 0 (rreg o)) (F0 m 112 ls []) := by
  have hx := S.1.1
  have hb := S.1.2.1
  unfold b_options_112 at h
  refine lv_iload_n hx hb d_options_112 rfl (lv_at hl 3 rfl) ?_
  refine lv_iload hx hb d_options_113 (lv_at hl 5 rfl) ?_
  refine lv_iadd hx hb d_options_115 ?_
  refine rv_i h (fun x1 h => ?_)
  refine lv_istore_n (lv' := [(3, .int x1), (0, .ref o), (1, .int v1), (2, .int v2), (4, .int v4), (6, .int v6)]) hx hb d_options_116 rfl hl (by decide) rfl (fun ls hl => ?_)
  refine lv_goto (tgt := 6) hx hb d_options_117 (by decide) ?_
  exact hrec6 v1 v2 x1 v4 ρ _ h _ _ _ (lv_sub hl [1, 2, 3, 0, 4] rfl) hW
theorem t_options_81 (S : RC p m c k_options 7 s args cn_M meth none D tc) {rec6 : Int32 → Int32 → Int32 → Int32 → RS → Option (RS)} (hrec6 : ∀ (v1 : Int32) (v2 : Int32) (v3 : Int32) (v4 : Int32) (ρ : RS) (B : RS), rec6 v1 v2 v3 v4 ρ = some B → P_options_6 p l e s m args below meth c D tc o v1 v2 v3 v4 ρ B) (v1 : Int32) (v2 : Int32) (v3 : Int32) (v5 : Int32) (v6 : Int32) (w0 : Int32) (ρ : RS) {B : RS} (h : b_options_81 rec6 v1 v2 v3 v5 v6 w0 ρ = some B) {ls : Array Slot} {H : Heap} {locs : List Loc} (hl : lv_has ls 7 [(0, .ref o), (1, .int v1), (2, .int v2), (3, .int v3), (5, .int v5), (6, .int v6)]) (hW : RWS D tc o s ρ H locs) : W p l e { frames := 2, cells := 0, slots := 0, locals := 44 } s m args below meth c H locs 0 0 (MQ below (RQ D tc o none B) args s 0 0 (rreg o)) (F0 m 81 ls [.int w0]) := by
  have hx := S.1.1
  have hb := S.1.2.1
  unfold b_options_81 at h
  refine lv_istore (lv' := [(4, .int w0), (0, .ref o), (1, .int v1), (2, .int v2), (3, .int v3), (5, .int v5), (6, .int v6)]) hx hb d_options_81 hl (by decide) rfl (fun ls hl => ?_)
  refine lv_iload hx hb d_options_83 (lv_at hl 0 rfl) ?_
  refine rb_eq (tgt := 112) hx hb d_options_85 (by decide) h (fun h => ?_) (fun h => ?_)
  · exact t_options_112 S hrec6 v1 v2 v3 w0 v6 ρ h (lv_sub hl [1, 2, 3, 4, 0, 6] rfl) hW
  · refine lv_iload hx hb d_options_88 (lv_at hl 5 rfl) ?_
    refine lv_iconst (v := 2) hx hb d_options_90 (by decide) ?_
    refine rc_ne (tgt := 112) hx hb d_options_91 (by decide) h (fun h => ?_) (fun h => ?_)
    · exact t_options_112 S hrec6 v1 v2 v3 w0 v6 ρ h (lv_sub hl [1, 2, 3, 4, 0, 6] rfl) hW
    · refine lv_iload hx hb d_options_94 (lv_at hl 6 rfl) ?_
      refine lv_iconst (v := 4) hx hb d_options_96 (by decide) ?_
      refine rc_ne (tgt := 112) hx hb d_options_97 (by decide) h (fun h => ?_) (fun h => ?_)
      · exact t_options_112 S hrec6 v1 v2 v3 w0 v6 ρ h (lv_sub hl [1, 2, 3, 4, 0, 6] rfl) hW
      · refine lv_aload_n hx hb d_options_100 rfl (lv_at hl 1 rfl) ?_
        refine lv_aload_n hx hb d_options_101 rfl (lv_at hl 1 rfl) ?_
        refine lv_iload_n hx hb d_options_102 rfl (lv_at hl 2 rfl) ?_
        refine lv_iload_n hx hb d_options_103 rfl (lv_at hl 4 rfl) ?_
        refine lv_iconst (v := 2) hx hb d_options_104 (by decide) ?_
        refine lv_iadd hx hb d_options_105 ?_
        refine rm_cVi [.int v1, .int (v3 + (2 : Int32))] S hW (fun x ρ' hc => c_two v1 (v3 + (2 : Int32)) ρ hc) q_two wd_1579 wd_59 wd_1577 (by decide) hl.1 rfl rfl (Nat.le_of_ble_eq_true rfl) d_options_106 h (fun x2 r1 H locs h hW => ?_)
        refine rm_puti S hW 53 wd_1305 (by decide) d_options_109 h (fun r3 H locs h hW => ?_)
        exact t_options_112 S hrec6 v1 v2 v3 w0 v6 r3 h (lv_sub hl [1, 2, 3, 4, 0, 6] rfl) hW
theorem t_options_80 (S : RC p m c k_options 7 s args cn_M meth none D tc) {rec6 : Int32 → Int32 → Int32 → Int32 → RS → Option (RS)} (hrec6 : ∀ (v1 : Int32) (v2 : Int32) (v3 : Int32) (v4 : Int32) (ρ : RS) (B : RS), rec6 v1 v2 v3 v4 ρ = some B → P_options_6 p l e s m args below meth c D tc o v1 v2 v3 v4 ρ B) (v1 : Int32) (v2 : Int32) (v3 : Int32) (v5 : Int32) (v6 : Int32) (ρ : RS) {B : RS} (h : b_options_80 rec6 v1 v2 v3 v5 v6 ρ = some B) {ls : Array Slot} {H : Heap} {locs : List Loc} (hl : lv_has ls 7 [(0, .ref o), (1, .int v1), (2, .int v2), (3, .int v3), (5, .int v5), (6, .int v6)]) (hW : RWS D tc o s ρ H locs) : W p l e { frames := 2, cells := 0, slots := 0, locals := 44 } s m args below meth c H locs 0 0 (MQ below (RQ D tc o none B) args s 0 0 (rreg o)) (F0 m 80 ls []) := by
  have hx := S.1.1
  have hb := S.1.2.1
  unfold b_options_80 at h
  refine lv_iconst (v := 0) hx hb d_options_80 (by decide) ?_
  exact t_options_81 S hrec6 v1 v2 v3 v5 v6 (0 : Int32) ρ h (lv_sub hl [0, 1, 2, 3, 4, 5] rfl) hW
theorem t_options_60 (S : RC p m c k_options 7 s args cn_M meth none D tc) {rec6 : Int32 → Int32 → Int32 → Int32 → RS → Option (RS)} (hrec6 : ∀ (v1 : Int32) (v2 : Int32) (v3 : Int32) (v4 : Int32) (ρ : RS) (B : RS), rec6 v1 v2 v3 v4 ρ = some B → P_options_6 p l e s m args below meth c D tc o v1 v2 v3 v4 ρ B) (v1 : Int32) (v2 : Int32) (v3 : Int32) (v5 : Int32) (w0 : Int32) (ρ : RS) {B : RS} (h : b_options_60 rec6 v1 v2 v3 v5 w0 ρ = some B) {ls : Array Slot} {H : Heap} {locs : List Loc} (hl : lv_has ls 7 [(0, .ref o), (1, .int v1), (2, .int v2), (3, .int v3), (5, .int v5)]) (hW : RWS D tc o s ρ H locs) : W p l e { frames := 2, cells := 0, slots := 0, locals := 44 } s m args below meth c H locs 0 0 (MQ below (RQ D tc o none B) args s 0 0 (rreg o)) (F0 m 60 ls [.int w0]) := by
  have hx := S.1.1
  have hb := S.1.2.1
  unfold b_options_60 at h
  refine lv_istore (lv' := [(6, .int w0), (0, .ref o), (1, .int v1), (2, .int v2), (3, .int v3), (5, .int v5)]) hx hb d_options_60 hl (by decide) rfl (fun ls hl => ?_)
  refine lv_iload hx hb d_options_62 (lv_at hl 0 rfl) ?_
  refine lv_iconst (v := 2) hx hb d_options_64 (by decide) ?_
  refine rc_lt (tgt := 80) hx hb d_options_65 (by decide) h (fun h => ?_) (fun h => ?_)
  · exact t_options_80 S hrec6 v1 v2 v3 v5 w0 ρ h (lv_sub hl [1, 2, 3, 4, 5, 0] rfl) hW
  · refine lv_iload_n hx hb d_options_68 rfl (lv_at hl 4 rfl) ?_
    refine lv_iload hx hb d_options_69 (lv_at hl 0 rfl) ?_
    refine lv_iadd hx hb d_options_71 ?_
    refine lv_iload_n hx hb d_options_72 rfl (lv_at hl 3 rfl) ?_
    refine rc_gt (tgt := 80) hx hb d_options_73 (by decide) h (fun h => ?_) (fun h => ?_)
    · exact t_options_80 S hrec6 v1 v2 v3 v5 w0 ρ h (lv_sub hl [1, 2, 3, 4, 5, 0] rfl) hW
    · refine lv_iconst (v := 1) hx hb d_options_76 (by decide) ?_
      refine lv_goto (tgt := 81) hx hb d_options_77 (by decide) ?_
      exact t_options_81 S hrec6 v1 v2 v3 v5 w0 (1 : Int32) ρ h (lv_sub hl [1, 2, 3, 4, 5, 0] rfl) hW
theorem t_options_48 (S : RC p m c k_options 7 s args cn_M meth none D tc) {rec6 : Int32 → Int32 → Int32 → Int32 → RS → Option (RS)} (hrec6 : ∀ (v1 : Int32) (v2 : Int32) (v3 : Int32) (v4 : Int32) (ρ : RS) (B : RS), rec6 v1 v2 v3 v4 ρ = some B → P_options_6 p l e s m args below meth c D tc o v1 v2 v3 v4 ρ B) (v1 : Int32) (v2 : Int32) (v3 : Int32) (v5 : Int32) (ρ : RS) {B : RS} (h : b_options_48 rec6 v1 v2 v3 v5 ρ = some B) {ls : Array Slot} {H : Heap} {locs : List Loc} (hl : lv_has ls 7 [(0, .ref o), (1, .int v1), (2, .int v2), (3, .int v3), (5, .int v5)]) (hW : RWS D tc o s ρ H locs) : W p l e { frames := 2, cells := 0, slots := 0, locals := 44 } s m args below meth c H locs 0 0 (MQ below (RQ D tc o none B) args s 0 0 (rreg o)) (F0 m 48 ls []) := by
  have hx := S.1.1
  have hb := S.1.2.1
  unfold b_options_48 at h
  refine lv_iconst (v := 0) hx hb d_options_48 (by decide) ?_
  refine lv_goto (tgt := 60) hx hb d_options_49 (by decide) ?_
  exact t_options_60 S hrec6 v1 v2 v3 v5 (0 : Int32) ρ h (lv_sub hl [0, 1, 2, 3, 4] rfl) hW
theorem tF_options_6 (S : RC p m c k_options 7 s args cn_M meth none D tc) : ∀ (rec6 : Int32 → Int32 → Int32 → Int32 → RS → Option (RS)), (∀ (v1 : Int32) (v2 : Int32) (v3 : Int32) (v4 : Int32) (ρ : RS) (B : RS), rec6 v1 v2 v3 v4 ρ = some B → P_options_6 p l e s m args below meth c D tc o v1 v2 v3 v4 ρ B) → ∀ (v1 : Int32) (v2 : Int32) (v3 : Int32) (v4 : Int32) (ρ : RS) (B : RS), F_options_6 rec6 v1 v2 v3 v4 ρ = some B → P_options_6 p l e s m args below meth c D tc o v1 v2 v3 v4 ρ B := by
  intro rec6 hrec6 v1 v2 v3 v4 ρ B h ls H locs hl hW
  have hx := S.1.1
  have hb := S.1.2.1
  unfold F_options_6 at h
  refine lv_iload hx hb d_options_6 (lv_at hl 4 rfl) ?_
  refine rb_eq (tgt := 120) hx hb d_options_8 (by decide) h (fun h => ?_) (fun h => ?_)
  · exact t_options_120 S  ρ h (lv_sub hl [] rfl) hW
  · refine lv_iload_n hx hb d_options_11 rfl (lv_at hl 3 rfl) ?_
    refine lv_iload_n hx hb d_options_12 rfl (lv_at hl 2 rfl) ?_
    refine rc_ge (tgt := 120) hx hb d_options_13 (by decide) h (fun h => ?_) (fun h => ?_)
    · exact t_options_120 S  ρ h (lv_sub hl [] rfl) hW
    · refine lv_aload_n hx hb d_options_16 rfl (lv_at hl 0 rfl) ?_
      refine lv_iload_n hx hb d_options_17 rfl (lv_at hl 1 rfl) ?_
      refine lv_iload_n hx hb d_options_18 rfl (lv_at hl 3 rfl) ?_
      refine rm_cVi [.int v1, .int v3] S hW (fun x ρ' hc => c_here v1 v3 ρ hc) q_here wd_1492 wd_46 wd_1490 (by decide) hl.1 rfl rfl (Nat.le_of_ble_eq_true rfl) d_options_19 h (fun x2 r1 H locs h hW => ?_)
      refine lv_istore (lv' := [(5, .int x2), (0, .ref o), (1, .int v1), (2, .int v2), (3, .int v3), (4, .int v4)]) hx hb d_options_22 hl (by decide) rfl (fun ls hl => ?_)
      refine lv_iload hx hb d_options_24 (lv_at hl 0 rfl) ?_
      refine lv_iconst (v := 1) hx hb d_options_26 (by decide) ?_
      refine rc_ne (tgt := 36) hx hb d_options_27 (by decide) h (fun h => ?_) (fun h => ?_)
      · refine lv_iload hx hb d_options_36 (lv_at hl 0 rfl) ?_
        refine rb_eq (tgt := 48) hx hb d_options_38 (by decide) h (fun h => ?_) (fun h => ?_)
        · exact t_options_48 S hrec6 v1 v2 v3 x2 r1 h (lv_sub hl [1, 2, 3, 4, 0] rfl) hW
        · refine lv_iload_n hx hb d_options_41 rfl (lv_at hl 4 rfl) ?_
          refine lv_iconst (v := 1) hx hb d_options_42 (by decide) ?_
          refine lv_iadd hx hb d_options_43 ?_
          refine lv_iload_n hx hb d_options_44 rfl (lv_at hl 3 rfl) ?_
          refine rc_lt (tgt := 52) hx hb d_options_45 (by decide) h (fun h => ?_) (fun h => ?_)
          · refine lv_aload_n hx hb d_options_52 rfl (lv_at hl 1 rfl) ?_
            refine lv_iload_n hx hb d_options_53 rfl (lv_at hl 2 rfl) ?_
            refine lv_iload_n hx hb d_options_54 rfl (lv_at hl 4 rfl) ?_
            refine lv_iconst (v := 1) hx hb d_options_55 (by decide) ?_
            refine lv_iadd hx hb d_options_56 ?_
            refine rm_cVi [.int v1, .int (v3 + (1 : Int32))] S hW (fun x ρ' hc => c_here v1 (v3 + (1 : Int32)) r1 hc) q_here wd_1492 wd_46 wd_1490 (by decide) hl.1 rfl rfl (Nat.le_of_ble_eq_true rfl) d_options_57 h (fun x4 r3 H locs h hW => ?_)
            exact t_options_60 S hrec6 v1 v2 v3 x2 x4 r3 h (lv_sub hl [1, 2, 3, 4, 0] rfl) hW
          · exact t_options_48 S hrec6 v1 v2 v3 x2 r1 h (lv_sub hl [1, 2, 3, 4, 0] rfl) hW
      · refine rv_iinc (k := 4) (v := 1) (lv' := fun x5 => [(3, .int x5), (5, .int x2), (0, .ref o), (1, .int v1), (2, .int v2), (4, .int v4)]) hx hb d_options_30 hl rfl (by decide) (by decide) (fun _ => rfl) h (fun x5 ls h hl => ?_)
        refine lv_goto (tgt := 6) hx hb d_options_33 (by decide) ?_
        exact hrec6 v1 v2 x5 v4 r1 _ h _ _ _ (lv_sub hl [2, 3, 4, 0, 5] rfl) hW
theorem t_options_6 (S : RC p m c k_options 7 s args cn_M meth none D tc) : ∀ (n : Nat) (v1 : Int32) (v2 : Int32) (v3 : Int32) (v4 : Int32) (ρ : RS) (B : RS), lq5 (F_options_6) n v1 v2 v3 v4 ρ = some B → P_options_6 p l e s m args below meth c D tc o v1 v2 v3 v4 ρ B := lq5_s (tF_options_6 S)
theorem t_options_0 (S : RC p m c k_options 7 s args cn_M meth none D tc) (v1 : Int32) (v2 : Int32) (ρ : RS) {B : RS} (h : m_options v1 v2 ρ = some B) {ls : Array Slot} {H : Heap} {locs : List Loc} (hl : lv_has ls 7 [(0, .ref o), (1, .int v1), (2, .int v2)]) (hW : RWS D tc o s ρ H locs) : W p l e { frames := 2, cells := 0, slots := 0, locals := 44 } s m args below meth c H locs 0 0 (MQ below (RQ D tc o none B) args s 0 0 (rreg o)) (F0 m 0 ls []) := by
  have hx := S.1.1
  have hb := S.1.2.1
  unfold m_options at h
  refine lv_bipush (v := 20) hx hb d_options_0 (by decide) ?_
  refine lv_istore_n (lv' := [(3, .int (20 : Int32)), (0, .ref o), (1, .int v1), (2, .int v2)]) hx hb d_options_2 rfl hl (by decide) rfl (fun ls hl => ?_)
  refine lv_iconst (v := 1) hx hb d_options_3 (by decide) ?_
  refine lv_istore (lv' := [(4, .int (1 : Int32)), (3, .int (20 : Int32)), (0, .ref o), (1, .int v1), (2, .int v2)]) hx hb d_options_4 hl (by decide) rfl (fun ls hl => ?_)
  exact t_options_6 S fuel v1 v2 (20 : Int32) (1 : Int32) ρ _ h _ _ _ (lv_sub hl [2, 3, 4, 1, 0] rfl) hW
theorem c_options (v1 : Int32) (v2 : Int32) (ρ : RS) {B : RS} (h : m_options v1 v2 ρ = some B) : RMet l D tc o y_options k_options 7 none 2 44 [.ref o, .int v1, .int v2] ρ none B := rm_met (by decide) (Nat.le_of_ble_eq_true rfl) fun p e s m args below meth c S hW ls hl => t_options_0 S v1 v2 ρ h hl hW
end

