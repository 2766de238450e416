/-! acknowledged (I)Z -/
abbrev k_acknowledged : ByteArray := prog_12_method_40_code
abbrev y_acknowledged : MethodName := ⟨cn_M, "acknowledged", "(I)Z"⟩
theorem q_acknowledged : Calee y_acknowledged k_acknowledged 2 (some .boolean) 1 := ⟨wd_1635, wd_90, by decide, by decide +kernel⟩
theorem d_acknowledged_0 : decode k_acknowledged 0 = .ok (.aload_n 0, 1) := by decide +kernel
theorem d_acknowledged_1 : decode k_acknowledged 1 = .ok (.getfield 248, 3) := by decide +kernel
theorem d_acknowledged_4 : decode k_acknowledged 4 = .ok (.aload_n 0, 1) := by decide +kernel
theorem d_acknowledged_5 : decode k_acknowledged 5 = .ok (.getfield 51, 3) := by decide +kernel
theorem d_acknowledged_8 : decode k_acknowledged 8 = .ok (.iload_n 1, 1) := by decide +kernel
theorem d_acknowledged_9 : decode k_acknowledged 9 = .ok (.iaload, 1) := by decide +kernel
theorem d_acknowledged_10 : decode k_acknowledged 10 = .ok (.invokestatic 188, 3) := by decide +kernel
theorem d_acknowledged_13 : decode k_acknowledged 13 = .ok (.ifCond .eq 10, 3) := by decide +kernel
theorem d_acknowledged_16 : decode k_acknowledged 16 = .ok (.aload_n 0, 1) := by decide +kernel
theorem d_acknowledged_17 : decode k_acknowledged 17 = .ok (.iload_n 1, 1) := by decide +kernel
theorem d_acknowledged_18 : decode k_acknowledged 18 = .ok (.invokevirtual 287, 3) := by decide +kernel
theorem d_acknowledged_21 : decode k_acknowledged 21 = .ok (.iconst 0, 1) := by decide +kernel
theorem d_acknowledged_22 : decode k_acknowledged 22 = .ok (.ireturn, 1) := by decide +kernel
theorem d_acknowledged_23 : decode k_acknowledged 23 = .ok (.aload_n 0, 1) := by decide +kernel
theorem d_acknowledged_24 : decode k_acknowledged 24 = .ok (.getfield 248, 3) := by decide +kernel
theorem d_acknowledged_27 : decode k_acknowledged 27 = .ok (.aload_n 0, 1) := by decide +kernel
theorem d_acknowledged_28 : decode k_acknowledged 28 = .ok (.getfield 45, 3) := by decide +kernel
theorem d_acknowledged_31 : decode k_acknowledged 31 = .ok (.iload_n 1, 1) := by decide +kernel
theorem d_acknowledged_32 : decode k_acknowledged 32 = .ok (.iaload, 1) := by decide +kernel
theorem d_acknowledged_33 : decode k_acknowledged 33 = .ok (.invokestatic 188, 3) := by decide +kernel
theorem d_acknowledged_36 : decode k_acknowledged 36 = .ok (.ifCond .eq 79, 3) := by decide +kernel
theorem d_acknowledged_39 : decode k_acknowledged 39 = .ok (.aload_n 0, 1) := by decide +kernel
theorem d_acknowledged_40 : decode k_acknowledged 40 = .ok (.iload_n 1, 1) := by decide +kernel
theorem d_acknowledged_41 : decode k_acknowledged 41 = .ok (.aload_n 0, 1) := by decide +kernel
theorem d_acknowledged_42 : decode k_acknowledged 42 = .ok (.getfield 248, 3) := by decide +kernel
theorem d_acknowledged_45 : decode k_acknowledged 45 = .ok (.invokevirtual 284, 3) := by decide +kernel
theorem d_acknowledged_48 : decode k_acknowledged 48 = .ok (.aload_n 0, 1) := by decide +kernel
theorem d_acknowledged_49 : decode k_acknowledged 49 = .ok (.iload_n 1, 1) := by decide +kernel
theorem d_acknowledged_50 : decode k_acknowledged 50 = .ok (.invokevirtual 299, 3) := by decide +kernel
theorem d_acknowledged_53 : decode k_acknowledged 53 = .ok (.aload_n 0, 1) := by decide +kernel
theorem d_acknowledged_54 : decode k_acknowledged 54 = .ok (.getfield 45, 3) := by decide +kernel
theorem d_acknowledged_57 : decode k_acknowledged 57 = .ok (.iload_n 1, 1) := by decide +kernel
theorem d_acknowledged_58 : decode k_acknowledged 58 = .ok (.aload_n 0, 1) := by decide +kernel
theorem d_acknowledged_59 : decode k_acknowledged 59 = .ok (.getfield 248, 3) := by decide +kernel
theorem d_acknowledged_62 : decode k_acknowledged 62 = .ok (.iastore, 1) := by decide +kernel
theorem d_acknowledged_63 : decode k_acknowledged 63 = .ok (.aload_n 0, 1) := by decide +kernel
theorem d_acknowledged_64 : decode k_acknowledged 64 = .ok (.getfield 248, 3) := by decide +kernel
theorem d_acknowledged_67 : decode k_acknowledged 67 = .ok (.aload_n 0, 1) := by decide +kernel
theorem d_acknowledged_68 : decode k_acknowledged 68 = .ok (.getfield 48, 3) := by decide +kernel
theorem d_acknowledged_71 : decode k_acknowledged 71 = .ok (.iload_n 1, 1) := by decide +kernel
theorem d_acknowledged_72 : decode k_acknowledged 72 = .ok (.iaload, 1) := by decide +kernel
theorem d_acknowledged_73 : decode k_acknowledged 73 = .ok (.invokestatic 188, 3) := by decide +kernel
theorem d_acknowledged_76 : decode k_acknowledged 76 = .ok (.ifCond .eq 13, 3) := by decide +kernel
theorem d_acknowledged_79 : decode k_acknowledged 79 = .ok (.aload_n 0, 1) := by decide +kernel
theorem d_acknowledged_80 : decode k_acknowledged 80 = .ok (.getfield 48, 3) := by decide +kernel
theorem d_acknowledged_83 : decode k_acknowledged 83 = .ok (.iload_n 1, 1) := by decide +kernel
theorem d_acknowledged_84 : decode k_acknowledged 84 = .ok (.aload_n 0, 1) := by decide +kernel
theorem d_acknowledged_85 : decode k_acknowledged 85 = .ok (.getfield 248, 3) := by decide +kernel
theorem d_acknowledged_88 : decode k_acknowledged 88 = .ok (.iastore, 1) := by decide +kernel
theorem d_acknowledged_89 : decode k_acknowledged 89 = .ok (.aload_n 0, 1) := by decide +kernel
theorem d_acknowledged_90 : decode k_acknowledged 90 = .ok (.getfield 84, 3) := by decide +kernel
theorem d_acknowledged_93 : decode k_acknowledged 93 = .ok (.iload_n 1, 1) := by decide +kernel
theorem d_acknowledged_94 : decode k_acknowledged 94 = .ok (.iconst 0, 1) := by decide +kernel
theorem d_acknowledged_95 : decode k_acknowledged 95 = .ok (.iastore, 1) := by decide +kernel
theorem d_acknowledged_96 : decode k_acknowledged 96 = .ok (.aload_n 0, 1) := by decide +kernel
theorem d_acknowledged_97 : decode k_acknowledged 97 = .ok (.getfield 78, 3) := by decide +kernel
theorem d_acknowledged_100 : decode k_acknowledged 100 = .ok (.iload_n 1, 1) := by decide +kernel
theorem d_acknowledged_101 : decode k_acknowledged 101 = .ok (.iconst 0, 1) := by decide +kernel
theorem d_acknowledged_102 : decode k_acknowledged 102 = .ok (.iastore, 1) := by decide +kernel
theorem d_acknowledged_103 : decode k_acknowledged 103 = .ok (.aload_n 0, 1) := by decide +kernel
theorem d_acknowledged_104 : decode k_acknowledged 104 = .ok (.getfield 113, 3) := by decide +kernel
theorem d_acknowledged_107 : decode k_acknowledged 107 = .ok (.iload_n 1, 1) := by decide +kernel
theorem d_acknowledged_108 : decode k_acknowledged 108 = .ok (.ldc2_w 111, 3) := by decide +kernel
theorem d_acknowledged_111 : decode k_acknowledged 111 = .ok (.lastore, 1) := by decide +kernel
theorem d_acknowledged_112 : decode k_acknowledged 112 = .ok (.goto 85, 3) := by decide +kernel
theorem d_acknowledged_115 : decode k_acknowledged 115 = .ok (.aload_n 0, 1) := by decide +kernel
theorem d_acknowledged_116 : decode k_acknowledged 116 = .ok (.getfield 248, 3) := by decide +kernel
theorem d_acknowledged_119 : decode k_acknowledged 119 = .ok (.aload_n 0, 1) := by decide +kernel
theorem d_acknowledged_120 : decode k_acknowledged 120 = .ok (.getfield 45, 3) := by decide +kernel
theorem d_acknowledged_123 : decode k_acknowledged 123 = .ok (.iload_n 1, 1) := by decide +kernel
theorem d_acknowledged_124 : decode k_acknowledged 124 = .ok (.iaload, 1) := by decide +kernel
theorem d_acknowledged_125 : decode k_acknowledged 125 = .ok (.if_icmp .ne 72, 3) := by decide +kernel
theorem d_acknowledged_128 : decode k_acknowledged 128 = .ok (.aload_n 0, 1) := by decide +kernel
theorem d_acknowledged_129 : decode k_acknowledged 129 = .ok (.getfield 245, 3) := by decide +kernel
theorem d_acknowledged_132 : decode k_acknowledged 132 = .ok (.ifCond .ne 65, 3) := by decide +kernel
theorem d_acknowledged_135 : decode k_acknowledged 135 = .ok (.aload_n 0, 1) := by decide +kernel
theorem d_acknowledged_136 : decode k_acknowledged 136 = .ok (.getfield 242, 3) := by decide +kernel
theorem d_acknowledged_139 : decode k_acknowledged 139 = .ok (.iconst 1, 1) := by decide +kernel
theorem d_acknowledged_140 : decode k_acknowledged 140 = .ok (.iand, 1) := by decide +kernel
theorem d_acknowledged_141 : decode k_acknowledged 141 = .ok (.ifCond .ne 56, 3) := by decide +kernel
theorem d_acknowledged_144 : decode k_acknowledged 144 = .ok (.aload_n 0, 1) := by decide +kernel
theorem d_acknowledged_145 : decode k_acknowledged 145 = .ok (.getfield 263, 3) := by decide +kernel
theorem d_acknowledged_148 : decode k_acknowledged 148 = .ok (.aload_n 0, 1) := by decide +kernel
theorem d_acknowledged_149 : decode k_acknowledged 149 = .ok (.getfield 54, 3) := by decide +kernel
theorem d_acknowledged_152 : decode k_acknowledged 152 = .ok (.iload_n 1, 1) := by decide +kernel
theorem d_acknowledged_153 : decode k_acknowledged 153 = .ok (.iaload, 1) := by decide +kernel
theorem d_acknowledged_154 : decode k_acknowledged 154 = .ok (.if_icmp .ne 43, 3) := by decide +kernel
theorem d_acknowledged_157 : decode k_acknowledged 157 = .ok (.aload_n 0, 1) := by decide +kernel
theorem d_acknowledged_158 : decode k_acknowledged 158 = .ok (.getfield 48, 3) := by decide +kernel
theorem d_acknowledged_161 : decode k_acknowledged 161 = .ok (.iload_n 1, 1) := by decide +kernel
theorem d_acknowledged_162 : decode k_acknowledged 162 = .ok (.iaload, 1) := by decide +kernel
theorem d_acknowledged_163 : decode k_acknowledged 163 = .ok (.aload_n 0, 1) := by decide +kernel
theorem d_acknowledged_164 : decode k_acknowledged 164 = .ok (.getfield 45, 3) := by decide +kernel
theorem d_acknowledged_167 : decode k_acknowledged 167 = .ok (.iload_n 1, 1) := by decide +kernel
theorem d_acknowledged_168 : decode k_acknowledged 168 = .ok (.iaload, 1) := by decide +kernel
theorem d_acknowledged_169 : decode k_acknowledged 169 = .ok (.if_icmp .eq 28, 3) := by decide +kernel
theorem d_acknowledged_172 : decode k_acknowledged 172 = .ok (.aload_n 0, 1) := by decide +kernel
theorem d_acknowledged_173 : decode k_acknowledged 173 = .ok (.getfield 78, 3) := by decide +kernel
theorem d_acknowledged_176 : decode k_acknowledged 176 = .ok (.iload_n 1, 1) := by decide +kernel
theorem d_acknowledged_177 : decode k_acknowledged 177 = .ok (.dup2, 1) := by decide +kernel
theorem d_acknowledged_178 : decode k_acknowledged 178 = .ok (.iaload, 1) := by decide +kernel
theorem d_acknowledged_179 : decode k_acknowledged 179 = .ok (.iconst 1, 1) := by decide +kernel
theorem d_acknowledged_180 : decode k_acknowledged 180 = .ok (.iadd, 1) := by decide +kernel
theorem d_acknowledged_181 : decode k_acknowledged 181 = .ok (.iastore, 1) := by decide +kernel
theorem d_acknowledged_182 : decode k_acknowledged 182 = .ok (.aload_n 0, 1) := by decide +kernel
theorem d_acknowledged_183 : decode k_acknowledged 183 = .ok (.getfield 78, 3) := by decide +kernel
theorem d_acknowledged_186 : decode k_acknowledged 186 = .ok (.iload_n 1, 1) := by decide +kernel
theorem d_acknowledged_187 : decode k_acknowledged 187 = .ok (.iaload, 1) := by decide +kernel
theorem d_acknowledged_188 : decode k_acknowledged 188 = .ok (.iconst 3, 1) := by decide +kernel
theorem d_acknowledged_189 : decode k_acknowledged 189 = .ok (.if_icmp .ne 8, 3) := by decide +kernel
theorem d_acknowledged_192 : decode k_acknowledged 192 = .ok (.aload_n 0, 1) := by decide +kernel
theorem d_acknowledged_193 : decode k_acknowledged 193 = .ok (.iload_n 1, 1) := by decide +kernel
theorem d_acknowledged_194 : decode k_acknowledged 194 = .ok (.invokevirtual 302, 3) := by decide +kernel
theorem d_acknowledged_197 : decode k_acknowledged 197 = .ok (.aload_n 0, 1) := by decide +kernel
theorem d_acknowledged_198 : decode k_acknowledged 198 = .ok (.getfield 248, 3) := by decide +kernel
theorem d_acknowledged_201 : decode k_acknowledged 201 = .ok (.aload_n 0, 1) := by decide +kernel
theorem d_acknowledged_202 : decode k_acknowledged 202 = .ok (.getfield 45, 3) := by decide +kernel
theorem d_acknowledged_205 : decode k_acknowledged 205 = .ok (.iload_n 1, 1) := by decide +kernel
theorem d_acknowledged_206 : decode k_acknowledged 206 = .ok (.iaload, 1) := by decide +kernel
theorem d_acknowledged_207 : decode k_acknowledged 207 = .ok (.isub, 1) := by decide +kernel
theorem d_acknowledged_208 : decode k_acknowledged 208 = .ok (.ifCond .lt 67, 3) := by decide +kernel
theorem d_acknowledged_211 : decode k_acknowledged 211 = .ok (.aload_n 0, 1) := by decide +kernel
theorem d_acknowledged_212 : decode k_acknowledged 212 = .ok (.getfield 251, 3) := by decide +kernel
theorem d_acknowledged_215 : decode k_acknowledged 215 = .ok (.aload_n 0, 1) := by decide +kernel
theorem d_acknowledged_216 : decode k_acknowledged 216 = .ok (.getfield 57, 3) := by decide +kernel
theorem d_acknowledged_219 : decode k_acknowledged 219 = .ok (.iload_n 1, 1) := by decide +kernel
theorem d_acknowledged_220 : decode k_acknowledged 220 = .ok (.iaload, 1) := by decide +kernel
theorem d_acknowledged_221 : decode k_acknowledged 221 = .ok (.invokestatic 188, 3) := by decide +kernel
theorem d_acknowledged_224 : decode k_acknowledged 224 = .ok (.ifCond .ne 30, 3) := by decide +kernel
theorem d_acknowledged_227 : decode k_acknowledged 227 = .ok (.aload_n 0, 1) := by decide +kernel
theorem d_acknowledged_228 : decode k_acknowledged 228 = .ok (.getfield 251, 3) := by decide +kernel
theorem d_acknowledged_231 : decode k_acknowledged 231 = .ok (.aload_n 0, 1) := by decide +kernel
theorem d_acknowledged_232 : decode k_acknowledged 232 = .ok (.getfield 57, 3) := by decide +kernel
theorem d_acknowledged_235 : decode k_acknowledged 235 = .ok (.iload_n 1, 1) := by decide +kernel
theorem d_acknowledged_236 : decode k_acknowledged 236 = .ok (.iaload, 1) := by decide +kernel
theorem d_acknowledged_237 : decode k_acknowledged 237 = .ok (.if_icmp .ne 38, 3) := by decide +kernel
theorem d_acknowledged_240 : decode k_acknowledged 240 = .ok (.aload_n 0, 1) := by decide +kernel
theorem d_acknowledged_241 : decode k_acknowledged 241 = .ok (.getfield 248, 3) := by decide +kernel
theorem d_acknowledged_244 : decode k_acknowledged 244 = .ok (.aload_n 0, 1) := by decide +kernel
theorem d_acknowledged_245 : decode k_acknowledged 245 = .ok (.getfield 60, 3) := by decide +kernel
theorem d_acknowledged_248 : decode k_acknowledged 248 = .ok (.iload_n 1, 1) := by decide +kernel
theorem d_acknowledged_249 : decode k_acknowledged 249 = .ok (.iaload, 1) := by decide +kernel
theorem d_acknowledged_250 : decode k_acknowledged 250 = .ok (.isub, 1) := by decide +kernel
theorem d_acknowledged_251 : decode k_acknowledged 251 = .ok (.ifCond .lt 24, 3) := by decide +kernel
theorem d_acknowledged_254 : decode k_acknowledged 254 = .ok (.aload_n 0, 1) := by decide +kernel
theorem d_acknowledged_255 : decode k_acknowledged 255 = .ok (.iload_n 1, 1) := by decide +kernel
theorem d_acknowledged_256 : decode k_acknowledged 256 = .ok (.invokevirtual 275, 3) := by decide +kernel
theorem d_acknowledged_259 : decode k_acknowledged 259 = .ok (.aload_n 0, 1) := by decide +kernel
theorem d_acknowledged_260 : decode k_acknowledged 260 = .ok (.getfield 54, 3) := by decide +kernel
theorem d_acknowledged_263 : decode k_acknowledged 263 = .ok (.iload_n 1, 1) := by decide +kernel
theorem d_acknowledged_264 : decode k_acknowledged 264 = .ok (.iaload, 1) := by decide +kernel
theorem d_acknowledged_265 : decode k_acknowledged 265 = .ok (.ifCond .ne 10, 3) := by decide +kernel
theorem d_acknowledged_268 : decode k_acknowledged 268 = .ok (.aload_n 0, 1) := by decide +kernel
theorem d_acknowledged_269 : decode k_acknowledged 269 = .ok (.getfield 84, 3) := by decide +kernel
theorem d_acknowledged_272 : decode k_acknowledged 272 = .ok (.iload_n 1, 1) := by decide +kernel
theorem d_acknowledged_273 : decode k_acknowledged 273 = .ok (.iconst 0, 1) := by decide +kernel
theorem d_acknowledged_274 : decode k_acknowledged 274 = .ok (.iastore, 1) := by decide +kernel
theorem d_acknowledged_275 : decode k_acknowledged 275 = .ok (.aload_n 0, 1) := by decide +kernel
theorem d_acknowledged_276 : decode k_acknowledged 276 = .ok (.getfield 123, 3) := by decide +kernel
theorem d_acknowledged_279 : decode k_acknowledged 279 = .ok (.iload_n 1, 1) := by decide +kernel
theorem d_acknowledged_280 : decode k_acknowledged 280 = .ok (.baload, 1) := by decide +kernel
theorem d_acknowledged_281 : decode k_acknowledged 281 = .ok (.ifCond .eq 20, 3) := by decide +kernel
theorem d_acknowledged_284 : decode k_acknowledged 284 = .ok (.aload_n 0, 1) := by decide +kernel
theorem d_acknowledged_285 : decode k_acknowledged 285 = .ok (.getfield 45, 3) := by decide +kernel
theorem d_acknowledged_288 : decode k_acknowledged 288 = .ok (.iload_n 1, 1) := by decide +kernel
theorem d_acknowledged_289 : decode k_acknowledged 289 = .ok (.iaload, 1) := by decide +kernel
theorem d_acknowledged_290 : decode k_acknowledged 290 = .ok (.aload_n 0, 1) := by decide +kernel
theorem d_acknowledged_291 : decode k_acknowledged 291 = .ok (.iload_n 1, 1) := by decide +kernel
theorem d_acknowledged_292 : decode k_acknowledged 292 = .ok (.invokevirtual 212, 3) := by decide +kernel
theorem d_acknowledged_295 : decode k_acknowledged 295 = .ok (.invokestatic 188, 3) := by decide +kernel
theorem d_acknowledged_298 : decode k_acknowledged 298 = .ok (.ifCond .ne 5, 3) := by decide +kernel
theorem d_acknowledged_301 : decode k_acknowledged 301 = .ok (.iconst 1, 1) := by decide +kernel
theorem d_acknowledged_302 : decode k_acknowledged 302 = .ok (.ireturn, 1) := by decide +kernel
theorem d_acknowledged_303 : decode k_acknowledged 303 = .ok (.aload_n 0, 1) := by decide +kernel
theorem d_acknowledged_304 : decode k_acknowledged 304 = .ok (.getfield 39, 3) := by decide +kernel
theorem d_acknowledged_307 : decode k_acknowledged 307 = .ok (.iload_n 1, 1) := by decide +kernel
theorem d_acknowledged_308 : decode k_acknowledged 308 = .ok (.iaload, 1) := by decide +kernel
theorem d_acknowledged_309 : decode k_acknowledged 309 = .ok (.iconst 5, 1) := by decide +kernel
theorem d_acknowledged_310 : decode k_acknowledged 310 = .ok (.if_icmp .ne 14, 3) := by decide +kernel
theorem d_acknowledged_313 : decode k_acknowledged 313 = .ok (.aload_n 0, 1) := by decide +kernel
theorem d_acknowledged_314 : decode k_acknowledged 314 = .ok (.getfield 39, 3) := by decide +kernel
theorem d_acknowledged_317 : decode k_acknowledged 317 = .ok (.iload_n 1, 1) := by decide +kernel
theorem d_acknowledged_318 : decode k_acknowledged 318 = .ok (.bipush 6, 2) := by decide +kernel
theorem d_acknowledged_320 : decode k_acknowledged 320 = .ok (.iastore, 1) := by decide +kernel
theorem d_acknowledged_321 : decode k_acknowledged 321 = .ok (.goto 43, 3) := by decide +kernel
theorem d_acknowledged_324 : decode k_acknowledged 324 = .ok (.aload_n 0, 1) := by decide +kernel
theorem d_acknowledged_325 : decode k_acknowledged 325 = .ok (.getfield 39, 3) := by decide +kernel
theorem d_acknowledged_328 : decode k_acknowledged 328 = .ok (.iload_n 1, 1) := by decide +kernel
theorem d_acknowledged_329 : decode k_acknowledged 329 = .ok (.iaload, 1) := by decide +kernel
theorem d_acknowledged_330 : decode k_acknowledged 330 = .ok (.bipush 8, 2) := by decide +kernel
theorem d_acknowledged_332 : decode k_acknowledged 332 = .ok (.if_icmp .ne 14, 3) := by decide +kernel
theorem d_acknowledged_335 : decode k_acknowledged 335 = .ok (.aload_n 0, 1) := by decide +kernel
theorem d_acknowledged_336 : decode k_acknowledged 336 = .ok (.getfield 39, 3) := by decide +kernel
theorem d_acknowledged_339 : decode k_acknowledged 339 = .ok (.iload_n 1, 1) := by decide +kernel
theorem d_acknowledged_340 : decode k_acknowledged 340 = .ok (.bipush 10, 2) := by decide +kernel
theorem d_acknowledged_342 : decode k_acknowledged 342 = .ok (.iastore, 1) := by decide +kernel
theorem d_acknowledged_343 : decode k_acknowledged 343 = .ok (.goto 21, 3) := by decide +kernel
theorem d_acknowledged_346 : decode k_acknowledged 346 = .ok (.aload_n 0, 1) := by decide +kernel
theorem d_acknowledged_347 : decode k_acknowledged 347 = .ok (.getfield 39, 3) := by decide +kernel
theorem d_acknowledged_350 : decode k_acknowledged 350 = .ok (.iload_n 1, 1) := by decide +kernel
theorem d_acknowledged_351 : decode k_acknowledged 351 = .ok (.iaload, 1) := by decide +kernel
theorem d_acknowledged_352 : decode k_acknowledged 352 = .ok (.bipush 9, 2) := by decide +kernel
theorem d_acknowledged_354 : decode k_acknowledged 354 = .ok (.if_icmp .ne 10, 3) := by decide +kernel
theorem d_acknowledged_357 : decode k_acknowledged 357 = .ok (.aload_n 0, 1) := by decide +kernel
theorem d_acknowledged_358 : decode k_acknowledged 358 = .ok (.iload_n 1, 1) := by decide +kernel
theorem d_acknowledged_359 : decode k_acknowledged 359 = .ok (.invokevirtual 215, 3) := by decide +kernel
theorem d_acknowledged_362 : decode k_acknowledged 362 = .ok (.iconst 0, 1) := by decide +kernel
theorem d_acknowledged_363 : decode k_acknowledged 363 = .ok (.ireturn, 1) := by decide +kernel
theorem d_acknowledged_364 : decode k_acknowledged 364 = .ok (.iconst 1, 1) := by decide +kernel
theorem d_acknowledged_365 : decode k_acknowledged 365 = .ok (.ireturn, 1) := by decide +kernel
def b_acknowledged_364 (ρ : RS) : Option (Int32 × RS) :=
  gd ((1 : Int32) = 0 ∨ (1 : Int32) = 1) (some ((1 : Int32), ρ))
def b_acknowledged_301 (ρ : RS) : Option (Int32 × RS) :=
  gd ((1 : Int32) = 0 ∨ (1 : Int32) = 1) (some ((1 : Int32), ρ))
def b_acknowledged_275 (v1 : Int32) (ρ : RS) : Option (Int32 × RS) :=
  gd (inb v1 2) <| bd (ρ.1 36 v1.toNatClampNeg) fun x1 => if x1 = 0 then
  (b_acknowledged_301  ρ)
 else
  (gd (inb v1 2) <| bd (ρ.1 11 v1.toNatClampNeg) fun x2 => bc2 (m_finNumber v1 ρ) fun x4 r3 => bc2 (m_above x2 x4 r3) fun x6 r5 => if x6 = 0 then
  (b_acknowledged_301  r5)
 else
  (gd (inb v1 2) <| bd (r5.1 9 v1.toNatClampNeg) fun x7 => if x7 = (5 : Int32) then
  (gd (inb v1 2) <| bd (si r5 9 v1.toNatClampNeg (6 : Int32)) fun r12 => b_acknowledged_364  r12)
 else
  (gd (inb v1 2) <| bd (r5.1 9 v1.toNatClampNeg) fun x8 => if x8 = (8 : Int32) then
  (gd (inb v1 2) <| bd (si r5 9 v1.toNatClampNeg (10 : Int32)) fun r11 => b_acknowledged_364  r11)
 else
  (gd (inb v1 2) <| bd (r5.1 9 v1.toNatClampNeg) fun x9 => if x9 = (9 : Int32) then
  (bc (m_finished v1 r5) fun r10 => gd ((0 : Int32) = 0 ∨ (0 : Int32) = 1) (some ((0 : Int32), r10)))
 else
  (b_acknowledged_364  r5)))))
def b_acknowledged_254 (v1 : Int32) (ρ : RS) : Option (Int32 × RS) :=
  bc (m_follow v1 ρ) fun r1 => gd (inb v1 2) <| bd (r1.1 14 v1.toNatClampNeg) fun x2 => if x2 = 0 then
  (gd (inb v1 2) <| bd (si r1 24 v1.toNatClampNeg (0 : Int32)) fun r3 => b_acknowledged_275 v1 r3)
 else
  (b_acknowledged_275 v1 r1)
def b_acknowledged_197 (v1 : Int32) (ρ : RS) : Option (Int32 × RS) :=
  bd (ρ.1 0 47) fun x1 => gd (inb v1 2) <| bd (ρ.1 11 v1.toNatClampNeg) fun x2 => if (x1 - x2) < 0 then
  (b_acknowledged_275 v1 ρ)
 else
  (bd (ρ.1 0 46) fun x3 => gd (inb v1 2) <| bd (ρ.1 15 v1.toNatClampNeg) fun x4 => bc2 (m_above x3 x4 ρ) fun x6 r5 => if x6 = 0 then
  (bd (r5.1 0 46) fun x7 => gd (inb v1 2) <| bd (r5.1 15 v1.toNatClampNeg) fun x8 => if x7 = x8 then
  (bd (r5.1 0 47) fun x9 => gd (inb v1 2) <| bd (r5.1 16 v1.toNatClampNeg) fun x10 => if (x9 - x10) < 0 then
  (b_acknowledged_275 v1 r5)
 else
  (b_acknowledged_254 v1 r5))
 else
  (b_acknowledged_275 v1 r5))
 else
  (b_acknowledged_254 v1 r5))
def b_acknowledged_89 (v1 : Int32) (ρ : RS) : Option (Int32 × RS) :=
  gd (inb v1 2) <| bd (si ρ 24 v1.toNatClampNeg (0 : Int32)) fun r1 => gd (inb v1 2) <| bd (si r1 22 v1.toNatClampNeg (0 : Int32)) fun r2 => gd (inb v1 2) <| bd (sl r2 33 v1.toNatClampNeg (-1 : Int64)) fun r3 => b_acknowledged_197 v1 r3
def m_acknowledged (v1 : Int32) (ρ : RS) : Option (Int32 × RS) :=
  bd (ρ.1 0 47) fun x1 => gd (inb v1 2) <| bd (ρ.1 13 v1.toNatClampNeg) fun x2 => bc2 (m_above x1 x2 ρ) fun x4 r3 => if x4 = 0 then
  (bd (r3.1 0 47) fun x5 => gd (inb v1 2) <| bd (r3.1 11 v1.toNatClampNeg) fun x6 => bc2 (m_above x5 x6 r3) fun x8 r7 => if x8 = 0 then
  (bd (r7.1 0 47) fun x9 => gd (inb v1 2) <| bd (r7.1 11 v1.toNatClampNeg) fun x10 => if x9 = x10 then
  (bd (r7.1 0 51) fun x11 => if x11 = 0 then
  (bd (r7.1 0 48) fun x12 => if (x12 &&& (1 : Int32)) = 0 then
  (bd (r7.1 0 49) fun x13 => gd (inb v1 2) <| bd (r7.1 14 v1.toNatClampNeg) fun x14 => if x13 = x14 then
  (gd (inb v1 2) <| bd (r7.1 12 v1.toNatClampNeg) fun x15 => gd (inb v1 2) <| bd (r7.1 11 v1.toNatClampNeg) fun x16 => if x15 = x16 then
  (b_acknowledged_197 v1 r7)
 else
  (gd (inb v1 2) <| bd (r7.1 22 v1.toNatClampNeg) fun x17 => gd (inb v1 2) <| bd (si r7 22 v1.toNatClampNeg (x17 + (1 : Int32))) fun r18 => gd (inb v1 2) <| bd (r18.1 22 v1.toNatClampNeg) fun x19 => if x19 = (3 : Int32) then
  (bc (m_again v1 r18) fun r20 => b_acknowledged_197 v1 r20)
 else
  (b_acknowledged_197 v1 r18)))
 else
  (b_acknowledged_197 v1 r7))
 else
  (b_acknowledged_197 v1 r7))
 else
  (b_acknowledged_197 v1 r7))
 else
  (b_acknowledged_197 v1 r7))
 else
  (bd (r7.1 0 47) fun x21 => bc (m_measured v1 x21 r7) fun r22 => bc (m_grown v1 r22) fun r23 => bd (r23.1 0 47) fun x24 => gd (inb v1 2) <| bd (si r23 11 v1.toNatClampNeg x24) fun r25 => bd (r25.1 0 47) fun x26 => gd (inb v1 2) <| bd (r25.1 12 v1.toNatClampNeg) fun x27 => bc2 (m_above x26 x27 r25) fun x29 r28 => if x29 = 0 then
  (b_acknowledged_89 v1 r28)
 else
  (bd (r28.1 0 47) fun x30 => gd (inb v1 2) <| bd (si r28 12 v1.toNatClampNeg x30) fun r31 => b_acknowledged_89 v1 r31)))
 else
  (bc (m_sendAck v1 r3) fun r32 => gd ((0 : Int32) = 0 ∨ (0 : Int32) = 1) (some ((0 : Int32), r32)))
section
variable {p : Program} {l : Launch} {e : Env} {s : State} {m : MethodId} {args : Array Value} {below : List Frame} {meth : Method} {c : Code} {D : va_G} {tc : Nat → ClassId} {o : Nat}
theorem t_acknowledged_364 (S : RC p m c k_acknowledged 2 s args cn_M meth (some .boolean) D tc) (ρ : RS) {B : Int32 × RS} (h : b_acknowledged_364  ρ = some B) {ls : Array Slot} {H : Heap} {locs : List Loc} (hl : lv_has ls 2 []) (hW : RWS D tc o s ρ H locs) : W p l e { frames := 5, cells := 0, slots := 0, locals := 127 } s m args below meth c H locs 0 0 (MQ below (RQ D tc o (some (.int B.1)) B.2) args s 0 0 (rreg o)) (F0 m 364 ls []) := by
  have hx := S.1.1
  have hb := S.1.2.1
  unfold b_acknowledged_364 at h
  refine lv_iconst (v := 1) hx hb d_acknowledged_364 (by decide) ?_
  exact rm_zret S hW d_acknowledged_365 h
theorem t_acknowledged_301 (S : RC p m c k_acknowledged 2 s args cn_M meth (some .boolean) D tc) (ρ : RS) {B : Int32 × RS} (h : b_acknowledged_301  ρ = some B) {ls : Array Slot} {H : Heap} {locs : List Loc} (hl : lv_has ls 2 []) (hW : RWS D tc o s ρ H locs) : W p l e { frames := 5, cells := 0, slots := 0, locals := 127 } s m args below meth c H locs 0 0 (MQ below (RQ D tc o (some (.int B.1)) B.2) args s 0 0 (rreg o)) (F0 m 301 ls []) := by
  have hx := S.1.1
  have hb := S.1.2.1
  unfold b_acknowledged_301 at h
  refine lv_iconst (v := 1) hx hb d_acknowledged_301 (by decide) ?_
  exact rm_zret S hW d_acknowledged_302 h
theorem t_acknowledged_275 (S : RC p m c k_acknowledged 2 s args cn_M meth (some .boolean) D tc) (v1 : Int32) (ρ : RS) {B : Int32 × RS} (h : b_acknowledged_275 v1 ρ = some B) {ls : Array Slot} {H : Heap} {locs : List Loc} (hl : lv_has ls 2 [(0, .ref o), (1, .int v1)]) (hW : RWS D tc o s ρ H locs) : W p l e { frames := 5, cells := 0, slots := 0, locals := 127 } s m args below meth c H locs 0 0 (MQ below (RQ D tc o (some (.int B.1)) B.2) args s 0 0 (rreg o)) (F0 m 275 ls []) := by
  have hx := S.1.1
  have hb := S.1.2.1
  unfold b_acknowledged_275 at h
  refine lv_aload_n hx hb d_acknowledged_275 rfl (lv_at hl 0 rfl) ?_
  refine rm_geta S hW 41 36 wd_1293 (by decide) d_acknowledged_276 ?_
  refine lv_iload_n hx hb d_acknowledged_279 rfl (lv_at hl 1 rfl) ?_
  refine rm_zald S hW 36 2 (by decide) d_acknowledged_280 h (fun x1 h => ?_)
  refine rb_eq (tgt := 301) hx hb d_acknowledged_281 (by decide) h (fun h => ?_) (fun h => ?_)
  · exact t_acknowledged_301 S  ρ h (lv_sub hl [] rfl) hW
  · refine lv_aload_n hx hb d_acknowledged_284 rfl (lv_at hl 0 rfl) ?_
    refine rm_geta S hW 16 11 wd_1268 (by decide) d_acknowledged_285 ?_
    refine lv_iload_n hx hb d_acknowledged_288 rfl (lv_at hl 1 rfl) ?_
    refine rm_iald S hW 11 2 (by decide) d_acknowledged_289 h (fun x2 h => ?_)
    refine lv_aload_n hx hb d_acknowledged_290 rfl (lv_at hl 0 rfl) ?_
    refine lv_iload_n hx hb d_acknowledged_291 rfl (lv_at hl 1 rfl) ?_
    refine rm_cVi [.int v1] S hW (fun x ρ' hc => c_finNumber v1 ρ hc) q_finNumber wd_1516 wd_49 wd_1514 (by decide) hl.1 rfl rfl (Nat.le_of_ble_eq_true rfl) d_acknowledged_292 h (fun x4 r3 H locs h hW => ?_)
    refine rm_cSi [.int x2, .int x4] S hW (fun x ρ' hc => c_above x2 x4 r3 hc) q_above wd_1456 wd_1455 (by decide) hl.1 rfl rfl (Nat.le_of_ble_eq_true rfl) d_acknowledged_295 h (fun x6 r5 H locs h hW => ?_)
    refine rb_ne (tgt := 303) hx hb d_acknowledged_298 (by decide) h (fun h => ?_) (fun h => ?_)
    · refine lv_aload_n hx hb d_acknowledged_303 rfl (lv_at hl 0 rfl) ?_
      refine rm_geta S hW 14 9 wd_1266 (by decide) d_acknowledged_304 ?_
      refine lv_iload_n hx hb d_acknowledged_307 rfl (lv_at hl 1 rfl) ?_
      refine rm_iald S hW 9 2 (by decide) d_acknowledged_308 h (fun x7 h => ?_)
      refine lv_iconst (v := 5) hx hb d_acknowledged_309 (by decide) ?_
      refine rc_ne (tgt := 324) hx hb d_acknowledged_310 (by decide) h (fun h => ?_) (fun h => ?_)
      · refine lv_aload_n hx hb d_acknowledged_324 rfl (lv_at hl 0 rfl) ?_
        refine rm_geta S hW 14 9 wd_1266 (by decide) d_acknowledged_325 ?_
        refine lv_iload_n hx hb d_acknowledged_328 rfl (lv_at hl 1 rfl) ?_
        refine rm_iald S hW 9 2 (by decide) d_acknowledged_329 h (fun x8 h => ?_)
        refine lv_bipush (v := 8) hx hb d_acknowledged_330 (by decide) ?_
        refine rc_ne (tgt := 346) hx hb d_acknowledged_332 (by decide) h (fun h => ?_) (fun h => ?_)
        · refine lv_aload_n hx hb d_acknowledged_346 rfl (lv_at hl 0 rfl) ?_
          refine rm_geta S hW 14 9 wd_1266 (by decide) d_acknowledged_347 ?_
          refine lv_iload_n hx hb d_acknowledged_350 rfl (lv_at hl 1 rfl) ?_
          refine rm_iald S hW 9 2 (by decide) d_acknowledged_351 h (fun x9 h => ?_)
          refine lv_bipush (v := 9) hx hb d_acknowledged_352 (by decide) ?_
          refine rc_ne (tgt := 364) hx hb d_acknowledged_354 (by decide) h (fun h => ?_) (fun h => ?_)
          · exact t_acknowledged_364 S  r5 h (lv_sub hl [] rfl) hW
          · refine lv_aload_n hx hb d_acknowledged_357 rfl (lv_at hl 0 rfl) ?_
            refine lv_iload_n hx hb d_acknowledged_358 rfl (lv_at hl 1 rfl) ?_
            refine rm_cVv [.int v1] S hW (fun ρ' hc => c_finished v1 r5 hc) q_finished wd_1533 wd_51 wd_1531 (by decide) hl.1 rfl rfl (Nat.le_of_ble_eq_true rfl) d_acknowledged_359 h (fun r10 H locs h hW => ?_)
            refine lv_iconst (v := 0) hx hb d_acknowledged_362 (by decide) ?_
            exact rm_zret S hW d_acknowledged_363 h
        · refine lv_aload_n hx hb d_acknowledged_335 rfl (lv_at hl 0 rfl) ?_
          refine rm_geta S hW 14 9 wd_1266 (by decide) d_acknowledged_336 ?_
          refine lv_iload_n hx hb d_acknowledged_339 rfl (lv_at hl 1 rfl) ?_
          refine lv_bipush (v := 10) hx hb d_acknowledged_340 (by decide) ?_
          refine rm_iast S hW 9 2 (by decide) d_acknowledged_342 h (fun r11 H locs h hW => ?_)
          refine lv_goto (tgt := 364) hx hb d_acknowledged_343 (by decide) ?_
          exact t_acknowledged_364 S  r11 h (lv_sub hl [] rfl) hW
      · refine lv_aload_n hx hb d_acknowledged_313 rfl (lv_at hl 0 rfl) ?_
        refine rm_geta S hW 14 9 wd_1266 (by decide) d_acknowledged_314 ?_
        refine lv_iload_n hx hb d_acknowledged_317 rfl (lv_at hl 1 rfl) ?_
        refine lv_bipush (v := 6) hx hb d_acknowledged_318 (by decide) ?_
        refine rm_iast S hW 9 2 (by decide) d_acknowledged_320 h (fun r12 H locs h hW => ?_)
        refine lv_goto (tgt := 364) hx hb d_acknowledged_321 (by decide) ?_
        exact t_acknowledged_364 S  r12 h (lv_sub hl [] rfl) hW
    · exact t_acknowledged_301 S  r5 h (lv_sub hl [] rfl) hW
theorem t_acknowledged_254 (S : RC p m c k_acknowledged 2 s args cn_M meth (some .boolean) D tc) (v1 : Int32) (ρ : RS) {B : Int32 × RS} (h : b_acknowledged_254 v1 ρ = some B) {ls : Array Slot} {H : Heap} {locs : List Loc} (hl : lv_has ls 2 [(0, .ref o), (1, .int v1)]) (hW : RWS D tc o s ρ H locs) : W p l e { frames := 5, cells := 0, slots := 0, locals := 127 } s m args below meth c H locs 0 0 (MQ below (RQ D tc o (some (.int B.1)) B.2) args s 0 0 (rreg o)) (F0 m 254 ls []) := by
  have hx := S.1.1
  have hb := S.1.2.1
  unfold b_acknowledged_254 at h
  refine lv_aload_n hx hb d_acknowledged_254 rfl (lv_at hl 0 rfl) ?_
  refine lv_iload_n hx hb d_acknowledged_255 rfl (lv_at hl 1 rfl) ?_
  refine rm_cVv [.int v1] S hW (fun ρ' hc => c_follow v1 ρ hc) q_follow wd_1603 wd_65 wd_1601 (by decide) hl.1 rfl rfl (Nat.le_of_ble_eq_true rfl) d_acknowledged_256 h (fun r1 H locs h hW => ?_)
  refine lv_aload_n hx hb d_acknowledged_259 rfl (lv_at hl 0 rfl) ?_
  refine rm_geta S hW 19 14 wd_1271 (by decide) d_acknowledged_260 ?_
  refine lv_iload_n hx hb d_acknowledged_263 rfl (lv_at hl 1 rfl) ?_
  refine rm_iald S hW 14 2 (by decide) d_acknowledged_264 h (fun x2 h => ?_)
  refine rb_ne (tgt := 275) hx hb d_acknowledged_265 (by decide) h (fun h => ?_) (fun h => ?_)
  · exact t_acknowledged_275 S v1 r1 h (lv_sub hl [0, 1] rfl) hW
  · refine lv_aload_n hx hb d_acknowledged_268 rfl (lv_at hl 0 rfl) ?_
    refine rm_geta S hW 29 24 wd_1281 (by decide) d_acknowledged_269 ?_
    refine lv_iload_n hx hb d_acknowledged_272 rfl (lv_at hl 1 rfl) ?_
    refine lv_iconst (v := 0) hx hb d_acknowledged_273 (by decide) ?_
    refine rm_iast S hW 24 2 (by decide) d_acknowledged_274 h (fun r3 H locs h hW => ?_)
    exact t_acknowledged_275 S v1 r3 h (lv_sub hl [0, 1] rfl) hW
theorem t_acknowledged_197 (S : RC p m c k_acknowledged 2 s args cn_M meth (some .boolean) D tc) (v1 : Int32) (ρ : RS) {B : Int32 × RS} (h : b_acknowledged_197 v1 ρ = some B) {ls : Array Slot} {H : Heap} {locs : List Loc} (hl : lv_has ls 2 [(0, .ref o), (1, .int v1)]) (hW : RWS D tc o s ρ H locs) : W p l e { frames := 5, cells := 0, slots := 0, locals := 127 } s m args below meth c H locs 0 0 (MQ below (RQ D tc o (some (.int B.1)) B.2) args s 0 0 (rreg o)) (F0 m 197 ls []) := by
  have hx := S.1.1
  have hb := S.1.2.1
  unfold b_acknowledged_197 at h
  refine lv_aload_n hx hb d_acknowledged_197 rfl (lv_at hl 0 rfl) ?_
  refine rm_geti S hW 47 wd_1299 (by decide) d_acknowledged_198 h (fun x1 h => ?_)
  refine lv_aload_n hx hb d_acknowledged_201 rfl (lv_at hl 0 rfl) ?_
  refine rm_geta S hW 16 11 wd_1268 (by decide) d_acknowledged_202 ?_
  refine lv_iload_n hx hb d_acknowledged_205 rfl (lv_at hl 1 rfl) ?_
  refine rm_iald S hW 11 2 (by decide) d_acknowledged_206 h (fun x2 h => ?_)
  refine lv_isub hx hb d_acknowledged_207 ?_
  refine rb_lt (tgt := 275) hx hb d_acknowledged_208 (by decide) h (fun h => ?_) (fun h => ?_)
  · exact t_acknowledged_275 S v1 ρ h (lv_sub hl [0, 1] rfl) hW
  · refine lv_aload_n hx hb d_acknowledged_211 rfl (lv_at hl 0 rfl) ?_
    refine rm_geti S hW 46 wd_1298 (by decide) d_acknowledged_212 h (fun x3 h => ?_)
    refine lv_aload_n hx hb d_acknowledged_215 rfl (lv_at hl 0 rfl) ?_
    refine rm_geta S hW 20 15 wd_1272 (by decide) d_acknowledged_216 ?_
    refine lv_iload_n hx hb d_acknowledged_219 rfl (lv_at hl 1 rfl) ?_
    refine rm_iald S hW 15 2 (by decide) d_acknowledged_220 h (fun x4 h => ?_)
    refine rm_cSi [.int x3, .int x4] S hW (fun x ρ' hc => c_above x3 x4 ρ hc) q_above wd_1456 wd_1455 (by decide) hl.1 rfl rfl (Nat.le_of_ble_eq_true rfl) d_acknowledged_221 h (fun x6 r5 H locs h hW => ?_)
    refine rb_ne (tgt := 254) hx hb d_acknowledged_224 (by decide) h (fun h => ?_) (fun h => ?_)
    · exact t_acknowledged_254 S v1 r5 h (lv_sub hl [0, 1] rfl) hW
    · refine lv_aload_n hx hb d_acknowledged_227 rfl (lv_at hl 0 rfl) ?_
      refine rm_geti S hW 46 wd_1298 (by decide) d_acknowledged_228 h (fun x7 h => ?_)
      refine lv_aload_n hx hb d_acknowledged_231 rfl (lv_at hl 0 rfl) ?_
      refine rm_geta S hW 20 15 wd_1272 (by decide) d_acknowledged_232 ?_
      refine lv_iload_n hx hb d_acknowledged_235 rfl (lv_at hl 1 rfl) ?_
      refine rm_iald S hW 15 2 (by decide) d_acknowledged_236 h (fun x8 h => ?_)
      refine rc_ne (tgt := 275) hx hb d_acknowledged_237 (by decide) h (fun h => ?_) (fun h => ?_)
      · exact t_acknowledged_275 S v1 r5 h (lv_sub hl [0, 1] rfl) hW
      · refine lv_aload_n hx hb d_acknowledged_240 rfl (lv_at hl 0 rfl) ?_
        refine rm_geti S hW 47 wd_1299 (by decide) d_acknowledged_241 h (fun x9 h => ?_)
        refine lv_aload_n hx hb d_acknowledged_244 rfl (lv_at hl 0 rfl) ?_
        refine rm_geta S hW 21 16 wd_1273 (by decide) d_acknowledged_245 ?_
        refine lv_iload_n hx hb d_acknowledged_248 rfl (lv_at hl 1 rfl) ?_
        refine rm_iald S hW 16 2 (by decide) d_acknowledged_249 h (fun x10 h => ?_)
        refine lv_isub hx hb d_acknowledged_250 ?_
        refine rb_lt (tgt := 275) hx hb d_acknowledged_251 (by decide) h (fun h => ?_) (fun h => ?_)
        · exact t_acknowledged_275 S v1 r5 h (lv_sub hl [0, 1] rfl) hW
        · exact t_acknowledged_254 S v1 r5 h (lv_sub hl [0, 1] rfl) hW
theorem t_acknowledged_89 (S : RC p m c k_acknowledged 2 s args cn_M meth (some .boolean) D tc) (v1 : Int32) (ρ : RS) {B : Int32 × RS} (h : b_acknowledged_89 v1 ρ = some B) {ls : Array Slot} {H : Heap} {locs : List Loc} (hl : lv_has ls 2 [(0, .ref o), (1, .int v1)]) (hW : RWS D tc o s ρ H locs) : W p l e { frames := 5, cells := 0, slots := 0, locals := 127 } s m args below meth c H locs 0 0 (MQ below (RQ D tc o (some (.int B.1)) B.2) args s 0 0 (rreg o)) (F0 m 89 ls []) := by
  have hx := S.1.1
  have hb := S.1.2.1
  unfold b_acknowledged_89 at h
  refine lv_aload_n hx hb d_acknowledged_89 rfl (lv_at hl 0 rfl) ?_
  refine rm_geta S hW 29 24 wd_1281 (by decide) d_acknowledged_90 ?_
  refine lv_iload_n hx hb d_acknowledged_93 rfl (lv_at hl 1 rfl) ?_
  refine lv_iconst (v := 0) hx hb d_acknowledged_94 (by decide) ?_
  refine rm_iast S hW 24 2 (by decide) d_acknowledged_95 h (fun r1 H locs h hW => ?_)
  refine lv_aload_n hx hb d_acknowledged_96 rfl (lv_at hl 0 rfl) ?_
  refine rm_geta S hW 27 22 wd_1279 (by decide) d_acknowledged_97 ?_
  refine lv_iload_n hx hb d_acknowledged_100 rfl (lv_at hl 1 rfl) ?_
  refine lv_iconst (v := 0) hx hb d_acknowledged_101 (by decide) ?_
  refine rm_iast S hW 22 2 (by decide) d_acknowledged_102 h (fun r2 H locs h hW => ?_)
  refine lv_aload_n hx hb d_acknowledged_103 rfl (lv_at hl 0 rfl) ?_
  refine rm_geta S hW 38 33 wd_1290 (by decide) d_acknowledged_104 ?_
  refine lv_iload_n hx hb d_acknowledged_107 rfl (lv_at hl 1 rfl) ?_
  refine lv_ldc2 hx hb S.1.2.2.2.1 (S.1.2.2.2.2 _ (gi wd_1249 rfl)) d_acknowledged_108 ?_
  refine rm_last S hW 33 2 (by decide) d_acknowledged_111 h (fun r3 H locs h hW => ?_)
  refine lv_goto (tgt := 197) hx hb d_acknowledged_112 (by decide) ?_
  exact t_acknowledged_197 S v1 r3 h (lv_sub hl [0, 1] rfl) hW
theorem t_acknowledged_0 (S : RC p m c k_acknowledged 2 s args cn_M meth (some .boolean) D tc) (v1 : Int32) (ρ : RS) {B : Int32 × RS} (h : m_acknowledged v1 ρ = some B) {ls : Array Slot} {H : Heap} {locs : List Loc} (hl : lv_has ls 2 [(0, .ref o), (1, .int v1)]) (hW : RWS D tc o s ρ H locs) : W p l e { frames := 5, cells := 0, slots := 0, locals := 127 } s m args below meth c H locs 0 0 (MQ below (RQ D tc o (some (.int B.1)) B.2) args s 0 0 (rreg o)) (F0 m 0 ls []) := by
  have hx := S.1.1
  have hb := S.1.2.1
  unfold m_acknowledged at h
  refine lv_aload_n hx hb d_acknowledged_0 rfl (lv_at hl 0 rfl) ?_
  refine rm_geti S hW 47 wd_1299 (by decide) d_acknowledged_1 h (fun x1 h => ?_)
  refine lv_aload_n hx hb d_acknowledged_4 rfl (lv_at hl 0 rfl) ?_
  refine rm_geta S hW 18 13 wd_1270 (by decide) d_acknowledged_5 ?_
  refine lv_iload_n hx hb d_acknowledged_8 rfl (lv_at hl 1 rfl) ?_
  refine rm_iald S hW 13 2 (by decide) d_acknowledged_9 h (fun x2 h => ?_)
  refine rm_cSi [.int x1, .int x2] S hW (fun x ρ' hc => c_above x1 x2 ρ hc) q_above wd_1456 wd_1455 (by decide) hl.1 rfl rfl (Nat.le_of_ble_eq_true rfl) d_acknowledged_10 h (fun x4 r3 H locs h hW => ?_)
  refine rb_eq (tgt := 23) hx hb d_acknowledged_13 (by decide) h (fun h => ?_) (fun h => ?_)
  · refine lv_aload_n hx hb d_acknowledged_23 rfl (lv_at hl 0 rfl) ?_
    refine rm_geti S hW 47 wd_1299 (by decide) d_acknowledged_24 h (fun x5 h => ?_)
    refine lv_aload_n hx hb d_acknowledged_27 rfl (lv_at hl 0 rfl) ?_
    refine rm_geta S hW 16 11 wd_1268 (by decide) d_acknowledged_28 ?_
    refine lv_iload_n hx hb d_acknowledged_31 rfl (lv_at hl 1 rfl) ?_
    refine rm_iald S hW 11 2 (by decide) d_acknowledged_32 h (fun x6 h => ?_)
    refine rm_cSi [.int x5, .int x6] S hW (fun x ρ' hc => c_above x5 x6 r3 hc) q_above wd_1456 wd_1455 (by decide) hl.1 rfl rfl (Nat.le_of_ble_eq_true rfl) d_acknowledged_33 h (fun x8 r7 H locs h hW => ?_)
    refine rb_eq (tgt := 115) hx hb d_acknowledged_36 (by decide) h (fun h => ?_) (fun h => ?_)
    · refine lv_aload_n hx hb d_acknowledged_115 rfl (lv_at hl 0 rfl) ?_
      refine rm_geti S hW 47 wd_1299 (by decide) d_acknowledged_116 h (fun x9 h => ?_)
      refine lv_aload_n hx hb d_acknowledged_119 rfl (lv_at hl 0 rfl) ?_
      refine rm_geta S hW 16 11 wd_1268 (by decide) d_acknowledged_120 ?_
      refine lv_iload_n hx hb d_acknowledged_123 rfl (lv_at hl 1 rfl) ?_
      refine rm_iald S hW 11 2 (by decide) d_acknowledged_124 h (fun x10 h => ?_)
      refine rc_ne (tgt := 197) hx hb d_acknowledged_125 (by decide) h (fun h => ?_) (fun h => ?_)
      · exact t_acknowledged_197 S v1 r7 h (lv_sub hl [0, 1] rfl) hW
      · refine lv_aload_n hx hb d_acknowledged_128 rfl (lv_at hl 0 rfl) ?_
        refine rm_geti S hW 51 wd_1303 (by decide) d_acknowledged_129 h (fun x11 h => ?_)
        refine rb_ne (tgt := 197) hx hb d_acknowledged_132 (by decide) h (fun h => ?_) (fun h => ?_)
        · exact t_acknowledged_197 S v1 r7 h (lv_sub hl [0, 1] rfl) hW
        · refine lv_aload_n hx hb d_acknowledged_135 rfl (lv_at hl 0 rfl) ?_
          refine rm_geti S hW 48 wd_1300 (by decide) d_acknowledged_136 h (fun x12 h => ?_)
          refine lv_iconst (v := 1) hx hb d_acknowledged_139 (by decide) ?_
          refine lv_iand hx hb d_acknowledged_140 ?_
          refine rb_ne (tgt := 197) hx hb d_acknowledged_141 (by decide) h (fun h => ?_) (fun h => ?_)
          · exact t_acknowledged_197 S v1 r7 h (lv_sub hl [0, 1] rfl) hW
          · refine lv_aload_n hx hb d_acknowledged_144 rfl (lv_at hl 0 rfl) ?_
            refine rm_geti S hW 49 wd_1301 (by decide) d_acknowledged_145 h (fun x13 h => ?_)
            refine lv_aload_n hx hb d_acknowledged_148 rfl (lv_at hl 0 rfl) ?_
            refine rm_geta S hW 19 14 wd_1271 (by decide) d_acknowledged_149 ?_
            refine lv_iload_n hx hb d_acknowledged_152 rfl (lv_at hl 1 rfl) ?_
            refine rm_iald S hW 14 2 (by decide) d_acknowledged_153 h (fun x14 h => ?_)
            refine rc_ne (tgt := 197) hx hb d_acknowledged_154 (by decide) h (fun h => ?_) (fun h => ?_)
            · exact t_acknowledged_197 S v1 r7 h (lv_sub hl [0, 1] rfl) hW
            · refine lv_aload_n hx hb d_acknowledged_157 rfl (lv_at hl 0 rfl) ?_
              refine rm_geta S hW 17 12 wd_1269 (by decide) d_acknowledged_158 ?_
              refine lv_iload_n hx hb d_acknowledged_161 rfl (lv_at hl 1 rfl) ?_
              refine rm_iald S hW 12 2 (by decide) d_acknowledged_162 h (fun x15 h => ?_)
              refine lv_aload_n hx hb d_acknowledged_163 rfl (lv_at hl 0 rfl) ?_
              refine rm_geta S hW 16 11 wd_1268 (by decide) d_acknowledged_164 ?_
              refine lv_iload_n hx hb d_acknowledged_167 rfl (lv_at hl 1 rfl) ?_
              refine rm_iald S hW 11 2 (by decide) d_acknowledged_168 h (fun x16 h => ?_)
              refine rc_eq (tgt := 197) hx hb d_acknowledged_169 (by decide) h (fun h => ?_) (fun h => ?_)
              · exact t_acknowledged_197 S v1 r7 h (lv_sub hl [0, 1] rfl) hW
              · refine lv_aload_n hx hb d_acknowledged_172 rfl (lv_at hl 0 rfl) ?_
                refine rm_geta S hW 27 22 wd_1279 (by decide) d_acknowledged_173 ?_
                refine lv_iload_n hx hb d_acknowledged_176 rfl (lv_at hl 1 rfl) ?_
                refine lv_dup2_11 hx hb d_acknowledged_177 rfl rfl ?_
                refine rm_iald S hW 22 2 (by decide) d_acknowledged_178 h (fun x17 h => ?_)
                refine lv_iconst (v := 1) hx hb d_acknowledged_179 (by decide) ?_
                refine lv_iadd hx hb d_acknowledged_180 ?_
                refine rm_iast S hW 22 2 (by decide) d_acknowledged_181 h (fun r18 H locs h hW => ?_)
                refine lv_aload_n hx hb d_acknowledged_182 rfl (lv_at hl 0 rfl) ?_
                refine rm_geta S hW 27 22 wd_1279 (by decide) d_acknowledged_183 ?_
                refine lv_iload_n hx hb d_acknowledged_186 rfl (lv_at hl 1 rfl) ?_
                refine rm_iald S hW 22 2 (by decide) d_acknowledged_187 h (fun x19 h => ?_)
                refine lv_iconst (v := 3) hx hb d_acknowledged_188 (by decide) ?_
                refine rc_ne (tgt := 197) hx hb d_acknowledged_189 (by decide) h (fun h => ?_) (fun h => ?_)
                · exact t_acknowledged_197 S v1 r18 h (lv_sub hl [0, 1] rfl) hW
                · refine lv_aload_n hx hb d_acknowledged_192 rfl (lv_at hl 0 rfl) ?_
                  refine lv_iload_n hx hb d_acknowledged_193 rfl (lv_at hl 1 rfl) ?_
                  refine rm_cVv [.int v1] S hW (fun ρ' hc => c_again v1 r18 hc) q_again wd_1642 wd_73 wd_1640 (by decide) hl.1 rfl rfl (Nat.le_of_ble_eq_true rfl) d_acknowledged_194 h (fun r20 H locs h hW => ?_)
                  exact t_acknowledged_197 S v1 r20 h (lv_sub hl [0, 1] rfl) hW
    · refine lv_aload_n hx hb d_acknowledged_39 rfl (lv_at hl 0 rfl) ?_
      refine lv_iload_n hx hb d_acknowledged_40 rfl (lv_at hl 1 rfl) ?_
      refine lv_aload_n hx hb d_acknowledged_41 rfl (lv_at hl 0 rfl) ?_
      refine rm_geti S hW 47 wd_1299 (by decide) d_acknowledged_42 h (fun x21 h => ?_)
      refine rm_cVv [.int v1, .int x21] S hW (fun ρ' hc => c_measured v1 x21 r7 hc) q_measured wd_1611 wd_67 wd_1609 (by decide) hl.1 rfl rfl (Nat.le_of_ble_eq_true rfl) d_acknowledged_45 h (fun r22 H locs h hW => ?_)
      refine lv_aload_n hx hb d_acknowledged_48 rfl (lv_at hl 0 rfl) ?_
      refine lv_iload_n hx hb d_acknowledged_49 rfl (lv_at hl 1 rfl) ?_
      refine rm_cVv [.int v1] S hW (fun ρ' hc => c_grown v1 r22 hc) q_grown wd_1638 wd_72 wd_1636 (by decide) hl.1 rfl rfl (Nat.le_of_ble_eq_true rfl) d_acknowledged_50 h (fun r23 H locs h hW => ?_)
      refine lv_aload_n hx hb d_acknowledged_53 rfl (lv_at hl 0 rfl) ?_
      refine rm_geta S hW 16 11 wd_1268 (by decide) d_acknowledged_54 ?_
      refine lv_iload_n hx hb d_acknowledged_57 rfl (lv_at hl 1 rfl) ?_
      refine lv_aload_n hx hb d_acknowledged_58 rfl (lv_at hl 0 rfl) ?_
      refine rm_geti S hW 47 wd_1299 (by decide) d_acknowledged_59 h (fun x24 h => ?_)
      refine rm_iast S hW 11 2 (by decide) d_acknowledged_62 h (fun r25 H locs h hW => ?_)
      refine lv_aload_n hx hb d_acknowledged_63 rfl (lv_at hl 0 rfl) ?_
      refine rm_geti S hW 47 wd_1299 (by decide) d_acknowledged_64 h (fun x26 h => ?_)
      refine lv_aload_n hx hb d_acknowledged_67 rfl (lv_at hl 0 rfl) ?_
      refine rm_geta S hW 17 12 wd_1269 (by decide) d_acknowledged_68 ?_
      refine lv_iload_n hx hb d_acknowledged_71 rfl (lv_at hl 1 rfl) ?_
      refine rm_iald S hW 12 2 (by decide) d_acknowledged_72 h (fun x27 h => ?_)
      refine rm_cSi [.int x26, .int x27] S hW (fun x ρ' hc => c_above x26 x27 r25 hc) q_above wd_1456 wd_1455 (by decide) hl.1 rfl rfl (Nat.le_of_ble_eq_true rfl) d_acknowledged_73 h (fun x29 r28 H locs h hW => ?_)
      refine rb_eq (tgt := 89) hx hb d_acknowledged_76 (by decide) h (fun h => ?_) (fun h => ?_)
      · exact t_acknowledged_89 S v1 r28 h (lv_sub hl [0, 1] rfl) hW
      · refine lv_aload_n hx hb d_acknowledged_79 rfl (lv_at hl 0 rfl) ?_
        refine rm_geta S hW 17 12 wd_1269 (by decide) d_acknowledged_80 ?_
        refine lv_iload_n hx hb d_acknowledged_83 rfl (lv_at hl 1 rfl) ?_
        refine lv_aload_n hx hb d_acknowledged_84 rfl (lv_at hl 0 rfl) ?_
        refine rm_geti S hW 47 wd_1299 (by decide) d_acknowledged_85 h (fun x30 h => ?_)
        refine rm_iast S hW 12 2 (by decide) d_acknowledged_88 h (fun r31 H locs h hW => ?_)
        exact t_acknowledged_89 S v1 r31 h (lv_sub hl [0, 1] rfl) hW
  · refine lv_aload_n hx hb d_acknowledged_16 rfl (lv_at hl 0 rfl) ?_
    refine lv_iload_n hx hb d_acknowledged_17 rfl (lv_at hl 1 rfl) ?_
    refine rm_cVv [.int v1] S hW (fun ρ' hc => c_sendAck v1 r3 hc) q_sendAck wd_1525 wd_50 wd_1523 (by decide) hl.1 rfl rfl (Nat.le_of_ble_eq_true rfl) d_acknowledged_18 h (fun r32 H locs h hW => ?_)
    refine lv_iconst (v := 0) hx hb d_acknowledged_21 (by decide) ?_
    exact rm_zret S hW d_acknowledged_22 h
theorem c_acknowledged (v1 : Int32) (ρ : RS) {x : Int32} {ρ' : RS} (h : m_acknowledged v1 ρ = some (x, ρ')) : RMet l D tc o y_acknowledged k_acknowledged 2 (some .boolean) 5 127 [.ref o, .int v1] ρ (some (.int x)) ρ' := rm_met (by decide) (Nat.le_of_ble_eq_true rfl) fun p e s m args below meth c S hW ls hl => t_acknowledged_0 S v1 ρ h hl hW
end

/-! received (I)V -/
abbrev k_received : ByteArray := prog_12_method_41_code
abbrev y_received : MethodName := ⟨cn_M, "received", "(I)V"⟩
theorem q_received : Calee y_received k_received 4 none 1 := ⟨wd_1647, wd_90, by decide, by decide +kernel⟩
theorem d_received_0 : decode k_received 0 = .ok (.iconst 0, 1) := by decide +kernel
theorem d_received_1 : decode k_received 1 = .ok (.istore_n 2, 1) := by decide +kernel
theorem d_received_2 : decode k_received 2 = .ok (.iload_n 2, 1) := by decide +kernel
theorem d_received_3 : decode k_received 3 = .ok (.aload_n 0, 1) := by decide +kernel
theorem d_received_4 : decode k_received 4 = .ok (.getfield 245, 3) := by decide +kernel
theorem d_received_7 : decode k_received 7 = .ok (.if_icmp .ge 83, 3) := by decide +kernel
theorem d_received_10 : decode k_received 10 = .ok (.ldc 7, 2) := by decide +kernel
theorem d_received_12 : decode k_received 12 = .ok (.iload_n 1, 1) := by decide +kernel
theorem d_received_13 : decode k_received 13 = .ok (.imul, 1) := by decide +kernel
theorem d_received_14 : decode k_received 14 = .ok (.aload_n 0, 1) := by decide +kernel
theorem d_received_15 : decode k_received 15 = .ok (.getfield 251, 3) := by decide +kernel
theorem d_received_18 : decode k_received 18 = .ok (.iload_n 2, 1) := by decide +kernel
theorem d_received_19 : decode k_received 19 = .ok (.iadd, 1) := by decide +kernel
theorem d_received_20 : decode k_received 20 = .ok (.ldc 32, 2) := by decide +kernel
theorem d_received_22 : decode k_received 22 = .ok (.iand, 1) := by decide +kernel
theorem d_received_23 : decode k_received 23 = .ok (.iadd, 1) := by decide +kernel
theorem d_received_24 : decode k_received 24 = .ok (.istore_n 3, 1) := by decide +kernel
theorem d_received_25 : decode k_received 25 = .ok (.aload_n 0, 1) := by decide +kernel
theorem d_received_26 : decode k_received 26 = .ok (.iload_n 1, 1) := by decide +kernel
theorem d_received_27 : decode k_received 27 = .ok (.aload_n 0, 1) := by decide +kernel
theorem d_received_28 : decode k_received 28 = .ok (.getfield 251, 3) := by decide +kernel
theorem d_received_31 : decode k_received 31 = .ok (.iload_n 2, 1) := by decide +kernel
theorem d_received_32 : decode k_received 32 = .ok (.iadd, 1) := by decide +kernel
theorem d_received_33 : decode k_received 33 = .ok (.invokevirtual 290, 3) := by decide +kernel
theorem d_received_36 : decode k_received 36 = .ok (.ifCond .eq 48, 3) := by decide +kernel
theorem d_received_39 : decode k_received 39 = .ok (.aload_n 0, 1) := by decide +kernel
theorem d_received_40 : decode k_received 40 = .ok (.getfield 137, 3) := by decide +kernel
theorem d_received_43 : decode k_received 43 = .ok (.iload_n 3, 1) := by decide +kernel
theorem d_received_44 : decode k_received 44 = .ok (.baload, 1) := by decide +kernel
theorem d_received_45 : decode k_received 45 = .ok (.ifCond .eq 6, 3) := by decide +kernel
theorem d_received_48 : decode k_received 48 = .ok (.goto 36, 3) := by decide +kernel
theorem d_received_51 : decode k_received 51 = .ok (.aload_n 0, 1) := by decide +kernel
theorem d_received_52 : decode k_received 52 = .ok (.getfield 137, 3) := by decide +kernel
theorem d_received_55 : decode k_received 55 = .ok (.iload_n 3, 1) := by decide +kernel
theorem d_received_56 : decode k_received 56 = .ok (.iconst 1, 1) := by decide +kernel
theorem d_received_57 : decode k_received 57 = .ok (.bastore, 1) := by decide +kernel
theorem d_received_58 : decode k_received 58 = .ok (.aload_n 0, 1) := by decide +kernel
theorem d_received_59 : decode k_received 59 = .ok (.getfield 134, 3) := by decide +kernel
theorem d_received_62 : decode k_received 62 = .ok (.iload_n 3, 1) := by decide +kernel
theorem d_received_63 : decode k_received 63 = .ok (.aload_n 0, 1) := by decide +kernel
theorem d_received_64 : decode k_received 64 = .ok (.getfield 15, 3) := by decide +kernel
theorem d_received_67 : decode k_received 67 = .ok (.sipush 1484, 3) := by decide +kernel
theorem d_received_70 : decode k_received 70 = .ok (.aload_n 0, 1) := by decide +kernel
theorem d_received_71 : decode k_received 71 = .ok (.getfield 254, 3) := by decide +kernel
theorem d_received_74 : decode k_received 74 = .ok (.imul, 1) := by decide +kernel
theorem d_received_75 : decode k_received 75 = .ok (.aload_n 0, 1) := by decide +kernel
theorem d_received_76 : decode k_received 76 = .ok (.getfield 266, 3) := by decide +kernel
theorem d_received_79 : decode k_received 79 = .ok (.iadd, 1) := by decide +kernel
theorem d_received_80 : decode k_received 80 = .ok (.iload_n 2, 1) := by decide +kernel
theorem d_received_81 : decode k_received 81 = .ok (.iadd, 1) := by decide +kernel
theorem d_received_82 : decode k_received 82 = .ok (.baload, 1) := by decide +kernel
theorem d_received_83 : decode k_received 83 = .ok (.bastore, 1) := by decide +kernel
theorem d_received_84 : decode k_received 84 = .ok (.iinc 2 1, 3) := by decide +kernel
theorem d_received_87 : decode k_received 87 = .ok (.goto (-85), 3) := by decide +kernel
theorem d_received_90 : decode k_received 90 = .ok (.aload_n 0, 1) := by decide +kernel
theorem d_received_91 : decode k_received 91 = .ok (.getfield 69, 3) := by decide +kernel
theorem d_received_94 : decode k_received 94 = .ok (.iload_n 1, 1) := by decide +kernel
theorem d_received_95 : decode k_received 95 = .ok (.iaload, 1) := by decide +kernel
theorem d_received_96 : decode k_received 96 = .ok (.aload_n 0, 1) := by decide +kernel
theorem d_received_97 : decode k_received 97 = .ok (.getfield 66, 3) := by decide +kernel
theorem d_received_100 : decode k_received 100 = .ok (.iload_n 1, 1) := by decide +kernel
theorem d_received_101 : decode k_received 101 = .ok (.iaload, 1) := by decide +kernel
theorem d_received_102 : decode k_received 102 = .ok (.invokestatic 188, 3) := by decide +kernel
theorem d_received_105 : decode k_received 105 = .ok (.ifCond .eq 68, 3) := by decide +kernel
theorem d_received_108 : decode k_received 108 = .ok (.aload_n 0, 1) := by decide +kernel
theorem d_received_109 : decode k_received 109 = .ok (.getfield 137, 3) := by decide +kernel
theorem d_received_112 : decode k_received 112 = .ok (.ldc 7, 2) := by decide +kernel
theorem d_received_114 : decode k_received 114 = .ok (.iload_n 1, 1) := by decide +kernel
theorem d_received_115 : decode k_received 115 = .ok (.imul, 1) := by decide +kernel
theorem d_received_116 : decode k_received 116 = .ok (.aload_n 0, 1) := by decide +kernel
theorem d_received_117 : decode k_received 117 = .ok (.getfield 66, 3) := by decide +kernel
theorem d_received_120 : decode k_received 120 = .ok (.iload_n 1, 1) := by decide +kernel
theorem d_received_121 : decode k_received 121 = .ok (.iaload, 1) := by decide +kernel
theorem d_received_122 : decode k_received 122 = .ok (.ldc 32, 2) := by decide +kernel
theorem d_received_124 : decode k_received 124 = .ok (.iand, 1) := by decide +kernel
theorem d_received_125 : decode k_received 125 = .ok (.iadd, 1) := by decide +kernel
theorem d_received_126 : decode k_received 126 = .ok (.baload, 1) := by decide +kernel
theorem d_received_127 : decode k_received 127 = .ok (.ifCond .eq 46, 3) := by decide +kernel
theorem d_received_130 : decode k_received 130 = .ok (.aload_n 0, 1) := by decide +kernel
theorem d_received_131 : decode k_received 131 = .ok (.getfield 137, 3) := by decide +kernel
theorem d_received_134 : decode k_received 134 = .ok (.ldc 7, 2) := by decide +kernel
theorem d_received_136 : decode k_received 136 = .ok (.iload_n 1, 1) := by decide +kernel
theorem d_received_137 : decode k_received 137 = .ok (.imul, 1) := by decide +kernel
theorem d_received_138 : decode k_received 138 = .ok (.aload_n 0, 1) := by decide +kernel
theorem d_received_139 : decode k_received 139 = .ok (.getfield 66, 3) := by decide +kernel
theorem d_received_142 : decode k_received 142 = .ok (.iload_n 1, 1) := by decide +kernel
theorem d_received_143 : decode k_received 143 = .ok (.iaload, 1) := by decide +kernel
theorem d_received_144 : decode k_received 144 = .ok (.ldc 32, 2) := by decide +kernel
theorem d_received_146 : decode k_received 146 = .ok (.iand, 1) := by decide +kernel
theorem d_received_147 : decode k_received 147 = .ok (.iadd, 1) := by decide +kernel
theorem d_received_148 : decode k_received 148 = .ok (.iconst 0, 1) := by decide +kernel
theorem d_received_149 : decode k_received 149 = .ok (.bastore, 1) := by decide +kernel
theorem d_received_150 : decode k_received 150 = .ok (.aload_n 0, 1) := by decide +kernel
theorem d_received_151 : decode k_received 151 = .ok (.getfield 66, 3) := by decide +kernel
theorem d_received_154 : decode k_received 154 = .ok (.iload_n 1, 1) := by decide +kernel
theorem d_received_155 : decode k_received 155 = .ok (.dup2, 1) := by decide +kernel
theorem d_received_156 : decode k_received 156 = .ok (.iaload, 1) := by decide +kernel
theorem d_received_157 : decode k_received 157 = .ok (.iconst 1, 1) := by decide +kernel
theorem d_received_158 : decode k_received 158 = .ok (.iadd, 1) := by decide +kernel
theorem d_received_159 : decode k_received 159 = .ok (.iastore, 1) := by decide +kernel
theorem d_received_160 : decode k_received 160 = .ok (.aload_n 0, 1) := by decide +kernel
theorem d_received_161 : decode k_received 161 = .ok (.getfield 105, 3) := by decide +kernel
theorem d_received_164 : decode k_received 164 = .ok (.iload_n 1, 1) := by decide +kernel
theorem d_received_165 : decode k_received 165 = .ok (.dup2, 1) := by decide +kernel
theorem d_received_166 : decode k_received 166 = .ok (.iaload, 1) := by decide +kernel
theorem d_received_167 : decode k_received 167 = .ok (.iconst 1, 1) := by decide +kernel
theorem d_received_168 : decode k_received 168 = .ok (.iadd, 1) := by decide +kernel
theorem d_received_169 : decode k_received 169 = .ok (.iastore, 1) := by decide +kernel
theorem d_received_170 : decode k_received 170 = .ok (.goto (-80), 3) := by decide +kernel
theorem d_received_173 : decode k_received 173 = .ok (.aload_n 0, 1) := by decide +kernel
theorem d_received_174 : decode k_received 174 = .ok (.getfield 242, 3) := by decide +kernel
theorem d_received_177 : decode k_received 177 = .ok (.iconst 1, 1) := by decide +kernel
theorem d_received_178 : decode k_received 178 = .ok (.iand, 1) := by decide +kernel
theorem d_received_179 : decode k_received 179 = .ok (.ifCond .eq 21, 3) := by decide +kernel
theorem d_received_182 : decode k_received 182 = .ok (.aload_n 0, 1) := by decide +kernel
theorem d_received_183 : decode k_received 183 = .ok (.getfield 251, 3) := by decide +kernel
theorem d_received_186 : decode k_received 186 = .ok (.aload_n 0, 1) := by decide +kernel
theorem d_received_187 : decode k_received 187 = .ok (.getfield 245, 3) := by decide +kernel
theorem d_received_190 : decode k_received 190 = .ok (.iadd, 1) := by decide +kernel
theorem d_received_191 : decode k_received 191 = .ok (.aload_n 0, 1) := by decide +kernel
theorem d_received_192 : decode k_received 192 = .ok (.getfield 66, 3) := by decide +kernel
theorem d_received_195 : decode k_received 195 = .ok (.iload_n 1, 1) := by decide +kernel
theorem d_received_196 : decode k_received 196 = .ok (.iaload, 1) := by decide +kernel
theorem d_received_197 : decode k_received 197 = .ok (.if_icmp .eq 4, 3) := by decide +kernel
theorem d_received_200 : decode k_received 200 = .ok (.return_, 1) := by decide +kernel
theorem d_received_201 : decode k_received 201 = .ok (.aload_n 0, 1) := by decide +kernel
theorem d_received_202 : decode k_received 202 = .ok (.getfield 66, 3) := by decide +kernel
theorem d_received_205 : decode k_received 205 = .ok (.iload_n 1, 1) := by decide +kernel
theorem d_received_206 : decode k_received 206 = .ok (.dup2, 1) := by decide +kernel
theorem d_received_207 : decode k_received 207 = .ok (.iaload, 1) := by decide +kernel
theorem d_received_208 : decode k_received 208 = .ok (.iconst 1, 1) := by decide +kernel
theorem d_received_209 : decode k_received 209 = .ok (.iadd, 1) := by decide +kernel
theorem d_received_210 : decode k_received 210 = .ok (.iastore, 1) := by decide +kernel
theorem d_received_211 : decode k_received 211 = .ok (.aload_n 0, 1) := by decide +kernel
theorem d_received_212 : decode k_received 212 = .ok (.getfield 126, 3) := by decide +kernel
theorem d_received_215 : decode k_received 215 = .ok (.iload_n 1, 1) := by decide +kernel
theorem d_received_216 : decode k_received 216 = .ok (.iconst 1, 1) := by decide +kernel
theorem d_received_217 : decode k_received 217 = .ok (.bastore, 1) := by decide +kernel
theorem d_received_218 : decode k_received 218 = .ok (.aload_n 0, 1) := by decide +kernel
theorem d_received_219 : decode k_received 219 = .ok (.getfield 39, 3) := by decide +kernel
theorem d_received_222 : decode k_received 222 = .ok (.iload_n 1, 1) := by decide +kernel
theorem d_received_223 : decode k_received 223 = .ok (.aload_n 0, 1) := by decide +kernel
theorem d_received_224 : decode k_received 224 = .ok (.getfield 39, 3) := by decide +kernel
theorem d_received_227 : decode k_received 227 = .ok (.iload_n 1, 1) := by decide +kernel
theorem d_received_228 : decode k_received 228 = .ok (.iaload, 1) := by decide +kernel
theorem d_received_229 : decode k_received 229 = .ok (.iconst 4, 1) := by decide +kernel
theorem d_received_230 : decode k_received 230 = .ok (.if_icmp .ne 8, 3) := by decide +kernel
theorem d_received_233 : decode k_received 233 = .ok (.bipush 7, 2) := by decide +kernel
theorem d_received_235 : decode k_received 235 = .ok (.goto 20, 3) := by decide +kernel
theorem d_received_238 : decode k_received 238 = .ok (.aload_n 0, 1) := by decide +kernel
theorem d_received_239 : decode k_received 239 = .ok (.getfield 39, 3) := by decide +kernel
theorem d_received_242 : decode k_received 242 = .ok (.iload_n 1, 1) := by decide +kernel
theorem d_received_243 : decode k_received 243 = .ok (.iaload, 1) := by decide +kernel
theorem d_received_244 : decode k_received 244 = .ok (.iconst 5, 1) := by decide +kernel
theorem d_received_245 : decode k_received 245 = .ok (.if_icmp .ne 8, 3) := by decide +kernel
theorem d_received_248 : decode k_received 248 = .ok (.bipush 8, 2) := by decide +kernel
theorem d_received_250 : decode k_received 250 = .ok (.goto 5, 3) := by decide +kernel
theorem d_received_253 : decode k_received 253 = .ok (.bipush 10, 2) := by decide +kernel
theorem d_received_255 : decode k_received 255 = .ok (.iastore, 1) := by decide +kernel
theorem d_received_256 : decode k_received 256 = .ok (.return_, 1) := by decide +kernel
def b_received_255 (w1 : Int32) (w2 : Int32) (ρ : RS) : Option (RS) :=
  gd (inb w1 2) <| bd (si ρ 9 w1.toNatClampNeg w2) fun r1 => some r1
def b_received_200 (ρ : RS) : Option (RS) :=
  some ρ
def b_received_173 (v1 : Int32) (ρ : RS) : Option (RS) :=
  bd (ρ.1 0 48) fun x1 => if (x1 &&& (1 : Int32)) = 0 then
  (b_received_200  ρ)
 else
  (bd (ρ.1 0 46) fun x2 => bd (ρ.1 0 51) fun x3 => gd (inb v1 2) <| bd (ρ.1 18 v1.toNatClampNeg) fun x4 => if (x2 + x3) = x4 then
  (gd (inb v1 2) <| bd (ρ.1 18 v1.toNatClampNeg) fun x5 => gd (inb v1 2) <| bd (si ρ 18 v1.toNatClampNeg (x5 + (1 : Int32))) fun r6 => gd (inb v1 2) <| bd (si r6 37 v1.toNatClampNeg (vp_nar .boolean (1 : Int32))) fun r7 => gd (inb v1 2) <| bd (r7.1 9 v1.toNatClampNeg) fun x8 => if x8 = (4 : Int32) then
  (b_received_255 v1 (7 : Int32) r7)
 else
  (gd (inb v1 2) <| bd (r7.1 9 v1.toNatClampNeg) fun x9 => if x9 = (5 : Int32) then
  (b_received_255 v1 (8 : Int32) r7)
 else
  (b_received_255 v1 (10 : Int32) r7)))
 else
  (b_received_200  ρ))
def F_received_90 (rec90 : Int32 → RS → Option (RS)) (v1 : Int32) (ρ : RS) : Option (RS) :=
  gd (inb v1 2) <| bd (ρ.1 19 v1.toNatClampNeg) fun x1 => gd (inb v1 2) <| bd (ρ.1 18 v1.toNatClampNeg) fun x2 => bc2 (m_above x1 x2 ρ) fun x4 r3 => if x4 = 0 then
  (b_received_173 v1 r3)
 else
  (gd (inb v1 2) <| bd (r3.1 18 v1.toNatClampNeg) fun x5 => gd (inb (((65536 : Int32) * v1) + (x5 &&& (65535 : Int32))) 131072) <| bd (r3.1 40 (((65536 : Int32) * v1) + (x5 &&& (65535 : Int32))).toNatClampNeg) fun x6 => if x6 = 0 then
  (b_received_173 v1 r3)
 else
  (gd (inb v1 2) <| bd (r3.1 18 v1.toNatClampNeg) fun x7 => gd (inb (((65536 : Int32) * v1) + (x7 &&& (65535 : Int32))) 131072) <| bd (si r3 40 (((65536 : Int32) * v1) + (x7 &&& (65535 : Int32))).toNatClampNeg (vp_nar .boolean (0 : Int32))) fun r8 => gd (inb v1 2) <| bd (r8.1 18 v1.toNatClampNeg) fun x9 => gd (inb v1 2) <| bd (si r8 18 v1.toNatClampNeg (x9 + (1 : Int32))) fun r10 => gd (inb v1 2) <| bd (r10.1 31 v1.toNatClampNeg) fun x11 => gd (inb v1 2) <| bd (si r10 31 v1.toNatClampNeg (x11 + (1 : Int32))) fun r12 => rec90 v1 r12))
def b_received_84 (rec2 : Int32 → Int32 → RS → Option (RS)) (v1 : Int32) (v2 : Int32) (ρ : RS) : Option (RS) :=
  bd (v2 + (1 : Int32)) fun x1 => rec2 v1 x1 ρ
def F_received_2 (rec2 : Int32 → Int32 → RS → Option (RS)) (v1 : Int32) (v2 : Int32) (ρ : RS) : Option (RS) :=
  bd (ρ.1 0 51) fun x1 => if x1 ≤ v2 then
  (lq2 (F_received_90) fuel v1 ρ)
 else
  (bd (ρ.1 0 46) fun x2 => bd (((65536 : Int32) * v1) + ((x2 + v2) &&& (65535 : Int32))) fun x3 => bd (ρ.1 0 46) fun x4 => bc2 (m_inside v1 (x4 + v2) ρ) fun x6 r5 => if x6 = 0 then
  (b_received_84 rec2 v1 v2 r5)
 else
  (gd (inb x3 131072) <| bd (r5.1 40 x3.toNatClampNeg) fun x7 => if x7 = 0 then
  (gd (inb x3 131072) <| bd (si r5 40 x3.toNatClampNeg (vp_nar .boolean (1 : Int32))) fun r8 => bd (r8.1 0 52) fun x9 => bd (r8.1 0 50) fun x10 => gd (inb ((((1484 : Int32) * x9) + x10) + v2) 761292) <| bd (r8.1 2 ((((1484 : Int32) * x9) + x10) + v2).toNatClampNeg) fun x11 => gd (inb x3 131072) <| bd (si r8 39 x3.toNatClampNeg (vp_nar .byte x11)) fun r12 => b_received_84 rec2 v1 v2 r12)
 else
  (b_received_84 rec2 v1 v2 r5)))
def m_received (v1 : Int32) (ρ : RS) : Option (RS) :=
  lq3 (F_received_2) fuel v1 (0 : Int32) ρ
def P_received_90 (p : Program) (l : Launch) (e : Env) (s : State) (m : MethodId) (args : Array Value) (below : List Frame) (meth : Method) (c : Code) (D : va_G) (tc : Nat → ClassId) (o : Nat) (v1 : Int32) (ρ : RS) (B : RS) : Prop := ∀ (ls : Array Slot) (H : Heap) (locs : List Loc), lv_has ls 4 [(0, .ref o), (1, .int v1)] → RWS D tc o s ρ H locs → W p l e { frames := 1, cells := 0, slots := 0, locals := 22 } s m args below meth c H locs 0 0 (MQ below (RQ D tc o none B) args s 0 0 (rreg o)) (F0 m 90 ls [])
def P_received_2 (p : Program) (l : Launch) (e : Env) (s : State) (m : MethodId) (args : Array Value) (below : List Frame) (meth : Method) (c : Code) (D : va_G) (tc : Nat → ClassId) (o : Nat) (v1 : Int32) (v2 : Int32) (ρ : RS) (B : RS) : Prop := ∀ (ls : Array Slot) (H : Heap) (locs : List Loc), lv_has ls 4 [(0, .ref o), (1, .int v1), (2, .int v2)] → RWS D tc o s ρ H locs → W p l e { frames := 1, cells := 0, slots := 0, locals := 22 } s m args below meth c H locs 0 0 (MQ below (RQ D tc o none B) args s 0 0 (rreg o)) (F0 m 2 ls [])
section
variable {p : Program} {l : Launch} {e : Env} {s : State} {m : MethodId} {args : Array Value} {below : List Frame} {meth : Method} {c : Code} {D : va_G} {tc : Nat → ClassId} {o : Nat}
theorem t_received_255 (S : RC p m c k_received 4 s args cn_M meth none D tc) (w1 : Int32) (w2 : Int32) (ρ : RS) {B : RS} (h : b_received_255 w1 w2 ρ = some B) {ls : Array Slot} {H : Heap} {locs : List Loc} (hl : lv_has ls 4 []) (hW : RWS D tc o s ρ H locs) : W p l e { frames := 1, cells := 0, slots := 0, locals := 22 } s m args below meth c H locs 0 0 (MQ below (RQ D tc o none B) args s 0 0 (rreg o)) (F0 m 255 ls [.int w2, .int w1, .ref (o + 9)]) := by
  have hx := S.1.1
  have hb := S.1.2.1
  unfold b_received_255 at h
  refine rm_iast S hW 9 2 (by decide) d_received_255 h (fun r1 H locs h hW => ?_)
  exact rm_vret S hW d_received_256 h
theorem t_received_200 (S : RC p m c k_received 4 s args cn_M meth none D tc) (ρ : RS) {B : RS} (h : b_received_200  ρ = some B) {ls : Array Slot} {H : Heap} {locs : List Loc} (hl : lv_has ls 4 []) (hW : RWS D tc o s ρ H locs) : W p l e { frames := 1, cells := 0, slots := 0, locals := 22 } s m args below meth c H locs 0 0 (MQ below (RQ D tc o none B) args s 0 0 (rreg o)) (F0 m 200 ls []) := by
  have hx := S.1.1
  have hb := S.1.2.1
  unfold b_received_200 at h
  exact rm_vret S hW d_received_200 h
theorem t_received_173 (S : RC p m c k_received 4 s args cn_M meth none D tc) (v1 : Int32) (ρ : RS) {B : RS} (h : b_received_173 v1 ρ = some B) {ls : Array Slot} {H : Heap} {locs : List Loc} (hl : lv_has ls 4 [(0, .ref o), (1, .int v1)]) (hW : RWS D tc o s ρ H locs) : W p l e { frames := 1, cells := 0, slots := 0, locals := 22 } s m args below meth c H locs 0 0 (MQ below (RQ D tc o none B) args s 0 0 (rreg o)) (F0 m 173 ls []) := by
  have hx := S.1.1
  have hb := S.1.2.1
  unfold b_received_173 at h
  refine lv_aload_n hx hb d_received_173 rfl (lv_at hl 0 rfl) ?_
  refine rm_geti S hW 48 wd_1300 (by decide) d_received_174 h (fun x1 h => ?_)
  refine lv_iconst (v := 1) hx hb d_received_177 (by decide) ?_
  refine lv_iand hx hb d_received_178 ?_
  refine rb_eq (tgt := 200) hx hb d_received_179 (by decide) h (fun h => ?_) (fun h => ?_)
  · exact t_received_200 S  ρ h (lv_sub hl [] rfl) hW
  · refine lv_aload_n hx hb d_received_182 rfl (lv_at hl 0 rfl) ?_
    refine rm_geti S hW 46 wd_1298 (by decide) d_received_183 h (fun x2 h => ?_)
    refine lv_aload_n hx hb d_received_186 rfl (lv_at hl 0 rfl) ?_
    refine rm_geti S hW 51 wd_1303 (by decide) d_received_187 h (fun x3 h => ?_)
    refine lv_iadd hx hb d_received_190 ?_
    refine lv_aload_n hx hb d_received_191 rfl (lv_at hl 0 rfl) ?_
    refine rm_geta S hW 23 18 wd_1275 (by decide) d_received_192 ?_
    refine lv_iload_n hx hb d_received_195 rfl (lv_at hl 1 rfl) ?_
    refine rm_iald S hW 18 2 (by decide) d_received_196 h (fun x4 h => ?_)
    refine rc_eq (tgt := 201) hx hb d_received_197 (by decide) h (fun h => ?_) (fun h => ?_)
    · refine lv_aload_n hx hb d_received_201 rfl (lv_at hl 0 rfl) ?_
      refine rm_geta S hW 23 18 wd_1275 (by decide) d_received_202 ?_
      refine lv_iload_n hx hb d_received_205 rfl (lv_at hl 1 rfl) ?_
      refine lv_dup2_11 hx hb d_received_206 rfl rfl ?_
      refine rm_iald S hW 18 2 (by decide) d_received_207 h (fun x5 h => ?_)
      refine lv_iconst (v := 1) hx hb d_received_208 (by decide) ?_
      refine lv_iadd hx hb d_received_209 ?_
      refine rm_iast S hW 18 2 (by decide) d_received_210 h (fun r6 H locs h hW => ?_)
      refine lv_aload_n hx hb d_received_211 rfl (lv_at hl 0 rfl) ?_
      refine rm_geta S hW 42 37 wd_1294 (by decide) d_received_212 ?_
      refine lv_iload_n hx hb d_received_215 rfl (lv_at hl 1 rfl) ?_
      refine lv_iconst (v := 1) hx hb d_received_216 (by decide) ?_
      refine rm_zast S hW 37 2 (by decide) d_received_217 h (fun r7 H locs h hW => ?_)
      refine lv_aload_n hx hb d_received_218 rfl (lv_at hl 0 rfl) ?_
      refine rm_geta S hW 14 9 wd_1266 (by decide) d_received_219 ?_
      refine lv_iload_n hx hb d_received_222 rfl (lv_at hl 1 rfl) ?_
      refine lv_aload_n hx hb d_received_223 rfl (lv_at hl 0 rfl) ?_
      refine rm_geta S hW 14 9 wd_1266 (by decide) d_received_224 ?_
      refine lv_iload_n hx hb d_received_227 rfl (lv_at hl 1 rfl) ?_
      refine rm_iald S hW 9 2 (by decide) d_received_228 h (fun x8 h => ?_)
      refine lv_iconst (v := 4) hx hb d_received_229 (by decide) ?_
      refine rc_ne (tgt := 238) hx hb d_received_230 (by decide) h (fun h => ?_) (fun h => ?_)
      · refine lv_aload_n hx hb d_received_238 rfl (lv_at hl 0 rfl) ?_
        refine rm_geta S hW 14 9 wd_1266 (by decide) d_received_239 ?_
        refine lv_iload_n hx hb d_received_242 rfl (lv_at hl 1 rfl) ?_
        refine rm_iald S hW 9 2 (by decide) d_received_243 h (fun x9 h => ?_)
        refine lv_iconst (v := 5) hx hb d_received_244 (by decide) ?_
        refine rc_ne (tgt := 253) hx hb d_received_245 (by decide) h (fun h => ?_) (fun h => ?_)
        · refine lv_bipush (v := 10) hx hb d_received_253 (by decide) ?_
          exact t_received_255 S v1 (10 : Int32) r7 h (lv_sub hl [] rfl) hW
        · refine lv_bipush (v := 8) hx hb d_received_248 (by decide) ?_
          refine lv_goto (tgt := 255) hx hb d_received_250 (by decide) ?_
          exact t_received_255 S v1 (8 : Int32) r7 h (lv_sub hl [] rfl) hW
      · refine lv_bipush (v := 7) hx hb d_received_233 (by decide) ?_
        refine lv_goto (tgt := 255) hx hb d_received_235 (by decide) ?_
        exact t_received_255 S v1 (7 : Int32) r7 h (lv_sub hl [] rfl) hW
    · exact t_received_200 S  ρ h (lv_sub hl [] rfl) hW
theorem tF_received_90 (S : RC p m c k_received 4 s args cn_M meth none D tc) : ∀ (rec90 : Int32 → RS → Option (RS)), (∀ (v1 : Int32) (ρ : RS) (B : RS), rec90 v1 ρ = some B → P_received_90 p l e s m args below meth c D tc o v1 ρ B) → ∀ (v1 : Int32) (ρ : RS) (B : RS), F_received_90 rec90 v1 ρ = some B → P_received_90 p l e s m args below meth c D tc o v1 ρ B := by
  intro rec90 hrec90 v1 ρ B h ls H locs hl hW
  have hx := S.1.1
  have hb := S.1.2.1
  unfold F_received_90 at h
  refine lv_aload_n hx hb d_received_90 rfl (lv_at hl 0 rfl) ?_
  refine rm_geta S hW 24 19 wd_1276 (by decide) d_received_91 ?_
  refine lv_iload_n hx hb d_received_94 rfl (lv_at hl 1 rfl) ?_
  refine rm_iald S hW 19 2 (by decide) d_received_95 h (fun x1 h => ?_)
  refine lv_aload_n hx hb d_received_96 rfl (lv_at hl 0 rfl) ?_
  refine rm_geta S hW 23 18 wd_1275 (by decide) d_received_97 ?_
  refine lv_iload_n hx hb d_received_100 rfl (lv_at hl 1 rfl) ?_
  refine rm_iald S hW 18 2 (by decide) d_received_101 h (fun x2 h => ?_)
  refine rm_cSi [.int x1, .int x2] S hW (fun x ρ' hc => c_above x1 x2 ρ hc) q_above wd_1456 wd_1455 (by decide) hl.1 rfl rfl (Nat.le_of_ble_eq_true rfl) d_received_102 h (fun x4 r3 H locs h hW => ?_)
  refine rb_eq (tgt := 173) hx hb d_received_105 (by decide) h (fun h => ?_) (fun h => ?_)
  · exact t_received_173 S v1 r3 h (lv_sub hl [0, 1] rfl) hW
  · refine lv_aload_n hx hb d_received_108 rfl (lv_at hl 0 rfl) ?_
    refine rm_geta S hW 45 40 wd_1297 (by decide) d_received_109 ?_
    refine lv_ldc hx hb S.1.2.2.2.1 (S.1.2.2.2.2 _ (gi wd_1246 rfl)) d_received_112 ?_
    refine lv_iload_n hx hb d_received_114 rfl (lv_at hl 1 rfl) ?_
    refine lv_imul hx hb d_received_115 ?_
    refine lv_aload_n hx hb d_received_116 rfl (lv_at hl 0 rfl) ?_
    refine rm_geta S hW 23 18 wd_1275 (by decide) d_received_117 ?_
    refine lv_iload_n hx hb d_received_120 rfl (lv_at hl 1 rfl) ?_
    refine rm_iald S hW 18 2 (by decide) d_received_121 h (fun x5 h => ?_)
    refine lv_ldc hx hb S.1.2.2.2.1 (S.1.2.2.2.2 _ (gi wd_1248 rfl)) d_received_122 ?_
    refine lv_iand hx hb d_received_124 ?_
    refine lv_iadd hx hb d_received_125 ?_
    refine rm_zald S hW 40 131072 (by decide) d_received_126 h (fun x6 h => ?_)
    refine rb_eq (tgt := 173) hx hb d_received_127 (by decide) h (fun h => ?_) (fun h => ?_)
    · exact t_received_173 S v1 r3 h (lv_sub hl [0, 1] rfl) hW
    · refine lv_aload_n hx hb d_received_130 rfl (lv_at hl 0 rfl) ?_
      refine rm_geta S hW 45 40 wd_1297 (by decide) d_received_131 ?_
      refine lv_ldc hx hb S.1.2.2.2.1 (S.1.2.2.2.2 _ (gi wd_1246 rfl)) d_received_134 ?_
      refine lv_iload_n hx hb d_received_136 rfl (lv_at hl 1 rfl) ?_
      refine lv_imul hx hb d_received_137 ?_
      refine lv_aload_n hx hb d_received_138 rfl (lv_at hl 0 rfl) ?_
      refine rm_geta S hW 23 18 wd_1275 (by decide) d_received_139 ?_
      refine lv_iload_n hx hb d_received_142 rfl (lv_at hl 1 rfl) ?_
      refine rm_iald S hW 18 2 (by decide) d_received_143 h (fun x7 h => ?_)
      refine lv_ldc hx hb S.1.2.2.2.1 (S.1.2.2.2.2 _ (gi wd_1248 rfl)) d_received_144 ?_
      refine lv_iand hx hb d_received_146 ?_
      refine lv_iadd hx hb d_received_147 ?_
      refine lv_iconst (v := 0) hx hb d_received_148 (by decide) ?_
      refine rm_zast S hW 40 131072 (by decide) d_received_149 h (fun r8 H locs h hW => ?_)
      refine lv_aload_n hx hb d_received_150 rfl (lv_at hl 0 rfl) ?_
      refine rm_geta S hW 23 18 wd_1275 (by decide) d_received_151 ?_
      refine lv_iload_n hx hb d_received_154 rfl (lv_at hl 1 rfl) ?_
      refine lv_dup2_11 hx hb d_received_155 rfl rfl ?_
      refine rm_iald S hW 18 2 (by decide) d_received_156 h (fun x9 h => ?_)
      refine lv_iconst (v := 1) hx hb d_received_157 (by decide) ?_
      refine lv_iadd hx hb d_received_158 ?_
      refine rm_iast S hW 18 2 (by decide) d_received_159 h (fun r10 H locs h hW => ?_)
      refine lv_aload_n hx hb d_received_160 rfl (lv_at hl 0 rfl) ?_
      refine rm_geta S hW 36 31 wd_1288 (by decide) d_received_161 ?_
      refine lv_iload_n hx hb d_received_164 rfl (lv_at hl 1 rfl) ?_
      refine lv_dup2_11 hx hb d_received_165 rfl rfl ?_
      refine rm_iald S hW 31 2 (by decide) d_received_166 h (fun x11 h => ?_)
      refine lv_iconst (v := 1) hx hb d_received_167 (by decide) ?_
      refine lv_iadd hx hb d_received_168 ?_
      refine rm_iast S hW 31 2 (by decide) d_received_169 h (fun r12 H locs h hW => ?_)
      refine lv_goto (tgt := 90) hx hb d_received_170 (by decide) ?_
      exact hrec90 v1 r12 _ h _ _ _ (lv_sub hl [0, 1] rfl) hW
theorem t_received_90 (S : RC p m c k_received 4 s args cn_M meth none D tc) : ∀ (n : Nat) (v1 : Int32) (ρ : RS) (B : RS), lq2 (F_received_90) n v1 ρ = some B → P_received_90 p l e s m args below meth c D tc o v1 ρ B := lq2_s (tF_received_90 S)
theorem t_received_84 (S : RC p m c k_received 4 s args cn_M meth none D tc) {rec2 : Int32 → Int32 → RS → Option (RS)} (hrec2 : ∀ (v1 : Int32) (v2 : Int32) (ρ : RS) (B : RS), rec2 v1 v2 ρ = some B → P_received_2 p l e s m args below meth c D tc o v1 v2 ρ B) (v1 : Int32) (v2 : Int32) (ρ : RS) {B : RS} (h : b_received_84 rec2 v1 v2 ρ = some B) {ls : Array Slot} {H : Heap} {locs : List Loc} (hl : lv_has ls 4 [(0, .ref o), (1, .int v1), (2, .int v2)]) (hW : RWS D tc o s ρ H locs) : W p l e { frames := 1, cells := 0, slots := 0, locals := 22 } s m args below meth c H locs 0 0 (MQ below (RQ D tc o none B) args s 0 0 (rreg o)) (F0 m 84 ls []) := by
  have hx := S.1.1
  have hb := S.1.2.1
  unfold b_received_84 at h
  refine rv_iinc (k := 2) (v := 1) (lv' := fun x1 => [(2, .int x1), (0, .ref o), (1, .int v1)]) hx hb d_received_84 hl rfl (by decide) (by decide) (fun _ => rfl) h (fun x1 ls h hl => ?_)
  refine lv_goto (tgt := 2) hx hb d_received_87 (by decide) ?_
  exact hrec2 v1 x1 ρ _ h _ _ _ (lv_sub hl [1, 2, 0] rfl) hW
theorem tF_received_2 (S : RC p m c k_received 4 s args cn_M meth none D tc) : ∀ (rec2 : Int32 → Int32 → RS → Option (RS)), (∀ (v1 : Int32) (v2 : Int32) (ρ : RS) (B : RS), rec2 v1 v2 ρ = some B → P_received_2 p l e s m args below meth c D tc o v1 v2 ρ B) → ∀ (v1 : Int32) (v2 : Int32) (ρ : RS) (B : RS), F_received_2 rec2 v1 v2 ρ = some B → P_received_2 p l e s m args below meth c D tc o v1 v2 ρ B := by
  intro rec2 hrec2 v1 v2 ρ B h ls H locs hl hW
  have hx := S.1.1
  have hb := S.1.2.1
  unfold F_received_2 at h
  refine lv_iload_n hx hb d_received_2 rfl (lv_at hl 2 rfl) ?_
  refine lv_aload_n hx hb d_received_3 rfl (lv_at hl 0 rfl) ?_
  refine rm_geti S hW 51 wd_1303 (by decide) d_received_4 h (fun x1 h => ?_)
  refine rc_ge (tgt := 90) hx hb d_received_7 (by decide) h (fun h => ?_) (fun h => ?_)
  · exact t_received_90 S fuel v1 ρ _ h _ _ _ (lv_sub hl [0, 1] rfl) hW
  · refine lv_ldc hx hb S.1.2.2.2.1 (S.1.2.2.2.2 _ (gi wd_1246 rfl)) d_received_10 ?_
    refine lv_iload_n hx hb d_received_12 rfl (lv_at hl 1 rfl) ?_
    refine lv_imul hx hb d_received_13 ?_
    refine lv_aload_n hx hb d_received_14 rfl (lv_at hl 0 rfl) ?_
    refine rm_geti S hW 46 wd_1298 (by decide) d_received_15 h (fun x2 h => ?_)
    refine lv_iload_n hx hb d_received_18 rfl (lv_at hl 2 rfl) ?_
    refine lv_iadd hx hb d_received_19 ?_
    refine lv_ldc hx hb S.1.2.2.2.1 (S.1.2.2.2.2 _ (gi wd_1248 rfl)) d_received_20 ?_
    refine lv_iand hx hb d_received_22 ?_
    refine lv_iadd hx hb d_received_23 ?_
    refine rv_i h (fun x3 h => ?_)
    refine lv_istore_n (lv' := [(3, .int x3), (0, .ref o), (1, .int v1), (2, .int v2)]) hx hb d_received_24 rfl hl (by decide) rfl (fun ls hl => ?_)
    refine lv_aload_n hx hb d_received_25 rfl (lv_at hl 1 rfl) ?_
    refine lv_iload_n hx hb d_received_26 rfl (lv_at hl 2 rfl) ?_
    refine lv_aload_n hx hb d_received_27 rfl (lv_at hl 1 rfl) ?_
    refine rm_geti S hW 46 wd_1298 (by decide) d_received_28 h (fun x4 h => ?_)
    refine lv_iload_n hx hb d_received_31 rfl (lv_at hl 3 rfl) ?_
    refine lv_iadd hx hb d_received_32 ?_
    refine rm_cVi [.int v1, .int (x4 + v2)] S hW (fun x ρ' hc => c_inside v1 (x4 + v2) ρ hc) q_inside wd_1629 wd_70 wd_1627 (by decide) hl.1 rfl rfl (Nat.le_of_ble_eq_true rfl) d_received_33 h (fun x6 r5 H locs h hW => ?_)
    refine rb_eq (tgt := 84) hx hb d_received_36 (by decide) h (fun h => ?_) (fun h => ?_)
    · exact t_received_84 S hrec2 v1 v2 r5 h (lv_sub hl [1, 2, 3] rfl) hW
    · refine lv_aload_n hx hb d_received_39 rfl (lv_at hl 1 rfl) ?_
      refine rm_geta S hW 45 40 wd_1297 (by decide) d_received_40 ?_
      refine lv_iload_n hx hb d_received_43 rfl (lv_at hl 0 rfl) ?_
      refine rm_zald S hW 40 131072 (by decide) d_received_44 h (fun x7 h => ?_)
      refine rb_eq (tgt := 51) hx hb d_received_45 (by decide) h (fun h => ?_) (fun h => ?_)
      · refine lv_aload_n hx hb d_received_51 rfl (lv_at hl 1 rfl) ?_
        refine rm_geta S hW 45 40 wd_1297 (by decide) d_received_52 ?_
        refine lv_iload_n hx hb d_received_55 rfl (lv_at hl 0 rfl) ?_
        refine lv_iconst (v := 1) hx hb d_received_56 (by decide) ?_
        refine rm_zast S hW 40 131072 (by decide) d_received_57 h (fun r8 H locs h hW => ?_)
        refine lv_aload_n hx hb d_received_58 rfl (lv_at hl 1 rfl) ?_
        refine rm_geta S hW 44 39 wd_1296 (by decide) d_received_59 ?_
        refine lv_iload_n hx hb d_received_62 rfl (lv_at hl 0 rfl) ?_
        refine lv_aload_n hx hb d_received_63 rfl (lv_at hl 1 rfl) ?_
        refine rm_geta S hW 6 2 wd_1258 (by decide) d_received_64 ?_
        refine lv_sipush (v := 1484) hx hb d_received_67 (by decide) ?_
        refine lv_aload_n hx hb d_received_70 rfl (lv_at hl 1 rfl) ?_
        refine rm_geti S hW 52 wd_1304 (by decide) d_received_71 h (fun x9 h => ?_)
        refine lv_imul hx hb d_received_74 ?_
        refine lv_aload_n hx hb d_received_75 rfl (lv_at hl 1 rfl) ?_
        refine rm_geti S hW 50 wd_1302 (by decide) d_received_76 h (fun x10 h => ?_)
        refine lv_iadd hx hb d_received_79 ?_
        refine lv_iload_n hx hb d_received_80 rfl (lv_at hl 3 rfl) ?_
        refine lv_iadd hx hb d_received_81 ?_
        refine rm_bald S hW 2 761292 (by decide) d_received_82 h (fun x11 h => ?_)
        refine rm_bast S hW 39 131072 (by decide) d_received_83 h (fun r12 H locs h hW => ?_)
        exact t_received_84 S hrec2 v1 v2 r12 h (lv_sub hl [1, 2, 3] rfl) hW
      · refine lv_goto (tgt := 84) hx hb d_received_48 (by decide) ?_
        exact t_received_84 S hrec2 v1 v2 r5 h (lv_sub hl [1, 2, 3] rfl) hW
theorem t_received_2 (S : RC p m c k_received 4 s args cn_M meth none D tc) : ∀ (n : Nat) (v1 : Int32) (v2 : Int32) (ρ : RS) (B : RS), lq3 (F_received_2) n v1 v2 ρ = some B → P_received_2 p l e s m args below meth c D tc o v1 v2 ρ B := lq3_s (tF_received_2 S)
theorem t_received_0 (S : RC p m c k_received 4 s args cn_M meth none D tc) (v1 : Int32) (ρ : RS) {B : RS} (h : m_received v1 ρ = some B) {ls : Array Slot} {H : Heap} {locs : List Loc} (hl : lv_has ls 4 [(0, .ref o), (1, .int v1)]) (hW : RWS D tc o s ρ H locs) : W p l e { frames := 1, cells := 0, slots := 0, locals := 22 } s m args below meth c H locs 0 0 (MQ below (RQ D tc o none B) args s 0 0 (rreg o)) (F0 m 0 ls []) := by
  have hx := S.1.1
  have hb := S.1.2.1
  unfold m_received at h
  refine lv_iconst (v := 0) hx hb d_received_0 (by decide) ?_
  refine lv_istore_n (lv' := [(2, .int (0 : Int32)), (0, .ref o), (1, .int v1)]) hx hb d_received_1 rfl hl (by decide) rfl (fun ls hl => ?_)
  exact t_received_2 S fuel v1 (0 : Int32) ρ _ h _ _ _ (lv_sub hl [1, 2, 0] rfl) hW
theorem c_received (v1 : Int32) (ρ : RS) {B : RS} (h : m_received v1 ρ = some B) : RMet l D tc o y_received k_received 4 none 1 22 [.ref o, .int v1] ρ none B := rm_met (by decide) (Nat.le_of_ble_eq_true rfl) fun p e s m args below meth c S hW ls hl => t_received_0 S v1 ρ h hl hW
end

