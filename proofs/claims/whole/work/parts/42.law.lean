section LAWC
variable {p : Program} {l : Launch} {e : Env} {s : State} {m : MethodId} {args : Array Value} {below : List Frame} {meth : Method} {c : Code} {Q : State → Prop} {D : va_G} {tc : Nat → ClassId} {a b z L : Nat} {xs : Nat → Int32} {ret : Option FieldType}
def s_feed (xs : Nat → Int32) (i : Nat) (σ : CS) (ρ : RS) (v : Int64) : Option (CS × RS × Int64) := bc (m_L_feed (xs (i + 1)) (xs (i + 2)) (xs (i + 3)) (xs (i + 4)) (xs (i + 5)) σ v) fun q => bc2 (m_feed (xs (i + 1)) (xs (i + 2)) (xs (i + 3)) (xs (i + 4)) (xs (i + 5)) ρ) fun r ρ2 => bc2 (m_thrown ρ2) fun th ρ3 => gd (th = q.1) <| gd (q.1 = 0 → q.2.2 = r.toInt64) <| some (q.2.1, ρ3, q.2.2)
theorem law_feed (hfl : l.flags = flags0) (S : LC p m c code 8 s args "StreamPairLaw" meth ret D tc b z) (hX : va_X a L xs s s.heap) (ha : a < b) {i : Nat} (hi : i + 6 ≤ L) (hL : L ≤ 3072) {σ : CS} {ρ : RS} {v : Int64} {B : CS × RS × Int64} (h : s_feed xs i σ ρ v = some B) {ls : Array Slot} {H : Heap} {locs : List Loc} {cells slots : Nat} (hl : lv_has ls 8 (lvs a b i)) (hW : LWS D tc b z s 0 0 σ ρ v H locs cells slots)
    (kk : ∀ (ls1 : Array Slot) (H1 : Heap) (locs1 : List Loc) (cells1 slots1 : Nat), lv_has ls1 8 (lvs a b i) → LWS D tc b z s 0 0 B.1 B.2.1 B.2.2 H1 locs1 cells1 slots1 → W p l e (LR 17 692 0 0) s m args below meth c H1 locs1 cells1 slots1 Q (F0 m 1184 ls1 [])) : W p l e (LR 17 692 0 0) s m args below meth c H locs cells slots Q (F0 m 124 ls []) := by
  have hx := S.1.1
  have hb := S.1.2.1
  unfold s_feed at h
  obtain ⟨⟨k, σ2, v2⟩, h1, h⟩ := bc_s h
  obtain ⟨r, ρ2, h2, h⟩ := bc2_s h
  obtain ⟨th, ρ3, h3, h⟩ := bc2_s h
  obtain ⟨ht, h⟩ := gd_s h
  obtain ⟨hv, h⟩ := gd_s h
  cases h
  refine lv_aload_n hx hb d_law_124 rfl (lv_at hl 1 rfl) ?_
  refine lm_arg (i := i) (j := 1) S hX ha hW (by omega) hL (lv_at hl 0 rfl) (lv_at hl 4 rfl) (by decide) d_law_125 d_law_126 d_law_128 d_law_129 d_law_130 ?_
  refine lm_arg (i := i) (j := 2) S hX ha hW (by omega) hL (lv_at hl 0 rfl) (lv_at hl 4 rfl) (by decide) d_law_131 d_law_132 d_law_134 d_law_135 d_law_136 ?_
  refine lm_arg (i := i) (j := 3) S hX ha hW (by omega) hL (lv_at hl 0 rfl) (lv_at hl 4 rfl) (by decide) d_law_137 d_law_138 d_law_140 d_law_141 d_law_142 ?_
  refine lm_arg (i := i) (j := 4) S hX ha hW (by omega) hL (lv_at hl 0 rfl) (lv_at hl 4 rfl) (by decide) d_law_143 d_law_144 d_law_146 d_law_147 d_law_148 ?_
  refine lm_arg (i := i) (j := 5) S hX ha hW (by omega) hL (lv_at hl 0 rfl) (lv_at hl 4 rfl) (by decide) d_law_149 d_law_150 d_law_152 d_law_153 d_law_154 ?_
  refine lv_aload_n hx hb d_law_155 rfl (lv_at hl 3 rfl) ?_
  refine lm_callH (n := 7) S hW (c_L_feed hfl (xs (i + 1)) (xs (i + 2)) (xs (i + 3)) (xs (i + 4)) (xs (i + 5)) σ ρ v h1) wd_652 wd_77 (by decide) (by decide +kernel) wd_651 wd_650 (by decide) hl.1 rfl rfl (Nat.le_of_ble_eq_true rfl) d_law_156 fun H1 locs1 cells1 slots1 hW1 => ?_
  refine lv_istore hx hb d_law_159 hl (Nat.le_of_ble_eq_true rfl) rfl fun ls1 hl1 => ?_
  refine lv_aload_n hx hb d_law_161 rfl (lv_at hl1 3 rfl) ?_
  refine lm_arg (i := i) (j := 1) S hX ha hW1 (by omega) hL (lv_at hl1 1 rfl) (lv_at hl1 5 rfl) (by decide) d_law_162 d_law_163 d_law_165 d_law_166 d_law_167 ?_
  refine lm_arg (i := i) (j := 2) S hX ha hW1 (by omega) hL (lv_at hl1 1 rfl) (lv_at hl1 5 rfl) (by decide) d_law_168 d_law_169 d_law_171 d_law_172 d_law_173 ?_
  refine lm_arg (i := i) (j := 3) S hX ha hW1 (by omega) hL (lv_at hl1 1 rfl) (lv_at hl1 5 rfl) (by decide) d_law_174 d_law_175 d_law_177 d_law_178 d_law_179 ?_
  refine lm_arg (i := i) (j := 4) S hX ha hW1 (by omega) hL (lv_at hl1 1 rfl) (lv_at hl1 5 rfl) (by decide) d_law_180 d_law_181 d_law_183 d_law_184 d_law_185 ?_
  refine lm_arg (i := i) (j := 5) S hX ha hW1 (by omega) hL (lv_at hl1 1 rfl) (lv_at hl1 5 rfl) (by decide) d_law_186 d_law_187 d_law_189 d_law_190 d_law_191 ?_
  refine lm_callR S hW1 (c_feed (xs (i + 1)) (xs (i + 2)) (xs (i + 3)) (xs (i + 4)) (xs (i + 5)) ρ h2) q_feed wd_1423 wd_1424 wd_1422 (by decide) hl1.1 rfl rfl (Nat.le_of_ble_eq_true rfl) d_law_192 fun H2 locs2 hW2 => ?_
  refine lv_istore hx hb d_law_195 hl1 (Nat.le_of_ble_eq_true rfl) rfl fun ls2 hl2 => ?_
  refine lv_aload_n hx hb d_law_197 rfl (lv_at hl2 4 rfl) ?_
  refine lm_callR S hW2 (c_thrown ρ2 h3) q_thrown wd_1419 wd_1420 wd_1418 (by decide) hl2.1 rfl rfl (Nat.le_of_ble_eq_true rfl) d_law_198 fun H3 locs3 hW3 => ?_
  refine lm_chk S hW3 (lv_at hl2 5 rfl) (lv_at hl2 1 rfl) (lv_at hl2 0 rfl) ht hv (by decide) d_law_201 d_law_203 d_law_208 d_law_210 d_law_213 d_law_214 d_law_215 d_law_216 d_law_218 d_law_219 d_law_220 d_law_225 ?_
  exact kk ls2 H3 locs3 _ _ (lv_sub hl2 [2, 3, 4, 5, 6] rfl) hW3
def s_end (xs : Nat → Int32) (i : Nat) (σ : CS) (ρ : RS) (v : Int64) : Option (CS × RS × Int64) := bc (m_L_end (xs (i + 1)) σ v) fun q => bc2 (m_end (xs (i + 1)) ρ) fun r ρ2 => bc2 (m_thrown ρ2) fun th ρ3 => gd (th = q.1) <| gd (q.1 = 0 → q.2.2 = r.toInt64) <| some (q.2.1, ρ3, q.2.2)
theorem law_end (hfl : l.flags = flags0) (S : LC p m c code 8 s args "StreamPairLaw" meth ret D tc b z) (hX : va_X a L xs s s.heap) (ha : a < b) {i : Nat} (hi : i + 6 ≤ L) (hL : L ≤ 3072) {σ : CS} {ρ : RS} {v : Int64} {B : CS × RS × Int64} (h : s_end xs i σ ρ v = some B) {ls : Array Slot} {H : Heap} {locs : List Loc} {cells slots : Nat} (hl : lv_has ls 8 (lvs a b i)) (hW : LWS D tc b z s 0 0 σ ρ v H locs cells slots)
    (kk : ∀ (ls1 : Array Slot) (H1 : Heap) (locs1 : List Loc) (cells1 slots1 : Nat), lv_has ls1 8 (lvs a b i) → LWS D tc b z s 0 0 B.1 B.2.1 B.2.2 H1 locs1 cells1 slots1 → W p l e (LR 17 692 0 0) s m args below meth c H1 locs1 cells1 slots1 Q (F0 m 1184 ls1 [])) : W p l e (LR 17 692 0 0) s m args below meth c H locs cells slots Q (F0 m 228 ls []) := by
  have hx := S.1.1
  have hb := S.1.2.1
  unfold s_end at h
  obtain ⟨⟨k, σ2, v2⟩, h1, h⟩ := bc_s h
  obtain ⟨r, ρ2, h2, h⟩ := bc2_s h
  obtain ⟨th, ρ3, h3, h⟩ := bc2_s h
  obtain ⟨ht, h⟩ := gd_s h
  obtain ⟨hv, h⟩ := gd_s h
  cases h
  refine lv_aload_n hx hb d_law_228 rfl (lv_at hl 1 rfl) ?_
  refine lm_arg (i := i) (j := 1) S hX ha hW (by omega) hL (lv_at hl 0 rfl) (lv_at hl 4 rfl) (by decide) d_law_229 d_law_230 d_law_232 d_law_233 d_law_234 ?_
  refine lv_aload_n hx hb d_law_235 rfl (lv_at hl 3 rfl) ?_
  refine lm_callH (n := 3) S hW (c_L_end hfl (xs (i + 1)) σ ρ v h1) wd_744 wd_77 (by decide) (by decide +kernel) wd_743 wd_742 (by decide) hl.1 rfl rfl (Nat.le_of_ble_eq_true rfl) d_law_236 fun H1 locs1 cells1 slots1 hW1 => ?_
  refine lv_istore hx hb d_law_239 hl (Nat.le_of_ble_eq_true rfl) rfl fun ls1 hl1 => ?_
  refine lv_aload_n hx hb d_law_241 rfl (lv_at hl1 3 rfl) ?_
  refine lm_arg (i := i) (j := 1) S hX ha hW1 (by omega) hL (lv_at hl1 1 rfl) (lv_at hl1 5 rfl) (by decide) d_law_242 d_law_243 d_law_245 d_law_246 d_law_247 ?_
  refine lm_callR S hW1 (c_end (xs (i + 1)) ρ h2) q_end wd_1432 wd_1433 wd_1431 (by decide) hl1.1 rfl rfl (Nat.le_of_ble_eq_true rfl) d_law_248 fun H2 locs2 hW2 => ?_
  refine lv_istore hx hb d_law_251 hl1 (Nat.le_of_ble_eq_true rfl) rfl fun ls2 hl2 => ?_
  refine lv_aload_n hx hb d_law_253 rfl (lv_at hl2 4 rfl) ?_
  refine lm_callR S hW2 (c_thrown ρ2 h3) q_thrown wd_1419 wd_1420 wd_1418 (by decide) hl2.1 rfl rfl (Nat.le_of_ble_eq_true rfl) d_law_254 fun H3 locs3 hW3 => ?_
  refine lm_chk S hW3 (lv_at hl2 5 rfl) (lv_at hl2 1 rfl) (lv_at hl2 0 rfl) ht hv (by decide) d_law_257 d_law_259 d_law_264 d_law_266 d_law_269 d_law_270 d_law_271 d_law_272 d_law_274 d_law_275 d_law_276 d_law_281 ?_
  exact kk ls2 H3 locs3 _ _ (lv_sub hl2 [2, 3, 4, 5, 6] rfl) hW3
def s_open (xs : Nat → Int32) (i : Nat) (σ : CS) (ρ : RS) (v : Int64) : Option (CS × RS × Int64) := bc2 (m_P_open (xs (i + 1)) (xs (i + 2)) σ) fun x σ2 => bc2 (m_open (xs (i + 1)) (xs (i + 2)) ρ) fun r ρ2 => gd (x = r) <| some (σ2, ρ2, v)
theorem law_open (hfl : l.flags = flags0) (S : LC p m c code 8 s args "StreamPairLaw" meth ret D tc b z) (hX : va_X a L xs s s.heap) (ha : a < b) {i : Nat} (hi : i + 6 ≤ L) (hL : L ≤ 3072) {σ : CS} {ρ : RS} {v : Int64} {B : CS × RS × Int64} (h : s_open xs i σ ρ v = some B) {ls : Array Slot} {H : Heap} {locs : List Loc} {cells slots : Nat} (hl : lv_has ls 8 (lvs a b i)) (hW : LWS D tc b z s 0 0 σ ρ v H locs cells slots)
    (kk : ∀ (ls1 : Array Slot) (H1 : Heap) (locs1 : List Loc) (cells1 slots1 : Nat), lv_has ls1 8 (lvs a b i) → LWS D tc b z s 0 0 B.1 B.2.1 B.2.2 H1 locs1 cells1 slots1 → W p l e (LR 17 692 0 0) s m args below meth c H1 locs1 cells1 slots1 Q (F0 m 1184 ls1 [])) : W p l e (LR 17 692 0 0) s m args below meth c H locs cells slots Q (F0 m 284 ls []) := by
  have hx := S.1.1
  have hb := S.1.2.1
  unfold s_open at h
  obtain ⟨x, σ2, h1, h⟩ := bc2_s h
  obtain ⟨r, ρ2, h2, h⟩ := bc2_s h
  obtain ⟨hv, h⟩ := gd_s h
  cases h
  refine lv_aload_n hx hb d_law_284 rfl (lv_at hl 1 rfl) ?_
  refine lm_arg (i := i) (j := 1) S hX ha hW (by omega) hL (lv_at hl 0 rfl) (lv_at hl 4 rfl) (by decide) d_law_285 d_law_286 d_law_288 d_law_289 d_law_290 ?_
  refine lm_arg (i := i) (j := 2) S hX ha hW (by omega) hL (lv_at hl 0 rfl) (lv_at hl 4 rfl) (by decide) d_law_291 d_law_292 d_law_294 d_law_295 d_law_296 ?_
  refine lm_callC S hW (c_P_open (xs (i + 1)) (xs (i + 2)) σ h1) q_P_open wd_419 wd_420 wd_418 (by decide) hl.1 rfl rfl (Nat.le_of_ble_eq_true rfl) d_law_297 fun H1 locs1 cells1 slots1 hW1 => ?_
  refine lv_aload_n hx hb d_law_300 rfl (lv_at hl 2 rfl) ?_
  refine lm_arg (i := i) (j := 1) S hX ha hW1 (by omega) hL (lv_at hl 0 rfl) (lv_at hl 4 rfl) (by decide) d_law_301 d_law_302 d_law_304 d_law_305 d_law_306 ?_
  refine lm_arg (i := i) (j := 2) S hX ha hW1 (by omega) hL (lv_at hl 0 rfl) (lv_at hl 4 rfl) (by decide) d_law_307 d_law_308 d_law_310 d_law_311 d_law_312 ?_
  refine lm_callR S hW1 (c_open (xs (i + 1)) (xs (i + 2)) ρ h2) q_open wd_1436 wd_1437 wd_1435 (by decide) hl.1 rfl rfl (Nat.le_of_ble_eq_true rfl) d_law_313 fun H2 locs2 hW2 => ?_
  refine lv_icmp_eq (tgt := 1184) hx hb d_law_316 (by decide) (fun _ => ?_) (fun h => absurd hv h)
  exact kk ls H2 locs2 _ _ hl hW2
def s_set (xs : Nat → Int32) (i : Nat) (σ : CS) (ρ : RS) (v : Int64) : Option (CS × RS × Int64) := bc (m_L_set (xs (i + 1)) (xs (i + 2)) (xs (i + 3)) σ v) fun q => bc2 (m_set (xs (i + 1)) (xs (i + 2)) (xs (i + 3)) ρ) fun r ρ2 => bc2 (m_thrown ρ2) fun th ρ3 => gd (th = q.1) <| gd (q.1 = 0 → q.2.2 = r.toInt64) <| some (q.2.1, ρ3, q.2.2)
theorem law_set (hfl : l.flags = flags0) (S : LC p m c code 8 s args "StreamPairLaw" meth ret D tc b z) (hX : va_X a L xs s s.heap) (ha : a < b) {i : Nat} (hi : i + 6 ≤ L) (hL : L ≤ 3072) {σ : CS} {ρ : RS} {v : Int64} {B : CS × RS × Int64} (h : s_set xs i σ ρ v = some B) {ls : Array Slot} {H : Heap} {locs : List Loc} {cells slots : Nat} (hl : lv_has ls 8 (lvs a b i)) (hW : LWS D tc b z s 0 0 σ ρ v H locs cells slots)
    (kk : ∀ (ls1 : Array Slot) (H1 : Heap) (locs1 : List Loc) (cells1 slots1 : Nat), lv_has ls1 8 (lvs a b i) → LWS D tc b z s 0 0 B.1 B.2.1 B.2.2 H1 locs1 cells1 slots1 → W p l e (LR 17 692 0 0) s m args below meth c H1 locs1 cells1 slots1 Q (F0 m 1184 ls1 [])) : W p l e (LR 17 692 0 0) s m args below meth c H locs cells slots Q (F0 m 321 ls []) := by
  have hx := S.1.1
  have hb := S.1.2.1
  unfold s_set at h
  obtain ⟨⟨k, σ2, v2⟩, h1, h⟩ := bc_s h
  obtain ⟨r, ρ2, h2, h⟩ := bc2_s h
  obtain ⟨th, ρ3, h3, h⟩ := bc2_s h
  obtain ⟨ht, h⟩ := gd_s h
  obtain ⟨hv, h⟩ := gd_s h
  cases h
  refine lv_aload_n hx hb d_law_321 rfl (lv_at hl 1 rfl) ?_
  refine lm_arg (i := i) (j := 1) S hX ha hW (by omega) hL (lv_at hl 0 rfl) (lv_at hl 4 rfl) (by decide) d_law_322 d_law_323 d_law_325 d_law_326 d_law_327 ?_
  refine lm_arg (i := i) (j := 2) S hX ha hW (by omega) hL (lv_at hl 0 rfl) (lv_at hl 4 rfl) (by decide) d_law_328 d_law_329 d_law_331 d_law_332 d_law_333 ?_
  refine lm_arg (i := i) (j := 3) S hX ha hW (by omega) hL (lv_at hl 0 rfl) (lv_at hl 4 rfl) (by decide) d_law_334 d_law_335 d_law_337 d_law_338 d_law_339 ?_
  refine lv_aload_n hx hb d_law_340 rfl (lv_at hl 3 rfl) ?_
  refine lm_callH (n := 5) S hW (c_L_set hfl (xs (i + 1)) (xs (i + 2)) (xs (i + 3)) σ ρ v h1) wd_768 wd_77 (by decide) (by decide +kernel) wd_767 wd_766 (by decide) hl.1 rfl rfl (Nat.le_of_ble_eq_true rfl) d_law_341 fun H1 locs1 cells1 slots1 hW1 => ?_
  refine lv_istore hx hb d_law_344 hl (Nat.le_of_ble_eq_true rfl) rfl fun ls1 hl1 => ?_
  refine lv_aload_n hx hb d_law_346 rfl (lv_at hl1 3 rfl) ?_
  refine lm_arg (i := i) (j := 1) S hX ha hW1 (by omega) hL (lv_at hl1 1 rfl) (lv_at hl1 5 rfl) (by decide) d_law_347 d_law_348 d_law_350 d_law_351 d_law_352 ?_
  refine lm_arg (i := i) (j := 2) S hX ha hW1 (by omega) hL (lv_at hl1 1 rfl) (lv_at hl1 5 rfl) (by decide) d_law_353 d_law_354 d_law_356 d_law_357 d_law_358 ?_
  refine lm_arg (i := i) (j := 3) S hX ha hW1 (by omega) hL (lv_at hl1 1 rfl) (lv_at hl1 5 rfl) (by decide) d_law_359 d_law_360 d_law_362 d_law_363 d_law_364 ?_
  refine lm_callR S hW1 (c_set (xs (i + 1)) (xs (i + 2)) (xs (i + 3)) ρ h2) q_set wd_1496 wd_1497 wd_1495 (by decide) hl1.1 rfl rfl (Nat.le_of_ble_eq_true rfl) d_law_365 fun H2 locs2 hW2 => ?_
  refine lv_istore hx hb d_law_368 hl1 (Nat.le_of_ble_eq_true rfl) rfl fun ls2 hl2 => ?_
  refine lv_aload_n hx hb d_law_370 rfl (lv_at hl2 4 rfl) ?_
  refine lm_callR S hW2 (c_thrown ρ2 h3) q_thrown wd_1419 wd_1420 wd_1418 (by decide) hl2.1 rfl rfl (Nat.le_of_ble_eq_true rfl) d_law_371 fun H3 locs3 hW3 => ?_
  refine lm_chk S hW3 (lv_at hl2 5 rfl) (lv_at hl2 1 rfl) (lv_at hl2 0 rfl) ht hv (by decide) d_law_374 d_law_376 d_law_381 d_law_383 d_law_386 d_law_387 d_law_388 d_law_389 d_law_391 d_law_392 d_law_393 d_law_398 ?_
  exact kk ls2 H3 locs3 _ _ (lv_sub hl2 [2, 3, 4, 5, 6] rfl) hW3
def s_write (xs : Nat → Int32) (i : Nat) (σ : CS) (ρ : RS) (v : Int64) : Option (CS × RS × Int64) := bc (m_L_write (xs (i + 1)) σ v) fun q => bc2 (m_write (xs (i + 1)) ρ) fun r ρ2 => bc2 (m_thrown ρ2) fun th ρ3 => gd (th = q.1) <| gd (q.1 = 0 → q.2.2 = r.toInt64) <| some (q.2.1, ρ3, q.2.2)
theorem law_write (hfl : l.flags = flags0) (S : LC p m c code 8 s args "StreamPairLaw" meth ret D tc b z) (hX : va_X a L xs s s.heap) (ha : a < b) {i : Nat} (hi : i + 6 ≤ L) (hL : L ≤ 3072) {σ : CS} {ρ : RS} {v : Int64} {B : CS × RS × Int64} (h : s_write xs i σ ρ v = some B) {ls : Array Slot} {H : Heap} {locs : List Loc} {cells slots : Nat} (hl : lv_has ls 8 (lvs a b i)) (hW : LWS D tc b z s 0 0 σ ρ v H locs cells slots)
    (kk : ∀ (ls1 : Array Slot) (H1 : Heap) (locs1 : List Loc) (cells1 slots1 : Nat), lv_has ls1 8 (lvs a b i) → LWS D tc b z s 0 0 B.1 B.2.1 B.2.2 H1 locs1 cells1 slots1 → W p l e (LR 17 692 0 0) s m args below meth c H1 locs1 cells1 slots1 Q (F0 m 1184 ls1 [])) : W p l e (LR 17 692 0 0) s m args below meth c H locs cells slots Q (F0 m 401 ls []) := by
  have hx := S.1.1
  have hb := S.1.2.1
  unfold s_write at h
  obtain ⟨⟨k, σ2, v2⟩, h1, h⟩ := bc_s h
  obtain ⟨r, ρ2, h2, h⟩ := bc2_s h
  obtain ⟨th, ρ3, h3, h⟩ := bc2_s h
  obtain ⟨ht, h⟩ := gd_s h
  obtain ⟨hv, h⟩ := gd_s h
  cases h
  refine lv_aload_n hx hb d_law_401 rfl (lv_at hl 1 rfl) ?_
  refine lm_arg (i := i) (j := 1) S hX ha hW (by omega) hL (lv_at hl 0 rfl) (lv_at hl 4 rfl) (by decide) d_law_402 d_law_403 d_law_405 d_law_406 d_law_407 ?_
  refine lv_aload_n hx hb d_law_408 rfl (lv_at hl 3 rfl) ?_
  refine lm_callH (n := 3) S hW (c_L_write hfl (xs (i + 1)) σ ρ v h1) wd_798 wd_77 (by decide) (by decide +kernel) wd_797 wd_796 (by decide) hl.1 rfl rfl (Nat.le_of_ble_eq_true rfl) d_law_409 fun H1 locs1 cells1 slots1 hW1 => ?_
  refine lv_istore hx hb d_law_412 hl (Nat.le_of_ble_eq_true rfl) rfl fun ls1 hl1 => ?_
  refine lv_aload_n hx hb d_law_414 rfl (lv_at hl1 3 rfl) ?_
  refine lm_arg (i := i) (j := 1) S hX ha hW1 (by omega) hL (lv_at hl1 1 rfl) (lv_at hl1 5 rfl) (by decide) d_law_415 d_law_416 d_law_418 d_law_419 d_law_420 ?_
  refine lm_callR S hW1 (c_write (xs (i + 1)) ρ h2) q_write wd_1503 wd_1504 wd_1502 (by decide) hl1.1 rfl rfl (Nat.le_of_ble_eq_true rfl) d_law_421 fun H2 locs2 hW2 => ?_
  refine lv_istore hx hb d_law_424 hl1 (Nat.le_of_ble_eq_true rfl) rfl fun ls2 hl2 => ?_
  refine lv_aload_n hx hb d_law_426 rfl (lv_at hl2 4 rfl) ?_
  refine lm_callR S hW2 (c_thrown ρ2 h3) q_thrown wd_1419 wd_1420 wd_1418 (by decide) hl2.1 rfl rfl (Nat.le_of_ble_eq_true rfl) d_law_427 fun H3 locs3 hW3 => ?_
  refine lm_chk S hW3 (lv_at hl2 5 rfl) (lv_at hl2 1 rfl) (lv_at hl2 0 rfl) ht hv (by decide) d_law_430 d_law_432 d_law_437 d_law_439 d_law_442 d_law_443 d_law_444 d_law_445 d_law_447 d_law_448 d_law_449 d_law_454 ?_
  exact kk ls2 H3 locs3 _ _ (lv_sub hl2 [2, 3, 4, 5, 6] rfl) hW3
def s_read (xs : Nat → Int32) (i : Nat) (σ : CS) (ρ : RS) (v : Int64) : Option (CS × RS × Int64) := bc (m_L_read (xs (i + 1)) (xs (i + 2)) σ v) fun q => bc2 (m_read (xs (i + 1)) (xs (i + 2)) ρ) fun r ρ2 => bc2 (m_thrown ρ2) fun th ρ3 => gd (th = q.1) <| gd (q.1 = 0 → q.2.2 = r) <| some (q.2.1, ρ3, q.2.2)
theorem law_read (hfl : l.flags = flags0) (S : LC p m c code 8 s args "StreamPairLaw" meth ret D tc b z) (hX : va_X a L xs s s.heap) (ha : a < b) {i : Nat} (hi : i + 6 ≤ L) (hL : L ≤ 3072) {σ : CS} {ρ : RS} {v : Int64} {B : CS × RS × Int64} (h : s_read xs i σ ρ v = some B) {ls : Array Slot} {H : Heap} {locs : List Loc} {cells slots : Nat} (hl : lv_has ls 8 (lvs a b i)) (hW : LWS D tc b z s 0 0 σ ρ v H locs cells slots)
    (kk : ∀ (ls1 : Array Slot) (H1 : Heap) (locs1 : List Loc) (cells1 slots1 : Nat), lv_has ls1 8 (lvs a b i) → LWS D tc b z s 0 0 B.1 B.2.1 B.2.2 H1 locs1 cells1 slots1 → W p l e (LR 17 692 0 0) s m args below meth c H1 locs1 cells1 slots1 Q (F0 m 1184 ls1 [])) : W p l e (LR 17 692 0 0) s m args below meth c H locs cells slots Q (F0 m 457 ls []) := by
  have hx := S.1.1
  have hb := S.1.2.1
  unfold s_read at h
  obtain ⟨⟨k, σ2, v2⟩, h1, h⟩ := bc_s h
  obtain ⟨r, ρ2, h2, h⟩ := bc2_s h
  obtain ⟨th, ρ3, h3, h⟩ := bc2_s h
  obtain ⟨ht, h⟩ := gd_s h
  obtain ⟨hv, h⟩ := gd_s h
  cases h
  refine lv_aload_n hx hb d_law_457 rfl (lv_at hl 1 rfl) ?_
  refine lm_arg (i := i) (j := 1) S hX ha hW (by omega) hL (lv_at hl 0 rfl) (lv_at hl 4 rfl) (by decide) d_law_458 d_law_459 d_law_461 d_law_462 d_law_463 ?_
  refine lm_arg (i := i) (j := 2) S hX ha hW (by omega) hL (lv_at hl 0 rfl) (lv_at hl 4 rfl) (by decide) d_law_464 d_law_465 d_law_467 d_law_468 d_law_469 ?_
  refine lv_aload_n hx hb d_law_470 rfl (lv_at hl 3 rfl) ?_
  refine lm_callH (n := 4) S hW (c_L_read hfl (xs (i + 1)) (xs (i + 2)) σ ρ v h1) wd_859 wd_77 (by decide) (by decide +kernel) wd_858 wd_857 (by decide) hl.1 rfl rfl (Nat.le_of_ble_eq_true rfl) d_law_471 fun H1 locs1 cells1 slots1 hW1 => ?_
  refine lv_istore hx hb d_law_474 hl (Nat.le_of_ble_eq_true rfl) rfl fun ls1 hl1 => ?_
  refine lv_aload_n hx hb d_law_476 rfl (lv_at hl1 3 rfl) ?_
  refine lm_arg (i := i) (j := 1) S hX ha hW1 (by omega) hL (lv_at hl1 1 rfl) (lv_at hl1 5 rfl) (by decide) d_law_477 d_law_478 d_law_480 d_law_481 d_law_482 ?_
  refine lm_arg (i := i) (j := 2) S hX ha hW1 (by omega) hL (lv_at hl1 1 rfl) (lv_at hl1 5 rfl) (by decide) d_law_483 d_law_484 d_law_486 d_law_487 d_law_488 ?_
  refine lm_callR S hW1 (c_read (xs (i + 1)) (xs (i + 2)) ρ h2) q_read wd_1519 wd_1520 wd_1518 (by decide) hl1.1 rfl rfl (Nat.le_of_ble_eq_true rfl) d_law_489 fun H2 locs2 hW2 => ?_
  refine lv_lstore hx hb d_law_492 hl1 (Nat.le_of_ble_eq_true rfl) rfl fun ls2 hl2 => ?_
  refine lv_aload_n hx hb d_law_494 rfl (lv_at hl2 4 rfl) ?_
  refine lm_callR S hW2 (c_thrown ρ2 h3) q_thrown wd_1419 wd_1420 wd_1418 (by decide) hl2.1 rfl rfl (Nat.le_of_ble_eq_true rfl) d_law_495 fun H3 locs3 hW3 => ?_
  refine lm_chkL S hW3 (lv_at hl2 5 rfl) (lv_at hl2 1 rfl) (lv_at hl2 0 rfl) ht hv (by decide) d_law_498 d_law_500 d_law_505 d_law_507 d_law_510 d_law_511 d_law_512 d_law_513 d_law_515 d_law_516 d_law_521 ?_
  exact kk ls2 H3 locs3 _ _ (lv_sub hl2 [2, 3, 4, 5, 6] rfl) hW3
def s_close (xs : Nat → Int32) (i : Nat) (σ : CS) (ρ : RS) (v : Int64) : Option (CS × RS × Int64) := bc (m_L_close (xs (i + 1)) σ v) fun q => bc2 (m_close (xs (i + 1)) ρ) fun r ρ2 => bc2 (m_thrown ρ2) fun th ρ3 => gd (th = q.1) <| gd (q.1 = 0 → q.2.2 = r.toInt64) <| some (q.2.1, ρ3, q.2.2)
theorem law_close (hfl : l.flags = flags0) (S : LC p m c code 8 s args "StreamPairLaw" meth ret D tc b z) (hX : va_X a L xs s s.heap) (ha : a < b) {i : Nat} (hi : i + 6 ≤ L) (hL : L ≤ 3072) {σ : CS} {ρ : RS} {v : Int64} {B : CS × RS × Int64} (h : s_close xs i σ ρ v = some B) {ls : Array Slot} {H : Heap} {locs : List Loc} {cells slots : Nat} (hl : lv_has ls 8 (lvs a b i)) (hW : LWS D tc b z s 0 0 σ ρ v H locs cells slots)
    (kk : ∀ (ls1 : Array Slot) (H1 : Heap) (locs1 : List Loc) (cells1 slots1 : Nat), lv_has ls1 8 (lvs a b i) → LWS D tc b z s 0 0 B.1 B.2.1 B.2.2 H1 locs1 cells1 slots1 → W p l e (LR 17 692 0 0) s m args below meth c H1 locs1 cells1 slots1 Q (F0 m 1184 ls1 [])) : W p l e (LR 17 692 0 0) s m args below meth c H locs cells slots Q (F0 m 524 ls []) := by
  have hx := S.1.1
  have hb := S.1.2.1
  unfold s_close at h
  obtain ⟨⟨k, σ2, v2⟩, h1, h⟩ := bc_s h
  obtain ⟨r, ρ2, h2, h⟩ := bc2_s h
  obtain ⟨th, ρ3, h3, h⟩ := bc2_s h
  obtain ⟨ht, h⟩ := gd_s h
  obtain ⟨hv, h⟩ := gd_s h
  cases h
  refine lv_aload_n hx hb d_law_524 rfl (lv_at hl 1 rfl) ?_
  refine lm_arg (i := i) (j := 1) S hX ha hW (by omega) hL (lv_at hl 0 rfl) (lv_at hl 4 rfl) (by decide) d_law_525 d_law_526 d_law_528 d_law_529 d_law_530 ?_
  refine lv_aload_n hx hb d_law_531 rfl (lv_at hl 3 rfl) ?_
  refine lm_callH (n := 3) S hW (c_L_close hfl (xs (i + 1)) σ ρ v h1) wd_888 wd_77 (by decide) (by decide +kernel) wd_887 wd_886 (by decide) hl.1 rfl rfl (Nat.le_of_ble_eq_true rfl) d_law_532 fun H1 locs1 cells1 slots1 hW1 => ?_
  refine lv_istore hx hb d_law_535 hl (Nat.le_of_ble_eq_true rfl) rfl fun ls1 hl1 => ?_
  refine lv_aload_n hx hb d_law_537 rfl (lv_at hl1 3 rfl) ?_
  refine lm_arg (i := i) (j := 1) S hX ha hW1 (by omega) hL (lv_at hl1 1 rfl) (lv_at hl1 5 rfl) (by decide) d_law_538 d_law_539 d_law_541 d_law_542 d_law_543 ?_
  refine lm_callR S hW1 (c_close (xs (i + 1)) ρ h2) q_close wd_1528 wd_1529 wd_1527 (by decide) hl1.1 rfl rfl (Nat.le_of_ble_eq_true rfl) d_law_544 fun H2 locs2 hW2 => ?_
  refine lv_istore hx hb d_law_547 hl1 (Nat.le_of_ble_eq_true rfl) rfl fun ls2 hl2 => ?_
  refine lv_aload_n hx hb d_law_549 rfl (lv_at hl2 4 rfl) ?_
  refine lm_callR S hW2 (c_thrown ρ2 h3) q_thrown wd_1419 wd_1420 wd_1418 (by decide) hl2.1 rfl rfl (Nat.le_of_ble_eq_true rfl) d_law_550 fun H3 locs3 hW3 => ?_
  refine lm_chk S hW3 (lv_at hl2 5 rfl) (lv_at hl2 1 rfl) (lv_at hl2 0 rfl) ht hv (by decide) d_law_553 d_law_555 d_law_560 d_law_562 d_law_565 d_law_566 d_law_567 d_law_568 d_law_570 d_law_571 d_law_572 d_law_577 ?_
  exact kk ls2 H3 locs3 _ _ (lv_sub hl2 [2, 3, 4, 5, 6] rfl) hW3
def s_abort (xs : Nat → Int32) (i : Nat) (σ : CS) (ρ : RS) (v : Int64) : Option (CS × RS × Int64) := bc (m_L_abort (xs (i + 1)) σ v) fun q => bc2 (m_abort (xs (i + 1)) ρ) fun r ρ2 => bc2 (m_thrown ρ2) fun th ρ3 => gd (th = q.1) <| gd (q.1 = 0 → q.2.2 = r.toInt64) <| some (q.2.1, ρ3, q.2.2)
theorem law_abort (hfl : l.flags = flags0) (S : LC p m c code 8 s args "StreamPairLaw" meth ret D tc b z) (hX : va_X a L xs s s.heap) (ha : a < b) {i : Nat} (hi : i + 6 ≤ L) (hL : L ≤ 3072) {σ : CS} {ρ : RS} {v : Int64} {B : CS × RS × Int64} (h : s_abort xs i σ ρ v = some B) {ls : Array Slot} {H : Heap} {locs : List Loc} {cells slots : Nat} (hl : lv_has ls 8 (lvs a b i)) (hW : LWS D tc b z s 0 0 σ ρ v H locs cells slots)
    (kk : ∀ (ls1 : Array Slot) (H1 : Heap) (locs1 : List Loc) (cells1 slots1 : Nat), lv_has ls1 8 (lvs a b i) → LWS D tc b z s 0 0 B.1 B.2.1 B.2.2 H1 locs1 cells1 slots1 → W p l e (LR 17 692 0 0) s m args below meth c H1 locs1 cells1 slots1 Q (F0 m 1184 ls1 [])) : W p l e (LR 17 692 0 0) s m args below meth c H locs cells slots Q (F0 m 580 ls []) := by
  have hx := S.1.1
  have hb := S.1.2.1
  unfold s_abort at h
  obtain ⟨⟨k, σ2, v2⟩, h1, h⟩ := bc_s h
  obtain ⟨r, ρ2, h2, h⟩ := bc2_s h
  obtain ⟨th, ρ3, h3, h⟩ := bc2_s h
  obtain ⟨ht, h⟩ := gd_s h
  obtain ⟨hv, h⟩ := gd_s h
  cases h
  refine lv_aload_n hx hb d_law_580 rfl (lv_at hl 1 rfl) ?_
  refine lm_arg (i := i) (j := 1) S hX ha hW (by omega) hL (lv_at hl 0 rfl) (lv_at hl 4 rfl) (by decide) d_law_581 d_law_582 d_law_584 d_law_585 d_law_586 ?_
  refine lv_aload_n hx hb d_law_587 rfl (lv_at hl 3 rfl) ?_
  refine lm_callH (n := 3) S hW (c_L_abort hfl (xs (i + 1)) σ ρ v h1) wd_909 wd_77 (by decide) (by decide +kernel) wd_908 wd_907 (by decide) hl.1 rfl rfl (Nat.le_of_ble_eq_true rfl) d_law_588 fun H1 locs1 cells1 slots1 hW1 => ?_
  refine lv_istore hx hb d_law_591 hl (Nat.le_of_ble_eq_true rfl) rfl fun ls1 hl1 => ?_
  refine lv_aload_n hx hb d_law_593 rfl (lv_at hl1 3 rfl) ?_
  refine lm_arg (i := i) (j := 1) S hX ha hW1 (by omega) hL (lv_at hl1 1 rfl) (lv_at hl1 5 rfl) (by decide) d_law_594 d_law_595 d_law_597 d_law_598 d_law_599 ?_
  refine lm_callR S hW1 (c_abort (xs (i + 1)) ρ h2) q_abort wd_1536 wd_1537 wd_1535 (by decide) hl1.1 rfl rfl (Nat.le_of_ble_eq_true rfl) d_law_600 fun H2 locs2 hW2 => ?_
  refine lv_istore hx hb d_law_603 hl1 (Nat.le_of_ble_eq_true rfl) rfl fun ls2 hl2 => ?_
  refine lv_aload_n hx hb d_law_605 rfl (lv_at hl2 4 rfl) ?_
  refine lm_callR S hW2 (c_thrown ρ2 h3) q_thrown wd_1419 wd_1420 wd_1418 (by decide) hl2.1 rfl rfl (Nat.le_of_ble_eq_true rfl) d_law_606 fun H3 locs3 hW3 => ?_
  refine lm_chk S hW3 (lv_at hl2 5 rfl) (lv_at hl2 1 rfl) (lv_at hl2 0 rfl) ht hv (by decide) d_law_609 d_law_611 d_law_616 d_law_618 d_law_621 d_law_622 d_law_623 d_law_624 d_law_626 d_law_627 d_law_628 d_law_633 ?_
  exact kk ls2 H3 locs3 _ _ (lv_sub hl2 [2, 3, 4, 5, 6] rfl) hW3
def s_tick (xs : Nat → Int32) (i : Nat) (σ : CS) (ρ : RS) (v : Int64) : Option (CS × RS × Int64) := bc (m_L_tick (xs (i + 1)) σ v) fun q => bc2 (m_tick (xs (i + 1)) ρ) fun r ρ2 => bc2 (m_thrown ρ2) fun th ρ3 => gd (th = q.1) <| gd (q.1 = 0 → q.2.2 = r) <| some (q.2.1, ρ3, q.2.2)
theorem law_tick (hfl : l.flags = flags0) (S : LC p m c code 8 s args "StreamPairLaw" meth ret D tc b z) (hX : va_X a L xs s s.heap) (ha : a < b) {i : Nat} (hi : i + 6 ≤ L) (hL : L ≤ 3072) {σ : CS} {ρ : RS} {v : Int64} {B : CS × RS × Int64} (h : s_tick xs i σ ρ v = some B) {ls : Array Slot} {H : Heap} {locs : List Loc} {cells slots : Nat} (hl : lv_has ls 8 (lvs a b i)) (hW : LWS D tc b z s 0 0 σ ρ v H locs cells slots)
    (kk : ∀ (ls1 : Array Slot) (H1 : Heap) (locs1 : List Loc) (cells1 slots1 : Nat), lv_has ls1 8 (lvs a b i) → LWS D tc b z s 0 0 B.1 B.2.1 B.2.2 H1 locs1 cells1 slots1 → W p l e (LR 17 692 0 0) s m args below meth c H1 locs1 cells1 slots1 Q (F0 m 1184 ls1 [])) : W p l e (LR 17 692 0 0) s m args below meth c H locs cells slots Q (F0 m 636 ls []) := by
  have hx := S.1.1
  have hb := S.1.2.1
  unfold s_tick at h
  obtain ⟨⟨k, σ2, v2⟩, h1, h⟩ := bc_s h
  obtain ⟨r, ρ2, h2, h⟩ := bc2_s h
  obtain ⟨th, ρ3, h3, h⟩ := bc2_s h
  obtain ⟨ht, h⟩ := gd_s h
  obtain ⟨hv, h⟩ := gd_s h
  cases h
  refine lv_aload_n hx hb d_law_636 rfl (lv_at hl 1 rfl) ?_
  refine lm_arg (i := i) (j := 1) S hX ha hW (by omega) hL (lv_at hl 0 rfl) (lv_at hl 4 rfl) (by decide) d_law_637 d_law_638 d_law_640 d_law_641 d_law_642 ?_
  refine lv_aload_n hx hb d_law_643 rfl (lv_at hl 3 rfl) ?_
  refine lm_callH (n := 3) S hW (c_L_tick hfl (xs (i + 1)) σ ρ v h1) wd_920 wd_77 (by decide) (by decide +kernel) wd_919 wd_918 (by decide) hl.1 rfl rfl (Nat.le_of_ble_eq_true rfl) d_law_644 fun H1 locs1 cells1 slots1 hW1 => ?_
  refine lv_istore hx hb d_law_647 hl (Nat.le_of_ble_eq_true rfl) rfl fun ls1 hl1 => ?_
  refine lv_aload_n hx hb d_law_649 rfl (lv_at hl1 3 rfl) ?_
  refine lm_arg (i := i) (j := 1) S hX ha hW1 (by omega) hL (lv_at hl1 1 rfl) (lv_at hl1 5 rfl) (by decide) d_law_650 d_law_651 d_law_653 d_law_654 d_law_655 ?_
  refine lm_callR S hW1 (c_tick (xs (i + 1)) ρ h2) q_tick wd_1544 wd_1545 wd_1543 (by decide) hl1.1 rfl rfl (Nat.le_of_ble_eq_true rfl) d_law_656 fun H2 locs2 hW2 => ?_
  refine lv_lstore hx hb d_law_659 hl1 (Nat.le_of_ble_eq_true rfl) rfl fun ls2 hl2 => ?_
  refine lv_aload_n hx hb d_law_661 rfl (lv_at hl2 4 rfl) ?_
  refine lm_callR S hW2 (c_thrown ρ2 h3) q_thrown wd_1419 wd_1420 wd_1418 (by decide) hl2.1 rfl rfl (Nat.le_of_ble_eq_true rfl) d_law_662 fun H3 locs3 hW3 => ?_
  refine lm_chkL S hW3 (lv_at hl2 5 rfl) (lv_at hl2 1 rfl) (lv_at hl2 0 rfl) ht hv (by decide) d_law_665 d_law_667 d_law_672 d_law_674 d_law_677 d_law_678 d_law_679 d_law_680 d_law_682 d_law_683 d_law_688 ?_
  exact kk ls2 H3 locs3 _ _ (lv_sub hl2 [2, 3, 4, 5, 6] rfl) hW3
def s_deliver (xs : Nat → Int32) (i : Nat) (σ : CS) (ρ : RS) (v : Int64) : Option (CS × RS × Int64) := bc (m_L_deliver (xs (i + 1)) σ v) fun q => bc2 (m_deliver (xs (i + 1)) ρ) fun r ρ2 => bc2 (m_thrown ρ2) fun th ρ3 => gd (th = q.1) <| gd (q.1 = 0 → q.2.2 = r.toInt64) <| some (q.2.1, ρ3, q.2.2)
theorem law_deliver (hfl : l.flags = flags0) (S : LC p m c code 8 s args "StreamPairLaw" meth ret D tc b z) (hX : va_X a L xs s s.heap) (ha : a < b) {i : Nat} (hi : i + 6 ≤ L) (hL : L ≤ 3072) {σ : CS} {ρ : RS} {v : Int64} {B : CS × RS × Int64} (h : s_deliver xs i σ ρ v = some B) {ls : Array Slot} {H : Heap} {locs : List Loc} {cells slots : Nat} (hl : lv_has ls 8 (lvs a b i)) (hW : LWS D tc b z s 0 0 σ ρ v H locs cells slots)
    (kk : ∀ (ls1 : Array Slot) (H1 : Heap) (locs1 : List Loc) (cells1 slots1 : Nat), lv_has ls1 8 (lvs a b i) → LWS D tc b z s 0 0 B.1 B.2.1 B.2.2 H1 locs1 cells1 slots1 → W p l e (LR 17 692 0 0) s m args below meth c H1 locs1 cells1 slots1 Q (F0 m 1184 ls1 [])) : W p l e (LR 17 692 0 0) s m args below meth c H locs cells slots Q (F0 m 691 ls []) := by
  have hx := S.1.1
  have hb := S.1.2.1
  unfold s_deliver at h
  obtain ⟨⟨k, σ2, v2⟩, h1, h⟩ := bc_s h
  obtain ⟨r, ρ2, h2, h⟩ := bc2_s h
  obtain ⟨th, ρ3, h3, h⟩ := bc2_s h
  obtain ⟨ht, h⟩ := gd_s h
  obtain ⟨hv, h⟩ := gd_s h
  cases h
  refine lv_aload_n hx hb d_law_691 rfl (lv_at hl 1 rfl) ?_
  refine lm_arg (i := i) (j := 1) S hX ha hW (by omega) hL (lv_at hl 0 rfl) (lv_at hl 4 rfl) (by decide) d_law_692 d_law_693 d_law_695 d_law_696 d_law_697 ?_
  refine lv_aload_n hx hb d_law_698 rfl (lv_at hl 3 rfl) ?_
  refine lm_callH (n := 3) S hW (c_L_deliver hfl (xs (i + 1)) σ ρ v h1) wd_952 wd_77 (by decide) (by decide +kernel) wd_951 wd_950 (by decide) hl.1 rfl rfl (Nat.le_of_ble_eq_true rfl) d_law_699 fun H1 locs1 cells1 slots1 hW1 => ?_
  refine lv_istore hx hb d_law_702 hl (Nat.le_of_ble_eq_true rfl) rfl fun ls1 hl1 => ?_
  refine lv_aload_n hx hb d_law_704 rfl (lv_at hl1 3 rfl) ?_
  refine lm_arg (i := i) (j := 1) S hX ha hW1 (by omega) hL (lv_at hl1 1 rfl) (lv_at hl1 5 rfl) (by decide) d_law_705 d_law_706 d_law_708 d_law_709 d_law_710 ?_
  refine lm_callR S hW1 (c_deliver (xs (i + 1)) ρ h2) q_deliver wd_1558 wd_1559 wd_1557 (by decide) hl1.1 rfl rfl (Nat.le_of_ble_eq_true rfl) d_law_711 fun H2 locs2 hW2 => ?_
  refine lv_istore hx hb d_law_714 hl1 (Nat.le_of_ble_eq_true rfl) rfl fun ls2 hl2 => ?_
  refine lv_aload_n hx hb d_law_716 rfl (lv_at hl2 4 rfl) ?_
  refine lm_callR S hW2 (c_thrown ρ2 h3) q_thrown wd_1419 wd_1420 wd_1418 (by decide) hl2.1 rfl rfl (Nat.le_of_ble_eq_true rfl) d_law_717 fun H3 locs3 hW3 => ?_
  refine lm_chk S hW3 (lv_at hl2 5 rfl) (lv_at hl2 1 rfl) (lv_at hl2 0 rfl) ht hv (by decide) d_law_720 d_law_722 d_law_727 d_law_729 d_law_732 d_law_733 d_law_734 d_law_735 d_law_737 d_law_738 d_law_739 d_law_744 ?_
  exact kk ls2 H3 locs3 _ _ (lv_sub hl2 [2, 3, 4, 5, 6] rfl) hW3
def s_drop (xs : Nat → Int32) (i : Nat) (σ : CS) (ρ : RS) (v : Int64) : Option (CS × RS × Int64) := bc (m_L_drop (xs (i + 1)) σ v) fun q => bc2 (m_drop (xs (i + 1)) ρ) fun r ρ2 => bc2 (m_thrown ρ2) fun th ρ3 => gd (th = q.1) <| gd (q.1 = 0 → q.2.2 = r.toInt64) <| some (q.2.1, ρ3, q.2.2)
theorem law_drop (hfl : l.flags = flags0) (S : LC p m c code 8 s args "StreamPairLaw" meth ret D tc b z) (hX : va_X a L xs s s.heap) (ha : a < b) {i : Nat} (hi : i + 6 ≤ L) (hL : L ≤ 3072) {σ : CS} {ρ : RS} {v : Int64} {B : CS × RS × Int64} (h : s_drop xs i σ ρ v = some B) {ls : Array Slot} {H : Heap} {locs : List Loc} {cells slots : Nat} (hl : lv_has ls 8 (lvs a b i)) (hW : LWS D tc b z s 0 0 σ ρ v H locs cells slots)
    (kk : ∀ (ls1 : Array Slot) (H1 : Heap) (locs1 : List Loc) (cells1 slots1 : Nat), lv_has ls1 8 (lvs a b i) → LWS D tc b z s 0 0 B.1 B.2.1 B.2.2 H1 locs1 cells1 slots1 → W p l e (LR 17 692 0 0) s m args below meth c H1 locs1 cells1 slots1 Q (F0 m 1184 ls1 [])) : W p l e (LR 17 692 0 0) s m args below meth c H locs cells slots Q (F0 m 747 ls []) := by
  have hx := S.1.1
  have hb := S.1.2.1
  unfold s_drop at h
  obtain ⟨⟨k, σ2, v2⟩, h1, h⟩ := bc_s h
  obtain ⟨r, ρ2, h2, h⟩ := bc2_s h
  obtain ⟨th, ρ3, h3, h⟩ := bc2_s h
  obtain ⟨ht, h⟩ := gd_s h
  obtain ⟨hv, h⟩ := gd_s h
  cases h
  refine lv_aload_n hx hb d_law_747 rfl (lv_at hl 1 rfl) ?_
  refine lm_arg (i := i) (j := 1) S hX ha hW (by omega) hL (lv_at hl 0 rfl) (lv_at hl 4 rfl) (by decide) d_law_748 d_law_749 d_law_751 d_law_752 d_law_753 ?_
  refine lv_aload_n hx hb d_law_754 rfl (lv_at hl 3 rfl) ?_
  refine lm_callH (n := 3) S hW (c_L_drop hfl (xs (i + 1)) σ ρ v h1) wd_1169 wd_77 (by decide) (by decide +kernel) wd_1168 wd_1167 (by decide) hl.1 rfl rfl (Nat.le_of_ble_eq_true rfl) d_law_755 fun H1 locs1 cells1 slots1 hW1 => ?_
  refine lv_istore hx hb d_law_758 hl (Nat.le_of_ble_eq_true rfl) rfl fun ls1 hl1 => ?_
  refine lv_aload_n hx hb d_law_760 rfl (lv_at hl1 3 rfl) ?_
  refine lm_arg (i := i) (j := 1) S hX ha hW1 (by omega) hL (lv_at hl1 1 rfl) (lv_at hl1 5 rfl) (by decide) d_law_761 d_law_762 d_law_764 d_law_765 d_law_766 ?_
  refine lm_callR S hW1 (c_drop (xs (i + 1)) ρ h2) q_drop wd_1649 wd_1650 wd_1648 (by decide) hl1.1 rfl rfl (Nat.le_of_ble_eq_true rfl) d_law_767 fun H2 locs2 hW2 => ?_
  refine lv_istore hx hb d_law_770 hl1 (Nat.le_of_ble_eq_true rfl) rfl fun ls2 hl2 => ?_
  refine lv_aload_n hx hb d_law_772 rfl (lv_at hl2 4 rfl) ?_
  refine lm_callR S hW2 (c_thrown ρ2 h3) q_thrown wd_1419 wd_1420 wd_1418 (by decide) hl2.1 rfl rfl (Nat.le_of_ble_eq_true rfl) d_law_773 fun H3 locs3 hW3 => ?_
  refine lm_chk S hW3 (lv_at hl2 5 rfl) (lv_at hl2 1 rfl) (lv_at hl2 0 rfl) ht hv (by decide) d_law_776 d_law_778 d_law_783 d_law_785 d_law_788 d_law_789 d_law_790 d_law_791 d_law_793 d_law_794 d_law_795 d_law_800 ?_
  exact kk ls2 H3 locs3 _ _ (lv_sub hl2 [2, 3, 4, 5, 6] rfl) hW3
def s_copy (xs : Nat → Int32) (i : Nat) (σ : CS) (ρ : RS) (v : Int64) : Option (CS × RS × Int64) := bc (m_L_copy (xs (i + 1)) σ v) fun q => bc2 (m_copy (xs (i + 1)) ρ) fun r ρ2 => bc2 (m_thrown ρ2) fun th ρ3 => gd (th = q.1) <| gd (q.1 = 0 → q.2.2 = r.toInt64) <| some (q.2.1, ρ3, q.2.2)
theorem law_copy (hfl : l.flags = flags0) (S : LC p m c code 8 s args "StreamPairLaw" meth ret D tc b z) (hX : va_X a L xs s s.heap) (ha : a < b) {i : Nat} (hi : i + 6 ≤ L) (hL : L ≤ 3072) {σ : CS} {ρ : RS} {v : Int64} {B : CS × RS × Int64} (h : s_copy xs i σ ρ v = some B) {ls : Array Slot} {H : Heap} {locs : List Loc} {cells slots : Nat} (hl : lv_has ls 8 (lvs a b i)) (hW : LWS D tc b z s 0 0 σ ρ v H locs cells slots)
    (kk : ∀ (ls1 : Array Slot) (H1 : Heap) (locs1 : List Loc) (cells1 slots1 : Nat), lv_has ls1 8 (lvs a b i) → LWS D tc b z s 0 0 B.1 B.2.1 B.2.2 H1 locs1 cells1 slots1 → W p l e (LR 17 692 0 0) s m args below meth c H1 locs1 cells1 slots1 Q (F0 m 1184 ls1 [])) : W p l e (LR 17 692 0 0) s m args below meth c H locs cells slots Q (F0 m 803 ls []) := by
  have hx := S.1.1
  have hb := S.1.2.1
  unfold s_copy at h
  obtain ⟨⟨k, σ2, v2⟩, h1, h⟩ := bc_s h
  obtain ⟨r, ρ2, h2, h⟩ := bc2_s h
  obtain ⟨th, ρ3, h3, h⟩ := bc2_s h
  obtain ⟨ht, h⟩ := gd_s h
  obtain ⟨hv, h⟩ := gd_s h
  cases h
  refine lv_aload_n hx hb d_law_803 rfl (lv_at hl 1 rfl) ?_
  refine lm_arg (i := i) (j := 1) S hX ha hW (by omega) hL (lv_at hl 0 rfl) (lv_at hl 4 rfl) (by decide) d_law_804 d_law_805 d_law_807 d_law_808 d_law_809 ?_
  refine lv_aload_n hx hb d_law_810 rfl (lv_at hl 3 rfl) ?_
  refine lm_callH (n := 3) S hW (c_L_copy hfl (xs (i + 1)) σ ρ v h1) wd_1176 wd_77 (by decide) (by decide +kernel) wd_1175 wd_1174 (by decide) hl.1 rfl rfl (Nat.le_of_ble_eq_true rfl) d_law_811 fun H1 locs1 cells1 slots1 hW1 => ?_
  refine lv_istore hx hb d_law_814 hl (Nat.le_of_ble_eq_true rfl) rfl fun ls1 hl1 => ?_
  refine lv_aload_n hx hb d_law_816 rfl (lv_at hl1 3 rfl) ?_
  refine lm_arg (i := i) (j := 1) S hX ha hW1 (by omega) hL (lv_at hl1 1 rfl) (lv_at hl1 5 rfl) (by decide) d_law_817 d_law_818 d_law_820 d_law_821 d_law_822 ?_
  refine lm_callR S hW1 (c_copy (xs (i + 1)) ρ h2) q_copy wd_1653 wd_1654 wd_1652 (by decide) hl1.1 rfl rfl (Nat.le_of_ble_eq_true rfl) d_law_823 fun H2 locs2 hW2 => ?_
  refine lv_istore hx hb d_law_826 hl1 (Nat.le_of_ble_eq_true rfl) rfl fun ls2 hl2 => ?_
  refine lv_aload_n hx hb d_law_828 rfl (lv_at hl2 4 rfl) ?_
  refine lm_callR S hW2 (c_thrown ρ2 h3) q_thrown wd_1419 wd_1420 wd_1418 (by decide) hl2.1 rfl rfl (Nat.le_of_ble_eq_true rfl) d_law_829 fun H3 locs3 hW3 => ?_
  refine lm_chk S hW3 (lv_at hl2 5 rfl) (lv_at hl2 1 rfl) (lv_at hl2 0 rfl) ht hv (by decide) d_law_832 d_law_834 d_law_839 d_law_841 d_law_844 d_law_845 d_law_846 d_law_847 d_law_849 d_law_850 d_law_851 d_law_856 ?_
  exact kk ls2 H3 locs3 _ _ (lv_sub hl2 [2, 3, 4, 5, 6] rfl) hW3
def s_flip (xs : Nat → Int32) (i : Nat) (σ : CS) (ρ : RS) (v : Int64) : Option (CS × RS × Int64) := bc (m_L_flip (xs (i + 1)) (xs (i + 2)) (xs (i + 3)) (zb (xs (i + 4))) σ v) fun q => bc2 (m_flip (xs (i + 1)) (xs (i + 2)) (xs (i + 3)) (zb (xs (i + 4))) ρ) fun r ρ2 => bc2 (m_thrown ρ2) fun th ρ3 => gd (th = q.1) <| gd (q.1 = 0 → q.2.2 = r.toInt64) <| some (q.2.1, ρ3, q.2.2)
theorem law_flip (hfl : l.flags = flags0) (S : LC p m c code 8 s args "StreamPairLaw" meth ret D tc b z) (hX : va_X a L xs s s.heap) (ha : a < b) {i : Nat} (hi : i + 6 ≤ L) (hL : L ≤ 3072) {σ : CS} {ρ : RS} {v : Int64} {B : CS × RS × Int64} (h : s_flip xs i σ ρ v = some B) {ls : Array Slot} {H : Heap} {locs : List Loc} {cells slots : Nat} (hl : lv_has ls 8 (lvs a b i)) (hW : LWS D tc b z s 0 0 σ ρ v H locs cells slots)
    (kk : ∀ (ls1 : Array Slot) (H1 : Heap) (locs1 : List Loc) (cells1 slots1 : Nat), lv_has ls1 8 (lvs a b i) → LWS D tc b z s 0 0 B.1 B.2.1 B.2.2 H1 locs1 cells1 slots1 → W p l e (LR 17 692 0 0) s m args below meth c H1 locs1 cells1 slots1 Q (F0 m 1184 ls1 [])) : W p l e (LR 17 692 0 0) s m args below meth c H locs cells slots Q (F0 m 859 ls []) := by
  have hx := S.1.1
  have hb := S.1.2.1
  unfold s_flip at h
  obtain ⟨⟨k, σ2, v2⟩, h1, h⟩ := bc_s h
  obtain ⟨r, ρ2, h2, h⟩ := bc2_s h
  obtain ⟨th, ρ3, h3, h⟩ := bc2_s h
  obtain ⟨ht, h⟩ := gd_s h
  obtain ⟨hv, h⟩ := gd_s h
  cases h
  refine lv_aload_n hx hb d_law_859 rfl (lv_at hl 1 rfl) ?_
  refine lm_arg (i := i) (j := 1) S hX ha hW (by omega) hL (lv_at hl 0 rfl) (lv_at hl 4 rfl) (by decide) d_law_860 d_law_861 d_law_863 d_law_864 d_law_865 ?_
  refine lm_arg (i := i) (j := 2) S hX ha hW (by omega) hL (lv_at hl 0 rfl) (lv_at hl 4 rfl) (by decide) d_law_866 d_law_867 d_law_869 d_law_870 d_law_871 ?_
  refine lm_arg (i := i) (j := 3) S hX ha hW (by omega) hL (lv_at hl 0 rfl) (lv_at hl 4 rfl) (by decide) d_law_872 d_law_873 d_law_875 d_law_876 d_law_877 ?_
  refine lm_arg (i := i) (j := 4) S hX ha hW (by omega) hL (lv_at hl 0 rfl) (lv_at hl 4 rfl) (by decide) d_law_878 d_law_879 d_law_881 d_law_882 d_law_883 ?_
  refine lm_bool hx hb d_law_884 d_law_887 d_law_888 d_law_891 ?_
  refine lv_aload_n hx hb d_law_892 rfl (lv_at hl 3 rfl) ?_
  refine lm_callH (n := 6) S hW (c_L_flip hfl (xs (i + 1)) (xs (i + 2)) (xs (i + 3)) (zb (xs (i + 4))) σ ρ v h1) wd_1189 wd_77 (by decide) (by decide +kernel) wd_1188 wd_1187 (by decide) hl.1 rfl rfl (Nat.le_of_ble_eq_true rfl) d_law_893 fun H1 locs1 cells1 slots1 hW1 => ?_
  refine lv_istore hx hb d_law_896 hl (Nat.le_of_ble_eq_true rfl) rfl fun ls1 hl1 => ?_
  refine lv_aload_n hx hb d_law_898 rfl (lv_at hl1 3 rfl) ?_
  refine lm_arg (i := i) (j := 1) S hX ha hW1 (by omega) hL (lv_at hl1 1 rfl) (lv_at hl1 5 rfl) (by decide) d_law_899 d_law_900 d_law_902 d_law_903 d_law_904 ?_
  refine lm_arg (i := i) (j := 2) S hX ha hW1 (by omega) hL (lv_at hl1 1 rfl) (lv_at hl1 5 rfl) (by decide) d_law_905 d_law_906 d_law_908 d_law_909 d_law_910 ?_
  refine lm_arg (i := i) (j := 3) S hX ha hW1 (by omega) hL (lv_at hl1 1 rfl) (lv_at hl1 5 rfl) (by decide) d_law_911 d_law_912 d_law_914 d_law_915 d_law_916 ?_
  refine lm_arg (i := i) (j := 4) S hX ha hW1 (by omega) hL (lv_at hl1 1 rfl) (lv_at hl1 5 rfl) (by decide) d_law_917 d_law_918 d_law_920 d_law_921 d_law_922 ?_
  refine lm_bool hx hb d_law_923 d_law_926 d_law_927 d_law_930 ?_
  refine lm_callR S hW1 (c_flip (xs (i + 1)) (xs (i + 2)) (xs (i + 3)) (zb (xs (i + 4))) ρ h2) q_flip wd_1657 wd_1658 wd_1656 (by decide) hl1.1 rfl rfl (Nat.le_of_ble_eq_true rfl) d_law_931 fun H2 locs2 hW2 => ?_
  refine lv_istore hx hb d_law_934 hl1 (Nat.le_of_ble_eq_true rfl) rfl fun ls2 hl2 => ?_
  refine lv_aload_n hx hb d_law_936 rfl (lv_at hl2 4 rfl) ?_
  refine lm_callR S hW2 (c_thrown ρ2 h3) q_thrown wd_1419 wd_1420 wd_1418 (by decide) hl2.1 rfl rfl (Nat.le_of_ble_eq_true rfl) d_law_937 fun H3 locs3 hW3 => ?_
  refine lm_chk S hW3 (lv_at hl2 5 rfl) (lv_at hl2 1 rfl) (lv_at hl2 0 rfl) ht hv (by decide) d_law_940 d_law_942 d_law_947 d_law_949 d_law_952 d_law_953 d_law_954 d_law_955 d_law_957 d_law_958 d_law_959 d_law_964 ?_
  exact kk ls2 H3 locs3 _ _ (lv_sub hl2 [2, 3, 4, 5, 6] rfl) hW3
def s_inject (xs : Nat → Int32) (i : Nat) (σ : CS) (ρ : RS) (v : Int64) : Option (CS × RS × Int64) := bc (m_L_inject (xs (i + 1)) σ v) fun q => bc2 (m_inject (xs (i + 1)) ρ) fun r ρ2 => bc2 (m_thrown ρ2) fun th ρ3 => gd (th = q.1) <| gd (q.1 = 0 → q.2.2 = r.toInt64) <| some (q.2.1, ρ3, q.2.2)
theorem law_inject (hfl : l.flags = flags0) (S : LC p m c code 8 s args "StreamPairLaw" meth ret D tc b z) (hX : va_X a L xs s s.heap) (ha : a < b) {i : Nat} (hi : i + 6 ≤ L) (hL : L ≤ 3072) {σ : CS} {ρ : RS} {v : Int64} {B : CS × RS × Int64} (h : s_inject xs i σ ρ v = some B) {ls : Array Slot} {H : Heap} {locs : List Loc} {cells slots : Nat} (hl : lv_has ls 8 (lvs a b i)) (hW : LWS D tc b z s 0 0 σ ρ v H locs cells slots)
    (kk : ∀ (ls1 : Array Slot) (H1 : Heap) (locs1 : List Loc) (cells1 slots1 : Nat), lv_has ls1 8 (lvs a b i) → LWS D tc b z s 0 0 B.1 B.2.1 B.2.2 H1 locs1 cells1 slots1 → W p l e (LR 17 692 0 0) s m args below meth c H1 locs1 cells1 slots1 Q (F0 m 1184 ls1 [])) : W p l e (LR 17 692 0 0) s m args below meth c H locs cells slots Q (F0 m 967 ls []) := by
  have hx := S.1.1
  have hb := S.1.2.1
  unfold s_inject at h
  obtain ⟨⟨k, σ2, v2⟩, h1, h⟩ := bc_s h
  obtain ⟨r, ρ2, h2, h⟩ := bc2_s h
  obtain ⟨th, ρ3, h3, h⟩ := bc2_s h
  obtain ⟨ht, h⟩ := gd_s h
  obtain ⟨hv, h⟩ := gd_s h
  cases h
  refine lv_aload_n hx hb d_law_967 rfl (lv_at hl 1 rfl) ?_
  refine lm_arg (i := i) (j := 1) S hX ha hW (by omega) hL (lv_at hl 0 rfl) (lv_at hl 4 rfl) (by decide) d_law_968 d_law_969 d_law_971 d_law_972 d_law_973 ?_
  refine lv_aload_n hx hb d_law_974 rfl (lv_at hl 3 rfl) ?_
  refine lm_callH (n := 3) S hW (c_L_inject hfl (xs (i + 1)) σ ρ v h1) wd_1215 wd_77 (by decide) (by decide +kernel) wd_1214 wd_1213 (by decide) hl.1 rfl rfl (Nat.le_of_ble_eq_true rfl) d_law_975 fun H1 locs1 cells1 slots1 hW1 => ?_
  refine lv_istore hx hb d_law_978 hl (Nat.le_of_ble_eq_true rfl) rfl fun ls1 hl1 => ?_
  refine lv_aload_n hx hb d_law_980 rfl (lv_at hl1 3 rfl) ?_
  refine lm_arg (i := i) (j := 1) S hX ha hW1 (by omega) hL (lv_at hl1 1 rfl) (lv_at hl1 5 rfl) (by decide) d_law_981 d_law_982 d_law_984 d_law_985 d_law_986 ?_
  refine lm_callR S hW1 (c_inject (xs (i + 1)) ρ h2) q_inject wd_1661 wd_1662 wd_1660 (by decide) hl1.1 rfl rfl (Nat.le_of_ble_eq_true rfl) d_law_987 fun H2 locs2 hW2 => ?_
  refine lv_istore hx hb d_law_990 hl1 (Nat.le_of_ble_eq_true rfl) rfl fun ls2 hl2 => ?_
  refine lv_aload_n hx hb d_law_992 rfl (lv_at hl2 4 rfl) ?_
  refine lm_callR S hW2 (c_thrown ρ2 h3) q_thrown wd_1419 wd_1420 wd_1418 (by decide) hl2.1 rfl rfl (Nat.le_of_ble_eq_true rfl) d_law_993 fun H3 locs3 hW3 => ?_
  refine lm_chk S hW3 (lv_at hl2 5 rfl) (lv_at hl2 1 rfl) (lv_at hl2 0 rfl) ht hv (by decide) d_law_996 d_law_998 d_law_1003 d_law_1005 d_law_1008 d_law_1009 d_law_1010 d_law_1011 d_law_1013 d_law_1014 d_law_1015 d_law_1020 ?_
  exact kk ls2 H3 locs3 _ _ (lv_sub hl2 [2, 3, 4, 5, 6] rfl) hW3
def s_seen (xs : Nat → Int32) (i : Nat) (σ : CS) (ρ : RS) (v : Int64) : Option (CS × RS × Int64) := bc (m_L_seen (xs (i + 1)) (xs (i + 2)) σ v) fun q => bc2 (m_seen (xs (i + 1)) (xs (i + 2)) ρ) fun r ρ2 => bc2 (m_thrown ρ2) fun th ρ3 => gd (th = q.1) <| gd (q.1 = 0 → q.2.2 = r.toInt64) <| some (q.2.1, ρ3, q.2.2)
theorem law_seen (hfl : l.flags = flags0) (S : LC p m c code 8 s args "StreamPairLaw" meth ret D tc b z) (hX : va_X a L xs s s.heap) (ha : a < b) {i : Nat} (hi : i + 6 ≤ L) (hL : L ≤ 3072) {σ : CS} {ρ : RS} {v : Int64} {B : CS × RS × Int64} (h : s_seen xs i σ ρ v = some B) {ls : Array Slot} {H : Heap} {locs : List Loc} {cells slots : Nat} (hl : lv_has ls 8 (lvs a b i)) (hW : LWS D tc b z s 0 0 σ ρ v H locs cells slots)
    (kk : ∀ (ls1 : Array Slot) (H1 : Heap) (locs1 : List Loc) (cells1 slots1 : Nat), lv_has ls1 8 (lvs a b i) → LWS D tc b z s 0 0 B.1 B.2.1 B.2.2 H1 locs1 cells1 slots1 → W p l e (LR 17 692 0 0) s m args below meth c H1 locs1 cells1 slots1 Q (F0 m 1184 ls1 [])) : W p l e (LR 17 692 0 0) s m args below meth c H locs cells slots Q (F0 m 1023 ls []) := by
  have hx := S.1.1
  have hb := S.1.2.1
  unfold s_seen at h
  obtain ⟨⟨k, σ2, v2⟩, h1, h⟩ := bc_s h
  obtain ⟨r, ρ2, h2, h⟩ := bc2_s h
  obtain ⟨th, ρ3, h3, h⟩ := bc2_s h
  obtain ⟨ht, h⟩ := gd_s h
  obtain ⟨hv, h⟩ := gd_s h
  cases h
  refine lv_aload_n hx hb d_law_1023 rfl (lv_at hl 1 rfl) ?_
  refine lm_arg (i := i) (j := 1) S hX ha hW (by omega) hL (lv_at hl 0 rfl) (lv_at hl 4 rfl) (by decide) d_law_1024 d_law_1025 d_law_1027 d_law_1028 d_law_1029 ?_
  refine lm_arg (i := i) (j := 2) S hX ha hW (by omega) hL (lv_at hl 0 rfl) (lv_at hl 4 rfl) (by decide) d_law_1030 d_law_1031 d_law_1033 d_law_1034 d_law_1035 ?_
  refine lv_aload_n hx hb d_law_1036 rfl (lv_at hl 3 rfl) ?_
  refine lm_callH (n := 4) S hW (c_L_seen hfl (xs (i + 1)) (xs (i + 2)) σ ρ v h1) wd_1223 wd_77 (by decide) (by decide +kernel) wd_1222 wd_1221 (by decide) hl.1 rfl rfl (Nat.le_of_ble_eq_true rfl) d_law_1037 fun H1 locs1 cells1 slots1 hW1 => ?_
  refine lv_istore hx hb d_law_1040 hl (Nat.le_of_ble_eq_true rfl) rfl fun ls1 hl1 => ?_
  refine lv_aload_n hx hb d_law_1042 rfl (lv_at hl1 3 rfl) ?_
  refine lm_arg (i := i) (j := 1) S hX ha hW1 (by omega) hL (lv_at hl1 1 rfl) (lv_at hl1 5 rfl) (by decide) d_law_1043 d_law_1044 d_law_1046 d_law_1047 d_law_1048 ?_
  refine lm_arg (i := i) (j := 2) S hX ha hW1 (by omega) hL (lv_at hl1 1 rfl) (lv_at hl1 5 rfl) (by decide) d_law_1049 d_law_1050 d_law_1052 d_law_1053 d_law_1054 ?_
  refine lm_callR S hW1 (c_seen (xs (i + 1)) (xs (i + 2)) ρ h2) q_seen wd_1665 wd_1666 wd_1664 (by decide) hl1.1 rfl rfl (Nat.le_of_ble_eq_true rfl) d_law_1055 fun H2 locs2 hW2 => ?_
  refine lv_istore hx hb d_law_1058 hl1 (Nat.le_of_ble_eq_true rfl) rfl fun ls2 hl2 => ?_
  refine lv_aload_n hx hb d_law_1060 rfl (lv_at hl2 4 rfl) ?_
  refine lm_callR S hW2 (c_thrown ρ2 h3) q_thrown wd_1419 wd_1420 wd_1418 (by decide) hl2.1 rfl rfl (Nat.le_of_ble_eq_true rfl) d_law_1061 fun H3 locs3 hW3 => ?_
  refine lm_chk S hW3 (lv_at hl2 5 rfl) (lv_at hl2 1 rfl) (lv_at hl2 0 rfl) ht hv (by decide) d_law_1064 d_law_1066 d_law_1071 d_law_1073 d_law_1076 d_law_1077 d_law_1078 d_law_1079 d_law_1081 d_law_1082 d_law_1083 d_law_1088 ?_
  exact kk ls2 H3 locs3 _ _ (lv_sub hl2 [2, 3, 4, 5, 6] rfl) hW3
def s_about (xs : Nat → Int32) (i : Nat) (σ : CS) (ρ : RS) (v : Int64) : Option (CS × RS × Int64) := bc (m_L_about (xs (i + 1)) (xs (i + 2)) σ v) fun q => bc2 (m_about (xs (i + 1)) (xs (i + 2)) ρ) fun r ρ2 => bc2 (m_thrown ρ2) fun th ρ3 => gd (th = q.1) <| gd (q.1 = 0 → q.2.2 = r.toInt64) <| some (q.2.1, ρ3, q.2.2)
theorem law_about (hfl : l.flags = flags0) (S : LC p m c code 8 s args "StreamPairLaw" meth ret D tc b z) (hX : va_X a L xs s s.heap) (ha : a < b) {i : Nat} (hi : i + 6 ≤ L) (hL : L ≤ 3072) {σ : CS} {ρ : RS} {v : Int64} {B : CS × RS × Int64} (h : s_about xs i σ ρ v = some B) {ls : Array Slot} {H : Heap} {locs : List Loc} {cells slots : Nat} (hl : lv_has ls 8 (lvs a b i)) (hW : LWS D tc b z s 0 0 σ ρ v H locs cells slots)
    (kk : ∀ (ls1 : Array Slot) (H1 : Heap) (locs1 : List Loc) (cells1 slots1 : Nat), lv_has ls1 8 (lvs a b i) → LWS D tc b z s 0 0 B.1 B.2.1 B.2.2 H1 locs1 cells1 slots1 → W p l e (LR 17 692 0 0) s m args below meth c H1 locs1 cells1 slots1 Q (F0 m 1184 ls1 [])) : W p l e (LR 17 692 0 0) s m args below meth c H locs cells slots Q (F0 m 1091 ls []) := by
  have hx := S.1.1
  have hb := S.1.2.1
  unfold s_about at h
  obtain ⟨⟨k, σ2, v2⟩, h1, h⟩ := bc_s h
  obtain ⟨r, ρ2, h2, h⟩ := bc2_s h
  obtain ⟨th, ρ3, h3, h⟩ := bc2_s h
  obtain ⟨ht, h⟩ := gd_s h
  obtain ⟨hv, h⟩ := gd_s h
  cases h
  refine lv_aload_n hx hb d_law_1091 rfl (lv_at hl 1 rfl) ?_
  refine lm_arg (i := i) (j := 1) S hX ha hW (by omega) hL (lv_at hl 0 rfl) (lv_at hl 4 rfl) (by decide) d_law_1092 d_law_1093 d_law_1095 d_law_1096 d_law_1097 ?_
  refine lm_arg (i := i) (j := 2) S hX ha hW (by omega) hL (lv_at hl 0 rfl) (lv_at hl 4 rfl) (by decide) d_law_1098 d_law_1099 d_law_1101 d_law_1102 d_law_1103 ?_
  refine lv_aload_n hx hb d_law_1104 rfl (lv_at hl 3 rfl) ?_
  refine lm_callH (n := 4) S hW (c_L_about hfl (xs (i + 1)) (xs (i + 2)) σ ρ v h1) wd_1230 wd_77 (by decide) (by decide +kernel) wd_1229 wd_1228 (by decide) hl.1 rfl rfl (Nat.le_of_ble_eq_true rfl) d_law_1105 fun H1 locs1 cells1 slots1 hW1 => ?_
  refine lv_istore hx hb d_law_1108 hl (Nat.le_of_ble_eq_true rfl) rfl fun ls1 hl1 => ?_
  refine lv_aload_n hx hb d_law_1110 rfl (lv_at hl1 3 rfl) ?_
  refine lm_arg (i := i) (j := 1) S hX ha hW1 (by omega) hL (lv_at hl1 1 rfl) (lv_at hl1 5 rfl) (by decide) d_law_1111 d_law_1112 d_law_1114 d_law_1115 d_law_1116 ?_
  refine lm_arg (i := i) (j := 2) S hX ha hW1 (by omega) hL (lv_at hl1 1 rfl) (lv_at hl1 5 rfl) (by decide) d_law_1117 d_law_1118 d_law_1120 d_law_1121 d_law_1122 ?_
  refine lm_callR S hW1 (c_about (xs (i + 1)) (xs (i + 2)) ρ h2) q_about wd_1669 wd_1670 wd_1668 (by decide) hl1.1 rfl rfl (Nat.le_of_ble_eq_true rfl) d_law_1123 fun H2 locs2 hW2 => ?_
  refine lv_istore hx hb d_law_1126 hl1 (Nat.le_of_ble_eq_true rfl) rfl fun ls2 hl2 => ?_
  refine lv_aload_n hx hb d_law_1128 rfl (lv_at hl2 4 rfl) ?_
  refine lm_callR S hW2 (c_thrown ρ2 h3) q_thrown wd_1419 wd_1420 wd_1418 (by decide) hl2.1 rfl rfl (Nat.le_of_ble_eq_true rfl) d_law_1129 fun H3 locs3 hW3 => ?_
  refine lm_chk S hW3 (lv_at hl2 5 rfl) (lv_at hl2 1 rfl) (lv_at hl2 0 rfl) ht hv (by decide) d_law_1132 d_law_1134 d_law_1139 d_law_1141 d_law_1144 d_law_1145 d_law_1146 d_law_1147 d_law_1149 d_law_1150 d_law_1151 d_law_1156 ?_
  exact kk ls2 H3 locs3 _ _ (lv_sub hl2 [2, 3, 4, 5, 6] rfl) hW3
def s_count (xs : Nat → Int32) (i : Nat) (σ : CS) (ρ : RS) (v : Int64) : Option (CS × RS × Int64) := bc2 (m_P_count (xs (i + 1)) σ) fun x σ2 => bc2 (m_count (xs (i + 1)) ρ) fun r ρ2 => gd (x = r) <| some (σ2, ρ2, v)
theorem law_count (hfl : l.flags = flags0) (S : LC p m c code 8 s args "StreamPairLaw" meth ret D tc b z) (hX : va_X a L xs s s.heap) (ha : a < b) {i : Nat} (hi : i + 6 ≤ L) (hL : L ≤ 3072) {σ : CS} {ρ : RS} {v : Int64} {B : CS × RS × Int64} (h : s_count xs i σ ρ v = some B) {ls : Array Slot} {H : Heap} {locs : List Loc} {cells slots : Nat} (hl : lv_has ls 8 (lvs a b i)) (hW : LWS D tc b z s 0 0 σ ρ v H locs cells slots)
    (kk : ∀ (ls1 : Array Slot) (H1 : Heap) (locs1 : List Loc) (cells1 slots1 : Nat), lv_has ls1 8 (lvs a b i) → LWS D tc b z s 0 0 B.1 B.2.1 B.2.2 H1 locs1 cells1 slots1 → W p l e (LR 17 692 0 0) s m args below meth c H1 locs1 cells1 slots1 Q (F0 m 1184 ls1 [])) : W p l e (LR 17 692 0 0) s m args below meth c H locs cells slots Q (F0 m 1159 ls []) := by
  have hx := S.1.1
  have hb := S.1.2.1
  unfold s_count at h
  obtain ⟨x, σ2, h1, h⟩ := bc2_s h
  obtain ⟨r, ρ2, h2, h⟩ := bc2_s h
  obtain ⟨hv, h⟩ := gd_s h
  cases h
  refine lv_aload_n hx hb d_law_1159 rfl (lv_at hl 1 rfl) ?_
  refine lm_arg (i := i) (j := 1) S hX ha hW (by omega) hL (lv_at hl 0 rfl) (lv_at hl 4 rfl) (by decide) d_law_1160 d_law_1161 d_law_1163 d_law_1164 d_law_1165 ?_
  refine lm_callC S hW (c_P_count (xs (i + 1)) σ h1) q_P_count wd_645 wd_646 wd_644 (by decide) hl.1 rfl rfl (Nat.le_of_ble_eq_true rfl) d_law_1166 fun H1 locs1 cells1 slots1 hW1 => ?_
  refine lv_aload_n hx hb d_law_1169 rfl (lv_at hl 2 rfl) ?_
  refine lm_arg (i := i) (j := 1) S hX ha hW1 (by omega) hL (lv_at hl 0 rfl) (lv_at hl 4 rfl) (by decide) d_law_1170 d_law_1171 d_law_1173 d_law_1174 d_law_1175 ?_
  refine lm_callR S hW1 (c_count (xs (i + 1)) ρ h2) q_count wd_1681 wd_1682 wd_1680 (by decide) hl.1 rfl rfl (Nat.le_of_ble_eq_true rfl) d_law_1176 fun H2 locs2 hW2 => ?_
  refine lv_icmp_eq (tgt := 1184) hx hb d_law_1179 (by decide) (fun _ => ?_) (fun h => absurd hv h)
  exact kk ls H2 locs2 _ _ hl hW2
def lawstep (xs : Nat → Int32) (i : Nat) (σ : CS) (ρ : RS) (v : Int64) : Option (CS × RS × Int64) :=
  if (xs i &&& 31) = 0 then s_feed xs i σ ρ v else
  if (xs i &&& 31) = 1 then s_end xs i σ ρ v else
  if (xs i &&& 31) = 2 then s_open xs i σ ρ v else
  if (xs i &&& 31) = 3 then s_set xs i σ ρ v else
  if (xs i &&& 31) = 4 then s_write xs i σ ρ v else
  if (xs i &&& 31) = 5 then s_read xs i σ ρ v else
  if (xs i &&& 31) = 6 then s_close xs i σ ρ v else
  if (xs i &&& 31) = 7 then s_abort xs i σ ρ v else
  if (xs i &&& 31) = 8 then s_tick xs i σ ρ v else
  if (xs i &&& 31) = 9 then s_deliver xs i σ ρ v else
  if (xs i &&& 31) = 10 then s_drop xs i σ ρ v else
  if (xs i &&& 31) = 11 then s_copy xs i σ ρ v else
  if (xs i &&& 31) = 12 then s_flip xs i σ ρ v else
  if (xs i &&& 31) = 13 then s_inject xs i σ ρ v else
  if (xs i &&& 31) = 14 then s_seen xs i σ ρ v else
  if (xs i &&& 31) = 15 then s_about xs i σ ρ v else
  if (xs i &&& 31) = 16 then s_count xs i σ ρ v else some (σ, ρ, v)
def lawloop (xs : Nat → Int32) : Nat → Nat → CS → RS → Int64 → Option (CS × RS × Int64)
  | 0, _, σ, ρ, v => some (σ, ρ, v)
  | n + 1, i, σ, ρ, v => bc (lawstep xs i σ ρ v) fun q => lawloop xs n (i + 6) q.1 q.2.1 q.2.2
theorem law_step (hfl : l.flags = flags0) (S : LC p m c code 8 s args "StreamPairLaw" meth ret D tc b z) (hX : va_X a L xs s s.heap) (ha : a < b) {i : Nat} (hi : i + 6 ≤ L) (hL : L ≤ 3072) {σ : CS} {ρ : RS} {v : Int64} {B : CS × RS × Int64} (h : lawstep xs i σ ρ v = some B) {ls : Array Slot} {H : Heap} {locs : List Loc} {cells slots : Nat} (hl : lv_has ls 8 (lvs a b i)) (hW : LWS D tc b z s 0 0 σ ρ v H locs cells slots)
    (kk : ∀ (ls1 : Array Slot) (H1 : Heap) (locs1 : List Loc) (cells1 slots1 : Nat), lv_has ls1 8 (lvs a b i) → LWS D tc b z s 0 0 B.1 B.2.1 B.2.2 H1 locs1 cells1 slots1 → W p l e (LR 17 692 0 0) s m args below meth c H1 locs1 cells1 slots1 Q (F0 m 1184 ls1 [])) : W p l e (LR 17 692 0 0) s m args below meth c H locs cells slots Q (F0 m 33 ls []) := by
  have hx := S.1.1
  have hb := S.1.2.1
  refine lm_arg0 (i := i) S hX ha hW (by omega) hL (lv_at hl 0 rfl) (lv_at hl 4 rfl) d_law_33 d_law_34 d_law_36 ?_
  refine lv_bipush hx hb d_law_37 (v := 31) (by decide) ?_
  refine lv_iand hx hb d_law_39 ?_
  generalize hop : (xs i &&& 31) = op
  unfold lawstep at h
  rw [hop] at h
  by_cases z0 : op = 0
  · rw [if_pos z0] at h
    have y0 : op.toInt = 0 := by rw [z0]; decide
    refine lv_tableIn (tgt := 124) (off := 84) hx hb d_law_40 (by rw [y0]; decide) (by rw [y0]; decide) (by rw [y0]; decide) (by decide) ?_
    exact law_feed hfl S hX ha hi hL h hl hW kk
  · rw [if_neg z0] at h
    by_cases z1 : op = 1
    · rw [if_pos z1] at h
      have y1 : op.toInt = 1 := by rw [z1]; decide
      refine lv_tableIn (tgt := 228) (off := 188) hx hb d_law_40 (by rw [y1]; decide) (by rw [y1]; decide) (by rw [y1]; decide) (by decide) ?_
      exact law_end hfl S hX ha hi hL h hl hW kk
    · rw [if_neg z1] at h
      by_cases z2 : op = 2
      · rw [if_pos z2] at h
        have y2 : op.toInt = 2 := by rw [z2]; decide
        refine lv_tableIn (tgt := 284) (off := 244) hx hb d_law_40 (by rw [y2]; decide) (by rw [y2]; decide) (by rw [y2]; decide) (by decide) ?_
        exact law_open hfl S hX ha hi hL h hl hW kk
      · rw [if_neg z2] at h
        by_cases z3 : op = 3
        · rw [if_pos z3] at h
          have y3 : op.toInt = 3 := by rw [z3]; decide
          refine lv_tableIn (tgt := 321) (off := 281) hx hb d_law_40 (by rw [y3]; decide) (by rw [y3]; decide) (by rw [y3]; decide) (by decide) ?_
          exact law_set hfl S hX ha hi hL h hl hW kk
        · rw [if_neg z3] at h
          by_cases z4 : op = 4
          · rw [if_pos z4] at h
            have y4 : op.toInt = 4 := by rw [z4]; decide
            refine lv_tableIn (tgt := 401) (off := 361) hx hb d_law_40 (by rw [y4]; decide) (by rw [y4]; decide) (by rw [y4]; decide) (by decide) ?_
            exact law_write hfl S hX ha hi hL h hl hW kk
          · rw [if_neg z4] at h
            by_cases z5 : op = 5
            · rw [if_pos z5] at h
              have y5 : op.toInt = 5 := by rw [z5]; decide
              refine lv_tableIn (tgt := 457) (off := 417) hx hb d_law_40 (by rw [y5]; decide) (by rw [y5]; decide) (by rw [y5]; decide) (by decide) ?_
              exact law_read hfl S hX ha hi hL h hl hW kk
            · rw [if_neg z5] at h
              by_cases z6 : op = 6
              · rw [if_pos z6] at h
                have y6 : op.toInt = 6 := by rw [z6]; decide
                refine lv_tableIn (tgt := 524) (off := 484) hx hb d_law_40 (by rw [y6]; decide) (by rw [y6]; decide) (by rw [y6]; decide) (by decide) ?_
                exact law_close hfl S hX ha hi hL h hl hW kk
              · rw [if_neg z6] at h
                by_cases z7 : op = 7
                · rw [if_pos z7] at h
                  have y7 : op.toInt = 7 := by rw [z7]; decide
                  refine lv_tableIn (tgt := 580) (off := 540) hx hb d_law_40 (by rw [y7]; decide) (by rw [y7]; decide) (by rw [y7]; decide) (by decide) ?_
                  exact law_abort hfl S hX ha hi hL h hl hW kk
                · rw [if_neg z7] at h
                  by_cases z8 : op = 8
                  · rw [if_pos z8] at h
                    have y8 : op.toInt = 8 := by rw [z8]; decide
                    refine lv_tableIn (tgt := 636) (off := 596) hx hb d_law_40 (by rw [y8]; decide) (by rw [y8]; decide) (by rw [y8]; decide) (by decide) ?_
                    exact law_tick hfl S hX ha hi hL h hl hW kk
                  · rw [if_neg z8] at h
                    by_cases z9 : op = 9
                    · rw [if_pos z9] at h
                      have y9 : op.toInt = 9 := by rw [z9]; decide
                      refine lv_tableIn (tgt := 691) (off := 651) hx hb d_law_40 (by rw [y9]; decide) (by rw [y9]; decide) (by rw [y9]; decide) (by decide) ?_
                      exact law_deliver hfl S hX ha hi hL h hl hW kk
                    · rw [if_neg z9] at h
                      by_cases z10 : op = 10
                      · rw [if_pos z10] at h
                        have y10 : op.toInt = 10 := by rw [z10]; decide
                        refine lv_tableIn (tgt := 747) (off := 707) hx hb d_law_40 (by rw [y10]; decide) (by rw [y10]; decide) (by rw [y10]; decide) (by decide) ?_
                        exact law_drop hfl S hX ha hi hL h hl hW kk
                      · rw [if_neg z10] at h
                        by_cases z11 : op = 11
                        · rw [if_pos z11] at h
                          have y11 : op.toInt = 11 := by rw [z11]; decide
                          refine lv_tableIn (tgt := 803) (off := 763) hx hb d_law_40 (by rw [y11]; decide) (by rw [y11]; decide) (by rw [y11]; decide) (by decide) ?_
                          exact law_copy hfl S hX ha hi hL h hl hW kk
                        · rw [if_neg z11] at h
                          by_cases z12 : op = 12
                          · rw [if_pos z12] at h
                            have y12 : op.toInt = 12 := by rw [z12]; decide
                            refine lv_tableIn (tgt := 859) (off := 819) hx hb d_law_40 (by rw [y12]; decide) (by rw [y12]; decide) (by rw [y12]; decide) (by decide) ?_
                            exact law_flip hfl S hX ha hi hL h hl hW kk
                          · rw [if_neg z12] at h
                            by_cases z13 : op = 13
                            · rw [if_pos z13] at h
                              have y13 : op.toInt = 13 := by rw [z13]; decide
                              refine lv_tableIn (tgt := 967) (off := 927) hx hb d_law_40 (by rw [y13]; decide) (by rw [y13]; decide) (by rw [y13]; decide) (by decide) ?_
                              exact law_inject hfl S hX ha hi hL h hl hW kk
                            · rw [if_neg z13] at h
                              by_cases z14 : op = 14
                              · rw [if_pos z14] at h
                                have y14 : op.toInt = 14 := by rw [z14]; decide
                                refine lv_tableIn (tgt := 1023) (off := 983) hx hb d_law_40 (by rw [y14]; decide) (by rw [y14]; decide) (by rw [y14]; decide) (by decide) ?_
                                exact law_seen hfl S hX ha hi hL h hl hW kk
                              · rw [if_neg z14] at h
                                by_cases z15 : op = 15
                                · rw [if_pos z15] at h
                                  have y15 : op.toInt = 15 := by rw [z15]; decide
                                  refine lv_tableIn (tgt := 1091) (off := 1051) hx hb d_law_40 (by rw [y15]; decide) (by rw [y15]; decide) (by rw [y15]; decide) (by decide) ?_
                                  exact law_about hfl S hX ha hi hL h hl hW kk
                                · rw [if_neg z15] at h
                                  by_cases z16 : op = 16
                                  · rw [if_pos z16] at h
                                    have y16 : op.toInt = 16 := by rw [z16]; decide
                                    refine lv_tableIn (tgt := 1159) (off := 1119) hx hb d_law_40 (by rw [y16]; decide) (by rw [y16]; decide) (by rw [y16]; decide) (by decide) ?_
                                    exact law_count hfl S hX ha hi hL h hl hW kk
                                  · rw [if_neg z16] at h
                                    cases h
                                    refine lv_tableOut (tgt := 1184) hx hb d_law_40 (tab_out 0 16 (fun k k1 k2 hk => ?_)) (by decide) ?_
                                    · have hcases : k = 0 ∨ k = 1 ∨ k = 2 ∨ k = 3 ∨ k = 4 ∨ k = 5 ∨ k = 6 ∨ k = 7 ∨ k = 8 ∨ k = 9 ∨ k = 10 ∨ k = 11 ∨ k = 12 ∨ k = 13 ∨ k = 14 ∨ k = 15 ∨ k = 16 := by omega
                                      rcases hcases with hh | hh | hh | hh | hh | hh | hh | hh | hh | hh | hh | hh | hh | hh | hh | hh | hh
                                      · exact z0 (Int32.toInt_inj.mp (by rw [hk, hh]; decide))
                                      · exact z1 (Int32.toInt_inj.mp (by rw [hk, hh]; decide))
                                      · exact z2 (Int32.toInt_inj.mp (by rw [hk, hh]; decide))
                                      · exact z3 (Int32.toInt_inj.mp (by rw [hk, hh]; decide))
                                      · exact z4 (Int32.toInt_inj.mp (by rw [hk, hh]; decide))
                                      · exact z5 (Int32.toInt_inj.mp (by rw [hk, hh]; decide))
                                      · exact z6 (Int32.toInt_inj.mp (by rw [hk, hh]; decide))
                                      · exact z7 (Int32.toInt_inj.mp (by rw [hk, hh]; decide))
                                      · exact z8 (Int32.toInt_inj.mp (by rw [hk, hh]; decide))
                                      · exact z9 (Int32.toInt_inj.mp (by rw [hk, hh]; decide))
                                      · exact z10 (Int32.toInt_inj.mp (by rw [hk, hh]; decide))
                                      · exact z11 (Int32.toInt_inj.mp (by rw [hk, hh]; decide))
                                      · exact z12 (Int32.toInt_inj.mp (by rw [hk, hh]; decide))
                                      · exact z13 (Int32.toInt_inj.mp (by rw [hk, hh]; decide))
                                      · exact z14 (Int32.toInt_inj.mp (by rw [hk, hh]; decide))
                                      · exact z15 (Int32.toInt_inj.mp (by rw [hk, hh]; decide))
                                      · exact z16 (Int32.toInt_inj.mp (by rw [hk, hh]; decide))
                                    · exact kk ls H locs cells slots hl hW
theorem law_loop (hfl : l.flags = flags0) (S : LC p m c code 8 s args "StreamPairLaw" meth ret D tc b z) (hX : va_X a L xs s s.heap) (ha : a < b) (hL : L ≤ 3072) (kk : ∀ (σ : CS) (ρ : RS) (v : Int64) (ls1 : Array Slot) (H1 : Heap) (locs1 : List Loc) (cells1 slots1 : Nat), LWS D tc b z s 0 0 σ ρ v H1 locs1 cells1 slots1 → W p l e (LR 17 692 0 0) s m args below meth c H1 locs1 cells1 slots1 Q (F0 m 1190 ls1 [])) :
    ∀ (n i : Nat) (σ : CS) (ρ : RS) (v : Int64) (B : CS × RS × Int64), lawloop xs n i σ ρ v = some B → i + 6 * n ≤ L → L < i + 6 * n + 6 → ∀ (ls : Array Slot) (H : Heap) (locs : List Loc) (cells slots : Nat), lv_has ls 8 (lvs a b i) → LWS D tc b z s 0 0 σ ρ v H locs cells slots → W p l e (LR 17 692 0 0) s m args below meth c H locs cells slots Q (F0 m 23 ls []) := by
  have hx := S.1.1
  have hb := S.1.2.1
  have h6 : (6 : Int32).toInt = 6 := by decide
  have hsub : (Int32.ofNat L - 6).toInt = (L : Int) - 6 := by
    rw [Int32.toInt_sub, i32_toInt (by omega), h6]
    exact Int.bmod_eq_of_le (by omega) (by omega)
  intro n
  induction n with
  | zero =>
    intro i σ ρ v B h h1 h2 ls H locs cells slots hl hW
    refine lv_iload hx hb d_law_23 (lv_at hl 4 rfl) ?_
    refine lv_aload_n hx hb d_law_25 rfl (lv_at hl 0 rfl) ?_
    refine va_slen hx hb hX (Nat.lt_of_lt_of_le ha S.2.1.2.2.2.2.2.2.2.2.2.1) (A := lreg b) (Nat.not_le.mpr ha) hW.2.1 d_law_26 ?_
    refine lv_bipush hx hb d_law_27 (v := 6) (by decide) ?_
    refine lv_isub hx hb d_law_29 ?_
    refine lv_icmp_gt (tgt := 1190) hx hb d_law_30 (by decide) (fun _ => kk σ ρ v ls H locs cells slots hW) (fun h => ?_)
    refine absurd (Int32.lt_iff_toInt_lt.mpr ?_) h
    rw [hsub, i32_toInt (by omega)]
    omega
  | succ n ih =>
    intro i σ ρ v B h h1 h2 ls H locs cells slots hl hW
    refine lv_iload hx hb d_law_23 (lv_at hl 4 rfl) ?_
    refine lv_aload_n hx hb d_law_25 rfl (lv_at hl 0 rfl) ?_
    refine va_slen hx hb hX (Nat.lt_of_lt_of_le ha S.2.1.2.2.2.2.2.2.2.2.2.1) (A := lreg b) (Nat.not_le.mpr ha) hW.2.1 d_law_26 ?_
    refine lv_bipush hx hb d_law_27 (v := 6) (by decide) ?_
    refine lv_isub hx hb d_law_29 ?_
    refine lv_icmp_gt (tgt := 1190) hx hb d_law_30 (by decide) (fun h => ?_) (fun _ => ?_)
    · exfalso
      have h9 := Int32.lt_iff_toInt_lt.mp h
      rw [hsub, i32_toInt (by omega)] at h9
      omega
    · obtain ⟨q, g1, g2⟩ := bc_s h
      refine law_step hfl S hX ha (by omega) hL g1 hl hW fun ls1 H1 locs1 cells1 slots1 hl1 hW1 => ?_
      refine lv_iinc (k := 4) hx hb d_law_1184 hl1 rfl (v := Int32.ofNat (i + 6)) (by rw [show Int32.ofInt 6 = Int32.ofNat 6 from rfl, i32_add (by omega)]) (Nat.le_of_ble_eq_true rfl) rfl fun ls2 hl2 => ?_
      refine lv_goto (tgt := 23) hx hb d_law_1187 (by decide) ?_
      exact ih (i + 6) q.1 q.2.1 q.2.2 B g2 (by omega) (by omega) ls2 H1 locs1 cells1 slots1 (lv_sub hl2 [1, 2, 3, 4, 0] rfl) hW1
end LAWC
