/-! the constructors (printed by gen_ctor.py) -/
def u1 (x : Int32) : Nat → Int32 := upd (fun _ => 0) 0 x
def uu (x : Int32) : Nat → Int32 := upd (u1 x) 1 x
def ul1 (x : Int64) : Nat → Int64 := vp_updL (fun _ => 0) 0 x
def ull (x : Int64) : Nat → Int64 := vp_updL (ul1 x) 1 x
theorem u1_s (x : Int32) : upd (fun _ => 0) (Int32.toNatClampNeg 0) x = u1 x := by rw [show Int32.toNatClampNeg 0 = 0 from by decide]; rfl
theorem uu_s (x : Int32) : upd (u1 x) (Int32.toNatClampNeg 1) x = uu x := by rw [show Int32.toNatClampNeg 1 = 1 from by decide]; rfl
theorem ul1_s (x : Int64) : vp_updL (fun _ => 0) (Int32.toNatClampNeg 0) x = ul1 x := by rw [show Int32.toNatClampNeg 0 = 0 from by decide]; rfl
theorem ull_s (x : Int64) : vp_updL (ul1 x) (Int32.toNatClampNeg 1) x = ull x := by rw [show Int32.toNatClampNeg 1 = 1 from by decide]; rfl
/-! StreamPair$Tape.<init> ()V -/
theorem d_TI_0 : decode prog_10_method_1_code 0 = .ok (.aload_n 0, 1) := by decide +kernel
theorem d_TI_1 : decode prog_10_method_1_code 1 = .ok (.invokespecial 3, 3) := by decide +kernel
theorem d_TI_4 : decode prog_10_method_1_code 4 = .ok (.aload_n 0, 1) := by decide +kernel
theorem d_TI_5 : decode prog_10_method_1_code 5 = .ok (.bipush 64, 2) := by decide +kernel
theorem d_TI_7 : decode prog_10_method_1_code 7 = .ok (.newarray .byte, 2) := by decide +kernel
theorem d_TI_9 : decode prog_10_method_1_code 9 = .ok (.putfield 9, 3) := by decide +kernel
theorem d_TI_12 : decode prog_10_method_1_code 12 = .ok (.return_, 1) := by decide +kernel
abbrev y_TI : MethodName := ⟨"StreamPair$Tape", "<init>", "()V"⟩
theorem q_TI : Calee y_TI prog_10_method_1_code 1 none 0 := ⟨wd_118, wd_79, by decide, by decide +kernel⟩
set_option maxRecDepth 20000 in
set_option maxHeartbeats 4000000 in
theorem c_TI {l : Launch} {D : va_G} {tc : Nat → ClassId} {b z : Nat} (pre : List va_E) : GMet l D tc b z y_TI prog_10_method_1_code 1 1 12 1 64 [.ref (b + pre.length)] (th pre 2 [.null, .int 0] []) (th pre 2 [.ref (b + (pre.length + 1)), .int 0] [.inl (tc 1, 64, .inl fun _ => 0)]) := by
  refine gm_met (by decide) rfl (Nat.le_of_ble_eq_true rfl) fun p e s m args below meth c S hW ls hl => ?_
  have hx := S.1.1
  have hb := S.1.2.1
  refine lv_aload_n hx hb d_TI_0 rfl (lv_at hl 0 rfl) ?_
  refine gm_objI S.1 wd_119 wd_112 wd_113 hl.1 (by decide) (Nat.le_of_ble_eq_true rfl) d_TI_1 ?_
  refine lv_aload_n hx hb d_TI_4 rfl (lv_at hl 0 rfl) ?_
  refine lv_bipush (v := 64) hx hb d_TI_5 (by decide) ?_
  refine gm_newaT (atype := .byte) (ety := .byte) (k := 1) (t := 1) (a0 := (64, .inl fun _ => 0)) (tl' := [.inl (tc 1, 64, .inl fun _ => 0)]) S hW rfl rfl (fun U h => h) wd_129 rfl (by decide) (by decide) (by decide) (by decide) (by decide) rfl rfl d_TI_7 fun H1 hW1 => ?_
  refine gm_put (ref := "StreamPair$Tape") (fs' := [.ref (b + (pre.length + 1)), .int 0]) kx_T.y S hW1 0 (by decide) wd_120 rfl rfl rfl (Nat.le_of_ble_eq_true rfl) (Or.inl rfl) rfl d_TI_9 fun H2 locs2 hW2 => ?_
  exact gm_ret S hW2 d_TI_12
/-! StreamPair$Clock.<init> ()V -/
theorem d_CI_0 : decode prog_3_method_1_code 0 = .ok (.aload_n 0, 1) := by decide +kernel
theorem d_CI_1 : decode prog_3_method_1_code 1 = .ok (.invokespecial 1, 3) := by decide +kernel
theorem d_CI_4 : decode prog_3_method_1_code 4 = .ok (.return_, 1) := by decide +kernel
abbrev y_CI : MethodName := ⟨"StreamPair$Clock", "<init>", "()V"⟩
theorem q_CI : Calee y_CI prog_3_method_1_code 1 none 0 := ⟨wd_134, wd_80, by decide, by decide +kernel⟩
set_option maxRecDepth 20000 in
set_option maxHeartbeats 4000000 in
theorem c_CI {l : Launch} {D : va_G} {tc : Nat → ClassId} {b z : Nat} (pre : List va_E) : GMet l D tc b z y_CI prog_3_method_1_code 1 1 12 0 0 [.ref (b + pre.length)] (th pre 3 [.long 0] []) (th pre 3 [.long 0] []) := by
  refine gm_met (by decide) rfl (Nat.le_of_ble_eq_true rfl) fun p e s m args below meth c S hW ls hl => ?_
  have hx := S.1.1
  have hb := S.1.2.1
  refine lv_aload_n hx hb d_CI_0 rfl (lv_at hl 0 rfl) ?_
  refine gm_objI S.1 wd_135 wd_112 wd_113 hl.1 (by decide) (Nat.le_of_ble_eq_true rfl) d_CI_1 ?_
  exact gm_ret S hW d_CI_4
/-! StreamPair$Crowd.<init> ()V -/
theorem d_OI_0 : decode prog_4_method_1_code 0 = .ok (.aload_n 0, 1) := by decide +kernel
theorem d_OI_1 : decode prog_4_method_1_code 1 = .ok (.invokespecial 1, 3) := by decide +kernel
theorem d_OI_4 : decode prog_4_method_1_code 4 = .ok (.aload_n 0, 1) := by decide +kernel
theorem d_OI_5 : decode prog_4_method_1_code 5 = .ok (.ldc 9, 2) := by decide +kernel
theorem d_OI_7 : decode prog_4_method_1_code 7 = .ok (.putfield 10, 3) := by decide +kernel
theorem d_OI_10 : decode prog_4_method_1_code 10 = .ok (.return_, 1) := by decide +kernel
abbrev y_OI : MethodName := ⟨"StreamPair$Crowd", "<init>", "()V"⟩
theorem q_OI : Calee y_OI prog_4_method_1_code 1 none 0 := ⟨wd_329, wd_89, by decide, by decide +kernel⟩
set_option maxRecDepth 20000 in
set_option maxHeartbeats 4000000 in
theorem c_OI {l : Launch} {D : va_G} {tc : Nat → ClassId} {b z : Nat} (pre : List va_E) : GMet l D tc b z y_OI prog_4_method_1_code 1 1 12 0 0 [.ref (b + pre.length)] (th pre 10 [.int 0, .int 0, .int 0, .int 0] []) (th pre 10 [.int 0, .int 0, .int (65535 : Int32), .int 0] []) := by
  refine gm_met (by decide) rfl (Nat.le_of_ble_eq_true rfl) fun p e s m args below meth c S hW ls hl => ?_
  have hx := S.1.1
  have hb := S.1.2.1
  refine lv_aload_n hx hb d_OI_0 rfl (lv_at hl 0 rfl) ?_
  refine gm_objI S.1 wd_330 wd_112 wd_113 hl.1 (by decide) (Nat.le_of_ble_eq_true rfl) d_OI_1 ?_
  refine lv_aload_n hx hb d_OI_4 rfl (lv_at hl 0 rfl) ?_
  refine lv_ldc hx hb S.1.2.2.2.1 (S.1.2.2.2.2 _ (gi wd_331 rfl)) d_OI_5 ?_
  refine gm_put (ref := "StreamPair$Crowd") (fs' := [.int 0, .int 0, .int (65535 : Int32), .int 0]) kx_O.y S hW 2 (by decide) wd_336 rfl rfl rfl (Nat.le_of_ble_eq_true rfl) (Or.inl rfl) rfl d_OI_7 fun H1 locs1 hW1 => ?_
  exact gm_ret S hW1 d_OI_10
/-! StreamPair$Pace.<init> ()V -/
theorem d_ZI_0 : decode prog_7_method_1_code 0 = .ok (.aload_n 0, 1) := by decide +kernel
theorem d_ZI_1 : decode prog_7_method_1_code 1 = .ok (.invokespecial 1, 3) := by decide +kernel
theorem d_ZI_4 : decode prog_7_method_1_code 4 = .ok (.aload_n 0, 1) := by decide +kernel
theorem d_ZI_5 : decode prog_7_method_1_code 5 = .ok (.sipush 1000, 3) := by decide +kernel
theorem d_ZI_8 : decode prog_7_method_1_code 8 = .ok (.putfield 9, 3) := by decide +kernel
theorem d_ZI_11 : decode prog_7_method_1_code 11 = .ok (.aload_n 0, 1) := by decide +kernel
theorem d_ZI_12 : decode prog_7_method_1_code 12 = .ok (.ldc2_w 13, 3) := by decide +kernel
theorem d_ZI_15 : decode prog_7_method_1_code 15 = .ok (.putfield 15, 3) := by decide +kernel
theorem d_ZI_18 : decode prog_7_method_1_code 18 = .ok (.return_, 1) := by decide +kernel
abbrev y_ZI : MethodName := ⟨"StreamPair$Pace", "<init>", "()V"⟩
theorem q_ZI : Calee y_ZI prog_7_method_1_code 1 none 0 := ⟨wd_287, wd_88, by decide, by decide +kernel⟩
set_option maxRecDepth 20000 in
set_option maxHeartbeats 4000000 in
theorem c_ZI {l : Launch} {D : va_G} {tc : Nat → ClassId} {b z : Nat} (pre : List va_E) : GMet l D tc b z y_ZI prog_7_method_1_code 1 1 12 0 0 [.ref (b + pre.length)] (th pre 9 [.int 0, .int 0, .int 0, .long 0, .long 0, .long 0, .int 0, .int 0, .long 0] []) (th pre 9 [.int (1000 : Int32), .int 0, .int 0, .long 0, .long (-1 : Int64), .long 0, .int 0, .int 0, .long 0] []) := by
  refine gm_met (by decide) rfl (Nat.le_of_ble_eq_true rfl) fun p e s m args below meth c S hW ls hl => ?_
  have hx := S.1.1
  have hb := S.1.2.1
  refine lv_aload_n hx hb d_ZI_0 rfl (lv_at hl 0 rfl) ?_
  refine gm_objI S.1 wd_288 wd_112 wd_113 hl.1 (by decide) (Nat.le_of_ble_eq_true rfl) d_ZI_1 ?_
  refine lv_aload_n hx hb d_ZI_4 rfl (lv_at hl 0 rfl) ?_
  refine lv_sipush (v := 1000) hx hb d_ZI_5 (by decide) ?_
  refine gm_put (ref := "StreamPair$Pace") (fs' := [.int (1000 : Int32), .int 0, .int 0, .long 0, .long 0, .long 0, .int 0, .int 0, .long 0]) kx_Z.y S hW 0 (by decide) wd_290 rfl rfl rfl (Nat.le_of_ble_eq_true rfl) (Or.inl rfl) rfl d_ZI_8 fun H1 locs1 hW1 => ?_
  refine lv_aload_n hx hb d_ZI_11 rfl (lv_at hl 0 rfl) ?_
  refine lv_ldc2 hx hb S.1.2.2.2.1 (S.1.2.2.2.2 _ (gi wd_289 rfl)) d_ZI_12 ?_
  refine gm_put (ref := "StreamPair$Pace") (fs' := [.int (1000 : Int32), .int 0, .int 0, .long 0, .long (-1 : Int64), .long 0, .int 0, .int 0, .long 0]) kx_Z.y S hW1 4 (by decide) wd_300 rfl rfl rfl (Nat.le_of_ble_eq_true rfl) (Or.inl rfl) rfl d_ZI_15 fun H2 locs2 hW2 => ?_
  exact gm_ret S hW2 d_ZI_18
/-! StreamPair$Supply.<init> ()V -/
theorem d_UI_0 : decode prog_9_method_1_code 0 = .ok (.aload_n 0, 1) := by decide +kernel
theorem d_UI_1 : decode prog_9_method_1_code 1 = .ok (.invokespecial 3, 3) := by decide +kernel
theorem d_UI_4 : decode prog_9_method_1_code 4 = .ok (.aload_n 0, 1) := by decide +kernel
theorem d_UI_5 : decode prog_9_method_1_code 5 = .ok (.bipush 64, 2) := by decide +kernel
theorem d_UI_7 : decode prog_9_method_1_code 7 = .ok (.newarray .byte, 2) := by decide +kernel
theorem d_UI_9 : decode prog_9_method_1_code 9 = .ok (.putfield 9, 3) := by decide +kernel
theorem d_UI_12 : decode prog_9_method_1_code 12 = .ok (.return_, 1) := by decide +kernel
abbrev y_UI : MethodName := ⟨"StreamPair$Supply", "<init>", "()V"⟩
theorem q_UI : Calee y_UI prog_9_method_1_code 1 none 0 := ⟨wd_196, wd_86, by decide, by decide +kernel⟩
set_option maxRecDepth 20000 in
set_option maxHeartbeats 4000000 in
theorem c_UI {l : Launch} {D : va_G} {tc : Nat → ClassId} {b z : Nat} (pre : List va_E) : GMet l D tc b z y_UI prog_9_method_1_code 1 1 12 1 64 [.ref (b + pre.length)] (th pre 7 [.null, .int 0, .int 0, .int 0, .int 0, .int 0, .int 0, .int 0, .int 0, .int 0, .int 0, .int 0] []) (th pre 7 [.ref (b + (pre.length + 1)), .int 0, .int 0, .int 0, .int 0, .int 0, .int 0, .int 0, .int 0, .int 0, .int 0, .int 0] [.inl (tc 1, 64, .inl fun _ => 0)]) := by
  refine gm_met (by decide) rfl (Nat.le_of_ble_eq_true rfl) fun p e s m args below meth c S hW ls hl => ?_
  have hx := S.1.1
  have hb := S.1.2.1
  refine lv_aload_n hx hb d_UI_0 rfl (lv_at hl 0 rfl) ?_
  refine gm_objI S.1 wd_197 wd_112 wd_113 hl.1 (by decide) (Nat.le_of_ble_eq_true rfl) d_UI_1 ?_
  refine lv_aload_n hx hb d_UI_4 rfl (lv_at hl 0 rfl) ?_
  refine lv_bipush (v := 64) hx hb d_UI_5 (by decide) ?_
  refine gm_newaT (atype := .byte) (ety := .byte) (k := 1) (t := 1) (a0 := (64, .inl fun _ => 0)) (tl' := [.inl (tc 1, 64, .inl fun _ => 0)]) S hW rfl rfl (fun U h => h) wd_129 rfl (by decide) (by decide) (by decide) (by decide) (by decide) rfl rfl d_UI_7 fun H1 hW1 => ?_
  refine gm_put (ref := "StreamPair$Supply") (fs' := [.ref (b + (pre.length + 1)), .int 0, .int 0, .int 0, .int 0, .int 0, .int 0, .int 0, .int 0, .int 0, .int 0, .int 0]) kx_U.y S hW1 0 (by decide) wd_198 rfl rfl rfl (Nat.le_of_ble_eq_true rfl) (Or.inl rfl) rfl d_UI_9 fun H2 locs2 hW2 => ?_
  exact gm_ret S hW2 d_UI_12
/-! StreamPair$Arrivals.<init> ()V -/
theorem d_VI_0 : decode prog_2_method_1_code 0 = .ok (.aload_n 0, 1) := by decide +kernel
theorem d_VI_1 : decode prog_2_method_1_code 1 = .ok (.invokespecial 3, 3) := by decide +kernel
theorem d_VI_4 : decode prog_2_method_1_code 4 = .ok (.aload_n 0, 1) := by decide +kernel
theorem d_VI_5 : decode prog_2_method_1_code 5 = .ok (.ldc 9, 2) := by decide +kernel
theorem d_VI_7 : decode prog_2_method_1_code 7 = .ok (.putfield 10, 3) := by decide +kernel
theorem d_VI_10 : decode prog_2_method_1_code 10 = .ok (.aload_n 0, 1) := by decide +kernel
theorem d_VI_11 : decode prog_2_method_1_code 11 = .ok (.iconst 0, 1) := by decide +kernel
theorem d_VI_12 : decode prog_2_method_1_code 12 = .ok (.newarray .short, 2) := by decide +kernel
theorem d_VI_14 : decode prog_2_method_1_code 14 = .ok (.putfield 16, 3) := by decide +kernel
theorem d_VI_17 : decode prog_2_method_1_code 17 = .ok (.return_, 1) := by decide +kernel
abbrev y_VI : MethodName := ⟨"StreamPair$Arrivals", "<init>", "()V"⟩
theorem q_VI : Calee y_VI prog_2_method_1_code 1 none 0 := ⟨wd_248, wd_87, by decide, by decide +kernel⟩
set_option maxRecDepth 20000 in
set_option maxHeartbeats 4000000 in
theorem c_VI {l : Launch} {D : va_G} {tc : Nat → ClassId} {b z : Nat} (pre : List va_E) : GMet l D tc b z y_VI prog_2_method_1_code 1 1 12 1 0 [.ref (b + pre.length)] (th pre 8 [.int 0, .int 0, .int 0, .int 0, .int 0, .int 0, .null, .int 0] []) (th pre 8 [.int (65535 : Int32), .int 0, .int 0, .int 0, .int 0, .int 0, .ref (b + (pre.length + 1)), .int 0] [.inl (tc 4, 0, .inl fun _ => 0)]) := by
  refine gm_met (by decide) rfl (Nat.le_of_ble_eq_true rfl) fun p e s m args below meth c S hW ls hl => ?_
  have hx := S.1.1
  have hb := S.1.2.1
  refine lv_aload_n hx hb d_VI_0 rfl (lv_at hl 0 rfl) ?_
  refine gm_objI S.1 wd_249 wd_112 wd_113 hl.1 (by decide) (Nat.le_of_ble_eq_true rfl) d_VI_1 ?_
  refine lv_aload_n hx hb d_VI_4 rfl (lv_at hl 0 rfl) ?_
  refine lv_ldc hx hb S.1.2.2.2.1 (S.1.2.2.2.2 _ (gi wd_250 rfl)) d_VI_5 ?_
  refine gm_put (ref := "StreamPair$Arrivals") (fs' := [.int (65535 : Int32), .int 0, .int 0, .int 0, .int 0, .int 0, .null, .int 0]) kx_V.y S hW 0 (by decide) wd_251 rfl rfl rfl (Nat.le_of_ble_eq_true rfl) (Or.inl rfl) rfl d_VI_7 fun H1 locs1 hW1 => ?_
  refine lv_aload_n hx hb d_VI_10 rfl (lv_at hl 0 rfl) ?_
  refine lv_iconst (v := 0) hx hb d_VI_11 (by decide) ?_
  refine gm_newaT (atype := .short) (ety := .short) (k := 1) (t := 4) (a0 := (0, .inl fun _ => 0)) (tl' := [.inl (tc 4, 0, .inl fun _ => 0)]) S hW1 rfl rfl (fun U h => h) wd_282 rfl (by decide) (by decide) (by decide) (by decide) (by decide) rfl rfl d_VI_12 fun H2 hW2 => ?_
  refine gm_put (ref := "StreamPair$Arrivals") (fs' := [.int (65535 : Int32), .int 0, .int 0, .int 0, .int 0, .int 0, .ref (b + (pre.length + 1)), .int 0]) kx_V.y S hW2 6 (by decide) wd_263 rfl rfl rfl (Nat.le_of_ble_eq_true rfl) (Or.inl rfl) rfl d_VI_14 fun H3 locs3 hW3 => ?_
  exact gm_ret S hW3 d_VI_17
/-! java/util/AbstractCollection.<init> ()V -/
theorem d_AC_init_0 : decode prog_26_method_1_code 0 = .ok (.aload_n 0, 1) := by decide +kernel
theorem d_AC_init_1 : decode prog_26_method_1_code 1 = .ok (.invokespecial 1, 3) := by decide +kernel
theorem d_AC_init_4 : decode prog_26_method_1_code 4 = .ok (.return_, 1) := by decide +kernel
abbrev y_AC_init : MethodName := ⟨"java/util/AbstractCollection", "<init>", "()V"⟩
theorem q_AC_init : Calee y_AC_init prog_26_method_1_code 1 none 0 := ⟨wd_157, wd_82, by decide, by decide +kernel⟩
set_option maxRecDepth 20000 in
theorem c_AC_init {l : Launch} {D : va_G} {tc : Nat → ClassId} {b z : Nat} (pre tl : List va_E) (f0 f1 f2 : Value) : GMet l D tc b z y_AC_init prog_26_method_1_code 1 1 12 0 0 [.ref (b + pre.length)] (th pre 5 [f0, f1, f2] tl) (th pre 5 [f0, f1, f2] tl) := by
  refine gm_met (by decide) rfl (Nat.le_of_ble_eq_true rfl) fun p e s m args below meth c S hW ls hl => ?_
  have hx := S.1.1
  have hb := S.1.2.1
  refine lv_aload_n hx hb d_AC_init_0 rfl (lv_at hl 0 rfl) ?_
  refine gm_objI S.1 wd_158 wd_112 wd_113 hl.1 (by decide) (Nat.le_of_ble_eq_true rfl) d_AC_init_1 ?_
  exact gm_ret S hW d_AC_init_4
/-! java/util/AbstractList.<init> ()V -/
theorem d_AL_init_0 : decode prog_27_method_1_code 0 = .ok (.aload_n 0, 1) := by decide +kernel
theorem d_AL_init_1 : decode prog_27_method_1_code 1 = .ok (.invokespecial 1, 3) := by decide +kernel
theorem d_AL_init_4 : decode prog_27_method_1_code 4 = .ok (.aload_n 0, 1) := by decide +kernel
theorem d_AL_init_5 : decode prog_27_method_1_code 5 = .ok (.iconst 0, 1) := by decide +kernel
theorem d_AL_init_6 : decode prog_27_method_1_code 6 = .ok (.putfield 7, 3) := by decide +kernel
theorem d_AL_init_9 : decode prog_27_method_1_code 9 = .ok (.return_, 1) := by decide +kernel
abbrev y_AL_init : MethodName := ⟨"java/util/AbstractList", "<init>", "()V"⟩
theorem q_AL_init : Calee y_AL_init prog_27_method_1_code 1 none 0 := ⟨wd_154, wd_83, by decide, by decide +kernel⟩
set_option maxRecDepth 20000 in
theorem c_AL_init {l : Launch} {D : va_G} {tc : Nat → ClassId} {b z : Nat} (pre tl : List va_E) (f0 f1 f2 : Value) : GMet l D tc b z y_AL_init prog_27_method_1_code 1 2 32 0 0 [.ref (b + pre.length)] (th pre 5 [f0, f1, f2] tl) (th pre 5 [f0, f1, .int 0] tl) := by
  refine gm_met (by decide) rfl (Nat.le_of_ble_eq_true rfl) fun p e s m args below meth c S hW ls hl => ?_
  have hx := S.1.1
  have hb := S.1.2.1
  refine lv_aload_n hx hb d_AL_init_0 rfl (lv_at hl 0 rfl) ?_
  refine gm_callI (gs' := th pre 5 [f0, f1, f2] tl) (a := b + pre.length) (As := []) (rest := []) S.1 S.2.1 hW (c_AC_init pre _ _ _ _) q_AC_init rfl wd_156 wd_155 (by decide) hl.1 rfl rfl (Nat.le_of_ble_eq_true rfl) (by decide) d_AL_init_1 fun H1 locs1 hW1 => ?_
  refine lv_aload_n hx hb d_AL_init_4 rfl (lv_at hl 0 rfl) ?_
  refine lv_iconst (v := 0) hx hb d_AL_init_5 (by decide) ?_
  refine gm_put (ref := "java/util/AbstractList") (fs' := [f0, f1, .int 0]) kx_A.y S hW1 2 (by decide) wd_163 rfl rfl rfl (Nat.le_of_ble_eq_true rfl) (Or.inl rfl) rfl d_AL_init_6 fun H2 locs2 hW2 => ?_
  exact gm_ret S hW2 d_AL_init_9
/-! java/util/ArrayList.<init> ()V -/
theorem d_AI_0 : decode prog_28_method_2_code 0 = .ok (.aload_n 0, 1) := by decide +kernel
theorem d_AI_1 : decode prog_28_method_2_code 1 = .ok (.invokespecial 1, 3) := by decide +kernel
theorem d_AI_4 : decode prog_28_method_2_code 4 = .ok (.aload_n 0, 1) := by decide +kernel
theorem d_AI_5 : decode prog_28_method_2_code 5 = .ok (.getstatic 39, 3) := by decide +kernel
theorem d_AI_8 : decode prog_28_method_2_code 8 = .ok (.putfield 9, 3) := by decide +kernel
theorem d_AI_11 : decode prog_28_method_2_code 11 = .ok (.return_, 1) := by decide +kernel
abbrev y_AI : MethodName := ⟨"java/util/ArrayList", "<init>", "()V"⟩
theorem q_AI : Calee y_AI prog_28_method_2_code 1 none 0 := ⟨wd_151, wd_84, by decide, by decide +kernel⟩
set_option maxRecDepth 20000 in
set_option maxHeartbeats 4000000 in
theorem c_AI {l : Launch} {D : va_G} {tc : Nat → ClassId} {b z : Nat} (pre : List va_E) : GMet l D tc b z y_AI prog_28_method_2_code 1 3 52 0 0 [.ref (b + pre.length)] (th pre 5 [.null, .int 0, .int 0] []) (th pre 5 [.ref z, .int 0, .int 0] []) := by
  refine gm_met (by decide) rfl (Nat.le_of_ble_eq_true rfl) fun p e s m args below meth c S hW ls hl => ?_
  have hx := S.1.1
  have hb := S.1.2.1
  refine lv_aload_n hx hb d_AI_0 rfl (lv_at hl 0 rfl) ?_
  refine gm_callI (gs' := th pre 5 [.null, .int 0, .int 0] []) (a := b + pre.length) (As := []) (rest := []) S.1 S.2.1 hW (c_AL_init pre _ _ _ _) q_AL_init rfl wd_153 wd_152 (by decide) hl.1 rfl rfl (Nat.le_of_ble_eq_true rfl) (by decide) d_AI_1 fun H1 locs1 hW1 => ?_
  refine lv_aload_n hx hb d_AI_4 rfl (lv_at hl 0 rfl) ?_
  refine va_gets hx hb S.2.1.2.1 hW1.2 S.1.2.2.2.1 (S.1.2.2.2.2 _ (gi wd_159 rfl)) (fun _ h => h) d_AI_5 ?_
  refine gm_put (ref := "java/util/ArrayList") (fs' := [.ref z, .int 0, .int 0]) kx_A.y S hW1 0 (by decide) wd_161 rfl rfl rfl (Nat.le_of_ble_eq_true rfl) (Or.inl rfl) rfl d_AI_8 fun H2 locs2 hW2 => ?_
  exact gm_ret S hW2 d_AI_11
/-! StreamPair$Network.<init> ()V -/
theorem d_NI_0 : decode prog_6_method_1_code 0 = .ok (.aload_n 0, 1) := by decide +kernel
theorem d_NI_1 : decode prog_6_method_1_code 1 = .ok (.invokespecial 1, 3) := by decide +kernel
theorem d_NI_4 : decode prog_6_method_1_code 4 = .ok (.aload_n 0, 1) := by decide +kernel
theorem d_NI_5 : decode prog_6_method_1_code 5 = .ok (.new 7, 3) := by decide +kernel
theorem d_NI_8 : decode prog_6_method_1_code 8 = .ok (.dup, 1) := by decide +kernel
theorem d_NI_9 : decode prog_6_method_1_code 9 = .ok (.invokespecial 9, 3) := by decide +kernel
theorem d_NI_12 : decode prog_6_method_1_code 12 = .ok (.putfield 10, 3) := by decide +kernel
theorem d_NI_15 : decode prog_6_method_1_code 15 = .ok (.aload_n 0, 1) := by decide +kernel
theorem d_NI_16 : decode prog_6_method_1_code 16 = .ok (.new 7, 3) := by decide +kernel
theorem d_NI_19 : decode prog_6_method_1_code 19 = .ok (.dup, 1) := by decide +kernel
theorem d_NI_20 : decode prog_6_method_1_code 20 = .ok (.invokespecial 9, 3) := by decide +kernel
theorem d_NI_23 : decode prog_6_method_1_code 23 = .ok (.putfield 16, 3) := by decide +kernel
theorem d_NI_26 : decode prog_6_method_1_code 26 = .ok (.return_, 1) := by decide +kernel
abbrev y_NI : MethodName := ⟨"StreamPair$Network", "<init>", "()V"⟩
theorem q_NI : Calee y_NI prog_6_method_1_code 1 none 0 := ⟨wd_145, wd_81, by decide, by decide +kernel⟩
set_option maxRecDepth 20000 in
set_option maxHeartbeats 4000000 in
theorem c_NI {l : Launch} {D : va_G} {tc : Nat → ClassId} {b z : Nat} (pre : List va_E) : GMet l D tc b z y_NI prog_6_method_1_code 1 4 72 2 6 [.ref (b + pre.length)] (th pre 4 [.null, .null, .int 0] []) (th pre 4 [.ref (b + (pre.length + 1)), .ref (b + (pre.length + 2)), .int 0] [.inr (5, [.ref z, .int 0, .int 0]), .inr (5, [.ref z, .int 0, .int 0])]) := by
  refine gm_met (by decide) rfl (Nat.le_of_ble_eq_true rfl) fun p e s m args below meth c S hW ls hl => ?_
  have hx := S.1.1
  have hb := S.1.2.1
  refine lv_aload_n hx hb d_NI_0 rfl (lv_at hl 0 rfl) ?_
  refine gm_objI S.1 wd_146 wd_112 wd_113 hl.1 (by decide) (Nat.le_of_ble_eq_true rfl) d_NI_1 ?_
  refine lv_aload_n hx hb d_NI_4 rfl (lv_at hl 0 rfl) ?_
  refine gm_newT (k := 1) (fs' := [.null, .int 0, .int 0]) (tl' := [.inr (5, [.null, .int 0, .int 0])]) kx_A.y S hW wd_147 wd_148 wd_84 (by decide) (by decide) (by decide) rfl rfl d_NI_5 fun H1 hW1 => ?_
  refine lv_dup hx hb d_NI_8 rfl ?_
  refine gm_callT (k := 1) (ci' := 5) (fs0 := [.null, .int 0, .int 0]) (fs1 := [.ref z, .int 0, .int 0]) (tl := []) (tl1 := []) (tl2 := [.inr (5, [.ref z, .int 0, .int 0])]) (As := []) (rest := [.ref (b + (pre.length + 1)), .ref (b + pre.length)]) S hW1 rfl rfl (fun pre' hp => by have h9 := c_AI (l := l) (D := D) (tc := tc) (b := b) (z := z) pre'; rw [hp] at h9; exact h9) rfl q_AI rfl wd_150 (Or.inl wd_149) (by decide) hl.1 rfl rfl (Nat.le_of_ble_eq_true rfl) (by decide) d_NI_9 fun H2 locs2 hW2 => ?_
  refine gm_put (ref := "StreamPair$Network") (fs' := [.ref (b + (pre.length + 1)), .null, .int 0]) kx_N.y S hW2 0 (by decide) wd_173 rfl rfl rfl (Nat.le_of_ble_eq_true rfl) (Or.inr rfl) rfl d_NI_12 fun H3 locs3 hW3 => ?_
  refine lv_aload_n hx hb d_NI_15 rfl (lv_at hl 0 rfl) ?_
  refine gm_newT (k := 2) (fs' := [.null, .int 0, .int 0]) (tl' := [.inr (5, [.ref z, .int 0, .int 0]), .inr (5, [.null, .int 0, .int 0])]) kx_A.y S hW3 wd_147 wd_148 wd_84 (by decide) (by decide) (by decide) rfl rfl d_NI_16 fun H4 hW4 => ?_
  refine lv_dup hx hb d_NI_19 rfl ?_
  refine gm_callT (k := 2) (ci' := 5) (fs0 := [.null, .int 0, .int 0]) (fs1 := [.ref z, .int 0, .int 0]) (tl := [.inr (5, [.ref z, .int 0, .int 0])]) (tl1 := []) (tl2 := [.inr (5, [.ref z, .int 0, .int 0]), .inr (5, [.ref z, .int 0, .int 0])]) (As := []) (rest := [.ref (b + (pre.length + 2)), .ref (b + pre.length)]) S hW4 rfl rfl (fun pre' hp => by have h9 := c_AI (l := l) (D := D) (tc := tc) (b := b) (z := z) pre'; rw [hp] at h9; exact h9) rfl q_AI rfl wd_150 (Or.inl wd_149) (by decide) hl.1 rfl rfl (Nat.le_of_ble_eq_true rfl) (by decide) d_NI_20 fun H5 locs5 hW5 => ?_
  refine gm_put (ref := "StreamPair$Network") (fs' := [.ref (b + (pre.length + 1)), .ref (b + (pre.length + 2)), .int 0]) kx_N.y S hW5 1 (by decide) wd_175 rfl rfl rfl (Nat.le_of_ble_eq_true rfl) (Or.inr rfl) rfl d_NI_23 fun H6 locs6 hW6 => ?_
  exact gm_ret S hW6 d_NI_26
/-! StreamPair$End.<init> (ILStreamPair$Clock;LStreamPair$Network;)V -/
theorem d_EI_0 : decode prog_5_method_1_code 0 = .ok (.aload_n 0, 1) := by decide +kernel
theorem d_EI_1 : decode prog_5_method_1_code 1 = .ok (.invokespecial 3, 3) := by decide +kernel
theorem d_EI_4 : decode prog_5_method_1_code 4 = .ok (.aload_n 0, 1) := by decide +kernel
theorem d_EI_5 : decode prog_5_method_1_code 5 = .ok (.new 9, 3) := by decide +kernel
theorem d_EI_8 : decode prog_5_method_1_code 8 = .ok (.dup, 1) := by decide +kernel
theorem d_EI_9 : decode prog_5_method_1_code 9 = .ok (.invokespecial 11, 3) := by decide +kernel
theorem d_EI_12 : decode prog_5_method_1_code 12 = .ok (.putfield 12, 3) := by decide +kernel
theorem d_EI_15 : decode prog_5_method_1_code 15 = .ok (.aload_n 0, 1) := by decide +kernel
theorem d_EI_16 : decode prog_5_method_1_code 16 = .ok (.new 18, 3) := by decide +kernel
theorem d_EI_19 : decode prog_5_method_1_code 19 = .ok (.dup, 1) := by decide +kernel
theorem d_EI_20 : decode prog_5_method_1_code 20 = .ok (.invokespecial 20, 3) := by decide +kernel
theorem d_EI_23 : decode prog_5_method_1_code 23 = .ok (.putfield 21, 3) := by decide +kernel
theorem d_EI_26 : decode prog_5_method_1_code 26 = .ok (.aload_n 0, 1) := by decide +kernel
theorem d_EI_27 : decode prog_5_method_1_code 27 = .ok (.new 25, 3) := by decide +kernel
theorem d_EI_30 : decode prog_5_method_1_code 30 = .ok (.dup, 1) := by decide +kernel
theorem d_EI_31 : decode prog_5_method_1_code 31 = .ok (.invokespecial 27, 3) := by decide +kernel
theorem d_EI_34 : decode prog_5_method_1_code 34 = .ok (.putfield 28, 3) := by decide +kernel
theorem d_EI_37 : decode prog_5_method_1_code 37 = .ok (.aload_n 0, 1) := by decide +kernel
theorem d_EI_38 : decode prog_5_method_1_code 38 = .ok (.new 32, 3) := by decide +kernel
theorem d_EI_41 : decode prog_5_method_1_code 41 = .ok (.dup, 1) := by decide +kernel
theorem d_EI_42 : decode prog_5_method_1_code 42 = .ok (.invokespecial 34, 3) := by decide +kernel
theorem d_EI_45 : decode prog_5_method_1_code 45 = .ok (.putfield 35, 3) := by decide +kernel
theorem d_EI_48 : decode prog_5_method_1_code 48 = .ok (.aload_n 0, 1) := by decide +kernel
theorem d_EI_49 : decode prog_5_method_1_code 49 = .ok (.sipush 1460, 3) := by decide +kernel
theorem d_EI_52 : decode prog_5_method_1_code 52 = .ok (.putfield 39, 3) := by decide +kernel
theorem d_EI_55 : decode prog_5_method_1_code 55 = .ok (.aload_n 0, 1) := by decide +kernel
theorem d_EI_56 : decode prog_5_method_1_code 56 = .ok (.iload_n 1, 1) := by decide +kernel
theorem d_EI_57 : decode prog_5_method_1_code 57 = .ok (.putfield 43, 3) := by decide +kernel
theorem d_EI_60 : decode prog_5_method_1_code 60 = .ok (.aload_n 0, 1) := by decide +kernel
theorem d_EI_61 : decode prog_5_method_1_code 61 = .ok (.aload_n 2, 1) := by decide +kernel
theorem d_EI_62 : decode prog_5_method_1_code 62 = .ok (.putfield 46, 3) := by decide +kernel
theorem d_EI_65 : decode prog_5_method_1_code 65 = .ok (.aload_n 0, 1) := by decide +kernel
theorem d_EI_66 : decode prog_5_method_1_code 66 = .ok (.aload_n 3, 1) := by decide +kernel
theorem d_EI_67 : decode prog_5_method_1_code 67 = .ok (.putfield 50, 3) := by decide +kernel
theorem d_EI_70 : decode prog_5_method_1_code 70 = .ok (.return_, 1) := by decide +kernel
abbrev y_EI : MethodName := ⟨"StreamPair$End", "<init>", "(ILStreamPair$Clock;LStreamPair$Network;)V"⟩
theorem q_EI : Calee y_EI prog_5_method_1_code 4 none 3 := ⟨wd_190, wd_85, by decide, by decide +kernel⟩
set_option maxRecDepth 20000 in
set_option maxHeartbeats 4000000 in
theorem c_EI {l : Launch} {D : va_G} {tc : Nat → ClassId} {b z : Nat} (pre : List va_E) (v1 : Int32) (w2 : Nat) (w3 : Nat) : GMet l D tc b z y_EI prog_5_method_1_code 4 2 32 6 97 [.ref (b + pre.length), .int v1, .ref w2, .ref w3] (th pre 6 [.int 0, .null, .null, .null, .null, .null, .null, .int 0, .int 0, .int 0, .int 0, .int 0, .int 0, .int 0] []) (th pre 6 [.int v1, .ref w2, .ref w3, .ref (b + (pre.length + 1)), .ref (b + (pre.length + 3)), .ref (b + (pre.length + 5)), .ref (b + (pre.length + 6)), .int (1460 : Int32), .int 0, .int 0, .int 0, .int 0, .int 0, .int 0] [.inr (7, [.ref (b + (pre.length + 2)), .int 0, .int 0, .int 0, .int 0, .int 0, .int 0, .int 0, .int 0, .int 0, .int 0, .int 0]), .inl (tc 1, 64, .inl fun _ => 0), .inr (8, [.int (65535 : Int32), .int 0, .int 0, .int 0, .int 0, .int 0, .ref (b + (pre.length + 4)), .int 0]), .inl (tc 4, 0, .inl fun _ => 0), .inr (9, [.int (1000 : Int32), .int 0, .int 0, .long 0, .long (-1 : Int64), .long 0, .int 0, .int 0, .long 0]), .inr (10, [.int 0, .int 0, .int (65535 : Int32), .int 0])]) := by
  refine gm_met (by decide) rfl (Nat.le_of_ble_eq_true rfl) fun p e s m args below meth c S hW ls hl => ?_
  have hx := S.1.1
  have hb := S.1.2.1
  refine lv_aload_n hx hb d_EI_0 rfl (lv_at hl 0 rfl) ?_
  refine gm_objI S.1 wd_191 wd_112 wd_113 hl.1 (by decide) (Nat.le_of_ble_eq_true rfl) d_EI_1 ?_
  refine lv_aload_n hx hb d_EI_4 rfl (lv_at hl 0 rfl) ?_
  refine gm_newT (k := 1) (fs' := [.null, .int 0, .int 0, .int 0, .int 0, .int 0, .int 0, .int 0, .int 0, .int 0, .int 0, .int 0]) (tl' := [.inr (7, [.null, .int 0, .int 0, .int 0, .int 0, .int 0, .int 0, .int 0, .int 0, .int 0, .int 0, .int 0])]) kx_U.y S hW wd_192 wd_193 wd_86 (by decide) (by decide) (by decide) rfl rfl d_EI_5 fun H1 hW1 => ?_
  refine lv_dup hx hb d_EI_8 rfl ?_
  refine gm_callT (k := 1) (ci' := 7) (fs0 := [.null, .int 0, .int 0, .int 0, .int 0, .int 0, .int 0, .int 0, .int 0, .int 0, .int 0, .int 0]) (fs1 := [.ref (b + (pre.length + 2)), .int 0, .int 0, .int 0, .int 0, .int 0, .int 0, .int 0, .int 0, .int 0, .int 0, .int 0]) (tl := []) (tl1 := [.inl (tc 1, 64, .inl fun _ => 0)]) (tl2 := [.inr (7, [.ref (b + (pre.length + 2)), .int 0, .int 0, .int 0, .int 0, .int 0, .int 0, .int 0, .int 0, .int 0, .int 0, .int 0]), .inl (tc 1, 64, .inl fun _ => 0)]) (As := []) (rest := [.ref (b + (pre.length + 1)), .ref (b + pre.length)]) S hW1 rfl rfl (fun pre' hp => by have h9 := c_UI (l := l) (D := D) (tc := tc) (b := b) (z := z) pre'; rw [hp] at h9; exact h9) rfl q_UI rfl wd_195 (Or.inr (by decide)) (by decide) hl.1 rfl rfl (Nat.le_of_ble_eq_true rfl) (by decide) d_EI_9 fun H2 locs2 hW2 => ?_
  refine gm_put (ref := "StreamPair$End") (fs' := [.int 0, .null, .null, .ref (b + (pre.length + 1)), .null, .null, .null, .int 0, .int 0, .int 0, .int 0, .int 0, .int 0, .int 0]) kx_E.y S hW2 3 (by decide) wd_353 rfl rfl rfl (Nat.le_of_ble_eq_true rfl) (Or.inr rfl) rfl d_EI_12 fun H3 locs3 hW3 => ?_
  refine lv_aload_n hx hb d_EI_15 rfl (lv_at hl 0 rfl) ?_
  refine gm_newT (k := 3) (fs' := [.int 0, .int 0, .int 0, .int 0, .int 0, .int 0, .null, .int 0]) (tl' := [.inr (7, [.ref (b + (pre.length + 2)), .int 0, .int 0, .int 0, .int 0, .int 0, .int 0, .int 0, .int 0, .int 0, .int 0, .int 0]), .inl (tc 1, 64, .inl fun _ => 0), .inr (8, [.int 0, .int 0, .int 0, .int 0, .int 0, .int 0, .null, .int 0])]) kx_V.y S hW3 wd_244 wd_245 wd_87 (by decide) (by decide) (by decide) rfl rfl d_EI_16 fun H4 hW4 => ?_
  refine lv_dup hx hb d_EI_19 rfl ?_
  refine gm_callT (k := 3) (ci' := 8) (fs0 := [.int 0, .int 0, .int 0, .int 0, .int 0, .int 0, .null, .int 0]) (fs1 := [.int (65535 : Int32), .int 0, .int 0, .int 0, .int 0, .int 0, .ref (b + (pre.length + 4)), .int 0]) (tl := [.inr (7, [.ref (b + (pre.length + 2)), .int 0, .int 0, .int 0, .int 0, .int 0, .int 0, .int 0, .int 0, .int 0, .int 0, .int 0]), .inl (tc 1, 64, .inl fun _ => 0)]) (tl1 := [.inl (tc 4, 0, .inl fun _ => 0)]) (tl2 := [.inr (7, [.ref (b + (pre.length + 2)), .int 0, .int 0, .int 0, .int 0, .int 0, .int 0, .int 0, .int 0, .int 0, .int 0, .int 0]), .inl (tc 1, 64, .inl fun _ => 0), .inr (8, [.int (65535 : Int32), .int 0, .int 0, .int 0, .int 0, .int 0, .ref (b + (pre.length + 4)), .int 0]), .inl (tc 4, 0, .inl fun _ => 0)]) (As := []) (rest := [.ref (b + (pre.length + 3)), .ref (b + pre.length)]) S hW4 rfl rfl (fun pre' hp => by have h9 := c_VI (l := l) (D := D) (tc := tc) (b := b) (z := z) pre'; rw [hp] at h9; exact h9) rfl q_VI rfl wd_247 (Or.inr (by decide)) (by decide) hl.1 rfl rfl (Nat.le_of_ble_eq_true rfl) (by decide) d_EI_20 fun H5 locs5 hW5 => ?_
  refine gm_put (ref := "StreamPair$End") (fs' := [.int 0, .null, .null, .ref (b + (pre.length + 1)), .ref (b + (pre.length + 3)), .null, .null, .int 0, .int 0, .int 0, .int 0, .int 0, .int 0, .int 0]) kx_E.y S hW5 4 (by decide) wd_355 rfl rfl rfl (Nat.le_of_ble_eq_true rfl) (Or.inr rfl) rfl d_EI_23 fun H6 locs6 hW6 => ?_
  refine lv_aload_n hx hb d_EI_26 rfl (lv_at hl 0 rfl) ?_
  refine gm_newT (k := 5) (fs' := [.int 0, .int 0, .int 0, .long 0, .long 0, .long 0, .int 0, .int 0, .long 0]) (tl' := [.inr (7, [.ref (b + (pre.length + 2)), .int 0, .int 0, .int 0, .int 0, .int 0, .int 0, .int 0, .int 0, .int 0, .int 0, .int 0]), .inl (tc 1, 64, .inl fun _ => 0), .inr (8, [.int (65535 : Int32), .int 0, .int 0, .int 0, .int 0, .int 0, .ref (b + (pre.length + 4)), .int 0]), .inl (tc 4, 0, .inl fun _ => 0), .inr (9, [.int 0, .int 0, .int 0, .long 0, .long 0, .long 0, .int 0, .int 0, .long 0])]) kx_Z.y S hW6 wd_283 wd_284 wd_88 (by decide) (by decide) (by decide) rfl rfl d_EI_27 fun H7 hW7 => ?_
  refine lv_dup hx hb d_EI_30 rfl ?_
  refine gm_callT (k := 5) (ci' := 9) (fs0 := [.int 0, .int 0, .int 0, .long 0, .long 0, .long 0, .int 0, .int 0, .long 0]) (fs1 := [.int (1000 : Int32), .int 0, .int 0, .long 0, .long (-1 : Int64), .long 0, .int 0, .int 0, .long 0]) (tl := [.inr (7, [.ref (b + (pre.length + 2)), .int 0, .int 0, .int 0, .int 0, .int 0, .int 0, .int 0, .int 0, .int 0, .int 0, .int 0]), .inl (tc 1, 64, .inl fun _ => 0), .inr (8, [.int (65535 : Int32), .int 0, .int 0, .int 0, .int 0, .int 0, .ref (b + (pre.length + 4)), .int 0]), .inl (tc 4, 0, .inl fun _ => 0)]) (tl1 := []) (tl2 := [.inr (7, [.ref (b + (pre.length + 2)), .int 0, .int 0, .int 0, .int 0, .int 0, .int 0, .int 0, .int 0, .int 0, .int 0, .int 0]), .inl (tc 1, 64, .inl fun _ => 0), .inr (8, [.int (65535 : Int32), .int 0, .int 0, .int 0, .int 0, .int 0, .ref (b + (pre.length + 4)), .int 0]), .inl (tc 4, 0, .inl fun _ => 0), .inr (9, [.int (1000 : Int32), .int 0, .int 0, .long 0, .long (-1 : Int64), .long 0, .int 0, .int 0, .long 0])]) (As := []) (rest := [.ref (b + (pre.length + 5)), .ref (b + pre.length)]) S hW7 rfl rfl (fun pre' hp => by have h9 := c_ZI (l := l) (D := D) (tc := tc) (b := b) (z := z) pre'; rw [hp] at h9; exact h9) rfl q_ZI rfl wd_286 (Or.inr (by decide)) (by decide) hl.1 rfl rfl (Nat.le_of_ble_eq_true rfl) (by decide) d_EI_31 fun H8 locs8 hW8 => ?_
  refine gm_put (ref := "StreamPair$End") (fs' := [.int 0, .null, .null, .ref (b + (pre.length + 1)), .ref (b + (pre.length + 3)), .ref (b + (pre.length + 5)), .null, .int 0, .int 0, .int 0, .int 0, .int 0, .int 0, .int 0]) kx_E.y S hW8 5 (by decide) wd_357 rfl rfl rfl (Nat.le_of_ble_eq_true rfl) (Or.inr rfl) rfl d_EI_34 fun H9 locs9 hW9 => ?_
  refine lv_aload_n hx hb d_EI_37 rfl (lv_at hl 0 rfl) ?_
  refine gm_newT (k := 6) (fs' := [.int 0, .int 0, .int 0, .int 0]) (tl' := [.inr (7, [.ref (b + (pre.length + 2)), .int 0, .int 0, .int 0, .int 0, .int 0, .int 0, .int 0, .int 0, .int 0, .int 0, .int 0]), .inl (tc 1, 64, .inl fun _ => 0), .inr (8, [.int (65535 : Int32), .int 0, .int 0, .int 0, .int 0, .int 0, .ref (b + (pre.length + 4)), .int 0]), .inl (tc 4, 0, .inl fun _ => 0), .inr (9, [.int (1000 : Int32), .int 0, .int 0, .long 0, .long (-1 : Int64), .long 0, .int 0, .int 0, .long 0]), .inr (10, [.int 0, .int 0, .int 0, .int 0])]) kx_O.y S hW9 wd_325 wd_326 wd_89 (by decide) (by decide) (by decide) rfl rfl d_EI_38 fun H10 hW10 => ?_
  refine lv_dup hx hb d_EI_41 rfl ?_
  refine gm_callT (k := 6) (ci' := 10) (fs0 := [.int 0, .int 0, .int 0, .int 0]) (fs1 := [.int 0, .int 0, .int (65535 : Int32), .int 0]) (tl := [.inr (7, [.ref (b + (pre.length + 2)), .int 0, .int 0, .int 0, .int 0, .int 0, .int 0, .int 0, .int 0, .int 0, .int 0, .int 0]), .inl (tc 1, 64, .inl fun _ => 0), .inr (8, [.int (65535 : Int32), .int 0, .int 0, .int 0, .int 0, .int 0, .ref (b + (pre.length + 4)), .int 0]), .inl (tc 4, 0, .inl fun _ => 0), .inr (9, [.int (1000 : Int32), .int 0, .int 0, .long 0, .long (-1 : Int64), .long 0, .int 0, .int 0, .long 0])]) (tl1 := []) (tl2 := [.inr (7, [.ref (b + (pre.length + 2)), .int 0, .int 0, .int 0, .int 0, .int 0, .int 0, .int 0, .int 0, .int 0, .int 0, .int 0]), .inl (tc 1, 64, .inl fun _ => 0), .inr (8, [.int (65535 : Int32), .int 0, .int 0, .int 0, .int 0, .int 0, .ref (b + (pre.length + 4)), .int 0]), .inl (tc 4, 0, .inl fun _ => 0), .inr (9, [.int (1000 : Int32), .int 0, .int 0, .long 0, .long (-1 : Int64), .long 0, .int 0, .int 0, .long 0]), .inr (10, [.int 0, .int 0, .int (65535 : Int32), .int 0])]) (As := []) (rest := [.ref (b + (pre.length + 6)), .ref (b + pre.length)]) S hW10 rfl rfl (fun pre' hp => by have h9 := c_OI (l := l) (D := D) (tc := tc) (b := b) (z := z) pre'; rw [hp] at h9; exact h9) rfl q_OI rfl wd_328 (Or.inr (by decide)) (by decide) hl.1 rfl rfl (Nat.le_of_ble_eq_true rfl) (by decide) d_EI_42 fun H11 locs11 hW11 => ?_
  refine gm_put (ref := "StreamPair$End") (fs' := [.int 0, .null, .null, .ref (b + (pre.length + 1)), .ref (b + (pre.length + 3)), .ref (b + (pre.length + 5)), .ref (b + (pre.length + 6)), .int 0, .int 0, .int 0, .int 0, .int 0, .int 0, .int 0]) kx_E.y S hW11 6 (by decide) wd_359 rfl rfl rfl (Nat.le_of_ble_eq_true rfl) (Or.inr rfl) rfl d_EI_45 fun H12 locs12 hW12 => ?_
  refine lv_aload_n hx hb d_EI_48 rfl (lv_at hl 0 rfl) ?_
  refine lv_sipush (v := 1460) hx hb d_EI_49 (by decide) ?_
  refine gm_put (ref := "StreamPair$End") (fs' := [.int 0, .null, .null, .ref (b + (pre.length + 1)), .ref (b + (pre.length + 3)), .ref (b + (pre.length + 5)), .ref (b + (pre.length + 6)), .int (1460 : Int32), .int 0, .int 0, .int 0, .int 0, .int 0, .int 0]) kx_E.y S hW12 7 (by decide) wd_360 rfl rfl rfl (Nat.le_of_ble_eq_true rfl) (Or.inl rfl) rfl d_EI_52 fun H13 locs13 hW13 => ?_
  refine lv_aload_n hx hb d_EI_55 rfl (lv_at hl 0 rfl) ?_
  refine lv_iload_n hx hb d_EI_56 rfl (lv_at hl 1 rfl) ?_
  refine gm_put (ref := "StreamPair$End") (fs' := [.int v1, .null, .null, .ref (b + (pre.length + 1)), .ref (b + (pre.length + 3)), .ref (b + (pre.length + 5)), .ref (b + (pre.length + 6)), .int (1460 : Int32), .int 0, .int 0, .int 0, .int 0, .int 0, .int 0]) kx_E.y S hW13 0 (by decide) wd_349 rfl rfl rfl (Nat.le_of_ble_eq_true rfl) (Or.inr rfl) rfl d_EI_57 fun H14 locs14 hW14 => ?_
  refine lv_aload_n hx hb d_EI_60 rfl (lv_at hl 0 rfl) ?_
  refine lv_aload_n hx hb d_EI_61 rfl (lv_at hl 2 rfl) ?_
  refine gm_put (ref := "StreamPair$End") (fs' := [.int v1, .ref w2, .null, .ref (b + (pre.length + 1)), .ref (b + (pre.length + 3)), .ref (b + (pre.length + 5)), .ref (b + (pre.length + 6)), .int (1460 : Int32), .int 0, .int 0, .int 0, .int 0, .int 0, .int 0]) kx_E.y S hW14 1 (by decide) wd_351 rfl rfl rfl (Nat.le_of_ble_eq_true rfl) (Or.inr rfl) rfl d_EI_62 fun H15 locs15 hW15 => ?_
  refine lv_aload_n hx hb d_EI_65 rfl (lv_at hl 0 rfl) ?_
  refine lv_aload_n hx hb d_EI_66 rfl (lv_at hl 3 rfl) ?_
  refine gm_put (ref := "StreamPair$End") (fs' := [.int v1, .ref w2, .ref w3, .ref (b + (pre.length + 1)), .ref (b + (pre.length + 3)), .ref (b + (pre.length + 5)), .ref (b + (pre.length + 6)), .int (1460 : Int32), .int 0, .int 0, .int 0, .int 0, .int 0, .int 0]) kx_E.y S hW15 2 (by decide) wd_352 rfl rfl rfl (Nat.le_of_ble_eq_true rfl) (Or.inr rfl) rfl d_EI_67 fun H16 locs16 hW16 => ?_
  exact gm_ret S hW16 d_EI_70
/-! StreamPair.<init> ()V -/
theorem d_PI_0 : decode prog_1_method_1_code 0 = .ok (.aload_n 0, 1) := by decide +kernel
theorem d_PI_1 : decode prog_1_method_1_code 1 = .ok (.invokespecial 1, 3) := by decide +kernel
theorem d_PI_4 : decode prog_1_method_1_code 4 = .ok (.aload_n 0, 1) := by decide +kernel
theorem d_PI_5 : decode prog_1_method_1_code 5 = .ok (.new 7, 3) := by decide +kernel
theorem d_PI_8 : decode prog_1_method_1_code 8 = .ok (.dup, 1) := by decide +kernel
theorem d_PI_9 : decode prog_1_method_1_code 9 = .ok (.invokespecial 9, 3) := by decide +kernel
theorem d_PI_12 : decode prog_1_method_1_code 12 = .ok (.putfield 10, 3) := by decide +kernel
theorem d_PI_15 : decode prog_1_method_1_code 15 = .ok (.aload_n 0, 1) := by decide +kernel
theorem d_PI_16 : decode prog_1_method_1_code 16 = .ok (.new 16, 3) := by decide +kernel
theorem d_PI_19 : decode prog_1_method_1_code 19 = .ok (.dup, 1) := by decide +kernel
theorem d_PI_20 : decode prog_1_method_1_code 20 = .ok (.invokespecial 18, 3) := by decide +kernel
theorem d_PI_23 : decode prog_1_method_1_code 23 = .ok (.putfield 19, 3) := by decide +kernel
theorem d_PI_26 : decode prog_1_method_1_code 26 = .ok (.aload_n 0, 1) := by decide +kernel
theorem d_PI_27 : decode prog_1_method_1_code 27 = .ok (.new 23, 3) := by decide +kernel
theorem d_PI_30 : decode prog_1_method_1_code 30 = .ok (.dup, 1) := by decide +kernel
theorem d_PI_31 : decode prog_1_method_1_code 31 = .ok (.invokespecial 25, 3) := by decide +kernel
theorem d_PI_34 : decode prog_1_method_1_code 34 = .ok (.putfield 26, 3) := by decide +kernel
theorem d_PI_37 : decode prog_1_method_1_code 37 = .ok (.aload_n 0, 1) := by decide +kernel
theorem d_PI_38 : decode prog_1_method_1_code 38 = .ok (.new 30, 3) := by decide +kernel
theorem d_PI_41 : decode prog_1_method_1_code 41 = .ok (.dup, 1) := by decide +kernel
theorem d_PI_42 : decode prog_1_method_1_code 42 = .ok (.iconst 0, 1) := by decide +kernel
theorem d_PI_43 : decode prog_1_method_1_code 43 = .ok (.aload_n 0, 1) := by decide +kernel
theorem d_PI_44 : decode prog_1_method_1_code 44 = .ok (.getfield 19, 3) := by decide +kernel
theorem d_PI_47 : decode prog_1_method_1_code 47 = .ok (.aload_n 0, 1) := by decide +kernel
theorem d_PI_48 : decode prog_1_method_1_code 48 = .ok (.getfield 26, 3) := by decide +kernel
theorem d_PI_51 : decode prog_1_method_1_code 51 = .ok (.invokespecial 32, 3) := by decide +kernel
theorem d_PI_54 : decode prog_1_method_1_code 54 = .ok (.putfield 35, 3) := by decide +kernel
theorem d_PI_57 : decode prog_1_method_1_code 57 = .ok (.aload_n 0, 1) := by decide +kernel
theorem d_PI_58 : decode prog_1_method_1_code 58 = .ok (.new 30, 3) := by decide +kernel
theorem d_PI_61 : decode prog_1_method_1_code 61 = .ok (.dup, 1) := by decide +kernel
theorem d_PI_62 : decode prog_1_method_1_code 62 = .ok (.iconst 1, 1) := by decide +kernel
theorem d_PI_63 : decode prog_1_method_1_code 63 = .ok (.aload_n 0, 1) := by decide +kernel
theorem d_PI_64 : decode prog_1_method_1_code 64 = .ok (.getfield 19, 3) := by decide +kernel
theorem d_PI_67 : decode prog_1_method_1_code 67 = .ok (.aload_n 0, 1) := by decide +kernel
theorem d_PI_68 : decode prog_1_method_1_code 68 = .ok (.getfield 26, 3) := by decide +kernel
theorem d_PI_71 : decode prog_1_method_1_code 71 = .ok (.invokespecial 32, 3) := by decide +kernel
theorem d_PI_74 : decode prog_1_method_1_code 74 = .ok (.putfield 39, 3) := by decide +kernel
theorem d_PI_77 : decode prog_1_method_1_code 77 = .ok (.return_, 1) := by decide +kernel
abbrev y_PI : MethodName := ⟨"StreamPair", "<init>", "()V"⟩
theorem q_PI : Calee y_PI prog_1_method_1_code 1 none 0 := ⟨wd_110, wd_78, by decide, by decide +kernel⟩
set_option maxRecDepth 20000 in
set_option maxHeartbeats 4000000 in
theorem c_PI {l : Launch} {D : va_G} {tc : Nat → ClassId} {b z : Nat} (pre : List va_E) : GMet l D tc b z y_PI prog_1_method_1_code 1 5 92 20 298 [.ref (b + pre.length)] (th pre 1 [.null, .null, .null, .null, .null, .int 0] []) (th pre 1 [.ref (b + (pre.length + 1)), .ref (b + (pre.length + 3)), .ref (b + (pre.length + 4)), .ref (b + (pre.length + 7)), .ref (b + (pre.length + 14)), .int 0] [.inr (2, [.ref (b + (pre.length + 2)), .int 0]), .inl (tc 1, 64, .inl fun _ => 0), .inr (3, [.long 0]), .inr (4, [.ref (b + (pre.length + 5)), .ref (b + (pre.length + 6)), .int 0]), .inr (5, [.ref z, .int 0, .int 0]), .inr (5, [.ref z, .int 0, .int 0]), .inr (6, [.int (0 : Int32), .ref (b + (pre.length + 3)), .ref (b + (pre.length + 4)), .ref (b + (pre.length + 8)), .ref (b + (pre.length + 10)), .ref (b + (pre.length + 12)), .ref (b + (pre.length + 13)), .int (1460 : Int32), .int 0, .int 0, .int 0, .int 0, .int 0, .int 0]), .inr (7, [.ref (b + (pre.length + 9)), .int 0, .int 0, .int 0, .int 0, .int 0, .int 0, .int 0, .int 0, .int 0, .int 0, .int 0]), .inl (tc 1, 64, .inl fun _ => 0), .inr (8, [.int (65535 : Int32), .int 0, .int 0, .int 0, .int 0, .int 0, .ref (b + (pre.length + 11)), .int 0]), .inl (tc 4, 0, .inl fun _ => 0), .inr (9, [.int (1000 : Int32), .int 0, .int 0, .long 0, .long (-1 : Int64), .long 0, .int 0, .int 0, .long 0]), .inr (10, [.int 0, .int 0, .int (65535 : Int32), .int 0]), .inr (6, [.int (1 : Int32), .ref (b + (pre.length + 3)), .ref (b + (pre.length + 4)), .ref (b + (pre.length + 15)), .ref (b + (pre.length + 17)), .ref (b + (pre.length + 19)), .ref (b + (pre.length + 20)), .int (1460 : Int32), .int 0, .int 0, .int 0, .int 0, .int 0, .int 0]), .inr (7, [.ref (b + (pre.length + 16)), .int 0, .int 0, .int 0, .int 0, .int 0, .int 0, .int 0, .int 0, .int 0, .int 0, .int 0]), .inl (tc 1, 64, .inl fun _ => 0), .inr (8, [.int (65535 : Int32), .int 0, .int 0, .int 0, .int 0, .int 0, .ref (b + (pre.length + 18)), .int 0]), .inl (tc 4, 0, .inl fun _ => 0), .inr (9, [.int (1000 : Int32), .int 0, .int 0, .long 0, .long (-1 : Int64), .long 0, .int 0, .int 0, .long 0]), .inr (10, [.int 0, .int 0, .int (65535 : Int32), .int 0])]) := by
  refine gm_met (by decide) rfl (Nat.le_of_ble_eq_true rfl) fun p e s m args below meth c S hW ls hl => ?_
  have hx := S.1.1
  have hb := S.1.2.1
  refine lv_aload_n hx hb d_PI_0 rfl (lv_at hl 0 rfl) ?_
  refine gm_objI S.1 wd_111 wd_112 wd_113 hl.1 (by decide) (Nat.le_of_ble_eq_true rfl) d_PI_1 ?_
  refine lv_aload_n hx hb d_PI_4 rfl (lv_at hl 0 rfl) ?_
  refine gm_newT (k := 1) (fs' := [.null, .int 0]) (tl' := [.inr (2, [.null, .int 0])]) kx_T.y S hW wd_114 wd_115 wd_79 (by decide) (by decide) (by decide) rfl rfl d_PI_5 fun H1 hW1 => ?_
  refine lv_dup hx hb d_PI_8 rfl ?_
  refine gm_callT (k := 1) (ci' := 2) (fs0 := [.null, .int 0]) (fs1 := [.ref (b + (pre.length + 2)), .int 0]) (tl := []) (tl1 := [.inl (tc 1, 64, .inl fun _ => 0)]) (tl2 := [.inr (2, [.ref (b + (pre.length + 2)), .int 0]), .inl (tc 1, 64, .inl fun _ => 0)]) (As := []) (rest := [.ref (b + (pre.length + 1)), .ref (b + pre.length)]) S hW1 rfl rfl (fun pre' hp => by have h9 := c_TI (l := l) (D := D) (tc := tc) (b := b) (z := z) pre'; rw [hp] at h9; exact h9) rfl q_TI rfl wd_117 (Or.inr (by decide)) (by decide) hl.1 rfl rfl (Nat.le_of_ble_eq_true rfl) (by decide) d_PI_9 fun H2 locs2 hW2 => ?_
  refine gm_put (ref := "StreamPair") (fs' := [.ref (b + (pre.length + 1)), .null, .null, .null, .null, .int 0]) kx_P.y S hW2 0 (by decide) wd_399 rfl rfl rfl (Nat.le_of_ble_eq_true rfl) (Or.inr rfl) rfl d_PI_12 fun H3 locs3 hW3 => ?_
  refine lv_aload_n hx hb d_PI_15 rfl (lv_at hl 0 rfl) ?_
  refine gm_newT (k := 3) (fs' := [.long 0]) (tl' := [.inr (2, [.ref (b + (pre.length + 2)), .int 0]), .inl (tc 1, 64, .inl fun _ => 0), .inr (3, [.long 0])]) kx_C.y S hW3 wd_130 wd_131 wd_80 (by decide) (by decide) (by decide) rfl rfl d_PI_16 fun H4 hW4 => ?_
  refine lv_dup hx hb d_PI_19 rfl ?_
  refine gm_callT (k := 3) (ci' := 3) (fs0 := [.long 0]) (fs1 := [.long 0]) (tl := [.inr (2, [.ref (b + (pre.length + 2)), .int 0]), .inl (tc 1, 64, .inl fun _ => 0)]) (tl1 := []) (tl2 := [.inr (2, [.ref (b + (pre.length + 2)), .int 0]), .inl (tc 1, 64, .inl fun _ => 0), .inr (3, [.long 0])]) (As := []) (rest := [.ref (b + (pre.length + 3)), .ref (b + pre.length)]) S hW4 rfl rfl (fun pre' hp => by have h9 := c_CI (l := l) (D := D) (tc := tc) (b := b) (z := z) pre'; rw [hp] at h9; exact h9) rfl q_CI rfl wd_133 (Or.inr (by decide)) (by decide) hl.1 rfl rfl (Nat.le_of_ble_eq_true rfl) (by decide) d_PI_20 fun H5 locs5 hW5 => ?_
  refine gm_put (ref := "StreamPair") (fs' := [.ref (b + (pre.length + 1)), .ref (b + (pre.length + 3)), .null, .null, .null, .int 0]) kx_P.y S hW5 1 (by decide) wd_400 rfl rfl rfl (Nat.le_of_ble_eq_true rfl) (Or.inr rfl) rfl d_PI_23 fun H6 locs6 hW6 => ?_
  refine lv_aload_n hx hb d_PI_26 rfl (lv_at hl 0 rfl) ?_
  refine gm_newT (k := 4) (fs' := [.null, .null, .int 0]) (tl' := [.inr (2, [.ref (b + (pre.length + 2)), .int 0]), .inl (tc 1, 64, .inl fun _ => 0), .inr (3, [.long 0]), .inr (4, [.null, .null, .int 0])]) kx_N.y S hW6 wd_141 wd_142 wd_81 (by decide) (by decide) (by decide) rfl rfl d_PI_27 fun H7 hW7 => ?_
  refine lv_dup hx hb d_PI_30 rfl ?_
  refine gm_callT (k := 4) (ci' := 4) (fs0 := [.null, .null, .int 0]) (fs1 := [.ref (b + (pre.length + 5)), .ref (b + (pre.length + 6)), .int 0]) (tl := [.inr (2, [.ref (b + (pre.length + 2)), .int 0]), .inl (tc 1, 64, .inl fun _ => 0), .inr (3, [.long 0])]) (tl1 := [.inr (5, [.ref z, .int 0, .int 0]), .inr (5, [.ref z, .int 0, .int 0])]) (tl2 := [.inr (2, [.ref (b + (pre.length + 2)), .int 0]), .inl (tc 1, 64, .inl fun _ => 0), .inr (3, [.long 0]), .inr (4, [.ref (b + (pre.length + 5)), .ref (b + (pre.length + 6)), .int 0]), .inr (5, [.ref z, .int 0, .int 0]), .inr (5, [.ref z, .int 0, .int 0])]) (As := []) (rest := [.ref (b + (pre.length + 4)), .ref (b + pre.length)]) S hW7 rfl rfl (fun pre' hp => by have h9 := c_NI (l := l) (D := D) (tc := tc) (b := b) (z := z) pre'; rw [hp] at h9; exact h9) rfl q_NI rfl wd_144 (Or.inr (by decide)) (by decide) hl.1 rfl rfl (Nat.le_of_ble_eq_true rfl) (by decide) d_PI_31 fun H8 locs8 hW8 => ?_
  refine gm_put (ref := "StreamPair") (fs' := [.ref (b + (pre.length + 1)), .ref (b + (pre.length + 3)), .ref (b + (pre.length + 4)), .null, .null, .int 0]) kx_P.y S hW8 2 (by decide) wd_401 rfl rfl rfl (Nat.le_of_ble_eq_true rfl) (Or.inr rfl) rfl d_PI_34 fun H9 locs9 hW9 => ?_
  refine lv_aload_n hx hb d_PI_37 rfl (lv_at hl 0 rfl) ?_
  refine gm_newT (k := 7) (fs' := [.int 0, .null, .null, .null, .null, .null, .null, .int 0, .int 0, .int 0, .int 0, .int 0, .int 0, .int 0]) (tl' := [.inr (2, [.ref (b + (pre.length + 2)), .int 0]), .inl (tc 1, 64, .inl fun _ => 0), .inr (3, [.long 0]), .inr (4, [.ref (b + (pre.length + 5)), .ref (b + (pre.length + 6)), .int 0]), .inr (5, [.ref z, .int 0, .int 0]), .inr (5, [.ref z, .int 0, .int 0]), .inr (6, [.int 0, .null, .null, .null, .null, .null, .null, .int 0, .int 0, .int 0, .int 0, .int 0, .int 0, .int 0])]) kx_E.y S hW9 wd_186 wd_187 wd_85 (by decide) (by decide) (by decide) rfl rfl d_PI_38 fun H10 hW10 => ?_
  refine lv_dup hx hb d_PI_41 rfl ?_
  refine lv_iconst (v := 0) hx hb d_PI_42 (by decide) ?_
  refine lv_aload_n hx hb d_PI_43 rfl (lv_at hl 0 rfl) ?_
  refine gm_get (ref := "StreamPair") kx_P.y S hW10 1 (by decide) wd_400 rfl (v := .ref (b + (pre.length + 3))) rfl d_PI_44 ?_
  refine lv_aload_n hx hb d_PI_47 rfl (lv_at hl 0 rfl) ?_
  refine gm_get (ref := "StreamPair") kx_P.y S hW10 2 (by decide) wd_401 rfl (v := .ref (b + (pre.length + 4))) rfl d_PI_48 ?_
  refine gm_callT (k := 7) (ci' := 6) (fs0 := [.int 0, .null, .null, .null, .null, .null, .null, .int 0, .int 0, .int 0, .int 0, .int 0, .int 0, .int 0]) (fs1 := [.int (0 : Int32), .ref (b + (pre.length + 3)), .ref (b + (pre.length + 4)), .ref (b + (pre.length + 8)), .ref (b + (pre.length + 10)), .ref (b + (pre.length + 12)), .ref (b + (pre.length + 13)), .int (1460 : Int32), .int 0, .int 0, .int 0, .int 0, .int 0, .int 0]) (tl := [.inr (2, [.ref (b + (pre.length + 2)), .int 0]), .inl (tc 1, 64, .inl fun _ => 0), .inr (3, [.long 0]), .inr (4, [.ref (b + (pre.length + 5)), .ref (b + (pre.length + 6)), .int 0]), .inr (5, [.ref z, .int 0, .int 0]), .inr (5, [.ref z, .int 0, .int 0])]) (tl1 := [.inr (7, [.ref (b + (pre.length + 9)), .int 0, .int 0, .int 0, .int 0, .int 0, .int 0, .int 0, .int 0, .int 0, .int 0, .int 0]), .inl (tc 1, 64, .inl fun _ => 0), .inr (8, [.int (65535 : Int32), .int 0, .int 0, .int 0, .int 0, .int 0, .ref (b + (pre.length + 11)), .int 0]), .inl (tc 4, 0, .inl fun _ => 0), .inr (9, [.int (1000 : Int32), .int 0, .int 0, .long 0, .long (-1 : Int64), .long 0, .int 0, .int 0, .long 0]), .inr (10, [.int 0, .int 0, .int (65535 : Int32), .int 0])]) (tl2 := [.inr (2, [.ref (b + (pre.length + 2)), .int 0]), .inl (tc 1, 64, .inl fun _ => 0), .inr (3, [.long 0]), .inr (4, [.ref (b + (pre.length + 5)), .ref (b + (pre.length + 6)), .int 0]), .inr (5, [.ref z, .int 0, .int 0]), .inr (5, [.ref z, .int 0, .int 0]), .inr (6, [.int (0 : Int32), .ref (b + (pre.length + 3)), .ref (b + (pre.length + 4)), .ref (b + (pre.length + 8)), .ref (b + (pre.length + 10)), .ref (b + (pre.length + 12)), .ref (b + (pre.length + 13)), .int (1460 : Int32), .int 0, .int 0, .int 0, .int 0, .int 0, .int 0]), .inr (7, [.ref (b + (pre.length + 9)), .int 0, .int 0, .int 0, .int 0, .int 0, .int 0, .int 0, .int 0, .int 0, .int 0, .int 0]), .inl (tc 1, 64, .inl fun _ => 0), .inr (8, [.int (65535 : Int32), .int 0, .int 0, .int 0, .int 0, .int 0, .ref (b + (pre.length + 11)), .int 0]), .inl (tc 4, 0, .inl fun _ => 0), .inr (9, [.int (1000 : Int32), .int 0, .int 0, .long 0, .long (-1 : Int64), .long 0, .int 0, .int 0, .long 0]), .inr (10, [.int 0, .int 0, .int (65535 : Int32), .int 0])]) (As := [.int (0 : Int32), .ref (b + (pre.length + 3)), .ref (b + (pre.length + 4))]) (rest := [.ref (b + (pre.length + 7)), .ref (b + pre.length)]) S hW10 rfl rfl (fun pre' hp => by have h9 := c_EI (l := l) (D := D) (tc := tc) (b := b) (z := z) pre' (0 : Int32) (b + (pre.length + 3)) (b + (pre.length + 4)); rw [hp] at h9; exact h9) rfl q_EI rfl wd_189 (Or.inl wd_188) (by decide) hl.1 rfl rfl (Nat.le_of_ble_eq_true rfl) (by decide) d_PI_51 fun H11 locs11 hW11 => ?_
  refine gm_put (ref := "StreamPair") (fs' := [.ref (b + (pre.length + 1)), .ref (b + (pre.length + 3)), .ref (b + (pre.length + 4)), .ref (b + (pre.length + 7)), .null, .int 0]) kx_P.y S hW11 3 (by decide) wd_402 rfl rfl rfl (Nat.le_of_ble_eq_true rfl) (Or.inr rfl) rfl d_PI_54 fun H12 locs12 hW12 => ?_
  refine lv_aload_n hx hb d_PI_57 rfl (lv_at hl 0 rfl) ?_
  refine gm_newT (k := 14) (fs' := [.int 0, .null, .null, .null, .null, .null, .null, .int 0, .int 0, .int 0, .int 0, .int 0, .int 0, .int 0]) (tl' := [.inr (2, [.ref (b + (pre.length + 2)), .int 0]), .inl (tc 1, 64, .inl fun _ => 0), .inr (3, [.long 0]), .inr (4, [.ref (b + (pre.length + 5)), .ref (b + (pre.length + 6)), .int 0]), .inr (5, [.ref z, .int 0, .int 0]), .inr (5, [.ref z, .int 0, .int 0]), .inr (6, [.int (0 : Int32), .ref (b + (pre.length + 3)), .ref (b + (pre.length + 4)), .ref (b + (pre.length + 8)), .ref (b + (pre.length + 10)), .ref (b + (pre.length + 12)), .ref (b + (pre.length + 13)), .int (1460 : Int32), .int 0, .int 0, .int 0, .int 0, .int 0, .int 0]), .inr (7, [.ref (b + (pre.length + 9)), .int 0, .int 0, .int 0, .int 0, .int 0, .int 0, .int 0, .int 0, .int 0, .int 0, .int 0]), .inl (tc 1, 64, .inl fun _ => 0), .inr (8, [.int (65535 : Int32), .int 0, .int 0, .int 0, .int 0, .int 0, .ref (b + (pre.length + 11)), .int 0]), .inl (tc 4, 0, .inl fun _ => 0), .inr (9, [.int (1000 : Int32), .int 0, .int 0, .long 0, .long (-1 : Int64), .long 0, .int 0, .int 0, .long 0]), .inr (10, [.int 0, .int 0, .int (65535 : Int32), .int 0]), .inr (6, [.int 0, .null, .null, .null, .null, .null, .null, .int 0, .int 0, .int 0, .int 0, .int 0, .int 0, .int 0])]) kx_E.y S hW12 wd_186 wd_187 wd_85 (by decide) (by decide) (by decide) rfl rfl d_PI_58 fun H13 hW13 => ?_
  refine lv_dup hx hb d_PI_61 rfl ?_
  refine lv_iconst (v := 1) hx hb d_PI_62 (by decide) ?_
  refine lv_aload_n hx hb d_PI_63 rfl (lv_at hl 0 rfl) ?_
  refine gm_get (ref := "StreamPair") kx_P.y S hW13 1 (by decide) wd_400 rfl (v := .ref (b + (pre.length + 3))) rfl d_PI_64 ?_
  refine lv_aload_n hx hb d_PI_67 rfl (lv_at hl 0 rfl) ?_
  refine gm_get (ref := "StreamPair") kx_P.y S hW13 2 (by decide) wd_401 rfl (v := .ref (b + (pre.length + 4))) rfl d_PI_68 ?_
  refine gm_callT (k := 14) (ci' := 6) (fs0 := [.int 0, .null, .null, .null, .null, .null, .null, .int 0, .int 0, .int 0, .int 0, .int 0, .int 0, .int 0]) (fs1 := [.int (1 : Int32), .ref (b + (pre.length + 3)), .ref (b + (pre.length + 4)), .ref (b + (pre.length + 15)), .ref (b + (pre.length + 17)), .ref (b + (pre.length + 19)), .ref (b + (pre.length + 20)), .int (1460 : Int32), .int 0, .int 0, .int 0, .int 0, .int 0, .int 0]) (tl := [.inr (2, [.ref (b + (pre.length + 2)), .int 0]), .inl (tc 1, 64, .inl fun _ => 0), .inr (3, [.long 0]), .inr (4, [.ref (b + (pre.length + 5)), .ref (b + (pre.length + 6)), .int 0]), .inr (5, [.ref z, .int 0, .int 0]), .inr (5, [.ref z, .int 0, .int 0]), .inr (6, [.int (0 : Int32), .ref (b + (pre.length + 3)), .ref (b + (pre.length + 4)), .ref (b + (pre.length + 8)), .ref (b + (pre.length + 10)), .ref (b + (pre.length + 12)), .ref (b + (pre.length + 13)), .int (1460 : Int32), .int 0, .int 0, .int 0, .int 0, .int 0, .int 0]), .inr (7, [.ref (b + (pre.length + 9)), .int 0, .int 0, .int 0, .int 0, .int 0, .int 0, .int 0, .int 0, .int 0, .int 0, .int 0]), .inl (tc 1, 64, .inl fun _ => 0), .inr (8, [.int (65535 : Int32), .int 0, .int 0, .int 0, .int 0, .int 0, .ref (b + (pre.length + 11)), .int 0]), .inl (tc 4, 0, .inl fun _ => 0), .inr (9, [.int (1000 : Int32), .int 0, .int 0, .long 0, .long (-1 : Int64), .long 0, .int 0, .int 0, .long 0]), .inr (10, [.int 0, .int 0, .int (65535 : Int32), .int 0])]) (tl1 := [.inr (7, [.ref (b + (pre.length + 16)), .int 0, .int 0, .int 0, .int 0, .int 0, .int 0, .int 0, .int 0, .int 0, .int 0, .int 0]), .inl (tc 1, 64, .inl fun _ => 0), .inr (8, [.int (65535 : Int32), .int 0, .int 0, .int 0, .int 0, .int 0, .ref (b + (pre.length + 18)), .int 0]), .inl (tc 4, 0, .inl fun _ => 0), .inr (9, [.int (1000 : Int32), .int 0, .int 0, .long 0, .long (-1 : Int64), .long 0, .int 0, .int 0, .long 0]), .inr (10, [.int 0, .int 0, .int (65535 : Int32), .int 0])]) (tl2 := [.inr (2, [.ref (b + (pre.length + 2)), .int 0]), .inl (tc 1, 64, .inl fun _ => 0), .inr (3, [.long 0]), .inr (4, [.ref (b + (pre.length + 5)), .ref (b + (pre.length + 6)), .int 0]), .inr (5, [.ref z, .int 0, .int 0]), .inr (5, [.ref z, .int 0, .int 0]), .inr (6, [.int (0 : Int32), .ref (b + (pre.length + 3)), .ref (b + (pre.length + 4)), .ref (b + (pre.length + 8)), .ref (b + (pre.length + 10)), .ref (b + (pre.length + 12)), .ref (b + (pre.length + 13)), .int (1460 : Int32), .int 0, .int 0, .int 0, .int 0, .int 0, .int 0]), .inr (7, [.ref (b + (pre.length + 9)), .int 0, .int 0, .int 0, .int 0, .int 0, .int 0, .int 0, .int 0, .int 0, .int 0, .int 0]), .inl (tc 1, 64, .inl fun _ => 0), .inr (8, [.int (65535 : Int32), .int 0, .int 0, .int 0, .int 0, .int 0, .ref (b + (pre.length + 11)), .int 0]), .inl (tc 4, 0, .inl fun _ => 0), .inr (9, [.int (1000 : Int32), .int 0, .int 0, .long 0, .long (-1 : Int64), .long 0, .int 0, .int 0, .long 0]), .inr (10, [.int 0, .int 0, .int (65535 : Int32), .int 0]), .inr (6, [.int (1 : Int32), .ref (b + (pre.length + 3)), .ref (b + (pre.length + 4)), .ref (b + (pre.length + 15)), .ref (b + (pre.length + 17)), .ref (b + (pre.length + 19)), .ref (b + (pre.length + 20)), .int (1460 : Int32), .int 0, .int 0, .int 0, .int 0, .int 0, .int 0]), .inr (7, [.ref (b + (pre.length + 16)), .int 0, .int 0, .int 0, .int 0, .int 0, .int 0, .int 0, .int 0, .int 0, .int 0, .int 0]), .inl (tc 1, 64, .inl fun _ => 0), .inr (8, [.int (65535 : Int32), .int 0, .int 0, .int 0, .int 0, .int 0, .ref (b + (pre.length + 18)), .int 0]), .inl (tc 4, 0, .inl fun _ => 0), .inr (9, [.int (1000 : Int32), .int 0, .int 0, .long 0, .long (-1 : Int64), .long 0, .int 0, .int 0, .long 0]), .inr (10, [.int 0, .int 0, .int (65535 : Int32), .int 0])]) (As := [.int (1 : Int32), .ref (b + (pre.length + 3)), .ref (b + (pre.length + 4))]) (rest := [.ref (b + (pre.length + 14)), .ref (b + pre.length)]) S hW13 rfl rfl (fun pre' hp => by have h9 := c_EI (l := l) (D := D) (tc := tc) (b := b) (z := z) pre' (1 : Int32) (b + (pre.length + 3)) (b + (pre.length + 4)); rw [hp] at h9; exact h9) rfl q_EI rfl wd_189 (Or.inl wd_188) (by decide) hl.1 rfl rfl (Nat.le_of_ble_eq_true rfl) (by decide) d_PI_71 fun H14 locs14 hW14 => ?_
  refine gm_put (ref := "StreamPair") (fs' := [.ref (b + (pre.length + 1)), .ref (b + (pre.length + 3)), .ref (b + (pre.length + 4)), .ref (b + (pre.length + 7)), .ref (b + (pre.length + 14)), .int 0]) kx_P.y S hW14 4 (by decide) wd_403 rfl rfl rfl (Nat.le_of_ble_eq_true rfl) (Or.inr rfl) rfl d_PI_74 fun H15 locs15 hW15 => ?_
  exact gm_ret S hW15 d_PI_77
