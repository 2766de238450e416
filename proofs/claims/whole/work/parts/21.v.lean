/-! StreamPair$Arrivals.begin ()V -/
abbrev k_V_begin : ByteArray := prog_2_method_2_code
abbrev y_V_begin : MethodName := ⟨cn_V, "begin", "()V"⟩
theorem q_V_begin : Calee y_V_begin k_V_begin 1 none 0 := ⟨wd_528, wd_87, by decide, by decide +kernel⟩
theorem d_V_begin_0 : decode k_V_begin 0 = .ok (.aload_n 0, 1) := by decide +kernel
theorem d_V_begin_1 : decode k_V_begin 1 = .ok (.getfield 20, 3) := by decide +kernel
theorem d_V_begin_4 : decode k_V_begin 4 = .ok (.ifCond .gt 10, 3) := by decide +kernel
theorem d_V_begin_7 : decode k_V_begin 7 = .ok (.aload_n 0, 1) := by decide +kernel
theorem d_V_begin_8 : decode k_V_begin 8 = .ok (.getfield 23, 3) := by decide +kernel
theorem d_V_begin_11 : decode k_V_begin 11 = .ok (.ifCond .le 11, 3) := by decide +kernel
theorem d_V_begin_14 : decode k_V_begin 14 = .ok (.aload_n 0, 1) := by decide +kernel
theorem d_V_begin_15 : decode k_V_begin 15 = .ok (.getfield 16, 3) := by decide +kernel
theorem d_V_begin_18 : decode k_V_begin 18 = .ok (.iconst 0, 1) := by decide +kernel
theorem d_V_begin_19 : decode k_V_begin 19 = .ok (.invokestatic 26, 3) := by decide +kernel
theorem d_V_begin_22 : decode k_V_begin 22 = .ok (.aload_n 0, 1) := by decide +kernel
theorem d_V_begin_23 : decode k_V_begin 23 = .ok (.iconst 0, 1) := by decide +kernel
theorem d_V_begin_24 : decode k_V_begin 24 = .ok (.putfield 32, 3) := by decide +kernel
theorem d_V_begin_27 : decode k_V_begin 27 = .ok (.aload_n 0, 1) := by decide +kernel
theorem d_V_begin_28 : decode k_V_begin 28 = .ok (.iconst 0, 1) := by decide +kernel
theorem d_V_begin_29 : decode k_V_begin 29 = .ok (.putfield 35, 3) := by decide +kernel
theorem d_V_begin_32 : decode k_V_begin 32 = .ok (.aload_n 0, 1) := by decide +kernel
theorem d_V_begin_33 : decode k_V_begin 33 = .ok (.iconst 0, 1) := by decide +kernel
theorem d_V_begin_34 : decode k_V_begin 34 = .ok (.putfield 38, 3) := by decide +kernel
theorem d_V_begin_37 : decode k_V_begin 37 = .ok (.aload_n 0, 1) := by decide +kernel
theorem d_V_begin_38 : decode k_V_begin 38 = .ok (.iconst 0, 1) := by decide +kernel
theorem d_V_begin_39 : decode k_V_begin 39 = .ok (.putfield 20, 3) := by decide +kernel
theorem d_V_begin_42 : decode k_V_begin 42 = .ok (.aload_n 0, 1) := by decide +kernel
theorem d_V_begin_43 : decode k_V_begin 43 = .ok (.iconst 0, 1) := by decide +kernel
theorem d_V_begin_44 : decode k_V_begin 44 = .ok (.putfield 23, 3) := by decide +kernel
theorem d_V_begin_47 : decode k_V_begin 47 = .ok (.aload_n 0, 1) := by decide +kernel
theorem d_V_begin_48 : decode k_V_begin 48 = .ok (.iconst 0, 1) := by decide +kernel
theorem d_V_begin_49 : decode k_V_begin 49 = .ok (.putfield 42, 3) := by decide +kernel
theorem d_V_begin_52 : decode k_V_begin 52 = .ok (.return_, 1) := by decide +kernel
def b_V_begin_22 (q : Nat) (σ : CS) : Option (CS) :=
  bd (wi σ q 1 (0 : Int32)) fun r1 => bd (wi r1 q 2 (0 : Int32)) fun r2 => gd ((0 : Int32) = 0 ∨ (0 : Int32) = 1) <| bd (wi r2 q 3 (0 : Int32)) fun r3 => bd (wi r3 q 4 (0 : Int32)) fun r4 => bd (wi r4 q 5 (0 : Int32)) fun r5 => bd (wi r5 q 7 (0 : Int32)) fun r6 => some r6
def b_V_begin_14 (q : Nat) (σ : CS) : Option (CS) :=
  bc (cR σ q 6) fun a1 => bc (m_K_fill_SS a1 (0 : Int32) σ) fun r2 => b_V_begin_22 q  r2
def m_V_begin (q : Nat) (σ : CS) : Option (CS) :=
  gd (q = 10 ∨ q = 17) <| bd (cI σ q 4) fun x1 => if 0 < x1 then
  (b_V_begin_14 q  σ)
 else
  (bd (cI σ q 5) fun x2 => if x2 ≤ 0 then
  (b_V_begin_22 q  σ)
 else
  (b_V_begin_14 q  σ))
section
variable {p : Program} {l : Launch} {e : Env} {s : State} {m : MethodId} {args : Array Value} {below : List Frame} {meth : Method} {c : Code} {D : va_G} {tc : Nat → ClassId} {b z : Nat} {σ0 : CS}
theorem t_V_begin_22 {q : Nat} (S : CC p m c k_V_begin 1 s args cn_V meth none D tc b z) (hq : q = 10 ∨ q = 17) (σ : CS) {B : CS} (h : b_V_begin_22 q  σ = some B) {ls : Array Slot} {H : Heap} {locs : List Loc} {cells slots : Nat} (hl : lv_has ls 1 [(0, .ref (b + q))]) (hW : CWS D tc b z s σ0 σ H locs cells slots) : W p l e (CR 1 23 σ0) s m args below meth c H locs cells slots (CE D tc b z below args s σ0 none B) (F0 m 22 ls []) := by
  have hx := S.1.1
  have hb := S.1.2.1
  unfold b_V_begin_22 at h
  refine lv_aload_n hx hb d_V_begin_22 rfl (lv_at hl 0 rfl) ?_
  refine lv_iconst (v := 0) hx hb d_V_begin_23 (by decide) ?_
  refine cm_puti kx_V S hW (kV hq) 1 wd_253 (by decide) d_V_begin_24 h (fun r1 H locs h hW => ?_)
  refine lv_aload_n hx hb d_V_begin_27 rfl (lv_at hl 0 rfl) ?_
  refine lv_iconst (v := 0) hx hb d_V_begin_28 (by decide) ?_
  refine cm_puti kx_V S hW (kV hq) 2 wd_255 (by decide) d_V_begin_29 h (fun r2 H locs h hW => ?_)
  refine lv_aload_n hx hb d_V_begin_32 rfl (lv_at hl 0 rfl) ?_
  refine lv_iconst (v := 0) hx hb d_V_begin_33 (by decide) ?_
  refine cm_putz kx_V S hW (kV hq) 3 wd_256 (by decide) d_V_begin_34 h (fun r3 H locs h hW => ?_)
  refine lv_aload_n hx hb d_V_begin_37 rfl (lv_at hl 0 rfl) ?_
  refine lv_iconst (v := 0) hx hb d_V_begin_38 (by decide) ?_
  refine cm_puti kx_V S hW (kV hq) 4 wd_258 (by decide) d_V_begin_39 h (fun r4 H locs h hW => ?_)
  refine lv_aload_n hx hb d_V_begin_42 rfl (lv_at hl 0 rfl) ?_
  refine lv_iconst (v := 0) hx hb d_V_begin_43 (by decide) ?_
  refine cm_puti kx_V S hW (kV hq) 5 wd_261 (by decide) d_V_begin_44 h (fun r5 H locs h hW => ?_)
  refine lv_aload_n hx hb d_V_begin_47 rfl (lv_at hl 0 rfl) ?_
  refine lv_iconst (v := 0) hx hb d_V_begin_48 (by decide) ?_
  refine cm_puti kx_V S hW (kV hq) 7 wd_264 (by decide) d_V_begin_49 h (fun r6 H locs h hW => ?_)
  exact cm_vret S hW d_V_begin_52 h
theorem t_V_begin_14 {q : Nat} (S : CC p m c k_V_begin 1 s args cn_V meth none D tc b z) (hq : q = 10 ∨ q = 17) (σ : CS) {B : CS} (h : b_V_begin_14 q  σ = some B) {ls : Array Slot} {H : Heap} {locs : List Loc} {cells slots : Nat} (hl : lv_has ls 1 [(0, .ref (b + q))]) (hW : CWS D tc b z s σ0 σ H locs cells slots) : W p l e (CR 1 23 σ0) s m args below meth c H locs cells slots (CE D tc b z below args s σ0 none B) (F0 m 14 ls []) := by
  have hx := S.1.1
  have hb := S.1.2.1
  unfold b_V_begin_14 at h
  refine lv_aload_n hx hb d_V_begin_14 rfl (lv_at hl 0 rfl) ?_
  refine cm_getr kx_V S hW (kV hq) 6 wd_263 (by decide) d_V_begin_15 h (fun a1 h => ?_)
  refine lv_iconst (v := 0) hx hb d_V_begin_18 (by decide) ?_
  refine cm_cSv [.ref (b + a1), .int (0 : Int32)] S hW (fun σ' hc => c_K_fill_SS a1 (0 : Int32) σ hc) q_K_fill_SS wd_530 wd_529 (by decide) hl.1 rfl rfl (Nat.le_of_ble_eq_true rfl) d_V_begin_19 h (fun r2 H locs cells slots h hW => ?_)
  exact t_V_begin_22 S hq  r2 h (lv_sub hl [0] rfl) hW
theorem t_V_begin_0 (S : CC p m c k_V_begin 1 s args cn_V meth none D tc b z) (q : Nat) (σ : CS) {B : CS} (h : m_V_begin q σ = some B) {ls : Array Slot} {H : Heap} {locs : List Loc} {cells slots : Nat} (hl : lv_has ls 1 [(0, .ref (b + q))]) (hW : CWS D tc b z s σ0 σ H locs cells slots) : W p l e (CR 1 23 σ0) s m args below meth c H locs cells slots (CE D tc b z below args s σ0 none B) (F0 m 0 ls []) := by
  have hx := S.1.1
  have hb := S.1.2.1
  unfold m_V_begin at h
  obtain ⟨hq, h⟩ := gd_s h
  refine lv_aload_n hx hb d_V_begin_0 rfl (lv_at hl 0 rfl) ?_
  refine cm_geti kx_V S hW (kV hq) 4 wd_258 (by decide) d_V_begin_1 h (fun x1 h => ?_)
  refine rb_gt (tgt := 14) hx hb d_V_begin_4 (by decide) h (fun h => ?_) (fun h => ?_)
  · exact t_V_begin_14 S hq  σ h (lv_sub hl [0] rfl) hW
  · refine lv_aload_n hx hb d_V_begin_7 rfl (lv_at hl 0 rfl) ?_
    refine cm_geti kx_V S hW (kV hq) 5 wd_261 (by decide) d_V_begin_8 h (fun x2 h => ?_)
    refine rb_le (tgt := 22) hx hb d_V_begin_11 (by decide) h (fun h => ?_) (fun h => ?_)
    · exact t_V_begin_22 S hq  σ h (lv_sub hl [0] rfl) hW
    · exact t_V_begin_14 S hq  σ h (lv_sub hl [0] rfl) hW
theorem c_V_begin (q : Nat) (σ : CS) {B : CS} (h : m_V_begin q σ = some B) : CMet l D tc b z y_V_begin k_V_begin 1 none 1 23 [.ref (b + q)] σ none B := cm_met (by decide) (Nat.le_of_ble_eq_true rfl) fun p e s m args below meth c S hW ls hl => t_V_begin_0 S q σ h hl hW
end

/-! StreamPair$Arrivals.heedSyn (I)V -/
abbrev k_V_heedSyn : ByteArray := prog_2_method_3_code
abbrev y_V_heedSyn : MethodName := ⟨cn_V, "heedSyn", "(I)V"⟩
theorem q_V_heedSyn : Calee y_V_heedSyn k_V_heedSyn 2 none 1 := ⟨wd_1008, wd_87, by decide, by decide +kernel⟩
theorem d_V_heedSyn_0 : decode k_V_heedSyn 0 = .ok (.aload_n 0, 1) := by decide +kernel
theorem d_V_heedSyn_1 : decode k_V_heedSyn 1 = .ok (.iload_n 1, 1) := by decide +kernel
theorem d_V_heedSyn_2 : decode k_V_heedSyn 2 = .ok (.iconst 1, 1) := by decide +kernel
theorem d_V_heedSyn_3 : decode k_V_heedSyn 3 = .ok (.iadd, 1) := by decide +kernel
theorem d_V_heedSyn_4 : decode k_V_heedSyn 4 = .ok (.putfield 32, 3) := by decide +kernel
theorem d_V_heedSyn_7 : decode k_V_heedSyn 7 = .ok (.aload_n 0, 1) := by decide +kernel
theorem d_V_heedSyn_8 : decode k_V_heedSyn 8 = .ok (.aload_n 0, 1) := by decide +kernel
theorem d_V_heedSyn_9 : decode k_V_heedSyn 9 = .ok (.getfield 32, 3) := by decide +kernel
theorem d_V_heedSyn_12 : decode k_V_heedSyn 12 = .ok (.putfield 35, 3) := by decide +kernel
theorem d_V_heedSyn_15 : decode k_V_heedSyn 15 = .ok (.aload_n 0, 1) := by decide +kernel
theorem d_V_heedSyn_16 : decode k_V_heedSyn 16 = .ok (.aload_n 0, 1) := by decide +kernel
theorem d_V_heedSyn_17 : decode k_V_heedSyn 17 = .ok (.getfield 32, 3) := by decide +kernel
theorem d_V_heedSyn_20 : decode k_V_heedSyn 20 = .ok (.putfield 42, 3) := by decide +kernel
theorem d_V_heedSyn_23 : decode k_V_heedSyn 23 = .ok (.return_, 1) := by decide +kernel
def m_V_heedSyn (q : Nat) (v1 : Int32) (σ : CS) : Option (CS) :=
  gd (q = 10 ∨ q = 17) <| bd (wi σ q 1 (v1 + (1 : Int32))) fun r1 => bd (cI r1 q 1) fun x2 => bd (wi r1 q 2 x2) fun r3 => bd (cI r3 q 1) fun x4 => bd (wi r3 q 7 x4) fun r5 => some r5
section
variable {p : Program} {l : Launch} {e : Env} {s : State} {m : MethodId} {args : Array Value} {below : List Frame} {meth : Method} {c : Code} {D : va_G} {tc : Nat → ClassId} {b z : Nat} {σ0 : CS}
theorem t_V_heedSyn_0 (S : CC p m c k_V_heedSyn 2 s args cn_V meth none D tc b z) (q : Nat) (v1 : Int32) (σ : CS) {B : CS} (h : m_V_heedSyn q v1 σ = some B) {ls : Array Slot} {H : Heap} {locs : List Loc} {cells slots : Nat} (hl : lv_has ls 2 [(0, .ref (b + q)), (1, .int v1)]) (hW : CWS D tc b z s σ0 σ H locs cells slots) : W p l e (CR 0 0 σ0) s m args below meth c H locs cells slots (CE D tc b z below args s σ0 none B) (F0 m 0 ls []) := by
  have hx := S.1.1
  have hb := S.1.2.1
  unfold m_V_heedSyn at h
  obtain ⟨hq, h⟩ := gd_s h
  refine lv_aload_n hx hb d_V_heedSyn_0 rfl (lv_at hl 0 rfl) ?_
  refine lv_iload_n hx hb d_V_heedSyn_1 rfl (lv_at hl 1 rfl) ?_
  refine lv_iconst (v := 1) hx hb d_V_heedSyn_2 (by decide) ?_
  refine lv_iadd hx hb d_V_heedSyn_3 ?_
  refine cm_puti kx_V S hW (kV hq) 1 wd_253 (by decide) d_V_heedSyn_4 h (fun r1 H locs h hW => ?_)
  refine lv_aload_n hx hb d_V_heedSyn_7 rfl (lv_at hl 0 rfl) ?_
  refine lv_aload_n hx hb d_V_heedSyn_8 rfl (lv_at hl 0 rfl) ?_
  refine cm_geti kx_V S hW (kV hq) 1 wd_253 (by decide) d_V_heedSyn_9 h (fun x2 h => ?_)
  refine cm_puti kx_V S hW (kV hq) 2 wd_255 (by decide) d_V_heedSyn_12 h (fun r3 H locs h hW => ?_)
  refine lv_aload_n hx hb d_V_heedSyn_15 rfl (lv_at hl 0 rfl) ?_
  refine lv_aload_n hx hb d_V_heedSyn_16 rfl (lv_at hl 0 rfl) ?_
  refine cm_geti kx_V S hW (kV hq) 1 wd_253 (by decide) d_V_heedSyn_17 h (fun x4 h => ?_)
  refine cm_puti kx_V S hW (kV hq) 7 wd_264 (by decide) d_V_heedSyn_20 h (fun r5 H locs h hW => ?_)
  exact cm_vret S hW d_V_heedSyn_23 h
theorem c_V_heedSyn (q : Nat) (v1 : Int32) (σ : CS) {B : CS} (h : m_V_heedSyn q v1 σ = some B) : CMet l D tc b z y_V_heedSyn k_V_heedSyn 2 none 0 0 [.ref (b + q), .int v1] σ none B := cm_met (by decide) (Nat.le_of_ble_eq_true rfl) fun p e s m args below meth c S hW ls hl => t_V_heedSyn_0 S q v1 σ h hl hW
end

/-! StreamPair$Arrivals.free ()I -/
abbrev k_V_free : ByteArray := prog_2_method_4_code
abbrev y_V_free : MethodName := ⟨cn_V, "free", "()I"⟩
theorem q_V_free : Calee y_V_free k_V_free 1 (Option.some Jvm.ClassFile.FieldType.int) 0 := ⟨wd_559, wd_87, by decide, by decide +kernel⟩
theorem d_V_free_0 : decode k_V_free 0 = .ok (.aload_n 0, 1) := by decide +kernel
theorem d_V_free_1 : decode k_V_free 1 = .ok (.getfield 10, 3) := by decide +kernel
theorem d_V_free_4 : decode k_V_free 4 = .ok (.aload_n 0, 1) := by decide +kernel
theorem d_V_free_5 : decode k_V_free 5 = .ok (.getfield 20, 3) := by decide +kernel
theorem d_V_free_8 : decode k_V_free 8 = .ok (.isub, 1) := by decide +kernel
theorem d_V_free_9 : decode k_V_free 9 = .ok (.iconst 0, 1) := by decide +kernel
theorem d_V_free_10 : decode k_V_free 10 = .ok (.invokestatic 45, 3) := by decide +kernel
theorem d_V_free_13 : decode k_V_free 13 = .ok (.ireturn, 1) := by decide +kernel
def m_V_free (q : Nat) (σ : CS) : Option (Int32 × CS) :=
  gd (q = 10 ∨ q = 17) <| bd (cI σ q 0) fun x1 => bd (cI σ q 4) fun x2 => bd (if (x1 - x2) < (0 : Int32) then (0 : Int32) else (x1 - x2)) fun x3 => some (x3, σ)
section
variable {p : Program} {l : Launch} {e : Env} {s : State} {m : MethodId} {args : Array Value} {below : List Frame} {meth : Method} {c : Code} {D : va_G} {tc : Nat → ClassId} {b z : Nat} {σ0 : CS}
theorem t_V_free_0 (S : CC p m c k_V_free 1 s args cn_V meth (Option.some Jvm.ClassFile.FieldType.int) D tc b z) (q : Nat) (σ : CS) {B : Int32 × CS} (h : m_V_free q σ = some B) {ls : Array Slot} {H : Heap} {locs : List Loc} {cells slots : Nat} (hl : lv_has ls 1 [(0, .ref (b + q))]) (hW : CWS D tc b z s σ0 σ H locs cells slots) : W p l e (CR 1 24 σ0) s m args below meth c H locs cells slots (CE D tc b z below args s σ0 (some (.int B.1)) B.2) (F0 m 0 ls []) := by
  have hx := S.1.1
  have hb := S.1.2.1
  unfold m_V_free at h
  obtain ⟨hq, h⟩ := gd_s h
  refine lv_aload_n hx hb d_V_free_0 rfl (lv_at hl 0 rfl) ?_
  refine cm_geti kx_V S hW (kV hq) 0 wd_251 (by decide) d_V_free_1 h (fun x1 h => ?_)
  refine lv_aload_n hx hb d_V_free_4 rfl (lv_at hl 0 rfl) ?_
  refine cm_geti kx_V S hW (kV hq) 4 wd_258 (by decide) d_V_free_5 h (fun x2 h => ?_)
  refine lv_isub hx hb d_V_free_8 ?_
  refine lv_iconst (v := 0) hx hb d_V_free_9 (by decide) ?_
  refine cm_jmax S hW wd_560 wd_469 wd_96 wd_470 hl.1 (by decide) (Nat.le_of_ble_eq_true rfl) d_V_free_10 ?_
  refine rv_i h (fun x3 h => ?_)
  exact cm_iret S hW d_V_free_13 h
theorem c_V_free (q : Nat) (σ : CS) {x : Int32} {σ' : CS} (h : m_V_free q σ = some (x, σ')) : CMet l D tc b z y_V_free k_V_free 1 (Option.some Jvm.ClassFile.FieldType.int) 1 24 [.ref (b + q)] σ (some (.int x)) σ' := cm_met (by decide) (Nat.le_of_ble_eq_true rfl) fun p e s m args below meth c S hW ls hl => t_V_free_0 S q σ h hl hW
end

/-! StreamPair$Arrivals.window ()I -/
abbrev k_V_window : ByteArray := prog_2_method_5_code
abbrev y_V_window : MethodName := ⟨cn_V, "window", "()I"⟩
theorem q_V_window : Calee y_V_window k_V_window 1 (Option.some Jvm.ClassFile.FieldType.int) 0 := ⟨wd_564, wd_87, by decide, by decide +kernel⟩
theorem d_V_window_0 : decode k_V_window 0 = .ok (.aload_n 0, 1) := by decide +kernel
theorem d_V_window_1 : decode k_V_window 1 = .ok (.getfield 35, 3) := by decide +kernel
theorem d_V_window_4 : decode k_V_window 4 = .ok (.aload_n 0, 1) := by decide +kernel
theorem d_V_window_5 : decode k_V_window 5 = .ok (.getfield 32, 3) := by decide +kernel
theorem d_V_window_8 : decode k_V_window 8 = .ok (.isub, 1) := by decide +kernel
theorem d_V_window_9 : decode k_V_window 9 = .ok (.ireturn, 1) := by decide +kernel
def m_V_window (q : Nat) (σ : CS) : Option (Int32 × CS) :=
  gd (q = 10 ∨ q = 17) <| bd (cI σ q 2) fun x1 => bd (cI σ q 1) fun x2 => some (x1 - x2, σ)
section
variable {p : Program} {l : Launch} {e : Env} {s : State} {m : MethodId} {args : Array Value} {below : List Frame} {meth : Method} {c : Code} {D : va_G} {tc : Nat → ClassId} {b z : Nat} {σ0 : CS}
theorem t_V_window_0 (S : CC p m c k_V_window 1 s args cn_V meth (Option.some Jvm.ClassFile.FieldType.int) D tc b z) (q : Nat) (σ : CS) {B : Int32 × CS} (h : m_V_window q σ = some B) {ls : Array Slot} {H : Heap} {locs : List Loc} {cells slots : Nat} (hl : lv_has ls 1 [(0, .ref (b + q))]) (hW : CWS D tc b z s σ0 σ H locs cells slots) : W p l e (CR 0 0 σ0) s m args below meth c H locs cells slots (CE D tc b z below args s σ0 (some (.int B.1)) B.2) (F0 m 0 ls []) := by
  have hx := S.1.1
  have hb := S.1.2.1
  unfold m_V_window at h
  obtain ⟨hq, h⟩ := gd_s h
  refine lv_aload_n hx hb d_V_window_0 rfl (lv_at hl 0 rfl) ?_
  refine cm_geti kx_V S hW (kV hq) 2 wd_255 (by decide) d_V_window_1 h (fun x1 h => ?_)
  refine lv_aload_n hx hb d_V_window_4 rfl (lv_at hl 0 rfl) ?_
  refine cm_geti kx_V S hW (kV hq) 1 wd_253 (by decide) d_V_window_5 h (fun x2 h => ?_)
  refine lv_isub hx hb d_V_window_8 ?_
  exact cm_iret S hW d_V_window_9 h
theorem c_V_window (q : Nat) (σ : CS) {x : Int32} {σ' : CS} (h : m_V_window q σ = some (x, σ')) : CMet l D tc b z y_V_window k_V_window 1 (Option.some Jvm.ClassFile.FieldType.int) 0 0 [.ref (b + q)] σ (some (.int x)) σ' := cm_met (by decide) (Nat.le_of_ble_eq_true rfl) fun p e s m args below meth c S hW ls hl => t_V_window_0 S q σ h hl hW
end

/-! StreamPair$Arrivals.openWindow ()I -/
abbrev k_V_openWindow : ByteArray := prog_2_method_6_code
abbrev y_V_openWindow : MethodName := ⟨cn_V, "openWindow", "()I"⟩
theorem q_V_openWindow : Calee y_V_openWindow k_V_openWindow 2 (Option.some Jvm.ClassFile.FieldType.int) 0 := ⟨wd_555, wd_87, by decide, by decide +kernel⟩
theorem d_V_openWindow_0 : decode k_V_openWindow 0 = .ok (.aload_n 0, 1) := by decide +kernel
theorem d_V_openWindow_1 : decode k_V_openWindow 1 = .ok (.getfield 32, 3) := by decide +kernel
theorem d_V_openWindow_4 : decode k_V_openWindow 4 = .ok (.aload_n 0, 1) := by decide +kernel
theorem d_V_openWindow_5 : decode k_V_openWindow 5 = .ok (.invokevirtual 51, 3) := by decide +kernel
theorem d_V_openWindow_8 : decode k_V_openWindow 8 = .ok (.iadd, 1) := by decide +kernel
theorem d_V_openWindow_9 : decode k_V_openWindow 9 = .ok (.istore_n 1, 1) := by decide +kernel
theorem d_V_openWindow_10 : decode k_V_openWindow 10 = .ok (.iload_n 1, 1) := by decide +kernel
theorem d_V_openWindow_11 : decode k_V_openWindow 11 = .ok (.aload_n 0, 1) := by decide +kernel
theorem d_V_openWindow_12 : decode k_V_openWindow 12 = .ok (.getfield 35, 3) := by decide +kernel
theorem d_V_openWindow_15 : decode k_V_openWindow 15 = .ok (.isub, 1) := by decide +kernel
theorem d_V_openWindow_16 : decode k_V_openWindow 16 = .ok (.ifCond .le 8, 3) := by decide +kernel
theorem d_V_openWindow_19 : decode k_V_openWindow 19 = .ok (.aload_n 0, 1) := by decide +kernel
theorem d_V_openWindow_20 : decode k_V_openWindow 20 = .ok (.iload_n 1, 1) := by decide +kernel
theorem d_V_openWindow_21 : decode k_V_openWindow 21 = .ok (.putfield 35, 3) := by decide +kernel
theorem d_V_openWindow_24 : decode k_V_openWindow 24 = .ok (.aload_n 0, 1) := by decide +kernel
theorem d_V_openWindow_25 : decode k_V_openWindow 25 = .ok (.invokevirtual 55, 3) := by decide +kernel
theorem d_V_openWindow_28 : decode k_V_openWindow 28 = .ok (.ireturn, 1) := by decide +kernel
def b_V_openWindow_24 (q : Nat) (σ : CS) : Option (Int32 × CS) :=
  bc2 (m_V_window q σ) fun x2 r1 => some (x2, r1)
def m_V_openWindow (q : Nat) (σ : CS) : Option (Int32 × CS) :=
  gd (q = 10 ∨ q = 17) <| bd (cI σ q 1) fun x1 => bc2 (m_V_free q σ) fun x3 r2 => bd (x1 + x3) fun x4 => bd (cI r2 q 2) fun x5 => if (x4 - x5) ≤ 0 then
  (b_V_openWindow_24 q  r2)
 else
  (bd (wi r2 q 2 x4) fun r6 => b_V_openWindow_24 q  r6)
section
variable {p : Program} {l : Launch} {e : Env} {s : State} {m : MethodId} {args : Array Value} {below : List Frame} {meth : Method} {c : Code} {D : va_G} {tc : Nat → ClassId} {b z : Nat} {σ0 : CS}
theorem t_V_openWindow_24 {q : Nat} (S : CC p m c k_V_openWindow 2 s args cn_V meth (Option.some Jvm.ClassFile.FieldType.int) D tc b z) (hq : q = 10 ∨ q = 17) (σ : CS) {B : Int32 × CS} (h : b_V_openWindow_24 q  σ = some B) {ls : Array Slot} {H : Heap} {locs : List Loc} {cells slots : Nat} (hl : lv_has ls 2 [(0, .ref (b + q))]) (hW : CWS D tc b z s σ0 σ H locs cells slots) : W p l e (CR 2 44 σ0) s m args below meth c H locs cells slots (CE D tc b z below args s σ0 (some (.int B.1)) B.2) (F0 m 24 ls []) := by
  have hx := S.1.1
  have hb := S.1.2.1
  unfold b_V_openWindow_24 at h
  refine lv_aload_n hx hb d_V_openWindow_24 rfl (lv_at hl 0 rfl) ?_
  refine cm_cVi [] kx_V S hW (kV hq) (fun x σ' hc => c_V_window q σ hc) q_V_window wd_562 wd_563 wd_561 (by decide) hl.1 rfl rfl (Nat.le_of_ble_eq_true rfl) d_V_openWindow_25 h (fun x2 r1 H locs cells slots h hW => ?_)
  exact cm_iret S hW d_V_openWindow_28 h
theorem t_V_openWindow_0 (S : CC p m c k_V_openWindow 2 s args cn_V meth (Option.some Jvm.ClassFile.FieldType.int) D tc b z) (q : Nat) (σ : CS) {B : Int32 × CS} (h : m_V_openWindow q σ = some B) {ls : Array Slot} {H : Heap} {locs : List Loc} {cells slots : Nat} (hl : lv_has ls 2 [(0, .ref (b + q))]) (hW : CWS D tc b z s σ0 σ H locs cells slots) : W p l e (CR 2 44 σ0) s m args below meth c H locs cells slots (CE D tc b z below args s σ0 (some (.int B.1)) B.2) (F0 m 0 ls []) := by
  have hx := S.1.1
  have hb := S.1.2.1
  unfold m_V_openWindow at h
  obtain ⟨hq, h⟩ := gd_s h
  refine lv_aload_n hx hb d_V_openWindow_0 rfl (lv_at hl 0 rfl) ?_
  refine cm_geti kx_V S hW (kV hq) 1 wd_253 (by decide) d_V_openWindow_1 h (fun x1 h => ?_)
  refine lv_aload_n hx hb d_V_openWindow_4 rfl (lv_at hl 0 rfl) ?_
  refine cm_cVi [] kx_V S hW (kV hq) (fun x σ' hc => c_V_free q σ hc) q_V_free wd_557 wd_558 wd_556 (by decide) hl.1 rfl rfl (Nat.le_of_ble_eq_true rfl) d_V_openWindow_5 h (fun x3 r2 H locs cells slots h hW => ?_)
  refine lv_iadd hx hb d_V_openWindow_8 ?_
  refine rv_i h (fun x4 h => ?_)
  refine lv_istore_n (lv' := [(1, .int x4), (0, .ref (b + q))]) hx hb d_V_openWindow_9 rfl hl (by decide) rfl (fun ls hl => ?_)
  refine lv_iload_n hx hb d_V_openWindow_10 rfl (lv_at hl 0 rfl) ?_
  refine lv_aload_n hx hb d_V_openWindow_11 rfl (lv_at hl 1 rfl) ?_
  refine cm_geti kx_V S hW (kV hq) 2 wd_255 (by decide) d_V_openWindow_12 h (fun x5 h => ?_)
  refine lv_isub hx hb d_V_openWindow_15 ?_
  refine rb_le (tgt := 24) hx hb d_V_openWindow_16 (by decide) h (fun h => ?_) (fun h => ?_)
  · exact t_V_openWindow_24 S hq  r2 h (lv_sub hl [1] rfl) hW
  · refine lv_aload_n hx hb d_V_openWindow_19 rfl (lv_at hl 1 rfl) ?_
    refine lv_iload_n hx hb d_V_openWindow_20 rfl (lv_at hl 0 rfl) ?_
    refine cm_puti kx_V S hW (kV hq) 2 wd_255 (by decide) d_V_openWindow_21 h (fun r6 H locs h hW => ?_)
    exact t_V_openWindow_24 S hq  r6 h (lv_sub hl [1] rfl) hW
theorem c_V_openWindow (q : Nat) (σ : CS) {x : Int32} {σ' : CS} (h : m_V_openWindow q σ = some (x, σ')) : CMet l D tc b z y_V_openWindow k_V_openWindow 2 (Option.some Jvm.ClassFile.FieldType.int) 2 44 [.ref (b + q)] σ (some (.int x)) σ' := cm_met (by decide) (Nat.le_of_ble_eq_true rfl) fun p e s m args below meth c S hW ls hl => t_V_openWindow_0 S q σ h hl hW
end

/-! StreamPair$Arrivals.isExpected (I)Z -/
abbrev k_V_isExpected : ByteArray := prog_2_method_7_code
abbrev y_V_isExpected : MethodName := ⟨cn_V, "isExpected", "(I)Z"⟩
theorem q_V_isExpected : Calee y_V_isExpected k_V_isExpected 2 (Option.some Jvm.ClassFile.FieldType.boolean) 1 := ⟨wd_1090, wd_87, by decide, by decide +kernel⟩
theorem d_V_isExpected_0 : decode k_V_isExpected 0 = .ok (.iload_n 1, 1) := by decide +kernel
theorem d_V_isExpected_1 : decode k_V_isExpected 1 = .ok (.aload_n 0, 1) := by decide +kernel
theorem d_V_isExpected_2 : decode k_V_isExpected 2 = .ok (.getfield 32, 3) := by decide +kernel
theorem d_V_isExpected_5 : decode k_V_isExpected 5 = .ok (.isub, 1) := by decide +kernel
theorem d_V_isExpected_6 : decode k_V_isExpected 6 = .ok (.ifCond .lt 16, 3) := by decide +kernel
theorem d_V_isExpected_9 : decode k_V_isExpected 9 = .ok (.iload_n 1, 1) := by decide +kernel
theorem d_V_isExpected_10 : decode k_V_isExpected 10 = .ok (.aload_n 0, 1) := by decide +kernel
theorem d_V_isExpected_11 : decode k_V_isExpected 11 = .ok (.getfield 35, 3) := by decide +kernel
theorem d_V_isExpected_14 : decode k_V_isExpected 14 = .ok (.isub, 1) := by decide +kernel
theorem d_V_isExpected_15 : decode k_V_isExpected 15 = .ok (.ifCond .ge 7, 3) := by decide +kernel
theorem d_V_isExpected_18 : decode k_V_isExpected 18 = .ok (.iconst 1, 1) := by decide +kernel
theorem d_V_isExpected_19 : decode k_V_isExpected 19 = .ok (.goto 4, 3) := by decide +kernel
theorem d_V_isExpected_22 : decode k_V_isExpected 22 = .ok (.iconst 0, 1) := by decide +kernel
theorem d_V_isExpected_23 : decode k_V_isExpected 23 = .ok (.ireturn, 1) := by decide +kernel
def b_V_isExpected_23 (q : Nat) (w0 : Int32) (σ : CS) : Option (Int32 × CS) :=
  gd (w0 = 0 ∨ w0 = 1) (some (w0, σ))
def b_V_isExpected_22 (q : Nat) (σ : CS) : Option (Int32 × CS) :=
  b_V_isExpected_23 q (0 : Int32) σ
def m_V_isExpected (q : Nat) (v1 : Int32) (σ : CS) : Option (Int32 × CS) :=
  gd (q = 10 ∨ q = 17) <| bd (cI σ q 1) fun x1 => if (v1 - x1) < 0 then
  (b_V_isExpected_22 q  σ)
 else
  (bd (cI σ q 2) fun x2 => if 0 ≤ (v1 - x2) then
  (b_V_isExpected_22 q  σ)
 else
  (b_V_isExpected_23 q (1 : Int32) σ))
section
variable {p : Program} {l : Launch} {e : Env} {s : State} {m : MethodId} {args : Array Value} {below : List Frame} {meth : Method} {c : Code} {D : va_G} {tc : Nat → ClassId} {b z : Nat} {σ0 : CS}
theorem t_V_isExpected_23 {q : Nat} (S : CC p m c k_V_isExpected 2 s args cn_V meth (Option.some Jvm.ClassFile.FieldType.boolean) D tc b z) (hq : q = 10 ∨ q = 17) (w0 : Int32) (σ : CS) {B : Int32 × CS} (h : b_V_isExpected_23 q w0 σ = some B) {ls : Array Slot} {H : Heap} {locs : List Loc} {cells slots : Nat} (hl : lv_has ls 2 []) (hW : CWS D tc b z s σ0 σ H locs cells slots) : W p l e (CR 0 0 σ0) s m args below meth c H locs cells slots (CE D tc b z below args s σ0 (some (.int B.1)) B.2) (F0 m 23 ls [.int w0]) := by
  have hx := S.1.1
  have hb := S.1.2.1
  unfold b_V_isExpected_23 at h
  exact cm_zret S hW d_V_isExpected_23 h
theorem t_V_isExpected_22 {q : Nat} (S : CC p m c k_V_isExpected 2 s args cn_V meth (Option.some Jvm.ClassFile.FieldType.boolean) D tc b z) (hq : q = 10 ∨ q = 17) (σ : CS) {B : Int32 × CS} (h : b_V_isExpected_22 q  σ = some B) {ls : Array Slot} {H : Heap} {locs : List Loc} {cells slots : Nat} (hl : lv_has ls 2 []) (hW : CWS D tc b z s σ0 σ H locs cells slots) : W p l e (CR 0 0 σ0) s m args below meth c H locs cells slots (CE D tc b z below args s σ0 (some (.int B.1)) B.2) (F0 m 22 ls []) := by
  have hx := S.1.1
  have hb := S.1.2.1
  unfold b_V_isExpected_22 at h
  refine lv_iconst (v := 0) hx hb d_V_isExpected_22 (by decide) ?_
  exact t_V_isExpected_23 S hq (0 : Int32) σ h (lv_sub hl [] rfl) hW
theorem t_V_isExpected_0 (S : CC p m c k_V_isExpected 2 s args cn_V meth (Option.some Jvm.ClassFile.FieldType.boolean) D tc b z) (q : Nat) (v1 : Int32) (σ : CS) {B : Int32 × CS} (h : m_V_isExpected q v1 σ = some B) {ls : Array Slot} {H : Heap} {locs : List Loc} {cells slots : Nat} (hl : lv_has ls 2 [(0, .ref (b + q)), (1, .int v1)]) (hW : CWS D tc b z s σ0 σ H locs cells slots) : W p l e (CR 0 0 σ0) s m args below meth c H locs cells slots (CE D tc b z below args s σ0 (some (.int B.1)) B.2) (F0 m 0 ls []) := by
  have hx := S.1.1
  have hb := S.1.2.1
  unfold m_V_isExpected at h
  obtain ⟨hq, h⟩ := gd_s h
  refine lv_iload_n hx hb d_V_isExpected_0 rfl (lv_at hl 1 rfl) ?_
  refine lv_aload_n hx hb d_V_isExpected_1 rfl (lv_at hl 0 rfl) ?_
  refine cm_geti kx_V S hW (kV hq) 1 wd_253 (by decide) d_V_isExpected_2 h (fun x1 h => ?_)
  refine lv_isub hx hb d_V_isExpected_5 ?_
  refine rb_lt (tgt := 22) hx hb d_V_isExpected_6 (by decide) h (fun h => ?_) (fun h => ?_)
  · exact t_V_isExpected_22 S hq  σ h (lv_sub hl [] rfl) hW
  · refine lv_iload_n hx hb d_V_isExpected_9 rfl (lv_at hl 1 rfl) ?_
    refine lv_aload_n hx hb d_V_isExpected_10 rfl (lv_at hl 0 rfl) ?_
    refine cm_geti kx_V S hW (kV hq) 2 wd_255 (by decide) d_V_isExpected_11 h (fun x2 h => ?_)
    refine lv_isub hx hb d_V_isExpected_14 ?_
    refine rb_ge (tgt := 22) hx hb d_V_isExpected_15 (by decide) h (fun h => ?_) (fun h => ?_)
    · exact t_V_isExpected_22 S hq  σ h (lv_sub hl [] rfl) hW
    · refine lv_iconst (v := 1) hx hb d_V_isExpected_18 (by decide) ?_
      refine lv_goto (tgt := 23) hx hb d_V_isExpected_19 (by decide) ?_
      exact t_V_isExpected_23 S hq (1 : Int32) σ h (lv_sub hl [] rfl) hW
theorem c_V_isExpected (q : Nat) (v1 : Int32) (σ : CS) {x : Int32} {σ' : CS} (h : m_V_isExpected q v1 σ = some (x, σ')) : CMet l D tc b z y_V_isExpected k_V_isExpected 2 (Option.some Jvm.ClassFile.FieldType.boolean) 0 0 [.ref (b + q), .int v1] σ (some (.int x)) σ' := cm_met (by decide) (Nat.le_of_ble_eq_true rfl) fun p e s m args below meth c S hW ls hl => t_V_isExpected_0 S q v1 σ h hl hW
end

/-! StreamPair$Arrivals.fits (II)Z -/
abbrev k_V_fits : ByteArray := prog_2_method_8_code
abbrev y_V_fits : MethodName := ⟨cn_V, "fits", "(II)Z"⟩
theorem q_V_fits : Calee y_V_fits k_V_fits 3 (Option.some Jvm.ClassFile.FieldType.boolean) 2 := ⟨wd_1086, wd_87, by decide, by decide +kernel⟩
theorem d_V_fits_0 : decode k_V_fits 0 = .ok (.iload_n 2, 1) := by decide +kernel
theorem d_V_fits_1 : decode k_V_fits 1 = .ok (.ifCond .ne 25, 3) := by decide +kernel
theorem d_V_fits_4 : decode k_V_fits 4 = .ok (.iload_n 1, 1) := by decide +kernel
theorem d_V_fits_5 : decode k_V_fits 5 = .ok (.aload_n 0, 1) := by decide +kernel
theorem d_V_fits_6 : decode k_V_fits 6 = .ok (.getfield 32, 3) := by decide +kernel
theorem d_V_fits_9 : decode k_V_fits 9 = .ok (.if_icmp .eq 11, 3) := by decide +kernel
theorem d_V_fits_12 : decode k_V_fits 12 = .ok (.aload_n 0, 1) := by decide +kernel
theorem d_V_fits_13 : decode k_V_fits 13 = .ok (.iload_n 1, 1) := by decide +kernel
theorem d_V_fits_14 : decode k_V_fits 14 = .ok (.invokevirtual 58, 3) := by decide +kernel
theorem d_V_fits_17 : decode k_V_fits 17 = .ok (.ifCond .eq 7, 3) := by decide +kernel
theorem d_V_fits_20 : decode k_V_fits 20 = .ok (.iconst 1, 1) := by decide +kernel
theorem d_V_fits_21 : decode k_V_fits 21 = .ok (.goto 4, 3) := by decide +kernel
theorem d_V_fits_24 : decode k_V_fits 24 = .ok (.iconst 0, 1) := by decide +kernel
theorem d_V_fits_25 : decode k_V_fits 25 = .ok (.ireturn, 1) := by decide +kernel
theorem d_V_fits_26 : decode k_V_fits 26 = .ok (.aload_n 0, 1) := by decide +kernel
theorem d_V_fits_27 : decode k_V_fits 27 = .ok (.iload_n 1, 1) := by decide +kernel
theorem d_V_fits_28 : decode k_V_fits 28 = .ok (.invokevirtual 58, 3) := by decide +kernel
theorem d_V_fits_31 : decode k_V_fits 31 = .ok (.ifCond .ne 15, 3) := by decide +kernel
theorem d_V_fits_34 : decode k_V_fits 34 = .ok (.aload_n 0, 1) := by decide +kernel
theorem d_V_fits_35 : decode k_V_fits 35 = .ok (.iload_n 1, 1) := by decide +kernel
theorem d_V_fits_36 : decode k_V_fits 36 = .ok (.iload_n 2, 1) := by decide +kernel
theorem d_V_fits_37 : decode k_V_fits 37 = .ok (.iadd, 1) := by decide +kernel
theorem d_V_fits_38 : decode k_V_fits 38 = .ok (.iconst 1, 1) := by decide +kernel
theorem d_V_fits_39 : decode k_V_fits 39 = .ok (.isub, 1) := by decide +kernel
theorem d_V_fits_40 : decode k_V_fits 40 = .ok (.invokevirtual 58, 3) := by decide +kernel
theorem d_V_fits_43 : decode k_V_fits 43 = .ok (.ifCond .eq 7, 3) := by decide +kernel
theorem d_V_fits_46 : decode k_V_fits 46 = .ok (.iconst 1, 1) := by decide +kernel
theorem d_V_fits_47 : decode k_V_fits 47 = .ok (.goto 4, 3) := by decide +kernel
theorem d_V_fits_50 : decode k_V_fits 50 = .ok (.iconst 0, 1) := by decide +kernel
theorem d_V_fits_51 : decode k_V_fits 51 = .ok (.ireturn, 1) := by decide +kernel
def b_V_fits_51 (q : Nat) (w0 : Int32) (σ : CS) : Option (Int32 × CS) :=
  gd (w0 = 0 ∨ w0 = 1) (some (w0, σ))
def b_V_fits_46 (q : Nat) (σ : CS) : Option (Int32 × CS) :=
  b_V_fits_51 q (1 : Int32) σ
def b_V_fits_25 (q : Nat) (w0 : Int32) (σ : CS) : Option (Int32 × CS) :=
  gd (w0 = 0 ∨ w0 = 1) (some (w0, σ))
def b_V_fits_20 (q : Nat) (σ : CS) : Option (Int32 × CS) :=
  b_V_fits_25 q (1 : Int32) σ
def m_V_fits (q : Nat) (v1 : Int32) (v2 : Int32) (σ : CS) : Option (Int32 × CS) :=
  gd (q = 10 ∨ q = 17) <| if v2 = 0 then
  (bd (cI σ q 1) fun x5 => if v1 = x5 then
  (b_V_fits_20 q  σ)
 else
  (bc2 (m_V_isExpected q v1 σ) fun x7 r6 => if x7 = 0 then
  (b_V_fits_25 q (0 : Int32) r6)
 else
  (b_V_fits_20 q  r6)))
 else
  (bc2 (m_V_isExpected q v1 σ) fun x2 r1 => if x2 = 0 then
  (bc2 (m_V_isExpected q ((v1 + v2) - (1 : Int32)) r1) fun x4 r3 => if x4 = 0 then
  (b_V_fits_51 q (0 : Int32) r3)
 else
  (b_V_fits_46 q  r3))
 else
  (b_V_fits_46 q  r1))
section
variable {p : Program} {l : Launch} {e : Env} {s : State} {m : MethodId} {args : Array Value} {below : List Frame} {meth : Method} {c : Code} {D : va_G} {tc : Nat → ClassId} {b z : Nat} {σ0 : CS}
theorem t_V_fits_51 {q : Nat} (S : CC p m c k_V_fits 3 s args cn_V meth (Option.some Jvm.ClassFile.FieldType.boolean) D tc b z) (hq : q = 10 ∨ q = 17) (w0 : Int32) (σ : CS) {B : Int32 × CS} (h : b_V_fits_51 q w0 σ = some B) {ls : Array Slot} {H : Heap} {locs : List Loc} {cells slots : Nat} (hl : lv_has ls 3 []) (hW : CWS D tc b z s σ0 σ H locs cells slots) : W p l e (CR 1 21 σ0) s m args below meth c H locs cells slots (CE D tc b z below args s σ0 (some (.int B.1)) B.2) (F0 m 51 ls [.int w0]) := by
  have hx := S.1.1
  have hb := S.1.2.1
  unfold b_V_fits_51 at h
  exact cm_zret S hW d_V_fits_51 h
theorem t_V_fits_46 {q : Nat} (S : CC p m c k_V_fits 3 s args cn_V meth (Option.some Jvm.ClassFile.FieldType.boolean) D tc b z) (hq : q = 10 ∨ q = 17) (σ : CS) {B : Int32 × CS} (h : b_V_fits_46 q  σ = some B) {ls : Array Slot} {H : Heap} {locs : List Loc} {cells slots : Nat} (hl : lv_has ls 3 []) (hW : CWS D tc b z s σ0 σ H locs cells slots) : W p l e (CR 1 21 σ0) s m args below meth c H locs cells slots (CE D tc b z below args s σ0 (some (.int B.1)) B.2) (F0 m 46 ls []) := by
  have hx := S.1.1
  have hb := S.1.2.1
  unfold b_V_fits_46 at h
  refine lv_iconst (v := 1) hx hb d_V_fits_46 (by decide) ?_
  refine lv_goto (tgt := 51) hx hb d_V_fits_47 (by decide) ?_
  exact t_V_fits_51 S hq (1 : Int32) σ h (lv_sub hl [] rfl) hW
theorem t_V_fits_25 {q : Nat} (S : CC p m c k_V_fits 3 s args cn_V meth (Option.some Jvm.ClassFile.FieldType.boolean) D tc b z) (hq : q = 10 ∨ q = 17) (w0 : Int32) (σ : CS) {B : Int32 × CS} (h : b_V_fits_25 q w0 σ = some B) {ls : Array Slot} {H : Heap} {locs : List Loc} {cells slots : Nat} (hl : lv_has ls 3 []) (hW : CWS D tc b z s σ0 σ H locs cells slots) : W p l e (CR 1 21 σ0) s m args below meth c H locs cells slots (CE D tc b z below args s σ0 (some (.int B.1)) B.2) (F0 m 25 ls [.int w0]) := by
  have hx := S.1.1
  have hb := S.1.2.1
  unfold b_V_fits_25 at h
  exact cm_zret S hW d_V_fits_25 h
theorem t_V_fits_20 {q : Nat} (S : CC p m c k_V_fits 3 s args cn_V meth (Option.some Jvm.ClassFile.FieldType.boolean) D tc b z) (hq : q = 10 ∨ q = 17) (σ : CS) {B : Int32 × CS} (h : b_V_fits_20 q  σ = some B) {ls : Array Slot} {H : Heap} {locs : List Loc} {cells slots : Nat} (hl : lv_has ls 3 []) (hW : CWS D tc b z s σ0 σ H locs cells slots) : W p l e (CR 1 21 σ0) s m args below meth c H locs cells slots (CE D tc b z below args s σ0 (some (.int B.1)) B.2) (F0 m 20 ls []) := by
  have hx := S.1.1
  have hb := S.1.2.1
  unfold b_V_fits_20 at h
  refine lv_iconst (v := 1) hx hb d_V_fits_20 (by decide) ?_
  refine lv_goto (tgt := 25) hx hb d_V_fits_21 (by decide) ?_
  exact t_V_fits_25 S hq (1 : Int32) σ h (lv_sub hl [] rfl) hW
theorem t_V_fits_0 (S : CC p m c k_V_fits 3 s args cn_V meth (Option.some Jvm.ClassFile.FieldType.boolean) D tc b z) (q : Nat) (v1 : Int32) (v2 : Int32) (σ : CS) {B : Int32 × CS} (h : m_V_fits q v1 v2 σ = some B) {ls : Array Slot} {H : Heap} {locs : List Loc} {cells slots : Nat} (hl : lv_has ls 3 [(0, .ref (b + q)), (1, .int v1), (2, .int v2)]) (hW : CWS D tc b z s σ0 σ H locs cells slots) : W p l e (CR 1 21 σ0) s m args below meth c H locs cells slots (CE D tc b z below args s σ0 (some (.int B.1)) B.2) (F0 m 0 ls []) := by
  have hx := S.1.1
  have hb := S.1.2.1
  unfold m_V_fits at h
  obtain ⟨hq, h⟩ := gd_s h
  refine lv_iload_n hx hb d_V_fits_0 rfl (lv_at hl 2 rfl) ?_
  refine rb_ne (tgt := 26) hx hb d_V_fits_1 (by decide) h (fun h => ?_) (fun h => ?_)
  · refine lv_aload_n hx hb d_V_fits_26 rfl (lv_at hl 0 rfl) ?_
    refine lv_iload_n hx hb d_V_fits_27 rfl (lv_at hl 1 rfl) ?_
    refine cm_cVi [.int v1] kx_V S hW (kV hq) (fun x σ' hc => c_V_isExpected q v1 σ hc) q_V_isExpected wd_1088 wd_1089 wd_1087 (by decide) hl.1 rfl rfl (Nat.le_of_ble_eq_true rfl) d_V_fits_28 h (fun x2 r1 H locs cells slots h hW => ?_)
    refine rb_ne (tgt := 46) hx hb d_V_fits_31 (by decide) h (fun h => ?_) (fun h => ?_)
    · exact t_V_fits_46 S hq  r1 h (lv_sub hl [] rfl) hW
    · refine lv_aload_n hx hb d_V_fits_34 rfl (lv_at hl 0 rfl) ?_
      refine lv_iload_n hx hb d_V_fits_35 rfl (lv_at hl 1 rfl) ?_
      refine lv_iload_n hx hb d_V_fits_36 rfl (lv_at hl 2 rfl) ?_
      refine lv_iadd hx hb d_V_fits_37 ?_
      refine lv_iconst (v := 1) hx hb d_V_fits_38 (by decide) ?_
      refine lv_isub hx hb d_V_fits_39 ?_
      refine cm_cVi [.int ((v1 + v2) - (1 : Int32))] kx_V S hW (kV hq) (fun x σ' hc => c_V_isExpected q ((v1 + v2) - (1 : Int32)) r1 hc) q_V_isExpected wd_1088 wd_1089 wd_1087 (by decide) hl.1 rfl rfl (Nat.le_of_ble_eq_true rfl) d_V_fits_40 h (fun x4 r3 H locs cells slots h hW => ?_)
      refine rb_eq (tgt := 50) hx hb d_V_fits_43 (by decide) h (fun h => ?_) (fun h => ?_)
      · refine lv_iconst (v := 0) hx hb d_V_fits_50 (by decide) ?_
        exact t_V_fits_51 S hq (0 : Int32) r3 h (lv_sub hl [] rfl) hW
      · exact t_V_fits_46 S hq  r3 h (lv_sub hl [] rfl) hW
  · refine lv_iload_n hx hb d_V_fits_4 rfl (lv_at hl 1 rfl) ?_
    refine lv_aload_n hx hb d_V_fits_5 rfl (lv_at hl 0 rfl) ?_
    refine cm_geti kx_V S hW (kV hq) 1 wd_253 (by decide) d_V_fits_6 h (fun x5 h => ?_)
    refine rc_eq (tgt := 20) hx hb d_V_fits_9 (by decide) h (fun h => ?_) (fun h => ?_)
    · exact t_V_fits_20 S hq  σ h (lv_sub hl [] rfl) hW
    · refine lv_aload_n hx hb d_V_fits_12 rfl (lv_at hl 0 rfl) ?_
      refine lv_iload_n hx hb d_V_fits_13 rfl (lv_at hl 1 rfl) ?_
      refine cm_cVi [.int v1] kx_V S hW (kV hq) (fun x σ' hc => c_V_isExpected q v1 σ hc) q_V_isExpected wd_1088 wd_1089 wd_1087 (by decide) hl.1 rfl rfl (Nat.le_of_ble_eq_true rfl) d_V_fits_14 h (fun x7 r6 H locs cells slots h hW => ?_)
      refine rb_eq (tgt := 24) hx hb d_V_fits_17 (by decide) h (fun h => ?_) (fun h => ?_)
      · refine lv_iconst (v := 0) hx hb d_V_fits_24 (by decide) ?_
        exact t_V_fits_25 S hq (0 : Int32) r6 h (lv_sub hl [] rfl) hW
      · exact t_V_fits_20 S hq  r6 h (lv_sub hl [] rfl) hW
theorem c_V_fits (q : Nat) (v1 : Int32) (v2 : Int32) (σ : CS) {x : Int32} {σ' : CS} (h : m_V_fits q v1 v2 σ = some (x, σ')) : CMet l D tc b z y_V_fits k_V_fits 3 (Option.some Jvm.ClassFile.FieldType.boolean) 1 21 [.ref (b + q), .int v1, .int v2] σ (some (.int x)) σ' := cm_met (by decide) (Nat.le_of_ble_eq_true rfl) fun p e s m args below meth c S hW ls hl => t_V_fits_0 S q v1 v2 σ h hl hW
end

/-! StreamPair$Arrivals.takeWithoutGap ()V -/
abbrev k_V_takeWithoutGap : ByteArray := prog_2_method_10_code
abbrev y_V_takeWithoutGap : MethodName := ⟨cn_V, "takeWithoutGap", "()V"⟩
theorem q_V_takeWithoutGap : Calee y_V_takeWithoutGap k_V_takeWithoutGap 2 none 0 := ⟨wd_1156, wd_87, by decide, by decide +kernel⟩
theorem d_V_takeWithoutGap_0 : decode k_V_takeWithoutGap 0 = .ok (.iconst 0, 1) := by decide +kernel
theorem d_V_takeWithoutGap_1 : decode k_V_takeWithoutGap 1 = .ok (.istore_n 1, 1) := by decide +kernel
theorem d_V_takeWithoutGap_2 : decode k_V_takeWithoutGap 2 = .ok (.iload_n 1, 1) := by decide +kernel
theorem d_V_takeWithoutGap_3 : decode k_V_takeWithoutGap 3 = .ok (.ldc 62, 2) := by decide +kernel
theorem d_V_takeWithoutGap_5 : decode k_V_takeWithoutGap 5 = .ok (.if_icmp .ge 61, 3) := by decide +kernel
theorem d_V_takeWithoutGap_8 : decode k_V_takeWithoutGap 8 = .ok (.aload_n 0, 1) := by decide +kernel
theorem d_V_takeWithoutGap_9 : decode k_V_takeWithoutGap 9 = .ok (.getfield 23, 3) := by decide +kernel
theorem d_V_takeWithoutGap_12 : decode k_V_takeWithoutGap 12 = .ok (.ifCond .le 54, 3) := by decide +kernel
theorem d_V_takeWithoutGap_15 : decode k_V_takeWithoutGap 15 = .ok (.aload_n 0, 1) := by decide +kernel
theorem d_V_takeWithoutGap_16 : decode k_V_takeWithoutGap 16 = .ok (.getfield 16, 3) := by decide +kernel
theorem d_V_takeWithoutGap_19 : decode k_V_takeWithoutGap 19 = .ok (.aload_n 0, 1) := by decide +kernel
theorem d_V_takeWithoutGap_20 : decode k_V_takeWithoutGap 20 = .ok (.getfield 32, 3) := by decide +kernel
theorem d_V_takeWithoutGap_23 : decode k_V_takeWithoutGap 23 = .ok (.ldc 9, 2) := by decide +kernel
theorem d_V_takeWithoutGap_25 : decode k_V_takeWithoutGap 25 = .ok (.iand, 1) := by decide +kernel
theorem d_V_takeWithoutGap_26 : decode k_V_takeWithoutGap 26 = .ok (.saload, 1) := by decide +kernel
theorem d_V_takeWithoutGap_27 : decode k_V_takeWithoutGap 27 = .ok (.ifCond .eq 39, 3) := by decide +kernel
theorem d_V_takeWithoutGap_30 : decode k_V_takeWithoutGap 30 = .ok (.aload_n 0, 1) := by decide +kernel
theorem d_V_takeWithoutGap_31 : decode k_V_takeWithoutGap 31 = .ok (.dup, 1) := by decide +kernel
theorem d_V_takeWithoutGap_32 : decode k_V_takeWithoutGap 32 = .ok (.getfield 32, 3) := by decide +kernel
theorem d_V_takeWithoutGap_35 : decode k_V_takeWithoutGap 35 = .ok (.iconst 1, 1) := by decide +kernel
theorem d_V_takeWithoutGap_36 : decode k_V_takeWithoutGap 36 = .ok (.iadd, 1) := by decide +kernel
theorem d_V_takeWithoutGap_37 : decode k_V_takeWithoutGap 37 = .ok (.putfield 32, 3) := by decide +kernel
theorem d_V_takeWithoutGap_40 : decode k_V_takeWithoutGap 40 = .ok (.aload_n 0, 1) := by decide +kernel
theorem d_V_takeWithoutGap_41 : decode k_V_takeWithoutGap 41 = .ok (.dup, 1) := by decide +kernel
theorem d_V_takeWithoutGap_42 : decode k_V_takeWithoutGap 42 = .ok (.getfield 23, 3) := by decide +kernel
theorem d_V_takeWithoutGap_45 : decode k_V_takeWithoutGap 45 = .ok (.iconst 1, 1) := by decide +kernel
theorem d_V_takeWithoutGap_46 : decode k_V_takeWithoutGap 46 = .ok (.isub, 1) := by decide +kernel
theorem d_V_takeWithoutGap_47 : decode k_V_takeWithoutGap 47 = .ok (.putfield 23, 3) := by decide +kernel
theorem d_V_takeWithoutGap_50 : decode k_V_takeWithoutGap 50 = .ok (.aload_n 0, 1) := by decide +kernel
theorem d_V_takeWithoutGap_51 : decode k_V_takeWithoutGap 51 = .ok (.dup, 1) := by decide +kernel
theorem d_V_takeWithoutGap_52 : decode k_V_takeWithoutGap 52 = .ok (.getfield 20, 3) := by decide +kernel
theorem d_V_takeWithoutGap_55 : decode k_V_takeWithoutGap 55 = .ok (.iconst 1, 1) := by decide +kernel
theorem d_V_takeWithoutGap_56 : decode k_V_takeWithoutGap 56 = .ok (.iadd, 1) := by decide +kernel
theorem d_V_takeWithoutGap_57 : decode k_V_takeWithoutGap 57 = .ok (.putfield 20, 3) := by decide +kernel
theorem d_V_takeWithoutGap_60 : decode k_V_takeWithoutGap 60 = .ok (.iinc 1 1, 3) := by decide +kernel
theorem d_V_takeWithoutGap_63 : decode k_V_takeWithoutGap 63 = .ok (.goto (-61), 3) := by decide +kernel
theorem d_V_takeWithoutGap_66 : decode k_V_takeWithoutGap 66 = .ok (.return_, 1) := by decide +kernel
def b_V_takeWithoutGap_66 (q : Nat) (σ : CS) : Option (CS) :=
  some σ
def F_V_takeWithoutGap_2 (q : Nat) (rec2 : Int32 → CS → Option (CS)) (v1 : Int32) (σ : CS) : Option (CS) :=
  if (65536 : Int32) ≤ v1 then
  (b_V_takeWithoutGap_66 q  σ)
 else
  (bd (cI σ q 5) fun x1 => if x1 ≤ 0 then
  (b_V_takeWithoutGap_66 q  σ)
 else
  (bc (cR σ q 6) fun a2 => bd (cI σ q 1) fun x3 => gd (kd σ a2 = 24 ∧ inb (x3 &&& (65535 : Int32)) (cN σ a2)) <| bd (cI σ a2 (x3 &&& (65535 : Int32)).toNatClampNeg) fun x4 => if x4 = 0 then
  (b_V_takeWithoutGap_66 q  σ)
 else
  (bd (cI σ q 1) fun x5 => bd (wi σ q 1 (x5 + (1 : Int32))) fun r6 => bd (cI r6 q 5) fun x7 => bd (wi r6 q 5 (x7 - (1 : Int32))) fun r8 => bd (cI r8 q 4) fun x9 => bd (wi r8 q 4 (x9 + (1 : Int32))) fun r10 => bd (v1 + (1 : Int32)) fun x11 => rec2 x11 r10)))
def m_V_takeWithoutGap (q : Nat) (σ : CS) : Option (CS) :=
  gd (q = 10 ∨ q = 17) <| lq2 (F_V_takeWithoutGap_2 q) fuel (0 : Int32) σ
def P_V_takeWithoutGap_2 (q : Nat) (p : Program) (l : Launch) (e : Env) (s : State) (m : MethodId) (args : Array Value) (below : List Frame) (meth : Method) (c : Code) (D : va_G) (tc : Nat → ClassId) (b z : Nat) (σ0 : CS) (v1 : Int32) (σ : CS) (B : CS) : Prop := ∀ (ls : Array Slot) (H : Heap) (locs : List Loc) (cells slots : Nat), lv_has ls 2 [(0, .ref (b + q)), (1, .int v1)] → CWS D tc b z s σ0 σ H locs cells slots → W p l e (CR 0 0 σ0) s m args below meth c H locs cells slots (CE D tc b z below args s σ0 none B) (F0 m 2 ls [])
section
variable {p : Program} {l : Launch} {e : Env} {s : State} {m : MethodId} {args : Array Value} {below : List Frame} {meth : Method} {c : Code} {D : va_G} {tc : Nat → ClassId} {b z : Nat} {σ0 : CS}
theorem t_V_takeWithoutGap_66 {q : Nat} (S : CC p m c k_V_takeWithoutGap 2 s args cn_V meth none D tc b z) (hq : q = 10 ∨ q = 17) (σ : CS) {B : CS} (h : b_V_takeWithoutGap_66 q  σ = some B) {ls : Array Slot} {H : Heap} {locs : List Loc} {cells slots : Nat} (hl : lv_has ls 2 []) (hW : CWS D tc b z s σ0 σ H locs cells slots) : W p l e (CR 0 0 σ0) s m args below meth c H locs cells slots (CE D tc b z below args s σ0 none B) (F0 m 66 ls []) := by
  have hx := S.1.1
  have hb := S.1.2.1
  unfold b_V_takeWithoutGap_66 at h
  exact cm_vret S hW d_V_takeWithoutGap_66 h
theorem tF_V_takeWithoutGap_2 {q : Nat} (S : CC p m c k_V_takeWithoutGap 2 s args cn_V meth none D tc b z) (hq : q = 10 ∨ q = 17) : ∀ (rec2 : Int32 → CS → Option (CS)), (∀ (v1 : Int32) (σ : CS) (B : CS), rec2 v1 σ = some B → P_V_takeWithoutGap_2 q p l e s m args below meth c D tc b z σ0 v1 σ B) → ∀ (v1 : Int32) (σ : CS) (B : CS), F_V_takeWithoutGap_2 q rec2 v1 σ = some B → P_V_takeWithoutGap_2 q p l e s m args below meth c D tc b z σ0 v1 σ B := by
  intro rec2 hrec2 v1 σ B h ls H locs cells slots hl hW
  have hx := S.1.1
  have hb := S.1.2.1
  unfold F_V_takeWithoutGap_2 at h
  refine lv_iload_n hx hb d_V_takeWithoutGap_2 rfl (lv_at hl 1 rfl) ?_
  refine lv_ldc hx hb S.1.2.2.2.1 (S.1.2.2.2.2 _ (gi wd_1150 rfl)) d_V_takeWithoutGap_3 ?_
  refine rc_ge (tgt := 66) hx hb d_V_takeWithoutGap_5 (by decide) h (fun h => ?_) (fun h => ?_)
  · exact t_V_takeWithoutGap_66 S hq  σ h (lv_sub hl [] rfl) hW
  · refine lv_aload_n hx hb d_V_takeWithoutGap_8 rfl (lv_at hl 0 rfl) ?_
    refine cm_geti kx_V S hW (kV hq) 5 wd_261 (by decide) d_V_takeWithoutGap_9 h (fun x1 h => ?_)
    refine rb_le (tgt := 66) hx hb d_V_takeWithoutGap_12 (by decide) h (fun h => ?_) (fun h => ?_)
    · exact t_V_takeWithoutGap_66 S hq  σ h (lv_sub hl [] rfl) hW
    · refine lv_aload_n hx hb d_V_takeWithoutGap_15 rfl (lv_at hl 0 rfl) ?_
      refine cm_getr kx_V S hW (kV hq) 6 wd_263 (by decide) d_V_takeWithoutGap_16 h (fun a2 h => ?_)
      refine lv_aload_n hx hb d_V_takeWithoutGap_19 rfl (lv_at hl 0 rfl) ?_
      refine cm_geti kx_V S hW (kV hq) 1 wd_253 (by decide) d_V_takeWithoutGap_20 h (fun x3 h => ?_)
      refine lv_ldc hx hb S.1.2.2.2.1 (S.1.2.2.2.2 _ (gi wd_250 rfl)) d_V_takeWithoutGap_23 ?_
      refine lv_iand hx hb d_V_takeWithoutGap_25 ?_
      refine cm_sald S hW d_V_takeWithoutGap_26 h (fun x4 h => ?_)
      refine rb_eq (tgt := 66) hx hb d_V_takeWithoutGap_27 (by decide) h (fun h => ?_) (fun h => ?_)
      · exact t_V_takeWithoutGap_66 S hq  σ h (lv_sub hl [] rfl) hW
      · refine lv_aload_n hx hb d_V_takeWithoutGap_30 rfl (lv_at hl 0 rfl) ?_
        refine lv_dup hx hb d_V_takeWithoutGap_31 rfl ?_
        refine cm_geti kx_V S hW (kV hq) 1 wd_253 (by decide) d_V_takeWithoutGap_32 h (fun x5 h => ?_)
        refine lv_iconst (v := 1) hx hb d_V_takeWithoutGap_35 (by decide) ?_
        refine lv_iadd hx hb d_V_takeWithoutGap_36 ?_
        refine cm_puti kx_V S hW (kV hq) 1 wd_253 (by decide) d_V_takeWithoutGap_37 h (fun r6 H locs h hW => ?_)
        refine lv_aload_n hx hb d_V_takeWithoutGap_40 rfl (lv_at hl 0 rfl) ?_
        refine lv_dup hx hb d_V_takeWithoutGap_41 rfl ?_
        refine cm_geti kx_V S hW (kV hq) 5 wd_261 (by decide) d_V_takeWithoutGap_42 h (fun x7 h => ?_)
        refine lv_iconst (v := 1) hx hb d_V_takeWithoutGap_45 (by decide) ?_
        refine lv_isub hx hb d_V_takeWithoutGap_46 ?_
        refine cm_puti kx_V S hW (kV hq) 5 wd_261 (by decide) d_V_takeWithoutGap_47 h (fun r8 H locs h hW => ?_)
        refine lv_aload_n hx hb d_V_takeWithoutGap_50 rfl (lv_at hl 0 rfl) ?_
        refine lv_dup hx hb d_V_takeWithoutGap_51 rfl ?_
        refine cm_geti kx_V S hW (kV hq) 4 wd_258 (by decide) d_V_takeWithoutGap_52 h (fun x9 h => ?_)
        refine lv_iconst (v := 1) hx hb d_V_takeWithoutGap_55 (by decide) ?_
        refine lv_iadd hx hb d_V_takeWithoutGap_56 ?_
        refine cm_puti kx_V S hW (kV hq) 4 wd_258 (by decide) d_V_takeWithoutGap_57 h (fun r10 H locs h hW => ?_)
        refine rv_iinc (k := 1) (v := 1) (lv' := fun x11 => [(1, .int x11), (0, .ref (b + q))]) hx hb d_V_takeWithoutGap_60 hl rfl (by decide) (by decide) (fun _ => rfl) h (fun x11 ls h hl => ?_)
        refine lv_goto (tgt := 2) hx hb d_V_takeWithoutGap_63 (by decide) ?_
        exact hrec2 x11 r10 _ h _ _ _ _ _ (lv_sub hl [1, 0] rfl) hW
theorem t_V_takeWithoutGap_2 {q : Nat} (S : CC p m c k_V_takeWithoutGap 2 s args cn_V meth none D tc b z) (hq : q = 10 ∨ q = 17) : ∀ (n : Nat) (v1 : Int32) (σ : CS) (B : CS), lq2 (F_V_takeWithoutGap_2 q) n v1 σ = some B → P_V_takeWithoutGap_2 q p l e s m args below meth c D tc b z σ0 v1 σ B := lq2_s (tF_V_takeWithoutGap_2 S hq)
theorem t_V_takeWithoutGap_0 (S : CC p m c k_V_takeWithoutGap 2 s args cn_V meth none D tc b z) (q : Nat) (σ : CS) {B : CS} (h : m_V_takeWithoutGap q σ = some B) {ls : Array Slot} {H : Heap} {locs : List Loc} {cells slots : Nat} (hl : lv_has ls 2 [(0, .ref (b + q))]) (hW : CWS D tc b z s σ0 σ H locs cells slots) : W p l e (CR 0 0 σ0) s m args below meth c H locs cells slots (CE D tc b z below args s σ0 none B) (F0 m 0 ls []) := by
  have hx := S.1.1
  have hb := S.1.2.1
  unfold m_V_takeWithoutGap at h
  obtain ⟨hq, h⟩ := gd_s h
  refine lv_iconst (v := 0) hx hb d_V_takeWithoutGap_0 (by decide) ?_
  refine lv_istore_n (lv' := [(1, .int (0 : Int32)), (0, .ref (b + q))]) hx hb d_V_takeWithoutGap_1 rfl hl (by decide) rfl (fun ls hl => ?_)
  exact t_V_takeWithoutGap_2 S hq fuel (0 : Int32) σ _ h _ _ _ _ _ (lv_sub hl [1, 0] rfl) hW
theorem c_V_takeWithoutGap (q : Nat) (σ : CS) {B : CS} (h : m_V_takeWithoutGap q σ = some B) : CMet l D tc b z y_V_takeWithoutGap k_V_takeWithoutGap 2 none 0 0 [.ref (b + q)] σ none B := cm_met (by decide) (Nat.le_of_ble_eq_true rfl) fun p e s m args below meth c S hW ls hl => t_V_takeWithoutGap_0 S q σ h hl hW
end

/-! StreamPair$Arrivals.keep (LStreamPair$Segment;)V -/
abbrev k_V_keep : ByteArray := prog_2_method_9_code
abbrev y_V_keep : MethodName := ⟨cn_V, "keep", "(LStreamPair$Segment;)V"⟩
theorem q_V_keep : Calee y_V_keep k_V_keep 7 none 1 := ⟨wd_1149, wd_87, by decide, by decide +kernel⟩
theorem d_V_keep_0 : decode k_V_keep 0 = .ok (.aload_n 0, 1) := by decide +kernel
theorem d_V_keep_1 : decode k_V_keep 1 = .ok (.getfield 16, 3) := by decide +kernel
theorem d_V_keep_4 : decode k_V_keep 4 = .ok (.arraylength, 1) := by decide +kernel
theorem d_V_keep_5 : decode k_V_keep 5 = .ok (.ifCond .ne 11, 3) := by decide +kernel
theorem d_V_keep_8 : decode k_V_keep 8 = .ok (.aload_n 0, 1) := by decide +kernel
theorem d_V_keep_9 : decode k_V_keep 9 = .ok (.ldc 62, 2) := by decide +kernel
theorem d_V_keep_11 : decode k_V_keep 11 = .ok (.newarray .short, 2) := by decide +kernel
theorem d_V_keep_13 : decode k_V_keep 13 = .ok (.putfield 16, 3) := by decide +kernel
theorem d_V_keep_16 : decode k_V_keep 16 = .ok (.aload_n 1, 1) := by decide +kernel
theorem d_V_keep_17 : decode k_V_keep 17 = .ok (.invokevirtual 63, 3) := by decide +kernel
theorem d_V_keep_20 : decode k_V_keep 20 = .ok (.istore_n 2, 1) := by decide +kernel
theorem d_V_keep_21 : decode k_V_keep 21 = .ok (.aload_n 1, 1) := by decide +kernel
theorem d_V_keep_22 : decode k_V_keep 22 = .ok (.invokevirtual 68, 3) := by decide +kernel
theorem d_V_keep_25 : decode k_V_keep 25 = .ok (.istore_n 3, 1) := by decide +kernel
theorem d_V_keep_26 : decode k_V_keep 26 = .ok (.iload_n 2, 1) := by decide +kernel
theorem d_V_keep_27 : decode k_V_keep 27 = .ok (.istore 4, 2) := by decide +kernel
theorem d_V_keep_29 : decode k_V_keep 29 = .ok (.iload 4, 2) := by decide +kernel
theorem d_V_keep_31 : decode k_V_keep 31 = .ok (.aload_n 1, 1) := by decide +kernel
theorem d_V_keep_32 : decode k_V_keep 32 = .ok (.getfield 71, 3) := by decide +kernel
theorem d_V_keep_35 : decode k_V_keep 35 = .ok (.if_icmp .ge 76, 3) := by decide +kernel
theorem d_V_keep_38 : decode k_V_keep 38 = .ok (.iload_n 3, 1) := by decide +kernel
theorem d_V_keep_39 : decode k_V_keep 39 = .ok (.iload 4, 2) := by decide +kernel
theorem d_V_keep_41 : decode k_V_keep 41 = .ok (.iadd, 1) := by decide +kernel
theorem d_V_keep_42 : decode k_V_keep 42 = .ok (.iload_n 2, 1) := by decide +kernel
theorem d_V_keep_43 : decode k_V_keep 43 = .ok (.isub, 1) := by decide +kernel
theorem d_V_keep_44 : decode k_V_keep 44 = .ok (.istore 5, 2) := by decide +kernel
theorem d_V_keep_46 : decode k_V_keep 46 = .ok (.iload 5, 2) := by decide +kernel
theorem d_V_keep_48 : decode k_V_keep 48 = .ok (.ldc 9, 2) := by decide +kernel
theorem d_V_keep_50 : decode k_V_keep 50 = .ok (.iand, 1) := by decide +kernel
theorem d_V_keep_51 : decode k_V_keep 51 = .ok (.istore 6, 2) := by decide +kernel
theorem d_V_keep_53 : decode k_V_keep 53 = .ok (.aload_n 0, 1) := by decide +kernel
theorem d_V_keep_54 : decode k_V_keep 54 = .ok (.iload 5, 2) := by decide +kernel
theorem d_V_keep_56 : decode k_V_keep 56 = .ok (.invokevirtual 58, 3) := by decide +kernel
theorem d_V_keep_59 : decode k_V_keep 59 = .ok (.ifCond .eq 46, 3) := by decide +kernel
theorem d_V_keep_62 : decode k_V_keep 62 = .ok (.aload_n 0, 1) := by decide +kernel
theorem d_V_keep_63 : decode k_V_keep 63 = .ok (.getfield 16, 3) := by decide +kernel
theorem d_V_keep_66 : decode k_V_keep 66 = .ok (.iload 6, 2) := by decide +kernel
theorem d_V_keep_68 : decode k_V_keep 68 = .ok (.saload, 1) := by decide +kernel
theorem d_V_keep_69 : decode k_V_keep 69 = .ok (.ifCond .ne 36, 3) := by decide +kernel
theorem d_V_keep_72 : decode k_V_keep 72 = .ok (.aload_n 0, 1) := by decide +kernel
theorem d_V_keep_73 : decode k_V_keep 73 = .ok (.getfield 16, 3) := by decide +kernel
theorem d_V_keep_76 : decode k_V_keep 76 = .ok (.iload 6, 2) := by decide +kernel
theorem d_V_keep_78 : decode k_V_keep 78 = .ok (.sipush 256, 3) := by decide +kernel
theorem d_V_keep_81 : decode k_V_keep 81 = .ok (.aload_n 1, 1) := by decide +kernel
theorem d_V_keep_82 : decode k_V_keep 82 = .ok (.getfield 74, 3) := by decide +kernel
theorem d_V_keep_85 : decode k_V_keep 85 = .ok (.iload 4, 2) := by decide +kernel
theorem d_V_keep_87 : decode k_V_keep 87 = .ok (.baload, 1) := by decide +kernel
theorem d_V_keep_88 : decode k_V_keep 88 = .ok (.sipush 255, 3) := by decide +kernel
theorem d_V_keep_91 : decode k_V_keep 91 = .ok (.iand, 1) := by decide +kernel
theorem d_V_keep_92 : decode k_V_keep 92 = .ok (.ior, 1) := by decide +kernel
theorem d_V_keep_93 : decode k_V_keep 93 = .ok (.i2s, 1) := by decide +kernel
theorem d_V_keep_94 : decode k_V_keep 94 = .ok (.sastore, 1) := by decide +kernel
theorem d_V_keep_95 : decode k_V_keep 95 = .ok (.aload_n 0, 1) := by decide +kernel
theorem d_V_keep_96 : decode k_V_keep 96 = .ok (.dup, 1) := by decide +kernel
theorem d_V_keep_97 : decode k_V_keep 97 = .ok (.getfield 23, 3) := by decide +kernel
theorem d_V_keep_100 : decode k_V_keep 100 = .ok (.iconst 1, 1) := by decide +kernel
theorem d_V_keep_101 : decode k_V_keep 101 = .ok (.iadd, 1) := by decide +kernel
theorem d_V_keep_102 : decode k_V_keep 102 = .ok (.putfield 23, 3) := by decide +kernel
theorem d_V_keep_105 : decode k_V_keep 105 = .ok (.iinc 4 1, 3) := by decide +kernel
theorem d_V_keep_108 : decode k_V_keep 108 = .ok (.goto (-79), 3) := by decide +kernel
theorem d_V_keep_111 : decode k_V_keep 111 = .ok (.aload_n 0, 1) := by decide +kernel
theorem d_V_keep_112 : decode k_V_keep 112 = .ok (.invokevirtual 78, 3) := by decide +kernel
theorem d_V_keep_115 : decode k_V_keep 115 = .ok (.return_, 1) := by decide +kernel
def b_V_keep_105 (q : Nat) (rec29 : Nat → Int32 → Int32 → Int32 → CS → Option (CS)) (v1 : Nat) (v2 : Int32) (v3 : Int32) (v4 : Int32) (σ : CS) : Option (CS) :=
  bd (v4 + (1 : Int32)) fun x1 => rec29 v1 v2 v3 x1 σ
def F_V_keep_29 (q : Nat) (rec29 : Nat → Int32 → Int32 → Int32 → CS → Option (CS)) (v1 : Nat) (v2 : Int32) (v3 : Int32) (v4 : Int32) (σ : CS) : Option (CS) :=
  gd (kd σ v1 = 11) <| bd (cI σ v1 1) fun x1 => if x1 ≤ v4 then
  (bc (m_V_takeWithoutGap q σ) fun r2 => some r2)
 else
  (bd ((v3 + v4) - v2) fun x3 => bd (x3 &&& (65535 : Int32)) fun x4 => bc2 (m_V_isExpected q x3 σ) fun x6 r5 => if x6 = 0 then
  (b_V_keep_105 q rec29 v1 v2 v3 v4 r5)
 else
  (bc (cR r5 q 6) fun a7 => gd (kd r5 a7 = 24 ∧ inb x4 (cN r5 a7)) <| bd (cI r5 a7 x4.toNatClampNeg) fun x8 => if x8 = 0 then
  (bc (cR r5 q 6) fun a9 => gd (kd r5 v1 = 11) <| bc (cR r5 v1 0) fun a10 => gd (kd r5 a10 = 21 ∧ inb v4 (cN r5 a10)) <| bd (cI r5 a10 v4.toNatClampNeg) fun x11 => gd (kd r5 a9 = 24 ∧ inb x4 (cN r5 a9)) <| bd (wi r5 a9 x4.toNatClampNeg (vp_nar .short (((256 : Int32) ||| (x11 &&& (255 : Int32))).toInt16.toInt32))) fun r12 => bd (cI r12 q 5) fun x13 => bd (wi r12 q 5 (x13 + (1 : Int32))) fun r14 => b_V_keep_105 q rec29 v1 v2 v3 v4 r14)
 else
  (b_V_keep_105 q rec29 v1 v2 v3 v4 r5)))
def b_V_keep_16 (q : Nat) (v1 : Nat) (σ : CS) : Option (CS) :=
  gd (kd σ v1 = 11) <| bc2 (m_G_headerLength v1 σ) fun x2 r1 => gd (kd r1 v1 = 11) <| bc2 (m_G_seq v1 r1) fun x4 r3 => lq5 (F_V_keep_29 q) fuel v1 x2 x4 x2 r3
def m_V_keep (q : Nat) (v1 : Nat) (σ : CS) : Option (CS) :=
  gd (q = 10 ∨ q = 17) <| bc (cR σ q 6) fun a1 => gd (kd σ a1 = 21 ∨ kd σ a1 = 24 ∨ kd σ a1 = 25) <| bd (nI (cN σ a1)) fun x2 => if x2 = 0 then
  (gd (¬ (65536 : Int32) < 0 ∧ cX σ + 1 ≤ 601024 ∧ cU σ + (65536 : Int32).toNatClampNeg ≤ 7293034) <| bd2 (cX σ) (wa σ 24 (65536 : Int32).toNatClampNeg (65536 : Int32).toNatClampNeg) fun a3 r4 => bd (wr r4 q 6 (some a3)) fun r5 => b_V_keep_16 q v1 r5)
 else
  (b_V_keep_16 q v1 σ)
def P_V_keep_29 (q : Nat) (p : Program) (l : Launch) (e : Env) (s : State) (m : MethodId) (args : Array Value) (below : List Frame) (meth : Method) (c : Code) (D : va_G) (tc : Nat → ClassId) (b z : Nat) (σ0 : CS) (v1 : Nat) (v2 : Int32) (v3 : Int32) (v4 : Int32) (σ : CS) (B : CS) : Prop := ∀ (ls : Array Slot) (H : Heap) (locs : List Loc) (cells slots : Nat), lv_has ls 7 [(0, .ref (b + q)), (1, .ref (b + v1)), (2, .int v2), (3, .int v3), (4, .int v4)] → CWS D tc b z s σ0 σ H locs cells slots → W p l e (CR 2 44 σ0) s m args below meth c H locs cells slots (CE D tc b z below args s σ0 none B) (F0 m 29 ls [])
section
variable {p : Program} {l : Launch} {e : Env} {s : State} {m : MethodId} {args : Array Value} {below : List Frame} {meth : Method} {c : Code} {D : va_G} {tc : Nat → ClassId} {b z : Nat} {σ0 : CS}
theorem t_V_keep_105 {q : Nat} (S : CC p m c k_V_keep 7 s args cn_V meth none D tc b z) (hq : q = 10 ∨ q = 17) {rec29 : Nat → Int32 → Int32 → Int32 → CS → Option (CS)} (hrec29 : ∀ (v1 : Nat) (v2 : Int32) (v3 : Int32) (v4 : Int32) (σ : CS) (B : CS), rec29 v1 v2 v3 v4 σ = some B → P_V_keep_29 q p l e s m args below meth c D tc b z σ0 v1 v2 v3 v4 σ B) (v1 : Nat) (v2 : Int32) (v3 : Int32) (v4 : Int32) (σ : CS) {B : CS} (h : b_V_keep_105 q rec29 v1 v2 v3 v4 σ = some B) {ls : Array Slot} {H : Heap} {locs : List Loc} {cells slots : Nat} (hl : lv_has ls 7 [(0, .ref (b + q)), (1, .ref (b + v1)), (2, .int v2), (3, .int v3), (4, .int v4)]) (hW : CWS D tc b z s σ0 σ H locs cells slots) : W p l e (CR 2 44 σ0) s m args below meth c H locs cells slots (CE D tc b z below args s σ0 none B) (F0 m 105 ls []) := by
  have hx := S.1.1
  have hb := S.1.2.1
  unfold b_V_keep_105 at h
  refine rv_iinc (k := 4) (v := 1) (lv' := fun x1 => [(4, .int x1), (0, .ref (b + q)), (1, .ref (b + v1)), (2, .int v2), (3, .int v3)]) hx hb d_V_keep_105 hl rfl (by decide) (by decide) (fun _ => rfl) h (fun x1 ls h hl => ?_)
  refine lv_goto (tgt := 29) hx hb d_V_keep_108 (by decide) ?_
  exact hrec29 v1 v2 v3 x1 σ _ h _ _ _ _ _ (lv_sub hl [1, 2, 3, 4, 0] rfl) hW
theorem tF_V_keep_29 {q : Nat} (S : CC p m c k_V_keep 7 s args cn_V meth none D tc b z) (hq : q = 10 ∨ q = 17) : ∀ (rec29 : Nat → Int32 → Int32 → Int32 → CS → Option (CS)), (∀ (v1 : Nat) (v2 : Int32) (v3 : Int32) (v4 : Int32) (σ : CS) (B : CS), rec29 v1 v2 v3 v4 σ = some B → P_V_keep_29 q p l e s m args below meth c D tc b z σ0 v1 v2 v3 v4 σ B) → ∀ (v1 : Nat) (v2 : Int32) (v3 : Int32) (v4 : Int32) (σ : CS) (B : CS), F_V_keep_29 q rec29 v1 v2 v3 v4 σ = some B → P_V_keep_29 q p l e s m args below meth c D tc b z σ0 v1 v2 v3 v4 σ B := by
  intro rec29 hrec29 v1 v2 v3 v4 σ B h ls H locs cells slots hl hW
  have hx := S.1.1
  have hb := S.1.2.1
  unfold F_V_keep_29 at h
  refine lv_iload hx hb d_V_keep_29 (lv_at hl 4 rfl) ?_
  refine lv_aload_n hx hb d_V_keep_31 rfl (lv_at hl 1 rfl) ?_
  obtain ⟨hg, h⟩ := gd_s h
  refine cm_geti kx_G S hW hg 1 wd_588 (by decide) d_V_keep_32 h (fun x1 h => ?_)
  refine rc_ge (tgt := 111) hx hb d_V_keep_35 (by decide) h (fun h => ?_) (fun h => ?_)
  · refine lv_aload_n hx hb d_V_keep_111 rfl (lv_at hl 0 rfl) ?_
    refine cm_cVv [] kx_V S hW (kV hq) (fun σ' hc => c_V_takeWithoutGap q σ hc) q_V_takeWithoutGap wd_1155 wd_32 wd_1153 (by decide) hl.1 rfl rfl (Nat.le_of_ble_eq_true rfl) d_V_keep_112 h (fun r2 H locs cells slots h hW => ?_)
    exact cm_vret S hW d_V_keep_115 h
  · refine lv_iload_n hx hb d_V_keep_38 rfl (lv_at hl 3 rfl) ?_
    refine lv_iload hx hb d_V_keep_39 (lv_at hl 4 rfl) ?_
    refine lv_iadd hx hb d_V_keep_41 ?_
    refine lv_iload_n hx hb d_V_keep_42 rfl (lv_at hl 2 rfl) ?_
    refine lv_isub hx hb d_V_keep_43 ?_
    refine rv_i h (fun x3 h => ?_)
    refine lv_istore (lv' := [(5, .int x3), (0, .ref (b + q)), (1, .ref (b + v1)), (2, .int v2), (3, .int v3), (4, .int v4)]) hx hb d_V_keep_44 hl (by decide) rfl (fun ls hl => ?_)
    refine lv_iload hx hb d_V_keep_46 (lv_at hl 0 rfl) ?_
    refine lv_ldc hx hb S.1.2.2.2.1 (S.1.2.2.2.2 _ (gi wd_250 rfl)) d_V_keep_48 ?_
    refine lv_iand hx hb d_V_keep_50 ?_
    refine rv_i h (fun x4 h => ?_)
    refine lv_istore (lv' := [(6, .int x4), (5, .int x3), (0, .ref (b + q)), (1, .ref (b + v1)), (2, .int v2), (3, .int v3), (4, .int v4)]) hx hb d_V_keep_51 hl (by decide) rfl (fun ls hl => ?_)
    refine lv_aload_n hx hb d_V_keep_53 rfl (lv_at hl 2 rfl) ?_
    refine lv_iload hx hb d_V_keep_54 (lv_at hl 1 rfl) ?_
    refine cm_cVi [.int x3] kx_V S hW (kV hq) (fun x σ' hc => c_V_isExpected q x3 σ hc) q_V_isExpected wd_1088 wd_1089 wd_1087 (by decide) hl.1 rfl rfl (Nat.le_of_ble_eq_true rfl) d_V_keep_56 h (fun x6 r5 H locs cells slots h hW => ?_)
    refine rb_eq (tgt := 105) hx hb d_V_keep_59 (by decide) h (fun h => ?_) (fun h => ?_)
    · exact t_V_keep_105 S hq hrec29 v1 v2 v3 v4 r5 h (lv_sub hl [2, 3, 4, 5, 6] rfl) hW
    · refine lv_aload_n hx hb d_V_keep_62 rfl (lv_at hl 2 rfl) ?_
      refine cm_getr kx_V S hW (kV hq) 6 wd_263 (by decide) d_V_keep_63 h (fun a7 h => ?_)
      refine lv_iload hx hb d_V_keep_66 (lv_at hl 0 rfl) ?_
      refine cm_sald S hW d_V_keep_68 h (fun x8 h => ?_)
      refine rb_ne (tgt := 105) hx hb d_V_keep_69 (by decide) h (fun h => ?_) (fun h => ?_)
      · exact t_V_keep_105 S hq hrec29 v1 v2 v3 v4 r5 h (lv_sub hl [2, 3, 4, 5, 6] rfl) hW
      · refine lv_aload_n hx hb d_V_keep_72 rfl (lv_at hl 2 rfl) ?_
        refine cm_getr kx_V S hW (kV hq) 6 wd_263 (by decide) d_V_keep_73 h (fun a9 h => ?_)
        refine lv_iload hx hb d_V_keep_76 (lv_at hl 0 rfl) ?_
        refine lv_sipush (v := 256) hx hb d_V_keep_78 (by decide) ?_
        refine lv_aload_n hx hb d_V_keep_81 rfl (lv_at hl 3 rfl) ?_
        obtain ⟨hg, h⟩ := gd_s h
        refine cm_getr kx_G S hW hg 0 wd_585 (by decide) d_V_keep_82 h (fun a10 h => ?_)
        refine lv_iload hx hb d_V_keep_85 (lv_at hl 6 rfl) ?_
        refine cm_bald S hW d_V_keep_87 h (fun x11 h => ?_)
        refine lv_sipush (v := 255) hx hb d_V_keep_88 (by decide) ?_
        refine lv_iand hx hb d_V_keep_91 ?_
        refine lv_ior hx hb d_V_keep_92 ?_
        refine lv_i2s hx hb d_V_keep_93 rfl ?_
        refine cm_sast S hW d_V_keep_94 h (fun r12 H locs h hW => ?_)
        refine lv_aload_n hx hb d_V_keep_95 rfl (lv_at hl 2 rfl) ?_
        refine lv_dup hx hb d_V_keep_96 rfl ?_
        refine cm_geti kx_V S hW (kV hq) 5 wd_261 (by decide) d_V_keep_97 h (fun x13 h => ?_)
        refine lv_iconst (v := 1) hx hb d_V_keep_100 (by decide) ?_
        refine lv_iadd hx hb d_V_keep_101 ?_
        refine cm_puti kx_V S hW (kV hq) 5 wd_261 (by decide) d_V_keep_102 h (fun r14 H locs h hW => ?_)
        exact t_V_keep_105 S hq hrec29 v1 v2 v3 v4 r14 h (lv_sub hl [2, 3, 4, 5, 6] rfl) hW
theorem t_V_keep_29 {q : Nat} (S : CC p m c k_V_keep 7 s args cn_V meth none D tc b z) (hq : q = 10 ∨ q = 17) : ∀ (n : Nat) (v1 : Nat) (v2 : Int32) (v3 : Int32) (v4 : Int32) (σ : CS) (B : CS), lq5 (F_V_keep_29 q) n v1 v2 v3 v4 σ = some B → P_V_keep_29 q p l e s m args below meth c D tc b z σ0 v1 v2 v3 v4 σ B := lq5_s (tF_V_keep_29 S hq)
theorem t_V_keep_16 {q : Nat} (S : CC p m c k_V_keep 7 s args cn_V meth none D tc b z) (hq : q = 10 ∨ q = 17) (v1 : Nat) (σ : CS) {B : CS} (h : b_V_keep_16 q v1 σ = some B) {ls : Array Slot} {H : Heap} {locs : List Loc} {cells slots : Nat} (hl : lv_has ls 7 [(0, .ref (b + q)), (1, .ref (b + v1))]) (hW : CWS D tc b z s σ0 σ H locs cells slots) : W p l e (CR 2 44 σ0) s m args below meth c H locs cells slots (CE D tc b z below args s σ0 none B) (F0 m 16 ls []) := by
  have hx := S.1.1
  have hb := S.1.2.1
  unfold b_V_keep_16 at h
  refine lv_aload_n hx hb d_V_keep_16 rfl (lv_at hl 1 rfl) ?_
  obtain ⟨hg, h⟩ := gd_s h
  refine cm_cVi [] kx_G S hW hg (fun x σ' hc => c_G_headerLength v1 σ hc) q_G_headerLength wd_981 wd_982 wd_1151 (by decide) hl.1 rfl rfl (Nat.le_of_ble_eq_true rfl) d_V_keep_17 h (fun x2 r1 H locs cells slots h hW => ?_)
  refine lv_istore_n (lv' := [(2, .int x2), (0, .ref (b + q)), (1, .ref (b + v1))]) hx hb d_V_keep_20 rfl hl (by decide) rfl (fun ls hl => ?_)
  refine lv_aload_n hx hb d_V_keep_21 rfl (lv_at hl 2 rfl) ?_
  obtain ⟨hg, h⟩ := gd_s h
  refine cm_cVi [] kx_G S hW hg (fun x σ' hc => c_G_seq v1 r1 hc) q_G_seq wd_1002 wd_1003 wd_1152 (by decide) hl.1 rfl rfl (Nat.le_of_ble_eq_true rfl) d_V_keep_22 h (fun x4 r3 H locs cells slots h hW => ?_)
  refine lv_istore_n (lv' := [(3, .int x4), (2, .int x2), (0, .ref (b + q)), (1, .ref (b + v1))]) hx hb d_V_keep_25 rfl hl (by decide) rfl (fun ls hl => ?_)
  refine lv_iload_n hx hb d_V_keep_26 rfl (lv_at hl 1 rfl) ?_
  refine lv_istore (lv' := [(4, .int x2), (3, .int x4), (2, .int x2), (0, .ref (b + q)), (1, .ref (b + v1))]) hx hb d_V_keep_27 hl (by decide) rfl (fun ls hl => ?_)
  exact t_V_keep_29 S hq fuel v1 x2 x4 x2 r3 _ h _ _ _ _ _ (lv_sub hl [3, 4, 2, 1, 0] rfl) hW
theorem t_V_keep_0 (S : CC p m c k_V_keep 7 s args cn_V meth none D tc b z) (q : Nat) (v1 : Nat) (σ : CS) {B : CS} (h : m_V_keep q v1 σ = some B) {ls : Array Slot} {H : Heap} {locs : List Loc} {cells slots : Nat} (hl : lv_has ls 7 [(0, .ref (b + q)), (1, .ref (b + v1))]) (hW : CWS D tc b z s σ0 σ H locs cells slots) : W p l e (CR 2 44 σ0) s m args below meth c H locs cells slots (CE D tc b z below args s σ0 none B) (F0 m 0 ls []) := by
  have hx := S.1.1
  have hb := S.1.2.1
  unfold m_V_keep at h
  obtain ⟨hq, h⟩ := gd_s h
  refine lv_aload_n hx hb d_V_keep_0 rfl (lv_at hl 0 rfl) ?_
  refine cm_getr kx_V S hW (kV hq) 6 wd_263 (by decide) d_V_keep_1 h (fun a1 h => ?_)
  refine cm_alen S hW d_V_keep_4 h (fun x2 h => ?_)
  refine rb_ne (tgt := 16) hx hb d_V_keep_5 (by decide) h (fun h => ?_) (fun h => ?_)
  · exact t_V_keep_16 S hq v1 σ h (lv_sub hl [0, 1] rfl) hW
  · refine lv_aload_n hx hb d_V_keep_8 rfl (lv_at hl 0 rfl) ?_
    refine lv_ldc hx hb S.1.2.2.2.1 (S.1.2.2.2.2 _ (gi wd_1150 rfl)) d_V_keep_9 ?_
    refine cm_news S hW d_V_keep_11 wd_282 h (fun a3 r4 H cells slots h hW => ?_)
    refine cm_putr kx_V S hW (kV hq) 6 (t := .array .short) wd_263 (by decide) rfl (fun _ => rfl) (fun _ => rfl) d_V_keep_13 h (fun r5 H locs h hW => ?_)
    exact t_V_keep_16 S hq v1 r5 h (lv_sub hl [0, 1] rfl) hW
theorem c_V_keep (q : Nat) (v1 : Nat) (σ : CS) {B : CS} (h : m_V_keep q v1 σ = some B) : CMet l D tc b z y_V_keep k_V_keep 7 none 2 44 [.ref (b + q), .ref (b + v1)] σ none B := cm_met (by decide) (Nat.le_of_ble_eq_true rfl) fun p e s m args below meth c S hW ls hl => t_V_keep_0 S q v1 σ h hl hW
end

/-! StreamPair$Arrivals.takeFin ()V -/
abbrev k_V_takeFin : ByteArray := prog_2_method_11_code
abbrev y_V_takeFin : MethodName := ⟨cn_V, "takeFin", "()V"⟩
theorem q_V_takeFin : Calee y_V_takeFin k_V_takeFin 1 none 0 := ⟨wd_1160, wd_87, by decide, by decide +kernel⟩
theorem d_V_takeFin_0 : decode k_V_takeFin 0 = .ok (.aload_n 0, 1) := by decide +kernel
theorem d_V_takeFin_1 : decode k_V_takeFin 1 = .ok (.dup, 1) := by decide +kernel
theorem d_V_takeFin_2 : decode k_V_takeFin 2 = .ok (.getfield 32, 3) := by decide +kernel
theorem d_V_takeFin_5 : decode k_V_takeFin 5 = .ok (.iconst 1, 1) := by decide +kernel
theorem d_V_takeFin_6 : decode k_V_takeFin 6 = .ok (.iadd, 1) := by decide +kernel
theorem d_V_takeFin_7 : decode k_V_takeFin 7 = .ok (.putfield 32, 3) := by decide +kernel
theorem d_V_takeFin_10 : decode k_V_takeFin 10 = .ok (.aload_n 0, 1) := by decide +kernel
theorem d_V_takeFin_11 : decode k_V_takeFin 11 = .ok (.iconst 1, 1) := by decide +kernel
theorem d_V_takeFin_12 : decode k_V_takeFin 12 = .ok (.putfield 38, 3) := by decide +kernel
theorem d_V_takeFin_15 : decode k_V_takeFin 15 = .ok (.return_, 1) := by decide +kernel
def m_V_takeFin (q : Nat) (σ : CS) : Option (CS) :=
  gd (q = 10 ∨ q = 17) <| bd (cI σ q 1) fun x1 => bd (wi σ q 1 (x1 + (1 : Int32))) fun r2 => gd ((1 : Int32) = 0 ∨ (1 : Int32) = 1) <| bd (wi r2 q 3 (1 : Int32)) fun r3 => some r3
section
variable {p : Program} {l : Launch} {e : Env} {s : State} {m : MethodId} {args : Array Value} {below : List Frame} {meth : Method} {c : Code} {D : va_G} {tc : Nat → ClassId} {b z : Nat} {σ0 : CS}
theorem t_V_takeFin_0 (S : CC p m c k_V_takeFin 1 s args cn_V meth none D tc b z) (q : Nat) (σ : CS) {B : CS} (h : m_V_takeFin q σ = some B) {ls : Array Slot} {H : Heap} {locs : List Loc} {cells slots : Nat} (hl : lv_has ls 1 [(0, .ref (b + q))]) (hW : CWS D tc b z s σ0 σ H locs cells slots) : W p l e (CR 0 0 σ0) s m args below meth c H locs cells slots (CE D tc b z below args s σ0 none B) (F0 m 0 ls []) := by
  have hx := S.1.1
  have hb := S.1.2.1
  unfold m_V_takeFin at h
  obtain ⟨hq, h⟩ := gd_s h
  refine lv_aload_n hx hb d_V_takeFin_0 rfl (lv_at hl 0 rfl) ?_
  refine lv_dup hx hb d_V_takeFin_1 rfl ?_
  refine cm_geti kx_V S hW (kV hq) 1 wd_253 (by decide) d_V_takeFin_2 h (fun x1 h => ?_)
  refine lv_iconst (v := 1) hx hb d_V_takeFin_5 (by decide) ?_
  refine lv_iadd hx hb d_V_takeFin_6 ?_
  refine cm_puti kx_V S hW (kV hq) 1 wd_253 (by decide) d_V_takeFin_7 h (fun r2 H locs h hW => ?_)
  refine lv_aload_n hx hb d_V_takeFin_10 rfl (lv_at hl 0 rfl) ?_
  refine lv_iconst (v := 1) hx hb d_V_takeFin_11 (by decide) ?_
  refine cm_putz kx_V S hW (kV hq) 3 wd_256 (by decide) d_V_takeFin_12 h (fun r3 H locs h hW => ?_)
  exact cm_vret S hW d_V_takeFin_15 h
theorem c_V_takeFin (q : Nat) (σ : CS) {B : CS} (h : m_V_takeFin q σ = some B) : CMet l D tc b z y_V_takeFin k_V_takeFin 1 none 0 0 [.ref (b + q)] σ none B := cm_met (by decide) (Nat.le_of_ble_eq_true rfl) fun p e s m args below meth c S hW ls hl => t_V_takeFin_0 S q σ h hl hW
end

/-! StreamPair$Arrivals.takeUnread (I)J -/
abbrev k_V_takeUnread : ByteArray := prog_2_method_12_code
abbrev y_V_takeUnread : MethodName := ⟨cn_V, "takeUnread", "(I)J"⟩
theorem q_V_takeUnread : Calee y_V_takeUnread k_V_takeUnread 7 (Option.some Jvm.ClassFile.FieldType.long) 1 := ⟨wd_870, wd_87, by decide, by decide +kernel⟩
theorem d_V_takeUnread_0 : decode k_V_takeUnread 0 = .ok (.iload_n 1, 1) := by decide +kernel
theorem d_V_takeUnread_1 : decode k_V_takeUnread 1 = .ok (.aload_n 0, 1) := by decide +kernel
theorem d_V_takeUnread_2 : decode k_V_takeUnread 2 = .ok (.getfield 20, 3) := by decide +kernel
theorem d_V_takeUnread_5 : decode k_V_takeUnread 5 = .ok (.invokestatic 81, 3) := by decide +kernel
theorem d_V_takeUnread_8 : decode k_V_takeUnread 8 = .ok (.istore_n 2, 1) := by decide +kernel
theorem d_V_takeUnread_9 : decode k_V_takeUnread 9 = .ok (.lconst 0, 1) := by decide +kernel
theorem d_V_takeUnread_10 : decode k_V_takeUnread 10 = .ok (.lstore_n 3, 1) := by decide +kernel
theorem d_V_takeUnread_11 : decode k_V_takeUnread 11 = .ok (.iconst 0, 1) := by decide +kernel
theorem d_V_takeUnread_12 : decode k_V_takeUnread 12 = .ok (.istore 5, 2) := by decide +kernel
theorem d_V_takeUnread_14 : decode k_V_takeUnread 14 = .ok (.iload 5, 2) := by decide +kernel
theorem d_V_takeUnread_16 : decode k_V_takeUnread 16 = .ok (.iload_n 2, 1) := by decide +kernel
theorem d_V_takeUnread_17 : decode k_V_takeUnread 17 = .ok (.if_icmp .ge 54, 3) := by decide +kernel
theorem d_V_takeUnread_20 : decode k_V_takeUnread 20 = .ok (.aload_n 0, 1) := by decide +kernel
theorem d_V_takeUnread_21 : decode k_V_takeUnread 21 = .ok (.getfield 42, 3) := by decide +kernel
theorem d_V_takeUnread_24 : decode k_V_takeUnread 24 = .ok (.ldc 9, 2) := by decide +kernel
theorem d_V_takeUnread_26 : decode k_V_takeUnread 26 = .ok (.iand, 1) := by decide +kernel
theorem d_V_takeUnread_27 : decode k_V_takeUnread 27 = .ok (.istore 6, 2) := by decide +kernel
theorem d_V_takeUnread_29 : decode k_V_takeUnread 29 = .ok (.lload_n 3, 1) := by decide +kernel
theorem d_V_takeUnread_30 : decode k_V_takeUnread 30 = .ok (.bipush 8, 2) := by decide +kernel
theorem d_V_takeUnread_32 : decode k_V_takeUnread 32 = .ok (.lshl, 1) := by decide +kernel
theorem d_V_takeUnread_33 : decode k_V_takeUnread 33 = .ok (.aload_n 0, 1) := by decide +kernel
theorem d_V_takeUnread_34 : decode k_V_takeUnread 34 = .ok (.getfield 16, 3) := by decide +kernel
theorem d_V_takeUnread_37 : decode k_V_takeUnread 37 = .ok (.iload 6, 2) := by decide +kernel
theorem d_V_takeUnread_39 : decode k_V_takeUnread 39 = .ok (.saload, 1) := by decide +kernel
theorem d_V_takeUnread_40 : decode k_V_takeUnread 40 = .ok (.sipush 255, 3) := by decide +kernel
theorem d_V_takeUnread_43 : decode k_V_takeUnread 43 = .ok (.iand, 1) := by decide +kernel
theorem d_V_takeUnread_44 : decode k_V_takeUnread 44 = .ok (.i2l, 1) := by decide +kernel
theorem d_V_takeUnread_45 : decode k_V_takeUnread 45 = .ok (.lor, 1) := by decide +kernel
theorem d_V_takeUnread_46 : decode k_V_takeUnread 46 = .ok (.lstore_n 3, 1) := by decide +kernel
theorem d_V_takeUnread_47 : decode k_V_takeUnread 47 = .ok (.aload_n 0, 1) := by decide +kernel
theorem d_V_takeUnread_48 : decode k_V_takeUnread 48 = .ok (.getfield 16, 3) := by decide +kernel
theorem d_V_takeUnread_51 : decode k_V_takeUnread 51 = .ok (.iload 6, 2) := by decide +kernel
theorem d_V_takeUnread_53 : decode k_V_takeUnread 53 = .ok (.iconst 0, 1) := by decide +kernel
theorem d_V_takeUnread_54 : decode k_V_takeUnread 54 = .ok (.sastore, 1) := by decide +kernel
theorem d_V_takeUnread_55 : decode k_V_takeUnread 55 = .ok (.aload_n 0, 1) := by decide +kernel
theorem d_V_takeUnread_56 : decode k_V_takeUnread 56 = .ok (.dup, 1) := by decide +kernel
theorem d_V_takeUnread_57 : decode k_V_takeUnread 57 = .ok (.getfield 42, 3) := by decide +kernel
theorem d_V_takeUnread_60 : decode k_V_takeUnread 60 = .ok (.iconst 1, 1) := by decide +kernel
theorem d_V_takeUnread_61 : decode k_V_takeUnread 61 = .ok (.iadd, 1) := by decide +kernel
theorem d_V_takeUnread_62 : decode k_V_takeUnread 62 = .ok (.putfield 42, 3) := by decide +kernel
theorem d_V_takeUnread_65 : decode k_V_takeUnread 65 = .ok (.iinc 5 1, 3) := by decide +kernel
theorem d_V_takeUnread_68 : decode k_V_takeUnread 68 = .ok (.goto (-54), 3) := by decide +kernel
theorem d_V_takeUnread_71 : decode k_V_takeUnread 71 = .ok (.aload_n 0, 1) := by decide +kernel
theorem d_V_takeUnread_72 : decode k_V_takeUnread 72 = .ok (.dup, 1) := by decide +kernel
theorem d_V_takeUnread_73 : decode k_V_takeUnread 73 = .ok (.getfield 20, 3) := by decide +kernel
theorem d_V_takeUnread_76 : decode k_V_takeUnread 76 = .ok (.iload_n 2, 1) := by decide +kernel
theorem d_V_takeUnread_77 : decode k_V_takeUnread 77 = .ok (.isub, 1) := by decide +kernel
theorem d_V_takeUnread_78 : decode k_V_takeUnread 78 = .ok (.putfield 20, 3) := by decide +kernel
theorem d_V_takeUnread_81 : decode k_V_takeUnread 81 = .ok (.iload_n 2, 1) := by decide +kernel
theorem d_V_takeUnread_82 : decode k_V_takeUnread 82 = .ok (.i2l, 1) := by decide +kernel
theorem d_V_takeUnread_83 : decode k_V_takeUnread 83 = .ok (.bipush 56, 2) := by decide +kernel
theorem d_V_takeUnread_85 : decode k_V_takeUnread 85 = .ok (.lshl, 1) := by decide +kernel
theorem d_V_takeUnread_86 : decode k_V_takeUnread 86 = .ok (.lload_n 3, 1) := by decide +kernel
theorem d_V_takeUnread_87 : decode k_V_takeUnread 87 = .ok (.lor, 1) := by decide +kernel
theorem d_V_takeUnread_88 : decode k_V_takeUnread 88 = .ok (.lreturn, 1) := by decide +kernel
def F_V_takeUnread_14 (q : Nat) (rec14 : Int32 → Int64 → Int32 → CS → Option (Int64 × CS)) (v2 : Int32) (v3 : Int64) (v5 : Int32) (σ : CS) : Option (Int64 × CS) :=
  if v2 ≤ v5 then
  (bd (cI σ q 4) fun x1 => bd (wi σ q 4 (x1 - v2)) fun r2 => some (((v2.toInt64) <<< ((56 : Int32).toInt64 &&& 63)) ||| v3, r2))
 else
  (bd (cI σ q 7) fun x3 => bd (x3 &&& (65535 : Int32)) fun x4 => bc (cR σ q 6) fun a5 => gd (kd σ a5 = 24 ∧ inb x4 (cN σ a5)) <| bd (cI σ a5 x4.toNatClampNeg) fun x6 => bd ((v3 <<< ((8 : Int32).toInt64 &&& 63)) ||| ((x6 &&& (255 : Int32)).toInt64)) fun x7 => bc (cR σ q 6) fun a8 => gd (kd σ a8 = 24 ∧ inb x4 (cN σ a8)) <| bd (wi σ a8 x4.toNatClampNeg (vp_nar .short (0 : Int32))) fun r9 => bd (cI r9 q 7) fun x10 => bd (wi r9 q 7 (x10 + (1 : Int32))) fun r11 => bd (v5 + (1 : Int32)) fun x12 => rec14 v2 x7 x12 r11)
def m_V_takeUnread (q : Nat) (v1 : Int32) (σ : CS) : Option (Int64 × CS) :=
  gd (q = 10 ∨ q = 17) <| bd (cI σ q 4) fun x1 => bd (if x1 < v1 then x1 else v1) fun x2 => lq4 (F_V_takeUnread_14 q) fuel x2 (0 : Int64) (0 : Int32) σ
def P_V_takeUnread_14 (q : Nat) (p : Program) (l : Launch) (e : Env) (s : State) (m : MethodId) (args : Array Value) (below : List Frame) (meth : Method) (c : Code) (D : va_G) (tc : Nat → ClassId) (b z : Nat) (σ0 : CS) (v2 : Int32) (v3 : Int64) (v5 : Int32) (σ : CS) (B : Int64 × CS) : Prop := ∀ (ls : Array Slot) (H : Heap) (locs : List Loc) (cells slots : Nat), lv_has ls 7 [(0, .ref (b + q)), (2, .int v2), (3, .long v3), (5, .int v5)] → CWS D tc b z s σ0 σ H locs cells slots → W p l e (CR 1 24 σ0) s m args below meth c H locs cells slots (CE D tc b z below args s σ0 (some (.long B.1)) B.2) (F0 m 14 ls [])
section
variable {p : Program} {l : Launch} {e : Env} {s : State} {m : MethodId} {args : Array Value} {below : List Frame} {meth : Method} {c : Code} {D : va_G} {tc : Nat → ClassId} {b z : Nat} {σ0 : CS}
theorem tF_V_takeUnread_14 {q : Nat} (S : CC p m c k_V_takeUnread 7 s args cn_V meth (Option.some Jvm.ClassFile.FieldType.long) D tc b z) (hq : q = 10 ∨ q = 17) : ∀ (rec14 : Int32 → Int64 → Int32 → CS → Option (Int64 × CS)), (∀ (v2 : Int32) (v3 : Int64) (v5 : Int32) (σ : CS) (B : Int64 × CS), rec14 v2 v3 v5 σ = some B → P_V_takeUnread_14 q p l e s m args below meth c D tc b z σ0 v2 v3 v5 σ B) → ∀ (v2 : Int32) (v3 : Int64) (v5 : Int32) (σ : CS) (B : Int64 × CS), F_V_takeUnread_14 q rec14 v2 v3 v5 σ = some B → P_V_takeUnread_14 q p l e s m args below meth c D tc b z σ0 v2 v3 v5 σ B := by
  intro rec14 hrec14 v2 v3 v5 σ B h ls H locs cells slots hl hW
  have hx := S.1.1
  have hb := S.1.2.1
  unfold F_V_takeUnread_14 at h
  refine lv_iload hx hb d_V_takeUnread_14 (lv_at hl 3 rfl) ?_
  refine lv_iload_n hx hb d_V_takeUnread_16 rfl (lv_at hl 1 rfl) ?_
  refine rc_ge (tgt := 71) hx hb d_V_takeUnread_17 (by decide) h (fun h => ?_) (fun h => ?_)
  · refine lv_aload_n hx hb d_V_takeUnread_71 rfl (lv_at hl 0 rfl) ?_
    refine lv_dup hx hb d_V_takeUnread_72 rfl ?_
    refine cm_geti kx_V S hW (kV hq) 4 wd_258 (by decide) d_V_takeUnread_73 h (fun x1 h => ?_)
    refine lv_iload_n hx hb d_V_takeUnread_76 rfl (lv_at hl 1 rfl) ?_
    refine lv_isub hx hb d_V_takeUnread_77 ?_
    refine cm_puti kx_V S hW (kV hq) 4 wd_258 (by decide) d_V_takeUnread_78 h (fun r2 H locs h hW => ?_)
    refine lv_iload_n hx hb d_V_takeUnread_81 rfl (lv_at hl 1 rfl) ?_
    refine lv_i2l hx hb d_V_takeUnread_82 rfl ?_
    refine lv_bipush (v := 56) hx hb d_V_takeUnread_83 (by decide) ?_
    refine lv_lshl hx hb d_V_takeUnread_85 rfl ?_
    refine lv_lload_n hx hb d_V_takeUnread_86 rfl (lv_at hl 2 rfl) ?_
    refine lv_lor hx hb d_V_takeUnread_87 ?_
    exact cm_lret S hW d_V_takeUnread_88 h
  · refine lv_aload_n hx hb d_V_takeUnread_20 rfl (lv_at hl 0 rfl) ?_
    refine cm_geti kx_V S hW (kV hq) 7 wd_264 (by decide) d_V_takeUnread_21 h (fun x3 h => ?_)
    refine lv_ldc hx hb S.1.2.2.2.1 (S.1.2.2.2.2 _ (gi wd_250 rfl)) d_V_takeUnread_24 ?_
    refine lv_iand hx hb d_V_takeUnread_26 ?_
    refine rv_i h (fun x4 h => ?_)
    refine lv_istore (lv' := [(6, .int x4), (0, .ref (b + q)), (2, .int v2), (3, .long v3), (5, .int v5)]) hx hb d_V_takeUnread_27 hl (by decide) rfl (fun ls hl => ?_)
    refine lv_lload_n hx hb d_V_takeUnread_29 rfl (lv_at hl 3 rfl) ?_
    refine lv_bipush (v := 8) hx hb d_V_takeUnread_30 (by decide) ?_
    refine lv_lshl hx hb d_V_takeUnread_32 rfl ?_
    refine lv_aload_n hx hb d_V_takeUnread_33 rfl (lv_at hl 1 rfl) ?_
    refine cm_getr kx_V S hW (kV hq) 6 wd_263 (by decide) d_V_takeUnread_34 h (fun a5 h => ?_)
    refine lv_iload hx hb d_V_takeUnread_37 (lv_at hl 0 rfl) ?_
    refine cm_sald S hW d_V_takeUnread_39 h (fun x6 h => ?_)
    refine lv_sipush (v := 255) hx hb d_V_takeUnread_40 (by decide) ?_
    refine lv_iand hx hb d_V_takeUnread_43 ?_
    refine lv_i2l hx hb d_V_takeUnread_44 rfl ?_
    refine lv_lor hx hb d_V_takeUnread_45 ?_
    refine rv_l h (fun x7 h => ?_)
    refine lv_lstore_n (lv' := [(3, .long x7), (6, .int x4), (0, .ref (b + q)), (2, .int v2), (5, .int v5)]) hx hb d_V_takeUnread_46 rfl hl (by decide) rfl (fun ls hl => ?_)
    refine lv_aload_n hx hb d_V_takeUnread_47 rfl (lv_at hl 2 rfl) ?_
    refine cm_getr kx_V S hW (kV hq) 6 wd_263 (by decide) d_V_takeUnread_48 h (fun a8 h => ?_)
    refine lv_iload hx hb d_V_takeUnread_51 (lv_at hl 1 rfl) ?_
    refine lv_iconst (v := 0) hx hb d_V_takeUnread_53 (by decide) ?_
    refine cm_sast S hW d_V_takeUnread_54 h (fun r9 H locs h hW => ?_)
    refine lv_aload_n hx hb d_V_takeUnread_55 rfl (lv_at hl 2 rfl) ?_
    refine lv_dup hx hb d_V_takeUnread_56 rfl ?_
    refine cm_geti kx_V S hW (kV hq) 7 wd_264 (by decide) d_V_takeUnread_57 h (fun x10 h => ?_)
    refine lv_iconst (v := 1) hx hb d_V_takeUnread_60 (by decide) ?_
    refine lv_iadd hx hb d_V_takeUnread_61 ?_
    refine cm_puti kx_V S hW (kV hq) 7 wd_264 (by decide) d_V_takeUnread_62 h (fun r11 H locs h hW => ?_)
    refine rv_iinc (k := 4) (v := 1) (lv' := fun x12 => [(5, .int x12), (3, .long x7), (6, .int x4), (0, .ref (b + q)), (2, .int v2)]) hx hb d_V_takeUnread_65 hl rfl (by decide) (by decide) (fun _ => rfl) h (fun x12 ls h hl => ?_)
    refine lv_goto (tgt := 14) hx hb d_V_takeUnread_68 (by decide) ?_
    exact hrec14 v2 x7 x12 r11 _ h _ _ _ _ _ (lv_sub hl [3, 4, 1, 0] rfl) hW
theorem t_V_takeUnread_14 {q : Nat} (S : CC p m c k_V_takeUnread 7 s args cn_V meth (Option.some Jvm.ClassFile.FieldType.long) D tc b z) (hq : q = 10 ∨ q = 17) : ∀ (n : Nat) (v2 : Int32) (v3 : Int64) (v5 : Int32) (σ : CS) (B : Int64 × CS), lq4 (F_V_takeUnread_14 q) n v2 v3 v5 σ = some B → P_V_takeUnread_14 q p l e s m args below meth c D tc b z σ0 v2 v3 v5 σ B := lq4_s (tF_V_takeUnread_14 S hq)
theorem t_V_takeUnread_0 (S : CC p m c k_V_takeUnread 7 s args cn_V meth (Option.some Jvm.ClassFile.FieldType.long) D tc b z) (q : Nat) (v1 : Int32) (σ : CS) {B : Int64 × CS} (h : m_V_takeUnread q v1 σ = some B) {ls : Array Slot} {H : Heap} {locs : List Loc} {cells slots : Nat} (hl : lv_has ls 7 [(0, .ref (b + q)), (1, .int v1)]) (hW : CWS D tc b z s σ0 σ H locs cells slots) : W p l e (CR 1 24 σ0) s m args below meth c H locs cells slots (CE D tc b z below args s σ0 (some (.long B.1)) B.2) (F0 m 0 ls []) := by
  have hx := S.1.1
  have hb := S.1.2.1
  unfold m_V_takeUnread at h
  obtain ⟨hq, h⟩ := gd_s h
  refine lv_iload_n hx hb d_V_takeUnread_0 rfl (lv_at hl 1 rfl) ?_
  refine lv_aload_n hx hb d_V_takeUnread_1 rfl (lv_at hl 0 rfl) ?_
  refine cm_geti kx_V S hW (kV hq) 4 wd_258 (by decide) d_V_takeUnread_2 h (fun x1 h => ?_)
  refine cm_jmin S hW wd_871 wd_506 wd_96 wd_507 hl.1 (by decide) (Nat.le_of_ble_eq_true rfl) d_V_takeUnread_5 ?_
  refine rv_i h (fun x2 h => ?_)
  refine lv_istore_n (lv' := [(2, .int x2), (0, .ref (b + q)), (1, .int v1)]) hx hb d_V_takeUnread_8 rfl hl (by decide) rfl (fun ls hl => ?_)
  refine lv_lconst (v := 0) hx hb d_V_takeUnread_9 (by decide) ?_
  refine lv_lstore_n (lv' := [(3, .long (0 : Int64)), (2, .int x2), (0, .ref (b + q)), (1, .int v1)]) hx hb d_V_takeUnread_10 rfl hl (by decide) rfl (fun ls hl => ?_)
  refine lv_iconst (v := 0) hx hb d_V_takeUnread_11 (by decide) ?_
  refine lv_istore (lv' := [(5, .int (0 : Int32)), (3, .long (0 : Int64)), (2, .int x2), (0, .ref (b + q)), (1, .int v1)]) hx hb d_V_takeUnread_12 hl (by decide) rfl (fun ls hl => ?_)
  exact t_V_takeUnread_14 S hq fuel x2 (0 : Int64) (0 : Int32) σ _ h _ _ _ _ _ (lv_sub hl [3, 2, 1, 0] rfl) hW
theorem c_V_takeUnread (q : Nat) (v1 : Int32) (σ : CS) {x : Int64} {σ' : CS} (h : m_V_takeUnread q v1 σ = some (x, σ')) : CMet l D tc b z y_V_takeUnread k_V_takeUnread 7 (Option.some Jvm.ClassFile.FieldType.long) 1 24 [.ref (b + q), .int v1] σ (some (.long x)) σ' := cm_met (by decide) (Nat.le_of_ble_eq_true rfl) fun p e s m args below meth c S hW ls hl => t_V_takeUnread_0 S q v1 σ h hl hW
end
