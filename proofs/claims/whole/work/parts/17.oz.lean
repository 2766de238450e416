/-! StreamPair$Crowd.begin ()V -/
abbrev k_O_begin : ByteArray := prog_4_method_2_code
abbrev y_O_begin : MethodName := ⟨cn_O, "begin", "()V"⟩
theorem q_O_begin : Calee y_O_begin k_O_begin 1 none 0 := ⟨wd_539, wd_89, by decide, by decide +kernel⟩
theorem d_O_begin_0 : decode k_O_begin 0 = .ok (.aload_n 0, 1) := by decide +kernel
theorem d_O_begin_1 : decode k_O_begin 1 = .ok (.iconst 0, 1) := by decide +kernel
theorem d_O_begin_2 : decode k_O_begin 2 = .ok (.putfield 14, 3) := by decide +kernel
theorem d_O_begin_5 : decode k_O_begin 5 = .ok (.aload_n 0, 1) := by decide +kernel
theorem d_O_begin_6 : decode k_O_begin 6 = .ok (.iconst 0, 1) := by decide +kernel
theorem d_O_begin_7 : decode k_O_begin 7 = .ok (.putfield 17, 3) := by decide +kernel
theorem d_O_begin_10 : decode k_O_begin 10 = .ok (.aload_n 0, 1) := by decide +kernel
theorem d_O_begin_11 : decode k_O_begin 11 = .ok (.ldc 9, 2) := by decide +kernel
theorem d_O_begin_13 : decode k_O_begin 13 = .ok (.putfield 10, 3) := by decide +kernel
theorem d_O_begin_16 : decode k_O_begin 16 = .ok (.aload_n 0, 1) := by decide +kernel
theorem d_O_begin_17 : decode k_O_begin 17 = .ok (.iconst 0, 1) := by decide +kernel
theorem d_O_begin_18 : decode k_O_begin 18 = .ok (.putfield 20, 3) := by decide +kernel
theorem d_O_begin_21 : decode k_O_begin 21 = .ok (.return_, 1) := by decide +kernel
def m_O_begin (q : Nat) (σ : CS) : Option (CS) :=
  gd (q = 13 ∨ q = 20) <| bd (wi σ q 0 (0 : Int32)) fun r1 => bd (wi r1 q 1 (0 : Int32)) fun r2 => bd (wi r2 q 2 (65535 : Int32)) fun r3 => bd (wi r3 q 3 (0 : Int32)) fun r4 => some r4
section
variable {p : Program} {l : Launch} {e : Env} {s : State} {m : MethodId} {args : Array Value} {below : List Frame} {meth : Method} {c : Code} {D : va_G} {tc : Nat → ClassId} {b z : Nat} {σ0 : CS}
theorem t_O_begin_0 (S : CC p m c k_O_begin 1 s args cn_O meth none D tc b z) (q : Nat) (σ : CS) {B : CS} (h : m_O_begin q σ = some B) {ls : Array Slot} {H : Heap} {locs : List Loc} {cells slots : Nat} (hl : lv_has ls 1 [(0, .ref (b + q))]) (hW : CWS D tc b z s σ0 σ H locs cells slots) : W p l e (CR 0 0 σ0) s m args below meth c H locs cells slots (CE D tc b z below args s σ0 none B) (F0 m 0 ls []) := by
  have hx := S.1.1
  have hb := S.1.2.1
  unfold m_O_begin at h
  obtain ⟨hq, h⟩ := gd_s h
  refine lv_aload_n hx hb d_O_begin_0 rfl (lv_at hl 0 rfl) ?_
  refine lv_iconst (v := 0) hx hb d_O_begin_1 (by decide) ?_
  refine cm_puti kx_O S hW (kO hq) 0 wd_332 (by decide) d_O_begin_2 h (fun r1 H locs h hW => ?_)
  refine lv_aload_n hx hb d_O_begin_5 rfl (lv_at hl 0 rfl) ?_
  refine lv_iconst (v := 0) hx hb d_O_begin_6 (by decide) ?_
  refine cm_puti kx_O S hW (kO hq) 1 wd_334 (by decide) d_O_begin_7 h (fun r2 H locs h hW => ?_)
  refine lv_aload_n hx hb d_O_begin_10 rfl (lv_at hl 0 rfl) ?_
  refine lv_ldc hx hb S.1.2.2.2.1 (S.1.2.2.2.2 _ (gi wd_331 rfl)) d_O_begin_11 ?_
  refine cm_puti kx_O S hW (kO hq) 2 wd_336 (by decide) d_O_begin_13 h (fun r3 H locs h hW => ?_)
  refine lv_aload_n hx hb d_O_begin_16 rfl (lv_at hl 0 rfl) ?_
  refine lv_iconst (v := 0) hx hb d_O_begin_17 (by decide) ?_
  refine cm_puti kx_O S hW (kO hq) 3 wd_338 (by decide) d_O_begin_18 h (fun r4 H locs h hW => ?_)
  exact cm_vret S hW d_O_begin_21 h
theorem c_O_begin (q : Nat) (σ : CS) {B : CS} (h : m_O_begin q σ = some B) : CMet l D tc b z y_O_begin k_O_begin 1 none 0 0 [.ref (b + q)] σ none B := cm_met (by decide) (Nat.le_of_ble_eq_true rfl) fun p e s m args below meth c S hW ls hl => t_O_begin_0 S q σ h hl hW
end

/-! StreamPair$Crowd.heedMss (II)V -/
abbrev k_O_heedMss : ByteArray := prog_4_method_3_code
abbrev y_O_heedMss : MethodName := ⟨cn_O, "heedMss", "(II)V"⟩
theorem q_O_heedMss : Calee y_O_heedMss k_O_heedMss 3 none 2 := ⟨wd_1030, wd_89, by decide, by decide +kernel⟩
theorem d_O_heedMss_0 : decode k_O_heedMss 0 = .ok (.aload_n 0, 1) := by decide +kernel
theorem d_O_heedMss_1 : decode k_O_heedMss 1 = .ok (.iload_n 1, 1) := by decide +kernel
theorem d_O_heedMss_2 : decode k_O_heedMss 2 = .ok (.iload_n 2, 1) := by decide +kernel
theorem d_O_heedMss_3 : decode k_O_heedMss 3 = .ok (.invokestatic 23, 3) := by decide +kernel
theorem d_O_heedMss_6 : decode k_O_heedMss 6 = .ok (.putfield 14, 3) := by decide +kernel
theorem d_O_heedMss_9 : decode k_O_heedMss 9 = .ok (.aload_n 0, 1) := by decide +kernel
theorem d_O_heedMss_10 : decode k_O_heedMss 10 = .ok (.iconst 4, 1) := by decide +kernel
theorem d_O_heedMss_11 : decode k_O_heedMss 11 = .ok (.aload_n 0, 1) := by decide +kernel
theorem d_O_heedMss_12 : decode k_O_heedMss 12 = .ok (.getfield 14, 3) := by decide +kernel
theorem d_O_heedMss_15 : decode k_O_heedMss 15 = .ok (.imul, 1) := by decide +kernel
theorem d_O_heedMss_16 : decode k_O_heedMss 16 = .ok (.putfield 17, 3) := by decide +kernel
theorem d_O_heedMss_19 : decode k_O_heedMss 19 = .ok (.return_, 1) := by decide +kernel
def m_O_heedMss (q : Nat) (v1 : Int32) (v2 : Int32) (σ : CS) : Option (CS) :=
  gd (q = 13 ∨ q = 20) <| bd (if v2 < v1 then v2 else v1) fun x1 => bd (wi σ q 0 x1) fun r2 => bd (cI r2 q 0) fun x3 => bd (wi r2 q 1 ((4 : Int32) * x3)) fun r4 => some r4
section
variable {p : Program} {l : Launch} {e : Env} {s : State} {m : MethodId} {args : Array Value} {below : List Frame} {meth : Method} {c : Code} {D : va_G} {tc : Nat → ClassId} {b z : Nat} {σ0 : CS}
theorem t_O_heedMss_0 (S : CC p m c k_O_heedMss 3 s args cn_O meth none D tc b z) (q : Nat) (v1 : Int32) (v2 : Int32) (σ : CS) {B : CS} (h : m_O_heedMss q v1 v2 σ = some B) {ls : Array Slot} {H : Heap} {locs : List Loc} {cells slots : Nat} (hl : lv_has ls 3 [(0, .ref (b + q)), (1, .int v1), (2, .int v2)]) (hW : CWS D tc b z s σ0 σ H locs cells slots) : W p l e (CR 1 24 σ0) s m args below meth c H locs cells slots (CE D tc b z below args s σ0 none B) (F0 m 0 ls []) := by
  have hx := S.1.1
  have hb := S.1.2.1
  unfold m_O_heedMss at h
  obtain ⟨hq, h⟩ := gd_s h
  refine lv_aload_n hx hb d_O_heedMss_0 rfl (lv_at hl 0 rfl) ?_
  refine lv_iload_n hx hb d_O_heedMss_1 rfl (lv_at hl 1 rfl) ?_
  refine lv_iload_n hx hb d_O_heedMss_2 rfl (lv_at hl 2 rfl) ?_
  refine cm_jmin S hW wd_1031 wd_506 wd_96 wd_507 hl.1 (by decide) (Nat.le_of_ble_eq_true rfl) d_O_heedMss_3 ?_
  refine rv_i h (fun x1 h => ?_)
  refine cm_puti kx_O S hW (kO hq) 0 wd_332 (by decide) d_O_heedMss_6 h (fun r2 H locs h hW => ?_)
  refine lv_aload_n hx hb d_O_heedMss_9 rfl (lv_at hl 0 rfl) ?_
  refine lv_iconst (v := 4) hx hb d_O_heedMss_10 (by decide) ?_
  refine lv_aload_n hx hb d_O_heedMss_11 rfl (lv_at hl 0 rfl) ?_
  refine cm_geti kx_O S hW (kO hq) 0 wd_332 (by decide) d_O_heedMss_12 h (fun x3 h => ?_)
  refine lv_imul hx hb d_O_heedMss_15 ?_
  refine cm_puti kx_O S hW (kO hq) 1 wd_334 (by decide) d_O_heedMss_16 h (fun r4 H locs h hW => ?_)
  exact cm_vret S hW d_O_heedMss_19 h
theorem c_O_heedMss (q : Nat) (v1 : Int32) (v2 : Int32) (σ : CS) {B : CS} (h : m_O_heedMss q v1 v2 σ = some B) : CMet l D tc b z y_O_heedMss k_O_heedMss 3 none 1 24 [.ref (b + q), .int v1, .int v2] σ none B := cm_met (by decide) (Nat.le_of_ble_eq_true rfl) fun p e s m args below meth c S hW ls hl => t_O_heedMss_0 S q v1 v2 σ h hl hW
end

/-! StreamPair$Crowd.grow (I)V -/
abbrev k_O_grow : ByteArray := prog_4_method_4_code
abbrev y_O_grow : MethodName := ⟨cn_O, "grow", "(I)V"⟩
theorem q_O_grow : Calee y_O_grow k_O_grow 3 none 1 := ⟨wd_1102, wd_89, by decide, by decide +kernel⟩
theorem d_O_grow_0 : decode k_O_grow 0 = .ok (.aload_n 0, 1) := by decide +kernel
theorem d_O_grow_1 : decode k_O_grow 1 = .ok (.getfield 17, 3) := by decide +kernel
theorem d_O_grow_4 : decode k_O_grow 4 = .ok (.aload_n 0, 1) := by decide +kernel
theorem d_O_grow_5 : decode k_O_grow 5 = .ok (.getfield 10, 3) := by decide +kernel
theorem d_O_grow_8 : decode k_O_grow 8 = .ok (.if_icmp .ge 15, 3) := by decide +kernel
theorem d_O_grow_11 : decode k_O_grow 11 = .ok (.iload_n 1, 1) := by decide +kernel
theorem d_O_grow_12 : decode k_O_grow 12 = .ok (.aload_n 0, 1) := by decide +kernel
theorem d_O_grow_13 : decode k_O_grow 13 = .ok (.getfield 14, 3) := by decide +kernel
theorem d_O_grow_16 : decode k_O_grow 16 = .ok (.invokestatic 23, 3) := by decide +kernel
theorem d_O_grow_19 : decode k_O_grow 19 = .ok (.istore_n 2, 1) := by decide +kernel
theorem d_O_grow_20 : decode k_O_grow 20 = .ok (.goto 33, 3) := by decide +kernel
theorem d_O_grow_23 : decode k_O_grow 23 = .ok (.aload_n 0, 1) := by decide +kernel
theorem d_O_grow_24 : decode k_O_grow 24 = .ok (.getfield 17, 3) := by decide +kernel
theorem d_O_grow_27 : decode k_O_grow 27 = .ok (.ifCond .le 24, 3) := by decide +kernel
theorem d_O_grow_30 : decode k_O_grow 30 = .ok (.aload_n 0, 1) := by decide +kernel
theorem d_O_grow_31 : decode k_O_grow 31 = .ok (.getfield 14, 3) := by decide +kernel
theorem d_O_grow_34 : decode k_O_grow 34 = .ok (.aload_n 0, 1) := by decide +kernel
theorem d_O_grow_35 : decode k_O_grow 35 = .ok (.getfield 14, 3) := by decide +kernel
theorem d_O_grow_38 : decode k_O_grow 38 = .ok (.imul, 1) := by decide +kernel
theorem d_O_grow_39 : decode k_O_grow 39 = .ok (.aload_n 0, 1) := by decide +kernel
theorem d_O_grow_40 : decode k_O_grow 40 = .ok (.getfield 17, 3) := by decide +kernel
theorem d_O_grow_43 : decode k_O_grow 43 = .ok (.idiv, 1) := by decide +kernel
theorem d_O_grow_44 : decode k_O_grow 44 = .ok (.iconst 1, 1) := by decide +kernel
theorem d_O_grow_45 : decode k_O_grow 45 = .ok (.invokestatic 29, 3) := by decide +kernel
theorem d_O_grow_48 : decode k_O_grow 48 = .ok (.goto 4, 3) := by decide +kernel
theorem d_O_grow_51 : decode k_O_grow 51 = .ok (.iconst 1, 1) := by decide +kernel
theorem d_O_grow_52 : decode k_O_grow 52 = .ok (.istore_n 2, 1) := by decide +kernel
theorem d_O_grow_53 : decode k_O_grow 53 = .ok (.aload_n 0, 1) := by decide +kernel
theorem d_O_grow_54 : decode k_O_grow 54 = .ok (.aload_n 0, 1) := by decide +kernel
theorem d_O_grow_55 : decode k_O_grow 55 = .ok (.getfield 17, 3) := by decide +kernel
theorem d_O_grow_58 : decode k_O_grow 58 = .ok (.iload_n 2, 1) := by decide +kernel
theorem d_O_grow_59 : decode k_O_grow 59 = .ok (.iadd, 1) := by decide +kernel
theorem d_O_grow_60 : decode k_O_grow 60 = .ok (.ldc 32, 2) := by decide +kernel
theorem d_O_grow_62 : decode k_O_grow 62 = .ok (.invokestatic 23, 3) := by decide +kernel
theorem d_O_grow_65 : decode k_O_grow 65 = .ok (.putfield 17, 3) := by decide +kernel
theorem d_O_grow_68 : decode k_O_grow 68 = .ok (.return_, 1) := by decide +kernel
def b_O_grow_53 (q : Nat) (v2 : Int32) (σ : CS) : Option (CS) :=
  bd (cI σ q 1) fun x1 => bd (if (1000000 : Int32) < (x1 + v2) then (1000000 : Int32) else (x1 + v2)) fun x2 => bd (wi σ q 1 x2) fun r3 => some r3
def b_O_grow_52 (q : Nat) (w0 : Int32) (σ : CS) : Option (CS) :=
  b_O_grow_53 q w0 σ
def m_O_grow (q : Nat) (v1 : Int32) (σ : CS) : Option (CS) :=
  gd (q = 13 ∨ q = 20) <| bd (cI σ q 1) fun x1 => bd (cI σ q 2) fun x2 => if x2 ≤ x1 then
  (bd (cI σ q 1) fun x3 => if x3 ≤ 0 then
  (b_O_grow_52 q (1 : Int32) σ)
 else
  (bd (cI σ q 0) fun x4 => bd (cI σ q 0) fun x5 => bd (cI σ q 1) fun x6 => gd (¬ x6 = 0) <| bd (if ((x4 * x5) / x6) < (1 : Int32) then (1 : Int32) else ((x4 * x5) / x6)) fun x7 => b_O_grow_52 q x7 σ))
 else
  (bd (cI σ q 0) fun x8 => bd (if x8 < v1 then x8 else v1) fun x9 => b_O_grow_53 q x9 σ)
section
variable {p : Program} {l : Launch} {e : Env} {s : State} {m : MethodId} {args : Array Value} {below : List Frame} {meth : Method} {c : Code} {D : va_G} {tc : Nat → ClassId} {b z : Nat} {σ0 : CS}
theorem t_O_grow_53 {q : Nat} (S : CC p m c k_O_grow 3 s args cn_O meth none D tc b z) (hq : q = 13 ∨ q = 20) (v2 : Int32) (σ : CS) {B : CS} (h : b_O_grow_53 q v2 σ = some B) {ls : Array Slot} {H : Heap} {locs : List Loc} {cells slots : Nat} (hl : lv_has ls 3 [(0, .ref (b + q)), (2, .int v2)]) (hW : CWS D tc b z s σ0 σ H locs cells slots) : W p l e (CR 1 24 σ0) s m args below meth c H locs cells slots (CE D tc b z below args s σ0 none B) (F0 m 53 ls []) := by
  have hx := S.1.1
  have hb := S.1.2.1
  unfold b_O_grow_53 at h
  refine lv_aload_n hx hb d_O_grow_53 rfl (lv_at hl 0 rfl) ?_
  refine lv_aload_n hx hb d_O_grow_54 rfl (lv_at hl 0 rfl) ?_
  refine cm_geti kx_O S hW (kO hq) 1 wd_334 (by decide) d_O_grow_55 h (fun x1 h => ?_)
  refine lv_iload_n hx hb d_O_grow_58 rfl (lv_at hl 1 rfl) ?_
  refine lv_iadd hx hb d_O_grow_59 ?_
  refine lv_ldc hx hb S.1.2.2.2.1 (S.1.2.2.2.2 _ (gi wd_1103 rfl)) d_O_grow_60 ?_
  refine cm_jmin S hW wd_1031 wd_506 wd_96 wd_507 hl.1 (by decide) (Nat.le_of_ble_eq_true rfl) d_O_grow_62 ?_
  refine rv_i h (fun x2 h => ?_)
  refine cm_puti kx_O S hW (kO hq) 1 wd_334 (by decide) d_O_grow_65 h (fun r3 H locs h hW => ?_)
  exact cm_vret S hW d_O_grow_68 h
theorem t_O_grow_52 {q : Nat} (S : CC p m c k_O_grow 3 s args cn_O meth none D tc b z) (hq : q = 13 ∨ q = 20) (w0 : Int32) (σ : CS) {B : CS} (h : b_O_grow_52 q w0 σ = some B) {ls : Array Slot} {H : Heap} {locs : List Loc} {cells slots : Nat} (hl : lv_has ls 3 [(0, .ref (b + q))]) (hW : CWS D tc b z s σ0 σ H locs cells slots) : W p l e (CR 1 24 σ0) s m args below meth c H locs cells slots (CE D tc b z below args s σ0 none B) (F0 m 52 ls [.int w0]) := by
  have hx := S.1.1
  have hb := S.1.2.1
  unfold b_O_grow_52 at h
  refine lv_istore_n (lv' := [(2, .int w0), (0, .ref (b + q))]) hx hb d_O_grow_52 rfl hl (by decide) rfl (fun ls hl => ?_)
  exact t_O_grow_53 S hq w0 σ h (lv_sub hl [1, 0] rfl) hW
theorem t_O_grow_0 (S : CC p m c k_O_grow 3 s args cn_O meth none D tc b z) (q : Nat) (v1 : Int32) (σ : CS) {B : CS} (h : m_O_grow q v1 σ = some B) {ls : Array Slot} {H : Heap} {locs : List Loc} {cells slots : Nat} (hl : lv_has ls 3 [(0, .ref (b + q)), (1, .int v1)]) (hW : CWS D tc b z s σ0 σ H locs cells slots) : W p l e (CR 1 24 σ0) s m args below meth c H locs cells slots (CE D tc b z below args s σ0 none B) (F0 m 0 ls []) := by
  have hx := S.1.1
  have hb := S.1.2.1
  unfold m_O_grow at h
  obtain ⟨hq, h⟩ := gd_s h
  refine lv_aload_n hx hb d_O_grow_0 rfl (lv_at hl 0 rfl) ?_
  refine cm_geti kx_O S hW (kO hq) 1 wd_334 (by decide) d_O_grow_1 h (fun x1 h => ?_)
  refine lv_aload_n hx hb d_O_grow_4 rfl (lv_at hl 0 rfl) ?_
  refine cm_geti kx_O S hW (kO hq) 2 wd_336 (by decide) d_O_grow_5 h (fun x2 h => ?_)
  refine rc_ge (tgt := 23) hx hb d_O_grow_8 (by decide) h (fun h => ?_) (fun h => ?_)
  · refine lv_aload_n hx hb d_O_grow_23 rfl (lv_at hl 0 rfl) ?_
    refine cm_geti kx_O S hW (kO hq) 1 wd_334 (by decide) d_O_grow_24 h (fun x3 h => ?_)
    refine rb_le (tgt := 51) hx hb d_O_grow_27 (by decide) h (fun h => ?_) (fun h => ?_)
    · refine lv_iconst (v := 1) hx hb d_O_grow_51 (by decide) ?_
      exact t_O_grow_52 S hq (1 : Int32) σ h (lv_sub hl [0] rfl) hW
    · refine lv_aload_n hx hb d_O_grow_30 rfl (lv_at hl 0 rfl) ?_
      refine cm_geti kx_O S hW (kO hq) 0 wd_332 (by decide) d_O_grow_31 h (fun x4 h => ?_)
      refine lv_aload_n hx hb d_O_grow_34 rfl (lv_at hl 0 rfl) ?_
      refine cm_geti kx_O S hW (kO hq) 0 wd_332 (by decide) d_O_grow_35 h (fun x5 h => ?_)
      refine lv_imul hx hb d_O_grow_38 ?_
      refine lv_aload_n hx hb d_O_grow_39 rfl (lv_at hl 0 rfl) ?_
      refine cm_geti kx_O S hW (kO hq) 1 wd_334 (by decide) d_O_grow_40 h (fun x6 h => ?_)
      refine rv_idiv hx hb d_O_grow_43 h (fun h => ?_)
      refine lv_iconst (v := 1) hx hb d_O_grow_44 (by decide) ?_
      refine cm_jmax S hW wd_949 wd_469 wd_96 wd_470 hl.1 (by decide) (Nat.le_of_ble_eq_true rfl) d_O_grow_45 ?_
      refine rv_i h (fun x7 h => ?_)
      refine lv_goto (tgt := 52) hx hb d_O_grow_48 (by decide) ?_
      exact t_O_grow_52 S hq x7 σ h (lv_sub hl [0] rfl) hW
  · refine lv_iload_n hx hb d_O_grow_11 rfl (lv_at hl 1 rfl) ?_
    refine lv_aload_n hx hb d_O_grow_12 rfl (lv_at hl 0 rfl) ?_
    refine cm_geti kx_O S hW (kO hq) 0 wd_332 (by decide) d_O_grow_13 h (fun x8 h => ?_)
    refine cm_jmin S hW wd_1031 wd_506 wd_96 wd_507 hl.1 (by decide) (Nat.le_of_ble_eq_true rfl) d_O_grow_16 ?_
    refine rv_i h (fun x9 h => ?_)
    refine lv_istore_n (lv' := [(2, .int x9), (0, .ref (b + q)), (1, .int v1)]) hx hb d_O_grow_19 rfl hl (by decide) rfl (fun ls hl => ?_)
    refine lv_goto (tgt := 53) hx hb d_O_grow_20 (by decide) ?_
    exact t_O_grow_53 S hq x9 σ h (lv_sub hl [1, 0] rfl) hW
theorem c_O_grow (q : Nat) (v1 : Int32) (σ : CS) {B : CS} (h : m_O_grow q v1 σ = some B) : CMet l D tc b z y_O_grow k_O_grow 3 none 1 24 [.ref (b + q), .int v1] σ none B := cm_met (by decide) (Nat.le_of_ble_eq_true rfl) fun p e s m args below meth c S hW ls hl => t_O_grow_0 S q v1 σ h hl hW
end

/-! StreamPair$Crowd.lowered (I)I -/
abbrev k_O_lowered : ByteArray := prog_4_method_7_code
abbrev y_O_lowered : MethodName := ⟨cn_O, "lowered", "(I)I"⟩
theorem q_O_lowered : Calee y_O_lowered k_O_lowered 2 (Option.some Jvm.ClassFile.FieldType.int) 1 := ⟨wd_948, wd_89, by decide, by decide +kernel⟩
theorem d_O_lowered_0 : decode k_O_lowered 0 = .ok (.iload_n 1, 1) := by decide +kernel
theorem d_O_lowered_1 : decode k_O_lowered 1 = .ok (.iconst 2, 1) := by decide +kernel
theorem d_O_lowered_2 : decode k_O_lowered 2 = .ok (.idiv, 1) := by decide +kernel
theorem d_O_lowered_3 : decode k_O_lowered 3 = .ok (.iconst 2, 1) := by decide +kernel
theorem d_O_lowered_4 : decode k_O_lowered 4 = .ok (.aload_n 0, 1) := by decide +kernel
theorem d_O_lowered_5 : decode k_O_lowered 5 = .ok (.getfield 14, 3) := by decide +kernel
theorem d_O_lowered_8 : decode k_O_lowered 8 = .ok (.imul, 1) := by decide +kernel
theorem d_O_lowered_9 : decode k_O_lowered 9 = .ok (.invokestatic 29, 3) := by decide +kernel
theorem d_O_lowered_12 : decode k_O_lowered 12 = .ok (.ireturn, 1) := by decide +kernel
def m_O_lowered (q : Nat) (v1 : Int32) (σ : CS) : Option (Int32 × CS) :=
  gd (q = 13 ∨ q = 20) <| gd (¬ (2 : Int32) = 0) <| bd (cI σ q 0) fun x1 => bd (if (v1 / (2 : Int32)) < ((2 : Int32) * x1) then ((2 : Int32) * x1) else (v1 / (2 : Int32))) fun x2 => some (x2, σ)
section
variable {p : Program} {l : Launch} {e : Env} {s : State} {m : MethodId} {args : Array Value} {below : List Frame} {meth : Method} {c : Code} {D : va_G} {tc : Nat → ClassId} {b z : Nat} {σ0 : CS}
theorem t_O_lowered_0 (S : CC p m c k_O_lowered 2 s args cn_O meth (Option.some Jvm.ClassFile.FieldType.int) D tc b z) (q : Nat) (v1 : Int32) (σ : CS) {B : Int32 × CS} (h : m_O_lowered q v1 σ = some B) {ls : Array Slot} {H : Heap} {locs : List Loc} {cells slots : Nat} (hl : lv_has ls 2 [(0, .ref (b + q)), (1, .int v1)]) (hW : CWS D tc b z s σ0 σ H locs cells slots) : W p l e (CR 1 24 σ0) s m args below meth c H locs cells slots (CE D tc b z below args s σ0 (some (.int B.1)) B.2) (F0 m 0 ls []) := by
  have hx := S.1.1
  have hb := S.1.2.1
  unfold m_O_lowered at h
  obtain ⟨hq, h⟩ := gd_s h
  refine lv_iload_n hx hb d_O_lowered_0 rfl (lv_at hl 1 rfl) ?_
  refine lv_iconst (v := 2) hx hb d_O_lowered_1 (by decide) ?_
  refine rv_idiv hx hb d_O_lowered_2 h (fun h => ?_)
  refine lv_iconst (v := 2) hx hb d_O_lowered_3 (by decide) ?_
  refine lv_aload_n hx hb d_O_lowered_4 rfl (lv_at hl 0 rfl) ?_
  refine cm_geti kx_O S hW (kO hq) 0 wd_332 (by decide) d_O_lowered_5 h (fun x1 h => ?_)
  refine lv_imul hx hb d_O_lowered_8 ?_
  refine cm_jmax S hW wd_949 wd_469 wd_96 wd_470 hl.1 (by decide) (Nat.le_of_ble_eq_true rfl) d_O_lowered_9 ?_
  refine rv_i h (fun x2 h => ?_)
  exact cm_iret S hW d_O_lowered_12 h
theorem c_O_lowered (q : Nat) (v1 : Int32) (σ : CS) {x : Int32} {σ' : CS} (h : m_O_lowered q v1 σ = some (x, σ')) : CMet l D tc b z y_O_lowered k_O_lowered 2 (Option.some Jvm.ClassFile.FieldType.int) 1 24 [.ref (b + q), .int v1] σ (some (.int x)) σ' := cm_met (by decide) (Nat.le_of_ble_eq_true rfl) fun p e s m args below meth c S hW ls hl => t_O_lowered_0 S q v1 σ h hl hW
end

/-! StreamPair$Crowd.collapse (I)V -/
abbrev k_O_collapse : ByteArray := prog_4_method_5_code
abbrev y_O_collapse : MethodName := ⟨cn_O, "collapse", "(I)V"⟩
theorem q_O_collapse : Calee y_O_collapse k_O_collapse 2 none 1 := ⟨wd_944, wd_89, by decide, by decide +kernel⟩
theorem d_O_collapse_0 : decode k_O_collapse 0 = .ok (.aload_n 0, 1) := by decide +kernel
theorem d_O_collapse_1 : decode k_O_collapse 1 = .ok (.aload_n 0, 1) := by decide +kernel
theorem d_O_collapse_2 : decode k_O_collapse 2 = .ok (.iload_n 1, 1) := by decide +kernel
theorem d_O_collapse_3 : decode k_O_collapse 3 = .ok (.invokevirtual 33, 3) := by decide +kernel
theorem d_O_collapse_6 : decode k_O_collapse 6 = .ok (.putfield 10, 3) := by decide +kernel
theorem d_O_collapse_9 : decode k_O_collapse 9 = .ok (.aload_n 0, 1) := by decide +kernel
theorem d_O_collapse_10 : decode k_O_collapse 10 = .ok (.aload_n 0, 1) := by decide +kernel
theorem d_O_collapse_11 : decode k_O_collapse 11 = .ok (.getfield 14, 3) := by decide +kernel
theorem d_O_collapse_14 : decode k_O_collapse 14 = .ok (.putfield 17, 3) := by decide +kernel
theorem d_O_collapse_17 : decode k_O_collapse 17 = .ok (.aload_n 0, 1) := by decide +kernel
theorem d_O_collapse_18 : decode k_O_collapse 18 = .ok (.iconst 0, 1) := by decide +kernel
theorem d_O_collapse_19 : decode k_O_collapse 19 = .ok (.putfield 20, 3) := by decide +kernel
theorem d_O_collapse_22 : decode k_O_collapse 22 = .ok (.return_, 1) := by decide +kernel
def m_O_collapse (q : Nat) (v1 : Int32) (σ : CS) : Option (CS) :=
  gd (q = 13 ∨ q = 20) <| bc2 (m_O_lowered q v1 σ) fun x2 r1 => bd (wi r1 q 2 x2) fun r3 => bd (cI r3 q 0) fun x4 => bd (wi r3 q 1 x4) fun r5 => bd (wi r5 q 3 (0 : Int32)) fun r6 => some r6
section
variable {p : Program} {l : Launch} {e : Env} {s : State} {m : MethodId} {args : Array Value} {below : List Frame} {meth : Method} {c : Code} {D : va_G} {tc : Nat → ClassId} {b z : Nat} {σ0 : CS}
theorem t_O_collapse_0 (S : CC p m c k_O_collapse 2 s args cn_O meth none D tc b z) (q : Nat) (v1 : Int32) (σ : CS) {B : CS} (h : m_O_collapse q v1 σ = some B) {ls : Array Slot} {H : Heap} {locs : List Loc} {cells slots : Nat} (hl : lv_has ls 2 [(0, .ref (b + q)), (1, .int v1)]) (hW : CWS D tc b z s σ0 σ H locs cells slots) : W p l e (CR 2 45 σ0) s m args below meth c H locs cells slots (CE D tc b z below args s σ0 none B) (F0 m 0 ls []) := by
  have hx := S.1.1
  have hb := S.1.2.1
  unfold m_O_collapse at h
  obtain ⟨hq, h⟩ := gd_s h
  refine lv_aload_n hx hb d_O_collapse_0 rfl (lv_at hl 0 rfl) ?_
  refine lv_aload_n hx hb d_O_collapse_1 rfl (lv_at hl 0 rfl) ?_
  refine lv_iload_n hx hb d_O_collapse_2 rfl (lv_at hl 1 rfl) ?_
  refine cm_cVi [.int v1] kx_O S hW (kO hq) (fun x σ' hc => c_O_lowered q v1 σ hc) q_O_lowered wd_947 wd_16 wd_945 (by decide) hl.1 rfl rfl (Nat.le_of_ble_eq_true rfl) d_O_collapse_3 h (fun x2 r1 H locs cells slots h hW => ?_)
  refine cm_puti kx_O S hW (kO hq) 2 wd_336 (by decide) d_O_collapse_6 h (fun r3 H locs h hW => ?_)
  refine lv_aload_n hx hb d_O_collapse_9 rfl (lv_at hl 0 rfl) ?_
  refine lv_aload_n hx hb d_O_collapse_10 rfl (lv_at hl 0 rfl) ?_
  refine cm_geti kx_O S hW (kO hq) 0 wd_332 (by decide) d_O_collapse_11 h (fun x4 h => ?_)
  refine cm_puti kx_O S hW (kO hq) 1 wd_334 (by decide) d_O_collapse_14 h (fun r5 H locs h hW => ?_)
  refine lv_aload_n hx hb d_O_collapse_17 rfl (lv_at hl 0 rfl) ?_
  refine lv_iconst (v := 0) hx hb d_O_collapse_18 (by decide) ?_
  refine cm_puti kx_O S hW (kO hq) 3 wd_338 (by decide) d_O_collapse_19 h (fun r6 H locs h hW => ?_)
  exact cm_vret S hW d_O_collapse_22 h
theorem c_O_collapse (q : Nat) (v1 : Int32) (σ : CS) {B : CS} (h : m_O_collapse q v1 σ = some B) : CMet l D tc b z y_O_collapse k_O_collapse 2 none 2 45 [.ref (b + q), .int v1] σ none B := cm_met (by decide) (Nat.le_of_ble_eq_true rfl) fun p e s m args below meth c S hW ls hl => t_O_collapse_0 S q v1 σ h hl hW
end

/-! StreamPair$Crowd.halve (I)V -/
abbrev k_O_halve : ByteArray := prog_4_method_6_code
abbrev y_O_halve : MethodName := ⟨cn_O, "halve", "(I)V"⟩
theorem q_O_halve : Calee y_O_halve k_O_halve 2 none 1 := ⟨wd_1116, wd_89, by decide, by decide +kernel⟩
theorem d_O_halve_0 : decode k_O_halve 0 = .ok (.aload_n 0, 1) := by decide +kernel
theorem d_O_halve_1 : decode k_O_halve 1 = .ok (.aload_n 0, 1) := by decide +kernel
theorem d_O_halve_2 : decode k_O_halve 2 = .ok (.iload_n 1, 1) := by decide +kernel
theorem d_O_halve_3 : decode k_O_halve 3 = .ok (.invokevirtual 33, 3) := by decide +kernel
theorem d_O_halve_6 : decode k_O_halve 6 = .ok (.putfield 10, 3) := by decide +kernel
theorem d_O_halve_9 : decode k_O_halve 9 = .ok (.aload_n 0, 1) := by decide +kernel
theorem d_O_halve_10 : decode k_O_halve 10 = .ok (.aload_n 0, 1) := by decide +kernel
theorem d_O_halve_11 : decode k_O_halve 11 = .ok (.getfield 10, 3) := by decide +kernel
theorem d_O_halve_14 : decode k_O_halve 14 = .ok (.putfield 17, 3) := by decide +kernel
theorem d_O_halve_17 : decode k_O_halve 17 = .ok (.return_, 1) := by decide +kernel
def m_O_halve (q : Nat) (v1 : Int32) (σ : CS) : Option (CS) :=
  gd (q = 13 ∨ q = 20) <| bc2 (m_O_lowered q v1 σ) fun x2 r1 => bd (wi r1 q 2 x2) fun r3 => bd (cI r3 q 2) fun x4 => bd (wi r3 q 1 x4) fun r5 => some r5
section
variable {p : Program} {l : Launch} {e : Env} {s : State} {m : MethodId} {args : Array Value} {below : List Frame} {meth : Method} {c : Code} {D : va_G} {tc : Nat → ClassId} {b z : Nat} {σ0 : CS}
theorem t_O_halve_0 (S : CC p m c k_O_halve 2 s args cn_O meth none D tc b z) (q : Nat) (v1 : Int32) (σ : CS) {B : CS} (h : m_O_halve q v1 σ = some B) {ls : Array Slot} {H : Heap} {locs : List Loc} {cells slots : Nat} (hl : lv_has ls 2 [(0, .ref (b + q)), (1, .int v1)]) (hW : CWS D tc b z s σ0 σ H locs cells slots) : W p l e (CR 2 45 σ0) s m args below meth c H locs cells slots (CE D tc b z below args s σ0 none B) (F0 m 0 ls []) := by
  have hx := S.1.1
  have hb := S.1.2.1
  unfold m_O_halve at h
  obtain ⟨hq, h⟩ := gd_s h
  refine lv_aload_n hx hb d_O_halve_0 rfl (lv_at hl 0 rfl) ?_
  refine lv_aload_n hx hb d_O_halve_1 rfl (lv_at hl 0 rfl) ?_
  refine lv_iload_n hx hb d_O_halve_2 rfl (lv_at hl 1 rfl) ?_
  refine cm_cVi [.int v1] kx_O S hW (kO hq) (fun x σ' hc => c_O_lowered q v1 σ hc) q_O_lowered wd_947 wd_16 wd_945 (by decide) hl.1 rfl rfl (Nat.le_of_ble_eq_true rfl) d_O_halve_3 h (fun x2 r1 H locs cells slots h hW => ?_)
  refine cm_puti kx_O S hW (kO hq) 2 wd_336 (by decide) d_O_halve_6 h (fun r3 H locs h hW => ?_)
  refine lv_aload_n hx hb d_O_halve_9 rfl (lv_at hl 0 rfl) ?_
  refine lv_aload_n hx hb d_O_halve_10 rfl (lv_at hl 0 rfl) ?_
  refine cm_geti kx_O S hW (kO hq) 2 wd_336 (by decide) d_O_halve_11 h (fun x4 h => ?_)
  refine cm_puti kx_O S hW (kO hq) 1 wd_334 (by decide) d_O_halve_14 h (fun r5 H locs h hW => ?_)
  exact cm_vret S hW d_O_halve_17 h
theorem c_O_halve (q : Nat) (v1 : Int32) (σ : CS) {B : CS} (h : m_O_halve q v1 σ = some B) : CMet l D tc b z y_O_halve k_O_halve 2 none 2 45 [.ref (b + q), .int v1] σ none B := cm_met (by decide) (Nat.le_of_ble_eq_true rfl) fun p e s m args below meth c S hW ls hl => t_O_halve_0 S q v1 σ h hl hW
end

/-! StreamPair$Pace.begin ()V -/
abbrev k_Z_begin : ByteArray := prog_7_method_2_code
abbrev y_Z_begin : MethodName := ⟨cn_Z, "begin", "()V"⟩
theorem q_Z_begin : Calee y_Z_begin k_Z_begin 1 none 0 := ⟨wd_535, wd_88, by decide, by decide +kernel⟩
theorem d_Z_begin_0 : decode k_Z_begin 0 = .ok (.aload_n 0, 1) := by decide +kernel
theorem d_Z_begin_1 : decode k_Z_begin 1 = .ok (.sipush 1000, 3) := by decide +kernel
theorem d_Z_begin_4 : decode k_Z_begin 4 = .ok (.putfield 9, 3) := by decide +kernel
theorem d_Z_begin_7 : decode k_Z_begin 7 = .ok (.aload_n 0, 1) := by decide +kernel
theorem d_Z_begin_8 : decode k_Z_begin 8 = .ok (.iconst 0, 1) := by decide +kernel
theorem d_Z_begin_9 : decode k_Z_begin 9 = .ok (.putfield 19, 3) := by decide +kernel
theorem d_Z_begin_12 : decode k_Z_begin 12 = .ok (.aload_n 0, 1) := by decide +kernel
theorem d_Z_begin_13 : decode k_Z_begin 13 = .ok (.iconst 0, 1) := by decide +kernel
theorem d_Z_begin_14 : decode k_Z_begin 14 = .ok (.putfield 22, 3) := by decide +kernel
theorem d_Z_begin_17 : decode k_Z_begin 17 = .ok (.aload_n 0, 1) := by decide +kernel
theorem d_Z_begin_18 : decode k_Z_begin 18 = .ok (.ldc2_w 13, 3) := by decide +kernel
theorem d_Z_begin_21 : decode k_Z_begin 21 = .ok (.putfield 15, 3) := by decide +kernel
theorem d_Z_begin_24 : decode k_Z_begin 24 = .ok (.aload_n 0, 1) := by decide +kernel
theorem d_Z_begin_25 : decode k_Z_begin 25 = .ok (.lconst 0, 1) := by decide +kernel
theorem d_Z_begin_26 : decode k_Z_begin 26 = .ok (.putfield 26, 3) := by decide +kernel
theorem d_Z_begin_29 : decode k_Z_begin 29 = .ok (.aload_n 0, 1) := by decide +kernel
theorem d_Z_begin_30 : decode k_Z_begin 30 = .ok (.iconst 0, 1) := by decide +kernel
theorem d_Z_begin_31 : decode k_Z_begin 31 = .ok (.putfield 29, 3) := by decide +kernel
theorem d_Z_begin_34 : decode k_Z_begin 34 = .ok (.return_, 1) := by decide +kernel
def m_Z_begin (q : Nat) (σ : CS) : Option (CS) :=
  gd (q = 12 ∨ q = 19) <| bd (wi σ q 0 (1000 : Int32)) fun r1 => bd (wi r1 q 1 (0 : Int32)) fun r2 => gd ((0 : Int32) = 0 ∨ (0 : Int32) = 1) <| bd (wi r2 q 2 (0 : Int32)) fun r3 => bd (wl r3 q 4 (-1 : Int64)) fun r4 => bd (wl r4 q 5 (0 : Int64)) fun r5 => gd ((0 : Int32) = 0 ∨ (0 : Int32) = 1) <| bd (wi r5 q 6 (0 : Int32)) fun r6 => some r6
section
variable {p : Program} {l : Launch} {e : Env} {s : State} {m : MethodId} {args : Array Value} {below : List Frame} {meth : Method} {c : Code} {D : va_G} {tc : Nat → ClassId} {b z : Nat} {σ0 : CS}
theorem t_Z_begin_0 (S : CC p m c k_Z_begin 1 s args cn_Z meth none D tc b z) (q : Nat) (σ : CS) {B : CS} (h : m_Z_begin q σ = some B) {ls : Array Slot} {H : Heap} {locs : List Loc} {cells slots : Nat} (hl : lv_has ls 1 [(0, .ref (b + q))]) (hW : CWS D tc b z s σ0 σ H locs cells slots) : W p l e (CR 0 0 σ0) s m args below meth c H locs cells slots (CE D tc b z below args s σ0 none B) (F0 m 0 ls []) := by
  have hx := S.1.1
  have hb := S.1.2.1
  unfold m_Z_begin at h
  obtain ⟨hq, h⟩ := gd_s h
  refine lv_aload_n hx hb d_Z_begin_0 rfl (lv_at hl 0 rfl) ?_
  refine lv_sipush (v := 1000) hx hb d_Z_begin_1 (by decide) ?_
  refine cm_puti kx_Z S hW (kZ hq) 0 wd_290 (by decide) d_Z_begin_4 h (fun r1 H locs h hW => ?_)
  refine lv_aload_n hx hb d_Z_begin_7 rfl (lv_at hl 0 rfl) ?_
  refine lv_iconst (v := 0) hx hb d_Z_begin_8 (by decide) ?_
  refine cm_puti kx_Z S hW (kZ hq) 1 wd_292 (by decide) d_Z_begin_9 h (fun r2 H locs h hW => ?_)
  refine lv_aload_n hx hb d_Z_begin_12 rfl (lv_at hl 0 rfl) ?_
  refine lv_iconst (v := 0) hx hb d_Z_begin_13 (by decide) ?_
  refine cm_putz kx_Z S hW (kZ hq) 2 wd_294 (by decide) d_Z_begin_14 h (fun r3 H locs h hW => ?_)
  refine lv_aload_n hx hb d_Z_begin_17 rfl (lv_at hl 0 rfl) ?_
  refine lv_ldc2 hx hb S.1.2.2.2.1 (S.1.2.2.2.2 _ (gi wd_289 rfl)) d_Z_begin_18 ?_
  refine cm_putl kx_Z S hW (kZ hq) 4 wd_300 (by decide) d_Z_begin_21 h (fun r4 H locs h hW => ?_)
  refine lv_aload_n hx hb d_Z_begin_24 rfl (lv_at hl 0 rfl) ?_
  refine lv_lconst (v := 0) hx hb d_Z_begin_25 (by decide) ?_
  refine cm_putl kx_Z S hW (kZ hq) 5 wd_302 (by decide) d_Z_begin_26 h (fun r5 H locs h hW => ?_)
  refine lv_aload_n hx hb d_Z_begin_29 rfl (lv_at hl 0 rfl) ?_
  refine lv_iconst (v := 0) hx hb d_Z_begin_30 (by decide) ?_
  refine cm_putz kx_Z S hW (kZ hq) 6 wd_303 (by decide) d_Z_begin_31 h (fun r6 H locs h hW => ?_)
  exact cm_vret S hW d_Z_begin_34 h
theorem c_Z_begin (q : Nat) (σ : CS) {B : CS} (h : m_Z_begin q σ = some B) : CMet l D tc b z y_Z_begin k_Z_begin 1 none 0 0 [.ref (b + q)] σ none B := cm_met (by decide) (Nat.le_of_ble_eq_true rfl) fun p e s m args below meth c S hW ls hl => t_Z_begin_0 S q σ h hl hW
end

/-! StreamPair$Pace.startTimer (JI)V -/
abbrev k_Z_startTimer : ByteArray := prog_7_method_3_code
abbrev y_Z_startTimer : MethodName := ⟨cn_Z, "startTimer", "(JI)V"⟩
theorem q_Z_startTimer : Calee y_Z_startTimer k_Z_startTimer 4 none 2 := ⟨wd_643, wd_88, by decide, by decide +kernel⟩
theorem d_Z_startTimer_0 : decode k_Z_startTimer 0 = .ok (.aload_n 0, 1) := by decide +kernel
theorem d_Z_startTimer_1 : decode k_Z_startTimer 1 = .ok (.iconst 1, 1) := by decide +kernel
theorem d_Z_startTimer_2 : decode k_Z_startTimer 2 = .ok (.putfield 22, 3) := by decide +kernel
theorem d_Z_startTimer_5 : decode k_Z_startTimer 5 = .ok (.aload_n 0, 1) := by decide +kernel
theorem d_Z_startTimer_6 : decode k_Z_startTimer 6 = .ok (.lload_n 1, 1) := by decide +kernel
theorem d_Z_startTimer_7 : decode k_Z_startTimer 7 = .ok (.iload_n 3, 1) := by decide +kernel
theorem d_Z_startTimer_8 : decode k_Z_startTimer 8 = .ok (.i2l, 1) := by decide +kernel
theorem d_Z_startTimer_9 : decode k_Z_startTimer 9 = .ok (.ladd, 1) := by decide +kernel
theorem d_Z_startTimer_10 : decode k_Z_startTimer 10 = .ok (.putfield 32, 3) := by decide +kernel
theorem d_Z_startTimer_13 : decode k_Z_startTimer 13 = .ok (.return_, 1) := by decide +kernel
def m_Z_startTimer (q : Nat) (v1 : Int64) (v3 : Int32) (σ : CS) : Option (CS) :=
  gd (q = 12 ∨ q = 19) <| gd ((1 : Int32) = 0 ∨ (1 : Int32) = 1) <| bd (wi σ q 2 (1 : Int32)) fun r1 => bd (wl r1 q 3 (v1 + (v3.toInt64))) fun r2 => some r2
section
variable {p : Program} {l : Launch} {e : Env} {s : State} {m : MethodId} {args : Array Value} {below : List Frame} {meth : Method} {c : Code} {D : va_G} {tc : Nat → ClassId} {b z : Nat} {σ0 : CS}
theorem t_Z_startTimer_0 (S : CC p m c k_Z_startTimer 4 s args cn_Z meth none D tc b z) (q : Nat) (v1 : Int64) (v3 : Int32) (σ : CS) {B : CS} (h : m_Z_startTimer q v1 v3 σ = some B) {ls : Array Slot} {H : Heap} {locs : List Loc} {cells slots : Nat} (hl : lv_has ls 4 [(0, .ref (b + q)), (1, .long v1), (3, .int v3)]) (hW : CWS D tc b z s σ0 σ H locs cells slots) : W p l e (CR 0 0 σ0) s m args below meth c H locs cells slots (CE D tc b z below args s σ0 none B) (F0 m 0 ls []) := by
  have hx := S.1.1
  have hb := S.1.2.1
  unfold m_Z_startTimer at h
  obtain ⟨hq, h⟩ := gd_s h
  refine lv_aload_n hx hb d_Z_startTimer_0 rfl (lv_at hl 0 rfl) ?_
  refine lv_iconst (v := 1) hx hb d_Z_startTimer_1 (by decide) ?_
  refine cm_putz kx_Z S hW (kZ hq) 2 wd_294 (by decide) d_Z_startTimer_2 h (fun r1 H locs h hW => ?_)
  refine lv_aload_n hx hb d_Z_startTimer_5 rfl (lv_at hl 0 rfl) ?_
  refine lv_lload_n hx hb d_Z_startTimer_6 rfl (lv_at hl 1 rfl) ?_
  refine lv_iload_n hx hb d_Z_startTimer_7 rfl (lv_at hl 2 rfl) ?_
  refine lv_i2l hx hb d_Z_startTimer_8 rfl ?_
  refine lv_ladd hx hb d_Z_startTimer_9 ?_
  refine cm_putl kx_Z S hW (kZ hq) 3 wd_297 (by decide) d_Z_startTimer_10 h (fun r2 H locs h hW => ?_)
  exact cm_vret S hW d_Z_startTimer_13 h
theorem c_Z_startTimer (q : Nat) (v1 : Int64) (v3 : Int32) (σ : CS) {B : CS} (h : m_Z_startTimer q v1 v3 σ = some B) : CMet l D tc b z y_Z_startTimer k_Z_startTimer 4 none 0 0 [.ref (b + q), .long v1, .int v3] σ none B := cm_met (by decide) (Nat.le_of_ble_eq_true rfl) fun p e s m args below meth c S hW ls hl => t_Z_startTimer_0 S q v1 v3 σ h hl hW
end

/-! StreamPair$Pace.time (IJ)V -/
abbrev k_Z_time : ByteArray := prog_7_method_4_code
abbrev y_Z_time : MethodName := ⟨cn_Z, "time", "(IJ)V"⟩
theorem q_Z_time : Calee y_Z_time k_Z_time 4 none 2 := ⟨wd_635, wd_88, by decide, by decide +kernel⟩
theorem d_Z_time_0 : decode k_Z_time 0 = .ok (.aload_n 0, 1) := by decide +kernel
theorem d_Z_time_1 : decode k_Z_time 1 = .ok (.getfield 29, 3) := by decide +kernel
theorem d_Z_time_4 : decode k_Z_time 4 = .ok (.ifCond .ne 18, 3) := by decide +kernel
theorem d_Z_time_7 : decode k_Z_time 7 = .ok (.aload_n 0, 1) := by decide +kernel
theorem d_Z_time_8 : decode k_Z_time 8 = .ok (.iconst 1, 1) := by decide +kernel
theorem d_Z_time_9 : decode k_Z_time 9 = .ok (.putfield 29, 3) := by decide +kernel
theorem d_Z_time_12 : decode k_Z_time 12 = .ok (.aload_n 0, 1) := by decide +kernel
theorem d_Z_time_13 : decode k_Z_time 13 = .ok (.iload_n 1, 1) := by decide +kernel
theorem d_Z_time_14 : decode k_Z_time 14 = .ok (.putfield 35, 3) := by decide +kernel
theorem d_Z_time_17 : decode k_Z_time 17 = .ok (.aload_n 0, 1) := by decide +kernel
theorem d_Z_time_18 : decode k_Z_time 18 = .ok (.lload_n 2, 1) := by decide +kernel
theorem d_Z_time_19 : decode k_Z_time 19 = .ok (.putfield 38, 3) := by decide +kernel
theorem d_Z_time_22 : decode k_Z_time 22 = .ok (.return_, 1) := by decide +kernel
def b_Z_time_22 (q : Nat) (σ : CS) : Option (CS) :=
  some σ
def m_Z_time (q : Nat) (v1 : Int32) (v2 : Int64) (σ : CS) : Option (CS) :=
  gd (q = 12 ∨ q = 19) <| bd (cI σ q 6) fun x1 => if x1 = 0 then
  (gd ((1 : Int32) = 0 ∨ (1 : Int32) = 1) <| bd (wi σ q 6 (1 : Int32)) fun r2 => bd (wi r2 q 7 v1) fun r3 => bd (wl r3 q 8 v2) fun r4 => b_Z_time_22 q  r4)
 else
  (b_Z_time_22 q  σ)
section
variable {p : Program} {l : Launch} {e : Env} {s : State} {m : MethodId} {args : Array Value} {below : List Frame} {meth : Method} {c : Code} {D : va_G} {tc : Nat → ClassId} {b z : Nat} {σ0 : CS}
theorem t_Z_time_22 {q : Nat} (S : CC p m c k_Z_time 4 s args cn_Z meth none D tc b z) (hq : q = 12 ∨ q = 19) (σ : CS) {B : CS} (h : b_Z_time_22 q  σ = some B) {ls : Array Slot} {H : Heap} {locs : List Loc} {cells slots : Nat} (hl : lv_has ls 4 []) (hW : CWS D tc b z s σ0 σ H locs cells slots) : W p l e (CR 0 0 σ0) s m args below meth c H locs cells slots (CE D tc b z below args s σ0 none B) (F0 m 22 ls []) := by
  have hx := S.1.1
  have hb := S.1.2.1
  unfold b_Z_time_22 at h
  exact cm_vret S hW d_Z_time_22 h
theorem t_Z_time_0 (S : CC p m c k_Z_time 4 s args cn_Z meth none D tc b z) (q : Nat) (v1 : Int32) (v2 : Int64) (σ : CS) {B : CS} (h : m_Z_time q v1 v2 σ = some B) {ls : Array Slot} {H : Heap} {locs : List Loc} {cells slots : Nat} (hl : lv_has ls 4 [(0, .ref (b + q)), (1, .int v1), (2, .long v2)]) (hW : CWS D tc b z s σ0 σ H locs cells slots) : W p l e (CR 0 0 σ0) s m args below meth c H locs cells slots (CE D tc b z below args s σ0 none B) (F0 m 0 ls []) := by
  have hx := S.1.1
  have hb := S.1.2.1
  unfold m_Z_time at h
  obtain ⟨hq, h⟩ := gd_s h
  refine lv_aload_n hx hb d_Z_time_0 rfl (lv_at hl 0 rfl) ?_
  refine cm_geti kx_Z S hW (kZ hq) 6 wd_303 (by decide) d_Z_time_1 h (fun x1 h => ?_)
  refine rb_ne (tgt := 22) hx hb d_Z_time_4 (by decide) h (fun h => ?_) (fun h => ?_)
  · exact t_Z_time_22 S hq  σ h (lv_sub hl [] rfl) hW
  · refine lv_aload_n hx hb d_Z_time_7 rfl (lv_at hl 0 rfl) ?_
    refine lv_iconst (v := 1) hx hb d_Z_time_8 (by decide) ?_
    refine cm_putz kx_Z S hW (kZ hq) 6 wd_303 (by decide) d_Z_time_9 h (fun r2 H locs h hW => ?_)
    refine lv_aload_n hx hb d_Z_time_12 rfl (lv_at hl 0 rfl) ?_
    refine lv_iload_n hx hb d_Z_time_13 rfl (lv_at hl 1 rfl) ?_
    refine cm_puti kx_Z S hW (kZ hq) 7 wd_304 (by decide) d_Z_time_14 h (fun r3 H locs h hW => ?_)
    refine lv_aload_n hx hb d_Z_time_17 rfl (lv_at hl 0 rfl) ?_
    refine lv_lload_n hx hb d_Z_time_18 rfl (lv_at hl 2 rfl) ?_
    refine cm_putl kx_Z S hW (kZ hq) 8 wd_305 (by decide) d_Z_time_19 h (fun r4 H locs h hW => ?_)
    exact t_Z_time_22 S hq  r4 h (lv_sub hl [] rfl) hW
theorem c_Z_time (q : Nat) (v1 : Int32) (v2 : Int64) (σ : CS) {B : CS} (h : m_Z_time q v1 v2 σ = some B) : CMet l D tc b z y_Z_time k_Z_time 4 none 0 0 [.ref (b + q), .int v1, .long v2] σ none B := cm_met (by decide) (Nat.le_of_ble_eq_true rfl) fun p e s m args below meth c S hW ls hl => t_Z_time_0 S q v1 v2 σ h hl hW
end

/-! StreamPair$Pace.forgetTimed ()V -/
abbrev k_Z_forgetTimed : ByteArray := prog_7_method_5_code
abbrev y_Z_forgetTimed : MethodName := ⟨cn_Z, "forgetTimed", "()V"⟩
theorem q_Z_forgetTimed : Calee y_Z_forgetTimed k_Z_forgetTimed 1 none 0 := ⟨wd_1120, wd_88, by decide, by decide +kernel⟩
theorem d_Z_forgetTimed_0 : decode k_Z_forgetTimed 0 = .ok (.aload_n 0, 1) := by decide +kernel
theorem d_Z_forgetTimed_1 : decode k_Z_forgetTimed 1 = .ok (.iconst 0, 1) := by decide +kernel
theorem d_Z_forgetTimed_2 : decode k_Z_forgetTimed 2 = .ok (.putfield 29, 3) := by decide +kernel
theorem d_Z_forgetTimed_5 : decode k_Z_forgetTimed 5 = .ok (.return_, 1) := by decide +kernel
def m_Z_forgetTimed (q : Nat) (σ : CS) : Option (CS) :=
  gd (q = 12 ∨ q = 19) <| gd ((0 : Int32) = 0 ∨ (0 : Int32) = 1) <| bd (wi σ q 6 (0 : Int32)) fun r1 => some r1
section
variable {p : Program} {l : Launch} {e : Env} {s : State} {m : MethodId} {args : Array Value} {below : List Frame} {meth : Method} {c : Code} {D : va_G} {tc : Nat → ClassId} {b z : Nat} {σ0 : CS}
theorem t_Z_forgetTimed_0 (S : CC p m c k_Z_forgetTimed 1 s args cn_Z meth none D tc b z) (q : Nat) (σ : CS) {B : CS} (h : m_Z_forgetTimed q σ = some B) {ls : Array Slot} {H : Heap} {locs : List Loc} {cells slots : Nat} (hl : lv_has ls 1 [(0, .ref (b + q))]) (hW : CWS D tc b z s σ0 σ H locs cells slots) : W p l e (CR 0 0 σ0) s m args below meth c H locs cells slots (CE D tc b z below args s σ0 none B) (F0 m 0 ls []) := by
  have hx := S.1.1
  have hb := S.1.2.1
  unfold m_Z_forgetTimed at h
  obtain ⟨hq, h⟩ := gd_s h
  refine lv_aload_n hx hb d_Z_forgetTimed_0 rfl (lv_at hl 0 rfl) ?_
  refine lv_iconst (v := 0) hx hb d_Z_forgetTimed_1 (by decide) ?_
  refine cm_putz kx_Z S hW (kZ hq) 6 wd_303 (by decide) d_Z_forgetTimed_2 h (fun r1 H locs h hW => ?_)
  exact cm_vret S hW d_Z_forgetTimed_5 h
theorem c_Z_forgetTimed (q : Nat) (σ : CS) {B : CS} (h : m_Z_forgetTimed q σ = some B) : CMet l D tc b z y_Z_forgetTimed k_Z_forgetTimed 1 none 0 0 [.ref (b + q)] σ none B := cm_met (by decide) (Nat.le_of_ble_eq_true rfl) fun p e s m args below meth c S hW ls hl => t_Z_forgetTimed_0 S q σ h hl hW
end

/-! StreamPair$Pace.measure (J)V -/
abbrev k_Z_measure : ByteArray := prog_7_method_7_code
abbrev y_Z_measure : MethodName := ⟨cn_Z, "measure", "(J)V"⟩
theorem q_Z_measure : Calee y_Z_measure k_Z_measure 3 none 1 := ⟨wd_1049, wd_88, by decide, by decide +kernel⟩
theorem d_Z_measure_0 : decode k_Z_measure 0 = .ok (.aload_n 0, 1) := by decide +kernel
theorem d_Z_measure_1 : decode k_Z_measure 1 = .ok (.getfield 15, 3) := by decide +kernel
theorem d_Z_measure_4 : decode k_Z_measure 4 = .ok (.lconst 0, 1) := by decide +kernel
theorem d_Z_measure_5 : decode k_Z_measure 5 = .ok (.lcmp, 1) := by decide +kernel
theorem d_Z_measure_6 : decode k_Z_measure 6 = .ok (.ifCond .ge 20, 3) := by decide +kernel
theorem d_Z_measure_9 : decode k_Z_measure 9 = .ok (.aload_n 0, 1) := by decide +kernel
theorem d_Z_measure_10 : decode k_Z_measure 10 = .ok (.lload_n 1, 1) := by decide +kernel
theorem d_Z_measure_11 : decode k_Z_measure 11 = .ok (.putfield 15, 3) := by decide +kernel
theorem d_Z_measure_14 : decode k_Z_measure 14 = .ok (.aload_n 0, 1) := by decide +kernel
theorem d_Z_measure_15 : decode k_Z_measure 15 = .ok (.lload_n 1, 1) := by decide +kernel
theorem d_Z_measure_16 : decode k_Z_measure 16 = .ok (.ldc2_w 45, 3) := by decide +kernel
theorem d_Z_measure_19 : decode k_Z_measure 19 = .ok (.ldiv, 1) := by decide +kernel
theorem d_Z_measure_20 : decode k_Z_measure 20 = .ok (.putfield 26, 3) := by decide +kernel
theorem d_Z_measure_23 : decode k_Z_measure 23 = .ok (.goto 47, 3) := by decide +kernel
theorem d_Z_measure_26 : decode k_Z_measure 26 = .ok (.aload_n 0, 1) := by decide +kernel
theorem d_Z_measure_27 : decode k_Z_measure 27 = .ok (.ldc2_w 47, 3) := by decide +kernel
theorem d_Z_measure_30 : decode k_Z_measure 30 = .ok (.aload_n 0, 1) := by decide +kernel
theorem d_Z_measure_31 : decode k_Z_measure 31 = .ok (.getfield 26, 3) := by decide +kernel
theorem d_Z_measure_34 : decode k_Z_measure 34 = .ok (.lmul, 1) := by decide +kernel
theorem d_Z_measure_35 : decode k_Z_measure 35 = .ok (.aload_n 0, 1) := by decide +kernel
theorem d_Z_measure_36 : decode k_Z_measure 36 = .ok (.getfield 15, 3) := by decide +kernel
theorem d_Z_measure_39 : decode k_Z_measure 39 = .ok (.lload_n 1, 1) := by decide +kernel
theorem d_Z_measure_40 : decode k_Z_measure 40 = .ok (.lsub, 1) := by decide +kernel
theorem d_Z_measure_41 : decode k_Z_measure 41 = .ok (.invokestatic 49, 3) := by decide +kernel
theorem d_Z_measure_44 : decode k_Z_measure 44 = .ok (.ladd, 1) := by decide +kernel
theorem d_Z_measure_45 : decode k_Z_measure 45 = .ok (.ldc2_w 55, 3) := by decide +kernel
theorem d_Z_measure_48 : decode k_Z_measure 48 = .ok (.ldiv, 1) := by decide +kernel
theorem d_Z_measure_49 : decode k_Z_measure 49 = .ok (.putfield 26, 3) := by decide +kernel
theorem d_Z_measure_52 : decode k_Z_measure 52 = .ok (.aload_n 0, 1) := by decide +kernel
theorem d_Z_measure_53 : decode k_Z_measure 53 = .ok (.ldc2_w 57, 3) := by decide +kernel
theorem d_Z_measure_56 : decode k_Z_measure 56 = .ok (.aload_n 0, 1) := by decide +kernel
theorem d_Z_measure_57 : decode k_Z_measure 57 = .ok (.getfield 15, 3) := by decide +kernel
theorem d_Z_measure_60 : decode k_Z_measure 60 = .ok (.lmul, 1) := by decide +kernel
theorem d_Z_measure_61 : decode k_Z_measure 61 = .ok (.lload_n 1, 1) := by decide +kernel
theorem d_Z_measure_62 : decode k_Z_measure 62 = .ok (.ladd, 1) := by decide +kernel
theorem d_Z_measure_63 : decode k_Z_measure 63 = .ok (.ldc2_w 59, 3) := by decide +kernel
theorem d_Z_measure_66 : decode k_Z_measure 66 = .ok (.ldiv, 1) := by decide +kernel
theorem d_Z_measure_67 : decode k_Z_measure 67 = .ok (.putfield 15, 3) := by decide +kernel
theorem d_Z_measure_70 : decode k_Z_measure 70 = .ok (.aload_n 0, 1) := by decide +kernel
theorem d_Z_measure_71 : decode k_Z_measure 71 = .ok (.ldc2_w 61, 3) := by decide +kernel
theorem d_Z_measure_74 : decode k_Z_measure 74 = .ok (.ldc2_w 63, 3) := by decide +kernel
theorem d_Z_measure_77 : decode k_Z_measure 77 = .ok (.aload_n 0, 1) := by decide +kernel
theorem d_Z_measure_78 : decode k_Z_measure 78 = .ok (.getfield 15, 3) := by decide +kernel
theorem d_Z_measure_81 : decode k_Z_measure 81 = .ok (.ldc2_w 55, 3) := by decide +kernel
theorem d_Z_measure_84 : decode k_Z_measure 84 = .ok (.aload_n 0, 1) := by decide +kernel
theorem d_Z_measure_85 : decode k_Z_measure 85 = .ok (.getfield 26, 3) := by decide +kernel
theorem d_Z_measure_88 : decode k_Z_measure 88 = .ok (.lmul, 1) := by decide +kernel
theorem d_Z_measure_89 : decode k_Z_measure 89 = .ok (.ladd, 1) := by decide +kernel
theorem d_Z_measure_90 : decode k_Z_measure 90 = .ok (.invokestatic 65, 3) := by decide +kernel
theorem d_Z_measure_93 : decode k_Z_measure 93 = .ok (.invokestatic 69, 3) := by decide +kernel
theorem d_Z_measure_96 : decode k_Z_measure 96 = .ok (.l2i, 1) := by decide +kernel
theorem d_Z_measure_97 : decode k_Z_measure 97 = .ok (.putfield 9, 3) := by decide +kernel
theorem d_Z_measure_100 : decode k_Z_measure 100 = .ok (.return_, 1) := by decide +kernel
def b_Z_measure_70 (q : Nat) (σ : CS) : Option (CS) :=
  bd (cJ σ q 4) fun x1 => bd (cJ σ q 5) fun x2 => bd (if (x1 + ((4 : Int64) * x2)) < (60000 : Int64) then (x1 + ((4 : Int64) * x2)) else (60000 : Int64)) fun x3 => bd (if x3 < (200 : Int64) then (200 : Int64) else x3) fun x4 => bd (wi σ q 0 (x4.toInt32)) fun r5 => some r5
def m_Z_measure (q : Nat) (v1 : Int64) (σ : CS) : Option (CS) :=
  gd (q = 12 ∨ q = 19) <| bd (cJ σ q 4) fun x1 => if 0 ≤ (lg_cmp x1 (0 : Int64)) then
  (bd (cJ σ q 5) fun x2 => bd (cJ σ q 4) fun x3 => bd (if 0 < (x3 - v1) then (x3 - v1) else -(x3 - v1)) fun x4 => gd (¬ (4 : Int64) = 0) <| bd (wl σ q 5 ((((3 : Int64) * x2) + x4) / (4 : Int64))) fun r5 => bd (cJ r5 q 4) fun x6 => gd (¬ (8 : Int64) = 0) <| bd (wl r5 q 4 ((((7 : Int64) * x6) + v1) / (8 : Int64))) fun r7 => b_Z_measure_70 q  r7)
 else
  (bd (wl σ q 4 v1) fun r8 => gd (¬ (2 : Int64) = 0) <| bd (wl r8 q 5 (v1 / (2 : Int64))) fun r9 => b_Z_measure_70 q  r9)
section
variable {p : Program} {l : Launch} {e : Env} {s : State} {m : MethodId} {args : Array Value} {below : List Frame} {meth : Method} {c : Code} {D : va_G} {tc : Nat → ClassId} {b z : Nat} {σ0 : CS}
theorem t_Z_measure_70 {q : Nat} (S : CC p m c k_Z_measure 3 s args cn_Z meth none D tc b z) (hq : q = 12 ∨ q = 19) (σ : CS) {B : CS} (h : b_Z_measure_70 q  σ = some B) {ls : Array Slot} {H : Heap} {locs : List Loc} {cells slots : Nat} (hl : lv_has ls 3 [(0, .ref (b + q))]) (hW : CWS D tc b z s σ0 σ H locs cells slots) : W p l e (CR 1 24 σ0) s m args below meth c H locs cells slots (CE D tc b z below args s σ0 none B) (F0 m 70 ls []) := by
  have hx := S.1.1
  have hb := S.1.2.1
  unfold b_Z_measure_70 at h
  refine lv_aload_n hx hb d_Z_measure_70 rfl (lv_at hl 0 rfl) ?_
  refine lv_ldc2 hx hb S.1.2.2.2.1 (S.1.2.2.2.2 _ (gi wd_1058 rfl)) d_Z_measure_71 ?_
  refine lv_ldc2 hx hb S.1.2.2.2.1 (S.1.2.2.2.2 _ (gi wd_1059 rfl)) d_Z_measure_74 ?_
  refine lv_aload_n hx hb d_Z_measure_77 rfl (lv_at hl 0 rfl) ?_
  refine cm_getl kx_Z S hW (kZ hq) 4 wd_300 (by decide) d_Z_measure_78 h (fun x1 h => ?_)
  refine lv_ldc2 hx hb S.1.2.2.2.1 (S.1.2.2.2.2 _ (gi wd_1055 rfl)) d_Z_measure_81 ?_
  refine lv_aload_n hx hb d_Z_measure_84 rfl (lv_at hl 0 rfl) ?_
  refine cm_getl kx_Z S hW (kZ hq) 5 wd_302 (by decide) d_Z_measure_85 h (fun x2 h => ?_)
  refine lv_lmul hx hb d_Z_measure_88 ?_
  refine lv_ladd hx hb d_Z_measure_89 ?_
  refine cm_jminl S hW wd_1060 wd_1061 wd_96 wd_1062 hl.1 (by decide) (Nat.le_of_ble_eq_true rfl) d_Z_measure_90 ?_
  refine rv_l h (fun x3 h => ?_)
  refine cm_jmaxl S hW wd_1063 wd_1064 wd_96 wd_1065 hl.1 (by decide) (Nat.le_of_ble_eq_true rfl) d_Z_measure_93 ?_
  refine rv_l h (fun x4 h => ?_)
  refine lv_l2i hx hb d_Z_measure_96 rfl ?_
  refine cm_puti kx_Z S hW (kZ hq) 0 wd_290 (by decide) d_Z_measure_97 h (fun r5 H locs h hW => ?_)
  exact cm_vret S hW d_Z_measure_100 h
theorem t_Z_measure_0 (S : CC p m c k_Z_measure 3 s args cn_Z meth none D tc b z) (q : Nat) (v1 : Int64) (σ : CS) {B : CS} (h : m_Z_measure q v1 σ = some B) {ls : Array Slot} {H : Heap} {locs : List Loc} {cells slots : Nat} (hl : lv_has ls 3 [(0, .ref (b + q)), (1, .long v1)]) (hW : CWS D tc b z s σ0 σ H locs cells slots) : W p l e (CR 1 24 σ0) s m args below meth c H locs cells slots (CE D tc b z below args s σ0 none B) (F0 m 0 ls []) := by
  have hx := S.1.1
  have hb := S.1.2.1
  unfold m_Z_measure at h
  obtain ⟨hq, h⟩ := gd_s h
  refine lv_aload_n hx hb d_Z_measure_0 rfl (lv_at hl 0 rfl) ?_
  refine cm_getl kx_Z S hW (kZ hq) 4 wd_300 (by decide) d_Z_measure_1 h (fun x1 h => ?_)
  refine lv_lconst (v := 0) hx hb d_Z_measure_4 (by decide) ?_
  refine W.lcmp hx hb d_Z_measure_5 ?_
  refine rb_ge (tgt := 26) hx hb d_Z_measure_6 (by decide) h (fun h => ?_) (fun h => ?_)
  · refine lv_aload_n hx hb d_Z_measure_26 rfl (lv_at hl 0 rfl) ?_
    refine lv_ldc2 hx hb S.1.2.2.2.1 (S.1.2.2.2.2 _ (gi wd_1051 rfl)) d_Z_measure_27 ?_
    refine lv_aload_n hx hb d_Z_measure_30 rfl (lv_at hl 0 rfl) ?_
    refine cm_getl kx_Z S hW (kZ hq) 5 wd_302 (by decide) d_Z_measure_31 h (fun x2 h => ?_)
    refine lv_lmul hx hb d_Z_measure_34 ?_
    refine lv_aload_n hx hb d_Z_measure_35 rfl (lv_at hl 0 rfl) ?_
    refine cm_getl kx_Z S hW (kZ hq) 4 wd_300 (by decide) d_Z_measure_36 h (fun x3 h => ?_)
    refine lv_lload_n hx hb d_Z_measure_39 rfl (lv_at hl 1 rfl) ?_
    refine lv_lsub hx hb d_Z_measure_40 ?_
    refine cm_jabsl S hW wd_1052 wd_1053 wd_96 wd_1054 hl.1 (by decide) (Nat.le_of_ble_eq_true rfl) d_Z_measure_41 ?_
    refine rv_l h (fun x4 h => ?_)
    refine lv_ladd hx hb d_Z_measure_44 ?_
    refine lv_ldc2 hx hb S.1.2.2.2.1 (S.1.2.2.2.2 _ (gi wd_1055 rfl)) d_Z_measure_45 ?_
    refine rv_ldiv hx hb d_Z_measure_48 h (fun h => ?_)
    refine cm_putl kx_Z S hW (kZ hq) 5 wd_302 (by decide) d_Z_measure_49 h (fun r5 H locs h hW => ?_)
    refine lv_aload_n hx hb d_Z_measure_52 rfl (lv_at hl 0 rfl) ?_
    refine lv_ldc2 hx hb S.1.2.2.2.1 (S.1.2.2.2.2 _ (gi wd_1056 rfl)) d_Z_measure_53 ?_
    refine lv_aload_n hx hb d_Z_measure_56 rfl (lv_at hl 0 rfl) ?_
    refine cm_getl kx_Z S hW (kZ hq) 4 wd_300 (by decide) d_Z_measure_57 h (fun x6 h => ?_)
    refine lv_lmul hx hb d_Z_measure_60 ?_
    refine lv_lload_n hx hb d_Z_measure_61 rfl (lv_at hl 1 rfl) ?_
    refine lv_ladd hx hb d_Z_measure_62 ?_
    refine lv_ldc2 hx hb S.1.2.2.2.1 (S.1.2.2.2.2 _ (gi wd_1057 rfl)) d_Z_measure_63 ?_
    refine rv_ldiv hx hb d_Z_measure_66 h (fun h => ?_)
    refine cm_putl kx_Z S hW (kZ hq) 4 wd_300 (by decide) d_Z_measure_67 h (fun r7 H locs h hW => ?_)
    exact t_Z_measure_70 S hq  r7 h (lv_sub hl [0] rfl) hW
  · refine lv_aload_n hx hb d_Z_measure_9 rfl (lv_at hl 0 rfl) ?_
    refine lv_lload_n hx hb d_Z_measure_10 rfl (lv_at hl 1 rfl) ?_
    refine cm_putl kx_Z S hW (kZ hq) 4 wd_300 (by decide) d_Z_measure_11 h (fun r8 H locs h hW => ?_)
    refine lv_aload_n hx hb d_Z_measure_14 rfl (lv_at hl 0 rfl) ?_
    refine lv_lload_n hx hb d_Z_measure_15 rfl (lv_at hl 1 rfl) ?_
    refine lv_ldc2 hx hb S.1.2.2.2.1 (S.1.2.2.2.2 _ (gi wd_1050 rfl)) d_Z_measure_16 ?_
    refine rv_ldiv hx hb d_Z_measure_19 h (fun h => ?_)
    refine cm_putl kx_Z S hW (kZ hq) 5 wd_302 (by decide) d_Z_measure_20 h (fun r9 H locs h hW => ?_)
    refine lv_goto (tgt := 70) hx hb d_Z_measure_23 (by decide) ?_
    exact t_Z_measure_70 S hq  r9 h (lv_sub hl [0] rfl) hW
theorem c_Z_measure (q : Nat) (v1 : Int64) (σ : CS) {B : CS} (h : m_Z_measure q v1 σ = some B) : CMet l D tc b z y_Z_measure k_Z_measure 3 none 1 24 [.ref (b + q), .long v1] σ none B := cm_met (by decide) (Nat.le_of_ble_eq_true rfl) fun p e s m args below meth c S hW ls hl => t_Z_measure_0 S q v1 σ h hl hW
end

/-! StreamPair$Pace.heedAck (IJ)V -/
abbrev k_Z_heedAck : ByteArray := prog_7_method_6_code
abbrev y_Z_heedAck : MethodName := ⟨cn_Z, "heedAck", "(IJ)V"⟩
theorem q_Z_heedAck : Calee y_Z_heedAck k_Z_heedAck 4 none 2 := ⟨wd_1045, wd_88, by decide, by decide +kernel⟩
theorem d_Z_heedAck_0 : decode k_Z_heedAck 0 = .ok (.aload_n 0, 1) := by decide +kernel
theorem d_Z_heedAck_1 : decode k_Z_heedAck 1 = .ok (.getfield 29, 3) := by decide +kernel
theorem d_Z_heedAck_4 : decode k_Z_heedAck 4 = .ok (.ifCond .eq 27, 3) := by decide +kernel
theorem d_Z_heedAck_7 : decode k_Z_heedAck 7 = .ok (.iload_n 1, 1) := by decide +kernel
theorem d_Z_heedAck_8 : decode k_Z_heedAck 8 = .ok (.aload_n 0, 1) := by decide +kernel
theorem d_Z_heedAck_9 : decode k_Z_heedAck 9 = .ok (.getfield 35, 3) := by decide +kernel
theorem d_Z_heedAck_12 : decode k_Z_heedAck 12 = .ok (.isub, 1) := by decide +kernel
theorem d_Z_heedAck_13 : decode k_Z_heedAck 13 = .ok (.ifCond .lt 18, 3) := by decide +kernel
theorem d_Z_heedAck_16 : decode k_Z_heedAck 16 = .ok (.aload_n 0, 1) := by decide +kernel
theorem d_Z_heedAck_17 : decode k_Z_heedAck 17 = .ok (.iconst 0, 1) := by decide +kernel
theorem d_Z_heedAck_18 : decode k_Z_heedAck 18 = .ok (.putfield 29, 3) := by decide +kernel
theorem d_Z_heedAck_21 : decode k_Z_heedAck 21 = .ok (.aload_n 0, 1) := by decide +kernel
theorem d_Z_heedAck_22 : decode k_Z_heedAck 22 = .ok (.lload_n 2, 1) := by decide +kernel
theorem d_Z_heedAck_23 : decode k_Z_heedAck 23 = .ok (.aload_n 0, 1) := by decide +kernel
theorem d_Z_heedAck_24 : decode k_Z_heedAck 24 = .ok (.getfield 38, 3) := by decide +kernel
theorem d_Z_heedAck_27 : decode k_Z_heedAck 27 = .ok (.lsub, 1) := by decide +kernel
theorem d_Z_heedAck_28 : decode k_Z_heedAck 28 = .ok (.invokevirtual 41, 3) := by decide +kernel
theorem d_Z_heedAck_31 : decode k_Z_heedAck 31 = .ok (.return_, 1) := by decide +kernel
def b_Z_heedAck_31 (q : Nat) (σ : CS) : Option (CS) :=
  some σ
def m_Z_heedAck (q : Nat) (v1 : Int32) (v2 : Int64) (σ : CS) : Option (CS) :=
  gd (q = 12 ∨ q = 19) <| bd (cI σ q 6) fun x1 => if x1 = 0 then
  (b_Z_heedAck_31 q  σ)
 else
  (bd (cI σ q 7) fun x2 => if (v1 - x2) < 0 then
  (b_Z_heedAck_31 q  σ)
 else
  (gd ((0 : Int32) = 0 ∨ (0 : Int32) = 1) <| bd (wi σ q 6 (0 : Int32)) fun r3 => bd (cJ r3 q 8) fun x4 => bc (m_Z_measure q (v2 - x4) r3) fun r5 => b_Z_heedAck_31 q  r5))
section
variable {p : Program} {l : Launch} {e : Env} {s : State} {m : MethodId} {args : Array Value} {below : List Frame} {meth : Method} {c : Code} {D : va_G} {tc : Nat → ClassId} {b z : Nat} {σ0 : CS}
theorem t_Z_heedAck_31 {q : Nat} (S : CC p m c k_Z_heedAck 4 s args cn_Z meth none D tc b z) (hq : q = 12 ∨ q = 19) (σ : CS) {B : CS} (h : b_Z_heedAck_31 q  σ = some B) {ls : Array Slot} {H : Heap} {locs : List Loc} {cells slots : Nat} (hl : lv_has ls 4 []) (hW : CWS D tc b z s σ0 σ H locs cells slots) : W p l e (CR 2 46 σ0) s m args below meth c H locs cells slots (CE D tc b z below args s σ0 none B) (F0 m 31 ls []) := by
  have hx := S.1.1
  have hb := S.1.2.1
  unfold b_Z_heedAck_31 at h
  exact cm_vret S hW d_Z_heedAck_31 h
theorem t_Z_heedAck_0 (S : CC p m c k_Z_heedAck 4 s args cn_Z meth none D tc b z) (q : Nat) (v1 : Int32) (v2 : Int64) (σ : CS) {B : CS} (h : m_Z_heedAck q v1 v2 σ = some B) {ls : Array Slot} {H : Heap} {locs : List Loc} {cells slots : Nat} (hl : lv_has ls 4 [(0, .ref (b + q)), (1, .int v1), (2, .long v2)]) (hW : CWS D tc b z s σ0 σ H locs cells slots) : W p l e (CR 2 46 σ0) s m args below meth c H locs cells slots (CE D tc b z below args s σ0 none B) (F0 m 0 ls []) := by
  have hx := S.1.1
  have hb := S.1.2.1
  unfold m_Z_heedAck at h
  obtain ⟨hq, h⟩ := gd_s h
  refine lv_aload_n hx hb d_Z_heedAck_0 rfl (lv_at hl 0 rfl) ?_
  refine cm_geti kx_Z S hW (kZ hq) 6 wd_303 (by decide) d_Z_heedAck_1 h (fun x1 h => ?_)
  refine rb_eq (tgt := 31) hx hb d_Z_heedAck_4 (by decide) h (fun h => ?_) (fun h => ?_)
  · exact t_Z_heedAck_31 S hq  σ h (lv_sub hl [] rfl) hW
  · refine lv_iload_n hx hb d_Z_heedAck_7 rfl (lv_at hl 1 rfl) ?_
    refine lv_aload_n hx hb d_Z_heedAck_8 rfl (lv_at hl 0 rfl) ?_
    refine cm_geti kx_Z S hW (kZ hq) 7 wd_304 (by decide) d_Z_heedAck_9 h (fun x2 h => ?_)
    refine lv_isub hx hb d_Z_heedAck_12 ?_
    refine rb_lt (tgt := 31) hx hb d_Z_heedAck_13 (by decide) h (fun h => ?_) (fun h => ?_)
    · exact t_Z_heedAck_31 S hq  σ h (lv_sub hl [] rfl) hW
    · refine lv_aload_n hx hb d_Z_heedAck_16 rfl (lv_at hl 0 rfl) ?_
      refine lv_iconst (v := 0) hx hb d_Z_heedAck_17 (by decide) ?_
      refine cm_putz kx_Z S hW (kZ hq) 6 wd_303 (by decide) d_Z_heedAck_18 h (fun r3 H locs h hW => ?_)
      refine lv_aload_n hx hb d_Z_heedAck_21 rfl (lv_at hl 0 rfl) ?_
      refine lv_lload_n hx hb d_Z_heedAck_22 rfl (lv_at hl 2 rfl) ?_
      refine lv_aload_n hx hb d_Z_heedAck_23 rfl (lv_at hl 0 rfl) ?_
      refine cm_getl kx_Z S hW (kZ hq) 8 wd_305 (by decide) d_Z_heedAck_24 h (fun x4 h => ?_)
      refine lv_lsub hx hb d_Z_heedAck_27 ?_
      refine cm_cVv [.long (v2 - x4)] kx_Z S hW (kZ hq) (fun σ' hc => c_Z_measure q (v2 - x4) r3 hc) q_Z_measure wd_1048 wd_22 wd_1046 (by decide) hl.1 rfl rfl (Nat.le_of_ble_eq_true rfl) d_Z_heedAck_28 h (fun r5 H locs cells slots h hW => ?_)
      exact t_Z_heedAck_31 S hq  r5 h (lv_sub hl [] rfl) hW
theorem c_Z_heedAck (q : Nat) (v1 : Int32) (v2 : Int64) (σ : CS) {B : CS} (h : m_Z_heedAck q v1 v2 σ = some B) : CMet l D tc b z y_Z_heedAck k_Z_heedAck 4 none 2 46 [.ref (b + q), .int v1, .long v2] σ none B := cm_met (by decide) (Nat.le_of_ble_eq_true rfl) fun p e s m args below meth c S hW ls hl => t_Z_heedAck_0 S q v1 v2 σ h hl hW
end

/-! StreamPair$Pace.backOff ()V -/
abbrev k_Z_backOff : ByteArray := prog_7_method_8_code
abbrev y_Z_backOff : MethodName := ⟨cn_Z, "backOff", "()V"⟩
theorem q_Z_backOff : Calee y_Z_backOff k_Z_backOff 1 none 0 := ⟨wd_938, wd_88, by decide, by decide +kernel⟩
theorem d_Z_backOff_0 : decode k_Z_backOff 0 = .ok (.aload_n 0, 1) := by decide +kernel
theorem d_Z_backOff_1 : decode k_Z_backOff 1 = .ok (.dup, 1) := by decide +kernel
theorem d_Z_backOff_2 : decode k_Z_backOff 2 = .ok (.getfield 19, 3) := by decide +kernel
theorem d_Z_backOff_5 : decode k_Z_backOff 5 = .ok (.iconst 1, 1) := by decide +kernel
theorem d_Z_backOff_6 : decode k_Z_backOff 6 = .ok (.iadd, 1) := by decide +kernel
theorem d_Z_backOff_7 : decode k_Z_backOff 7 = .ok (.putfield 19, 3) := by decide +kernel
theorem d_Z_backOff_10 : decode k_Z_backOff 10 = .ok (.aload_n 0, 1) := by decide +kernel
theorem d_Z_backOff_11 : decode k_Z_backOff 11 = .ok (.iconst 2, 1) := by decide +kernel
theorem d_Z_backOff_12 : decode k_Z_backOff 12 = .ok (.aload_n 0, 1) := by decide +kernel
theorem d_Z_backOff_13 : decode k_Z_backOff 13 = .ok (.getfield 9, 3) := by decide +kernel
theorem d_Z_backOff_16 : decode k_Z_backOff 16 = .ok (.imul, 1) := by decide +kernel
theorem d_Z_backOff_17 : decode k_Z_backOff 17 = .ok (.ldc 72, 2) := by decide +kernel
theorem d_Z_backOff_19 : decode k_Z_backOff 19 = .ok (.invokestatic 73, 3) := by decide +kernel
theorem d_Z_backOff_22 : decode k_Z_backOff 22 = .ok (.putfield 9, 3) := by decide +kernel
theorem d_Z_backOff_25 : decode k_Z_backOff 25 = .ok (.aload_n 0, 1) := by decide +kernel
theorem d_Z_backOff_26 : decode k_Z_backOff 26 = .ok (.iconst 0, 1) := by decide +kernel
theorem d_Z_backOff_27 : decode k_Z_backOff 27 = .ok (.putfield 29, 3) := by decide +kernel
theorem d_Z_backOff_30 : decode k_Z_backOff 30 = .ok (.return_, 1) := by decide +kernel
def m_Z_backOff (q : Nat) (σ : CS) : Option (CS) :=
  gd (q = 12 ∨ q = 19) <| bd (cI σ q 1) fun x1 => bd (wi σ q 1 (x1 + (1 : Int32))) fun r2 => bd (cI r2 q 0) fun x3 => bd (if (60000 : Int32) < ((2 : Int32) * x3) then (60000 : Int32) else ((2 : Int32) * x3)) fun x4 => bd (wi r2 q 0 x4) fun r5 => gd ((0 : Int32) = 0 ∨ (0 : Int32) = 1) <| bd (wi r5 q 6 (0 : Int32)) fun r6 => some r6
section
variable {p : Program} {l : Launch} {e : Env} {s : State} {m : MethodId} {args : Array Value} {below : List Frame} {meth : Method} {c : Code} {D : va_G} {tc : Nat → ClassId} {b z : Nat} {σ0 : CS}
theorem t_Z_backOff_0 (S : CC p m c k_Z_backOff 1 s args cn_Z meth none D tc b z) (q : Nat) (σ : CS) {B : CS} (h : m_Z_backOff q σ = some B) {ls : Array Slot} {H : Heap} {locs : List Loc} {cells slots : Nat} (hl : lv_has ls 1 [(0, .ref (b + q))]) (hW : CWS D tc b z s σ0 σ H locs cells slots) : W p l e (CR 1 24 σ0) s m args below meth c H locs cells slots (CE D tc b z below args s σ0 none B) (F0 m 0 ls []) := by
  have hx := S.1.1
  have hb := S.1.2.1
  unfold m_Z_backOff at h
  obtain ⟨hq, h⟩ := gd_s h
  refine lv_aload_n hx hb d_Z_backOff_0 rfl (lv_at hl 0 rfl) ?_
  refine lv_dup hx hb d_Z_backOff_1 rfl ?_
  refine cm_geti kx_Z S hW (kZ hq) 1 wd_292 (by decide) d_Z_backOff_2 h (fun x1 h => ?_)
  refine lv_iconst (v := 1) hx hb d_Z_backOff_5 (by decide) ?_
  refine lv_iadd hx hb d_Z_backOff_6 ?_
  refine cm_puti kx_Z S hW (kZ hq) 1 wd_292 (by decide) d_Z_backOff_7 h (fun r2 H locs h hW => ?_)
  refine lv_aload_n hx hb d_Z_backOff_10 rfl (lv_at hl 0 rfl) ?_
  refine lv_iconst (v := 2) hx hb d_Z_backOff_11 (by decide) ?_
  refine lv_aload_n hx hb d_Z_backOff_12 rfl (lv_at hl 0 rfl) ?_
  refine cm_geti kx_Z S hW (kZ hq) 0 wd_290 (by decide) d_Z_backOff_13 h (fun x3 h => ?_)
  refine lv_imul hx hb d_Z_backOff_16 ?_
  refine lv_ldc hx hb S.1.2.2.2.1 (S.1.2.2.2.2 _ (gi wd_939 rfl)) d_Z_backOff_17 ?_
  refine cm_jmin S hW wd_940 wd_506 wd_96 wd_507 hl.1 (by decide) (Nat.le_of_ble_eq_true rfl) d_Z_backOff_19 ?_
  refine rv_i h (fun x4 h => ?_)
  refine cm_puti kx_Z S hW (kZ hq) 0 wd_290 (by decide) d_Z_backOff_22 h (fun r5 H locs h hW => ?_)
  refine lv_aload_n hx hb d_Z_backOff_25 rfl (lv_at hl 0 rfl) ?_
  refine lv_iconst (v := 0) hx hb d_Z_backOff_26 (by decide) ?_
  refine cm_putz kx_Z S hW (kZ hq) 6 wd_303 (by decide) d_Z_backOff_27 h (fun r6 H locs h hW => ?_)
  exact cm_vret S hW d_Z_backOff_30 h
theorem c_Z_backOff (q : Nat) (σ : CS) {B : CS} (h : m_Z_backOff q σ = some B) : CMet l D tc b z y_Z_backOff k_Z_backOff 1 none 1 24 [.ref (b + q)] σ none B := cm_met (by decide) (Nat.le_of_ble_eq_true rfl) fun p e s m args below meth c S hW ls hl => t_Z_backOff_0 S q σ h hl hW
end
