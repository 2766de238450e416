/-! StreamPair$End.begin (IIII)V -/
abbrev k_E_begin : ByteArray := prog_5_method_2_code
abbrev y_E_begin : MethodName := ⟨cn_E, "begin", "(IIII)V"⟩
theorem q_E_begin : Calee y_E_begin k_E_begin 5 none 4 := ⟨wd_520, wd_85, by decide, by decide +kernel⟩
theorem d_E_begin_0 : decode k_E_begin 0 = .ok (.aload_n 0, 1) := by decide +kernel
theorem d_E_begin_1 : decode k_E_begin 1 = .ok (.iload_n 1, 1) := by decide +kernel
theorem d_E_begin_2 : decode k_E_begin 2 = .ok (.putfield 54, 3) := by decide +kernel
theorem d_E_begin_5 : decode k_E_begin 5 = .ok (.aload_n 0, 1) := by decide +kernel
theorem d_E_begin_6 : decode k_E_begin 6 = .ok (.getfield 12, 3) := by decide +kernel
theorem d_E_begin_9 : decode k_E_begin 9 = .ok (.iload_n 2, 1) := by decide +kernel
theorem d_E_begin_10 : decode k_E_begin 10 = .ok (.invokevirtual 57, 3) := by decide +kernel
theorem d_E_begin_13 : decode k_E_begin 13 = .ok (.aload_n 0, 1) := by decide +kernel
theorem d_E_begin_14 : decode k_E_begin 14 = .ok (.getfield 21, 3) := by decide +kernel
theorem d_E_begin_17 : decode k_E_begin 17 = .ok (.invokevirtual 61, 3) := by decide +kernel
theorem d_E_begin_20 : decode k_E_begin 20 = .ok (.aload_n 0, 1) := by decide +kernel
theorem d_E_begin_21 : decode k_E_begin 21 = .ok (.getfield 28, 3) := by decide +kernel
theorem d_E_begin_24 : decode k_E_begin 24 = .ok (.invokevirtual 63, 3) := by decide +kernel
theorem d_E_begin_27 : decode k_E_begin 27 = .ok (.aload_n 0, 1) := by decide +kernel
theorem d_E_begin_28 : decode k_E_begin 28 = .ok (.getfield 35, 3) := by decide +kernel
theorem d_E_begin_31 : decode k_E_begin 31 = .ok (.invokevirtual 64, 3) := by decide +kernel
theorem d_E_begin_34 : decode k_E_begin 34 = .ok (.aload_n 0, 1) := by decide +kernel
theorem d_E_begin_35 : decode k_E_begin 35 = .ok (.iconst 0, 1) := by decide +kernel
theorem d_E_begin_36 : decode k_E_begin 36 = .ok (.putfield 65, 3) := by decide +kernel
theorem d_E_begin_39 : decode k_E_begin 39 = .ok (.aload_n 0, 1) := by decide +kernel
theorem d_E_begin_40 : decode k_E_begin 40 = .ok (.iconst 0, 1) := by decide +kernel
theorem d_E_begin_41 : decode k_E_begin 41 = .ok (.putfield 68, 3) := by decide +kernel
theorem d_E_begin_44 : decode k_E_begin 44 = .ok (.aload_n 0, 1) := by decide +kernel
theorem d_E_begin_45 : decode k_E_begin 45 = .ok (.iconst 0, 1) := by decide +kernel
theorem d_E_begin_46 : decode k_E_begin 46 = .ok (.putfield 71, 3) := by decide +kernel
theorem d_E_begin_49 : decode k_E_begin 49 = .ok (.aload_n 0, 1) := by decide +kernel
theorem d_E_begin_50 : decode k_E_begin 50 = .ok (.iload_n 3, 1) := by decide +kernel
theorem d_E_begin_51 : decode k_E_begin 51 = .ok (.putfield 74, 3) := by decide +kernel
theorem d_E_begin_54 : decode k_E_begin 54 = .ok (.aload_n 0, 1) := by decide +kernel
theorem d_E_begin_55 : decode k_E_begin 55 = .ok (.iload 4, 2) := by decide +kernel
theorem d_E_begin_57 : decode k_E_begin 57 = .ok (.putfield 77, 3) := by decide +kernel
theorem d_E_begin_60 : decode k_E_begin 60 = .ok (.return_, 1) := by decide +kernel
def m_E_begin (q : Nat) (v1 : Int32) (v2 : Int32) (v3 : Int32) (v4 : Int32) (σ : CS) : Option (CS) :=
  gd (q = 7 ∨ q = 14) <| bd (wi σ q 8 v1) fun r1 => bc (m_U_begin (q + 1) v2 r1) fun r2 => bc (m_V_begin (q + 3) r2) fun r3 => bc (m_Z_begin (q + 5) r3) fun r4 => bc (m_O_begin (q + 6) r4) fun r5 => bd (wi r5 q 9 (0 : Int32)) fun r6 => bd (wi r6 q 10 (0 : Int32)) fun r7 => bd (wi r7 q 11 (0 : Int32)) fun r8 => bd (wi r8 q 12 v3) fun r9 => bd (wi r9 q 13 v4) fun r10 => some r10
section
variable {p : Program} {l : Launch} {e : Env} {s : State} {m : MethodId} {args : Array Value} {below : List Frame} {meth : Method} {c : Code} {D : va_G} {tc : Nat → ClassId} {b z : Nat} {σ0 : CS}
theorem t_E_begin_0 (S : CC p m c k_E_begin 5 s args cn_E meth none D tc b z) (q : Nat) (v1 : Int32) (v2 : Int32) (v3 : Int32) (v4 : Int32) (σ : CS) {B : CS} (h : m_E_begin q v1 v2 v3 v4 σ = some B) {ls : Array Slot} {H : Heap} {locs : List Loc} {cells slots : Nat} (hl : lv_has ls 5 [(0, .ref (b + q)), (1, .int v1), (2, .int v2), (3, .int v3), (4, .int v4)]) (hW : CWS D tc b z s σ0 σ H locs cells slots) : W p l e (CR 2 43 σ0) s m args below meth c H locs cells slots (CE D tc b z below args s σ0 none B) (F0 m 0 ls []) := by
  have hx := S.1.1
  have hb := S.1.2.1
  unfold m_E_begin at h
  obtain ⟨hq, h⟩ := gd_s h
  refine lv_aload_n hx hb d_E_begin_0 rfl (lv_at hl 0 rfl) ?_
  refine lv_iload_n hx hb d_E_begin_1 rfl (lv_at hl 1 rfl) ?_
  refine cm_puti kx_E S hW (kE hq) 8 wd_362 (by decide) d_E_begin_2 h (fun r1 H locs h hW => ?_)
  refine lv_aload_n hx hb d_E_begin_5 rfl (lv_at hl 0 rfl) ?_
  refine cm_getf kx_E S hW (kE hq) 3 (q + 1) rfl wd_353 (by decide) d_E_begin_6 ?_
  refine lv_iload_n hx hb d_E_begin_9 rfl (lv_at hl 2 rfl) ?_
  refine cm_cVv [.int v2] kx_U S hW (kEU hq) (fun σ' hc => c_U_begin (q + 1) v2 r1 hc) q_U_begin wd_522 wd_523 wd_521 (by decide) hl.1 rfl rfl (Nat.le_of_ble_eq_true rfl) d_E_begin_10 h (fun r2 H locs cells slots h hW => ?_)
  refine lv_aload_n hx hb d_E_begin_13 rfl (lv_at hl 0 rfl) ?_
  refine cm_getf kx_E S hW (kE hq) 4 (q + 3) rfl wd_355 (by decide) d_E_begin_14 ?_
  refine cm_cVv [] kx_V S hW (kEV hq) (fun σ' hc => c_V_begin (q + 3) r2 hc) q_V_begin wd_526 wd_527 wd_525 (by decide) hl.1 rfl rfl (Nat.le_of_ble_eq_true rfl) d_E_begin_17 h (fun r3 H locs cells slots h hW => ?_)
  refine lv_aload_n hx hb d_E_begin_20 rfl (lv_at hl 0 rfl) ?_
  refine cm_getf kx_E S hW (kE hq) 5 (q + 5) rfl wd_357 (by decide) d_E_begin_21 ?_
  refine cm_cVv [] kx_Z S hW (kEZ hq) (fun σ' hc => c_Z_begin (q + 5) r3 hc) q_Z_begin wd_533 wd_534 wd_532 (by decide) hl.1 rfl rfl (Nat.le_of_ble_eq_true rfl) d_E_begin_24 h (fun r4 H locs cells slots h hW => ?_)
  refine lv_aload_n hx hb d_E_begin_27 rfl (lv_at hl 0 rfl) ?_
  refine cm_getf kx_E S hW (kE hq) 6 (q + 6) rfl wd_359 (by decide) d_E_begin_28 ?_
  refine cm_cVv [] kx_O S hW (kEO hq) (fun σ' hc => c_O_begin (q + 6) r4 hc) q_O_begin wd_537 wd_538 wd_536 (by decide) hl.1 rfl rfl (Nat.le_of_ble_eq_true rfl) d_E_begin_31 h (fun r5 H locs cells slots h hW => ?_)
  refine lv_aload_n hx hb d_E_begin_34 rfl (lv_at hl 0 rfl) ?_
  refine lv_iconst (v := 0) hx hb d_E_begin_35 (by decide) ?_
  refine cm_puti kx_E S hW (kE hq) 9 wd_364 (by decide) d_E_begin_36 h (fun r6 H locs h hW => ?_)
  refine lv_aload_n hx hb d_E_begin_39 rfl (lv_at hl 0 rfl) ?_
  refine lv_iconst (v := 0) hx hb d_E_begin_40 (by decide) ?_
  refine cm_puti kx_E S hW (kE hq) 10 wd_366 (by decide) d_E_begin_41 h (fun r7 H locs h hW => ?_)
  refine lv_aload_n hx hb d_E_begin_44 rfl (lv_at hl 0 rfl) ?_
  refine lv_iconst (v := 0) hx hb d_E_begin_45 (by decide) ?_
  refine cm_puti kx_E S hW (kE hq) 11 wd_367 (by decide) d_E_begin_46 h (fun r8 H locs h hW => ?_)
  refine lv_aload_n hx hb d_E_begin_49 rfl (lv_at hl 0 rfl) ?_
  refine lv_iload_n hx hb d_E_begin_50 rfl (lv_at hl 3 rfl) ?_
  refine cm_puti kx_E S hW (kE hq) 12 wd_368 (by decide) d_E_begin_51 h (fun r9 H locs h hW => ?_)
  refine lv_aload_n hx hb d_E_begin_54 rfl (lv_at hl 0 rfl) ?_
  refine lv_iload hx hb d_E_begin_55 (lv_at hl 4 rfl) ?_
  refine cm_puti kx_E S hW (kE hq) 13 wd_369 (by decide) d_E_begin_57 h (fun r10 H locs h hW => ?_)
  exact cm_vret S hW d_E_begin_60 h
theorem c_E_begin (q : Nat) (v1 : Int32) (v2 : Int32) (v3 : Int32) (v4 : Int32) (σ : CS) {B : CS} (h : m_E_begin q v1 v2 v3 v4 σ = some B) : CMet l D tc b z y_E_begin k_E_begin 5 none 2 43 [.ref (b + q), .int v1, .int v2, .int v3, .int v4] σ none B := cm_met (by decide) (Nat.le_of_ble_eq_true rfl) fun p e s m args below meth c S hW ls hl => t_E_begin_0 S q v1 v2 v3 v4 σ h hl hW
end

/-! StreamPair$End.mayClose ()Z -/
abbrev k_E_mayClose : ByteArray := prog_5_method_3_code
abbrev y_E_mayClose : MethodName := ⟨cn_E, "mayClose", "()Z"⟩
theorem q_E_mayClose : Calee y_E_mayClose k_E_mayClose 1 (Option.some Jvm.ClassFile.FieldType.boolean) 0 := ⟨wd_896, wd_85, by decide, by decide +kernel⟩
theorem d_E_mayClose_0 : decode k_E_mayClose 0 = .ok (.aload_n 0, 1) := by decide +kernel
theorem d_E_mayClose_1 : decode k_E_mayClose 1 = .ok (.getfield 54, 3) := by decide +kernel
theorem d_E_mayClose_4 : decode k_E_mayClose 4 = .ok (.iconst 1, 1) := by decide +kernel
theorem d_E_mayClose_5 : decode k_E_mayClose 5 = .ok (.if_icmp .eq 28, 3) := by decide +kernel
theorem d_E_mayClose_8 : decode k_E_mayClose 8 = .ok (.aload_n 0, 1) := by decide +kernel
theorem d_E_mayClose_9 : decode k_E_mayClose 9 = .ok (.getfield 54, 3) := by decide +kernel
theorem d_E_mayClose_12 : decode k_E_mayClose 12 = .ok (.iconst 2, 1) := by decide +kernel
theorem d_E_mayClose_13 : decode k_E_mayClose 13 = .ok (.if_icmp .eq 20, 3) := by decide +kernel
theorem d_E_mayClose_16 : decode k_E_mayClose 16 = .ok (.aload_n 0, 1) := by decide +kernel
theorem d_E_mayClose_17 : decode k_E_mayClose 17 = .ok (.getfield 54, 3) := by decide +kernel
theorem d_E_mayClose_20 : decode k_E_mayClose 20 = .ok (.iconst 4, 1) := by decide +kernel
theorem d_E_mayClose_21 : decode k_E_mayClose 21 = .ok (.if_icmp .eq 12, 3) := by decide +kernel
theorem d_E_mayClose_24 : decode k_E_mayClose 24 = .ok (.aload_n 0, 1) := by decide +kernel
theorem d_E_mayClose_25 : decode k_E_mayClose 25 = .ok (.getfield 54, 3) := by decide +kernel
theorem d_E_mayClose_28 : decode k_E_mayClose 28 = .ok (.bipush 7, 2) := by decide +kernel
theorem d_E_mayClose_30 : decode k_E_mayClose 30 = .ok (.if_icmp .ne 7, 3) := by decide +kernel
theorem d_E_mayClose_33 : decode k_E_mayClose 33 = .ok (.iconst 1, 1) := by decide +kernel
theorem d_E_mayClose_34 : decode k_E_mayClose 34 = .ok (.goto 4, 3) := by decide +kernel
theorem d_E_mayClose_37 : decode k_E_mayClose 37 = .ok (.iconst 0, 1) := by decide +kernel
theorem d_E_mayClose_38 : decode k_E_mayClose 38 = .ok (.ireturn, 1) := by decide +kernel
def b_E_mayClose_38 (q : Nat) (w0 : Int32) (σ : CS) : Option (Int32 × CS) :=
  gd (w0 = 0 ∨ w0 = 1) (some (w0, σ))
def b_E_mayClose_33 (q : Nat) (σ : CS) : Option (Int32 × CS) :=
  b_E_mayClose_38 q (1 : Int32) σ
def m_E_mayClose (q : Nat) (σ : CS) : Option (Int32 × CS) :=
  gd (q = 7 ∨ q = 14) <| bd (cI σ q 8) fun x1 => if x1 = (1 : Int32) then
  (b_E_mayClose_33 q  σ)
 else
  (bd (cI σ q 8) fun x2 => if x2 = (2 : Int32) then
  (b_E_mayClose_33 q  σ)
 else
  (bd (cI σ q 8) fun x3 => if x3 = (4 : Int32) then
  (b_E_mayClose_33 q  σ)
 else
  (bd (cI σ q 8) fun x4 => if x4 = (7 : Int32) then
  (b_E_mayClose_33 q  σ)
 else
  (b_E_mayClose_38 q (0 : Int32) σ))))
section
variable {p : Program} {l : Launch} {e : Env} {s : State} {m : MethodId} {args : Array Value} {below : List Frame} {meth : Method} {c : Code} {D : va_G} {tc : Nat → ClassId} {b z : Nat} {σ0 : CS}
theorem t_E_mayClose_38 {q : Nat} (S : CC p m c k_E_mayClose 1 s args cn_E meth (Option.some Jvm.ClassFile.FieldType.boolean) D tc b z) (hq : q = 7 ∨ q = 14) (w0 : Int32) (σ : CS) {B : Int32 × CS} (h : b_E_mayClose_38 q w0 σ = some B) {ls : Array Slot} {H : Heap} {locs : List Loc} {cells slots : Nat} (hl : lv_has ls 1 []) (hW : CWS D tc b z s σ0 σ H locs cells slots) : W p l e (CR 0 0 σ0) s m args below meth c H locs cells slots (CE D tc b z below args s σ0 (some (.int B.1)) B.2) (F0 m 38 ls [.int w0]) := by
  have hx := S.1.1
  have hb := S.1.2.1
  unfold b_E_mayClose_38 at h
  exact cm_zret S hW d_E_mayClose_38 h
theorem t_E_mayClose_33 {q : Nat} (S : CC p m c k_E_mayClose 1 s args cn_E meth (Option.some Jvm.ClassFile.FieldType.boolean) D tc b z) (hq : q = 7 ∨ q = 14) (σ : CS) {B : Int32 × CS} (h : b_E_mayClose_33 q  σ = some B) {ls : Array Slot} {H : Heap} {locs : List Loc} {cells slots : Nat} (hl : lv_has ls 1 []) (hW : CWS D tc b z s σ0 σ H locs cells slots) : W p l e (CR 0 0 σ0) s m args below meth c H locs cells slots (CE D tc b z below args s σ0 (some (.int B.1)) B.2) (F0 m 33 ls []) := by
  have hx := S.1.1
  have hb := S.1.2.1
  unfold b_E_mayClose_33 at h
  refine lv_iconst (v := 1) hx hb d_E_mayClose_33 (by decide) ?_
  refine lv_goto (tgt := 38) hx hb d_E_mayClose_34 (by decide) ?_
  exact t_E_mayClose_38 S hq (1 : Int32) σ h (lv_sub hl [] rfl) hW
theorem t_E_mayClose_0 (S : CC p m c k_E_mayClose 1 s args cn_E meth (Option.some Jvm.ClassFile.FieldType.boolean) D tc b z) (q : Nat) (σ : CS) {B : Int32 × CS} (h : m_E_mayClose q σ = some B) {ls : Array Slot} {H : Heap} {locs : List Loc} {cells slots : Nat} (hl : lv_has ls 1 [(0, .ref (b + q))]) (hW : CWS D tc b z s σ0 σ H locs cells slots) : W p l e (CR 0 0 σ0) s m args below meth c H locs cells slots (CE D tc b z below args s σ0 (some (.int B.1)) B.2) (F0 m 0 ls []) := by
  have hx := S.1.1
  have hb := S.1.2.1
  unfold m_E_mayClose at h
  obtain ⟨hq, h⟩ := gd_s h
  refine lv_aload_n hx hb d_E_mayClose_0 rfl (lv_at hl 0 rfl) ?_
  refine cm_geti kx_E S hW (kE hq) 8 wd_362 (by decide) d_E_mayClose_1 h (fun x1 h => ?_)
  refine lv_iconst (v := 1) hx hb d_E_mayClose_4 (by decide) ?_
  refine rc_eq (tgt := 33) hx hb d_E_mayClose_5 (by decide) h (fun h => ?_) (fun h => ?_)
  · exact t_E_mayClose_33 S hq  σ h (lv_sub hl [] rfl) hW
  · refine lv_aload_n hx hb d_E_mayClose_8 rfl (lv_at hl 0 rfl) ?_
    refine cm_geti kx_E S hW (kE hq) 8 wd_362 (by decide) d_E_mayClose_9 h (fun x2 h => ?_)
    refine lv_iconst (v := 2) hx hb d_E_mayClose_12 (by decide) ?_
    refine rc_eq (tgt := 33) hx hb d_E_mayClose_13 (by decide) h (fun h => ?_) (fun h => ?_)
    · exact t_E_mayClose_33 S hq  σ h (lv_sub hl [] rfl) hW
    · refine lv_aload_n hx hb d_E_mayClose_16 rfl (lv_at hl 0 rfl) ?_
      refine cm_geti kx_E S hW (kE hq) 8 wd_362 (by decide) d_E_mayClose_17 h (fun x3 h => ?_)
      refine lv_iconst (v := 4) hx hb d_E_mayClose_20 (by decide) ?_
      refine rc_eq (tgt := 33) hx hb d_E_mayClose_21 (by decide) h (fun h => ?_) (fun h => ?_)
      · exact t_E_mayClose_33 S hq  σ h (lv_sub hl [] rfl) hW
      · refine lv_aload_n hx hb d_E_mayClose_24 rfl (lv_at hl 0 rfl) ?_
        refine cm_geti kx_E S hW (kE hq) 8 wd_362 (by decide) d_E_mayClose_25 h (fun x4 h => ?_)
        refine lv_bipush (v := 7) hx hb d_E_mayClose_28 (by decide) ?_
        refine rc_ne (tgt := 37) hx hb d_E_mayClose_30 (by decide) h (fun h => ?_) (fun h => ?_)
        · refine lv_iconst (v := 0) hx hb d_E_mayClose_37 (by decide) ?_
          exact t_E_mayClose_38 S hq (0 : Int32) σ h (lv_sub hl [] rfl) hW
        · exact t_E_mayClose_33 S hq  σ h (lv_sub hl [] rfl) hW
theorem c_E_mayClose (q : Nat) (σ : CS) {x : Int32} {σ' : CS} (h : m_E_mayClose q σ = some (x, σ')) : CMet l D tc b z y_E_mayClose k_E_mayClose 1 (Option.some Jvm.ClassFile.FieldType.boolean) 0 0 [.ref (b + q)] σ (some (.int x)) σ' := cm_met (by decide) (Nat.le_of_ble_eq_true rfl) fun p e s m args below meth c S hW ls hl => t_E_mayClose_0 S q σ h hl hW
end

/-! StreamPair$End.shut (I)V -/
abbrev k_E_shut : ByteArray := prog_5_method_6_code
abbrev y_E_shut : MethodName := ⟨cn_E, "shut", "(I)V"⟩
theorem q_E_shut : Calee y_E_shut k_E_shut 2 none 1 := ⟨wd_905, wd_85, by decide, by decide +kernel⟩
theorem d_E_shut_0 : decode k_E_shut 0 = .ok (.aload_n 0, 1) := by decide +kernel
theorem d_E_shut_1 : decode k_E_shut 1 = .ok (.iconst 0, 1) := by decide +kernel
theorem d_E_shut_2 : decode k_E_shut 2 = .ok (.putfield 54, 3) := by decide +kernel
theorem d_E_shut_5 : decode k_E_shut 5 = .ok (.aload_n 0, 1) := by decide +kernel
theorem d_E_shut_6 : decode k_E_shut 6 = .ok (.iload_n 1, 1) := by decide +kernel
theorem d_E_shut_7 : decode k_E_shut 7 = .ok (.putfield 65, 3) := by decide +kernel
theorem d_E_shut_10 : decode k_E_shut 10 = .ok (.aload_n 0, 1) := by decide +kernel
theorem d_E_shut_11 : decode k_E_shut 11 = .ok (.getfield 28, 3) := by decide +kernel
theorem d_E_shut_14 : decode k_E_shut 14 = .ok (.iconst 0, 1) := by decide +kernel
theorem d_E_shut_15 : decode k_E_shut 15 = .ok (.putfield 98, 3) := by decide +kernel
theorem d_E_shut_18 : decode k_E_shut 18 = .ok (.return_, 1) := by decide +kernel
def m_E_shut (q : Nat) (v1 : Int32) (σ : CS) : Option (CS) :=
  gd (q = 7 ∨ q = 14) <| bd (wi σ q 8 (0 : Int32)) fun r1 => bd (wi r1 q 9 v1) fun r2 => gd ((0 : Int32) = 0 ∨ (0 : Int32) = 1) <| bd (wi r2 (q + 5) 2 (0 : Int32)) fun r3 => some r3
section
variable {p : Program} {l : Launch} {e : Env} {s : State} {m : MethodId} {args : Array Value} {below : List Frame} {meth : Method} {c : Code} {D : va_G} {tc : Nat → ClassId} {b z : Nat} {σ0 : CS}
theorem t_E_shut_0 (S : CC p m c k_E_shut 2 s args cn_E meth none D tc b z) (q : Nat) (v1 : Int32) (σ : CS) {B : CS} (h : m_E_shut q v1 σ = some B) {ls : Array Slot} {H : Heap} {locs : List Loc} {cells slots : Nat} (hl : lv_has ls 2 [(0, .ref (b + q)), (1, .int v1)]) (hW : CWS D tc b z s σ0 σ H locs cells slots) : W p l e (CR 0 0 σ0) s m args below meth c H locs cells slots (CE D tc b z below args s σ0 none B) (F0 m 0 ls []) := by
  have hx := S.1.1
  have hb := S.1.2.1
  unfold m_E_shut at h
  obtain ⟨hq, h⟩ := gd_s h
  refine lv_aload_n hx hb d_E_shut_0 rfl (lv_at hl 0 rfl) ?_
  refine lv_iconst (v := 0) hx hb d_E_shut_1 (by decide) ?_
  refine cm_puti kx_E S hW (kE hq) 8 wd_362 (by decide) d_E_shut_2 h (fun r1 H locs h hW => ?_)
  refine lv_aload_n hx hb d_E_shut_5 rfl (lv_at hl 0 rfl) ?_
  refine lv_iload_n hx hb d_E_shut_6 rfl (lv_at hl 1 rfl) ?_
  refine cm_puti kx_E S hW (kE hq) 9 wd_364 (by decide) d_E_shut_7 h (fun r2 H locs h hW => ?_)
  refine lv_aload_n hx hb d_E_shut_10 rfl (lv_at hl 0 rfl) ?_
  refine cm_getf kx_E S hW (kE hq) 5 (q + 5) rfl wd_357 (by decide) d_E_shut_11 ?_
  refine lv_iconst (v := 0) hx hb d_E_shut_14 (by decide) ?_
  refine cm_putz kx_Z S hW (kEZ hq) 2 wd_295 (by decide) d_E_shut_15 h (fun r3 H locs h hW => ?_)
  exact cm_vret S hW d_E_shut_18 h
theorem c_E_shut (q : Nat) (v1 : Int32) (σ : CS) {B : CS} (h : m_E_shut q v1 σ = some B) : CMet l D tc b z y_E_shut k_E_shut 2 none 0 0 [.ref (b + q), .int v1] σ none B := cm_met (by decide) (Nat.le_of_ble_eq_true rfl) fun p e s m args below meth c S hW ls hl => t_E_shut_0 S q v1 σ h hl hW
end

/-! StreamPair$End.emit (IIIII)V -/
abbrev k_E_emit : ByteArray := prog_5_method_13_code
abbrev y_E_emit : MethodName := ⟨cn_E, "emit", "(IIIII)V"⟩
theorem q_E_emit : Calee y_E_emit k_E_emit 9 none 5 := ⟨wd_568, wd_85, by decide, by decide +kernel⟩
theorem d_E_emit_0 : decode k_E_emit 0 = .ok (.iload_n 1, 1) := by decide +kernel
theorem d_E_emit_1 : decode k_E_emit 1 = .ok (.iconst 2, 1) := by decide +kernel
theorem d_E_emit_2 : decode k_E_emit 2 = .ok (.iand, 1) := by decide +kernel
theorem d_E_emit_3 : decode k_E_emit 3 = .ok (.ifCond .eq 7, 3) := by decide +kernel
theorem d_E_emit_6 : decode k_E_emit 6 = .ok (.iconst 1, 1) := by decide +kernel
theorem d_E_emit_7 : decode k_E_emit 7 = .ok (.goto 4, 3) := by decide +kernel
theorem d_E_emit_10 : decode k_E_emit 10 = .ok (.iconst 0, 1) := by decide +kernel
theorem d_E_emit_11 : decode k_E_emit 11 = .ok (.istore 6, 2) := by decide +kernel
theorem d_E_emit_13 : decode k_E_emit 13 = .ok (.iload 6, 2) := by decide +kernel
theorem d_E_emit_15 : decode k_E_emit 15 = .ok (.ifCond .eq 8, 3) := by decide +kernel
theorem d_E_emit_18 : decode k_E_emit 18 = .ok (.bipush 24, 2) := by decide +kernel
theorem d_E_emit_20 : decode k_E_emit 20 = .ok (.goto 5, 3) := by decide +kernel
theorem d_E_emit_23 : decode k_E_emit 23 = .ok (.bipush 20, 2) := by decide +kernel
theorem d_E_emit_25 : decode k_E_emit 25 = .ok (.istore 7, 2) := by decide +kernel
theorem d_E_emit_27 : decode k_E_emit 27 = .ok (.aload_n 0, 1) := by decide +kernel
theorem d_E_emit_28 : decode k_E_emit 28 = .ok (.dup, 1) := by decide +kernel
theorem d_E_emit_29 : decode k_E_emit 29 = .ok (.getfield 68, 3) := by decide +kernel
theorem d_E_emit_32 : decode k_E_emit 32 = .ok (.iconst 1, 1) := by decide +kernel
theorem d_E_emit_33 : decode k_E_emit 33 = .ok (.iadd, 1) := by decide +kernel
theorem d_E_emit_34 : decode k_E_emit 34 = .ok (.putfield 68, 3) := by decide +kernel
theorem d_E_emit_37 : decode k_E_emit 37 = .ok (.aload_n 0, 1) := by decide +kernel
theorem d_E_emit_38 : decode k_E_emit 38 = .ok (.getfield 50, 3) := by decide +kernel
theorem d_E_emit_41 : decode k_E_emit 41 = .ok (.iconst 1, 1) := by decide +kernel
theorem d_E_emit_42 : decode k_E_emit 42 = .ok (.aload_n 0, 1) := by decide +kernel
theorem d_E_emit_43 : decode k_E_emit 43 = .ok (.getfield 43, 3) := by decide +kernel
theorem d_E_emit_46 : decode k_E_emit 46 = .ok (.isub, 1) := by decide +kernel
theorem d_E_emit_47 : decode k_E_emit 47 = .ok (.iload 7, 2) := by decide +kernel
theorem d_E_emit_49 : decode k_E_emit 49 = .ok (.iload 5, 2) := by decide +kernel
theorem d_E_emit_51 : decode k_E_emit 51 = .ok (.iadd, 1) := by decide +kernel
theorem d_E_emit_52 : decode k_E_emit 52 = .ok (.invokevirtual 158, 3) := by decide +kernel
theorem d_E_emit_55 : decode k_E_emit 55 = .ok (.astore 8, 2) := by decide +kernel
theorem d_E_emit_57 : decode k_E_emit 57 = .ok (.aload 8, 2) := by decide +kernel
theorem d_E_emit_59 : decode k_E_emit 59 = .ok (.ifnonnull 4, 3) := by decide +kernel
theorem d_E_emit_62 : decode k_E_emit 62 = .ok (.return_, 1) := by decide +kernel
theorem d_E_emit_63 : decode k_E_emit 63 = .ok (.aload 8, 2) := by decide +kernel
theorem d_E_emit_65 : decode k_E_emit 65 = .ok (.iconst 0, 1) := by decide +kernel
theorem d_E_emit_66 : decode k_E_emit 66 = .ok (.iconst 2, 1) := by decide +kernel
theorem d_E_emit_67 : decode k_E_emit 67 = .ok (.aload_n 0, 1) := by decide +kernel
theorem d_E_emit_68 : decode k_E_emit 68 = .ok (.getfield 74, 3) := by decide +kernel
theorem d_E_emit_71 : decode k_E_emit 71 = .ok (.invokevirtual 164, 3) := by decide +kernel
theorem d_E_emit_74 : decode k_E_emit 74 = .ok (.aload 8, 2) := by decide +kernel
theorem d_E_emit_76 : decode k_E_emit 76 = .ok (.iconst 2, 1) := by decide +kernel
theorem d_E_emit_77 : decode k_E_emit 77 = .ok (.iconst 2, 1) := by decide +kernel
theorem d_E_emit_78 : decode k_E_emit 78 = .ok (.aload_n 0, 1) := by decide +kernel
theorem d_E_emit_79 : decode k_E_emit 79 = .ok (.getfield 77, 3) := by decide +kernel
theorem d_E_emit_82 : decode k_E_emit 82 = .ok (.invokevirtual 164, 3) := by decide +kernel
theorem d_E_emit_85 : decode k_E_emit 85 = .ok (.aload 8, 2) := by decide +kernel
theorem d_E_emit_87 : decode k_E_emit 87 = .ok (.iconst 4, 1) := by decide +kernel
theorem d_E_emit_88 : decode k_E_emit 88 = .ok (.iconst 4, 1) := by decide +kernel
theorem d_E_emit_89 : decode k_E_emit 89 = .ok (.iload_n 2, 1) := by decide +kernel
theorem d_E_emit_90 : decode k_E_emit 90 = .ok (.invokevirtual 164, 3) := by decide +kernel
theorem d_E_emit_93 : decode k_E_emit 93 = .ok (.aload 8, 2) := by decide +kernel
theorem d_E_emit_95 : decode k_E_emit 95 = .ok (.bipush 8, 2) := by decide +kernel
theorem d_E_emit_97 : decode k_E_emit 97 = .ok (.iconst 4, 1) := by decide +kernel
theorem d_E_emit_98 : decode k_E_emit 98 = .ok (.iload_n 3, 1) := by decide +kernel
theorem d_E_emit_99 : decode k_E_emit 99 = .ok (.invokevirtual 164, 3) := by decide +kernel
theorem d_E_emit_102 : decode k_E_emit 102 = .ok (.aload 8, 2) := by decide +kernel
theorem d_E_emit_104 : decode k_E_emit 104 = .ok (.bipush 12, 2) := by decide +kernel
theorem d_E_emit_106 : decode k_E_emit 106 = .ok (.iconst 1, 1) := by decide +kernel
theorem d_E_emit_107 : decode k_E_emit 107 = .ok (.iload 7, 2) := by decide +kernel
theorem d_E_emit_109 : decode k_E_emit 109 = .ok (.iconst 4, 1) := by decide +kernel
theorem d_E_emit_110 : decode k_E_emit 110 = .ok (.idiv, 1) := by decide +kernel
theorem d_E_emit_111 : decode k_E_emit 111 = .ok (.iconst 4, 1) := by decide +kernel
theorem d_E_emit_112 : decode k_E_emit 112 = .ok (.ishl, 1) := by decide +kernel
theorem d_E_emit_113 : decode k_E_emit 113 = .ok (.invokevirtual 164, 3) := by decide +kernel
theorem d_E_emit_116 : decode k_E_emit 116 = .ok (.aload 8, 2) := by decide +kernel
theorem d_E_emit_118 : decode k_E_emit 118 = .ok (.bipush 13, 2) := by decide +kernel
theorem d_E_emit_120 : decode k_E_emit 120 = .ok (.iconst 1, 1) := by decide +kernel
theorem d_E_emit_121 : decode k_E_emit 121 = .ok (.iload_n 1, 1) := by decide +kernel
theorem d_E_emit_122 : decode k_E_emit 122 = .ok (.invokevirtual 164, 3) := by decide +kernel
theorem d_E_emit_125 : decode k_E_emit 125 = .ok (.aload 8, 2) := by decide +kernel
theorem d_E_emit_127 : decode k_E_emit 127 = .ok (.bipush 14, 2) := by decide +kernel
theorem d_E_emit_129 : decode k_E_emit 129 = .ok (.iconst 2, 1) := by decide +kernel
theorem d_E_emit_130 : decode k_E_emit 130 = .ok (.iload 4, 2) := by decide +kernel
theorem d_E_emit_132 : decode k_E_emit 132 = .ok (.invokevirtual 164, 3) := by decide +kernel
theorem d_E_emit_135 : decode k_E_emit 135 = .ok (.aload 8, 2) := by decide +kernel
theorem d_E_emit_137 : decode k_E_emit 137 = .ok (.bipush 18, 2) := by decide +kernel
theorem d_E_emit_139 : decode k_E_emit 139 = .ok (.iconst 2, 1) := by decide +kernel
theorem d_E_emit_140 : decode k_E_emit 140 = .ok (.iconst 0, 1) := by decide +kernel
theorem d_E_emit_141 : decode k_E_emit 141 = .ok (.invokevirtual 164, 3) := by decide +kernel
theorem d_E_emit_144 : decode k_E_emit 144 = .ok (.iload 6, 2) := by decide +kernel
theorem d_E_emit_146 : decode k_E_emit 146 = .ok (.ifCond .eq 18, 3) := by decide +kernel
theorem d_E_emit_149 : decode k_E_emit 149 = .ok (.aload 8, 2) := by decide +kernel
theorem d_E_emit_151 : decode k_E_emit 151 = .ok (.bipush 20, 2) := by decide +kernel
theorem d_E_emit_153 : decode k_E_emit 153 = .ok (.iconst 4, 1) := by decide +kernel
theorem d_E_emit_154 : decode k_E_emit 154 = .ok (.ldc 167, 2) := by decide +kernel
theorem d_E_emit_156 : decode k_E_emit 156 = .ok (.aload_n 0, 1) := by decide +kernel
theorem d_E_emit_157 : decode k_E_emit 157 = .ok (.getfield 39, 3) := by decide +kernel
theorem d_E_emit_160 : decode k_E_emit 160 = .ok (.ior, 1) := by decide +kernel
theorem d_E_emit_161 : decode k_E_emit 161 = .ok (.invokevirtual 164, 3) := by decide +kernel
theorem d_E_emit_164 : decode k_E_emit 164 = .ok (.aload_n 0, 1) := by decide +kernel
theorem d_E_emit_165 : decode k_E_emit 165 = .ok (.getfield 12, 3) := by decide +kernel
theorem d_E_emit_168 : decode k_E_emit 168 = .ok (.aload 8, 2) := by decide +kernel
theorem d_E_emit_170 : decode k_E_emit 170 = .ok (.iload_n 2, 1) := by decide +kernel
theorem d_E_emit_171 : decode k_E_emit 171 = .ok (.iload 5, 2) := by decide +kernel
theorem d_E_emit_173 : decode k_E_emit 173 = .ok (.invokevirtual 168, 3) := by decide +kernel
theorem d_E_emit_176 : decode k_E_emit 176 = .ok (.aload 8, 2) := by decide +kernel
theorem d_E_emit_178 : decode k_E_emit 178 = .ok (.invokevirtual 172, 3) := by decide +kernel
theorem d_E_emit_181 : decode k_E_emit 181 = .ok (.return_, 1) := by decide +kernel
def b_E_emit_164 (q : Nat) (v2 : Int32) (v5 : Int32) (v8 : Nat) (σ : CS) : Option (CS) :=
  bc (m_U_copyTo (q + 1) v8 v2 v5 σ) fun r1 => gd (kd r1 v8 = 11) <| bc (m_G_mendChecksum v8 r1) fun r2 => some r2
def b_E_emit_25 (q : Nat) (v1 : Int32) (v2 : Int32) (v3 : Int32) (v4 : Int32) (v5 : Int32) (v6 : Int32) (w0 : Int32) (σ : CS) : Option (CS) :=
  bd (cI σ q 10) fun x1 => bd (wi σ q 10 (x1 + (1 : Int32))) fun r2 => bd (cI r2 q 0) fun x3 => bc2 (m_N_place ((1 : Int32) - x3) (w0 + v5) r2) fun u5 r4 => bq u5
  (some r4)
  (fun a6 => bd (cI r4 q 12) fun x7 => gd (kd r4 a6 = 11) <| bc (m_G_put a6 (0 : Int32) (2 : Int32) x7 r4) fun r8 => bd (cI r8 q 13) fun x9 => gd (kd r8 a6 = 11) <| bc (m_G_put a6 (2 : Int32) (2 : Int32) x9 r8) fun r10 => gd (kd r10 a6 = 11) <| bc (m_G_put a6 (4 : Int32) (4 : Int32) v2 r10) fun r11 => gd (kd r11 a6 = 11) <| bc (m_G_put a6 (8 : Int32) (4 : Int32) v3 r11) fun r12 => gd (¬ (4 : Int32) = 0) <| gd (kd r12 a6 = 11) <| bc (m_G_put a6 (12 : Int32) (1 : Int32) ((w0 / (4 : Int32)) <<< ((4 : Int32) &&& 31)) r12) fun r13 => gd (kd r13 a6 = 11) <| bc (m_G_put a6 (13 : Int32) (1 : Int32) v1 r13) fun r14 => gd (kd r14 a6 = 11) <| bc (m_G_put a6 (14 : Int32) (2 : Int32) v4 r14) fun r15 => gd (kd r15 a6 = 11) <| bc (m_G_put a6 (18 : Int32) (2 : Int32) (0 : Int32) r15) fun r16 => if v6 = 0 then
  (b_E_emit_164 q v2 v5 a6 r16)
 else
  (bd (cI r16 q 7) fun x17 => gd (kd r16 a6 = 11) <| bc (m_G_put a6 (20 : Int32) (4 : Int32) ((33816576 : Int32) ||| x17) r16) fun r18 => b_E_emit_164 q v2 v5 a6 r18))
def b_E_emit_11 (q : Nat) (v1 : Int32) (v2 : Int32) (v3 : Int32) (v4 : Int32) (v5 : Int32) (w0 : Int32) (σ : CS) : Option (CS) :=
  if w0 = 0 then
  (b_E_emit_25 q v1 v2 v3 v4 v5 w0 (20 : Int32) σ)
 else
  (b_E_emit_25 q v1 v2 v3 v4 v5 w0 (24 : Int32) σ)
def m_E_emit (q : Nat) (v1 : Int32) (v2 : Int32) (v3 : Int32) (v4 : Int32) (v5 : Int32) (σ : CS) : Option (CS) :=
  gd (q = 7 ∨ q = 14) <| if (v1 &&& (2 : Int32)) = 0 then
  (b_E_emit_11 q v1 v2 v3 v4 v5 (0 : Int32) σ)
 else
  (b_E_emit_11 q v1 v2 v3 v4 v5 (1 : Int32) σ)
section
variable {p : Program} {l : Launch} {e : Env} {s : State} {m : MethodId} {args : Array Value} {below : List Frame} {meth : Method} {c : Code} {D : va_G} {tc : Nat → ClassId} {b z : Nat} {σ0 : CS}
theorem t_E_emit_164 {q : Nat} (S : CC p m c k_E_emit 9 s args cn_E meth none D tc b z) (hq : q = 7 ∨ q = 14) (v2 : Int32) (v5 : Int32) (v8 : Nat) (σ : CS) {B : CS} (h : b_E_emit_164 q v2 v5 v8 σ = some B) {ls : Array Slot} {H : Heap} {locs : List Loc} {cells slots : Nat} (hl : lv_has ls 9 [(0, .ref (b + q)), (2, .int v2), (5, .int v5), (8, .ref (b + v8))]) (hW : CWS D tc b z s σ0 σ H locs cells slots) : W p l e (CR 8 194 σ0) s m args below meth c H locs cells slots (CE D tc b z below args s σ0 none B) (F0 m 164 ls []) := by
  have hx := S.1.1
  have hb := S.1.2.1
  unfold b_E_emit_164 at h
  refine lv_aload_n hx hb d_E_emit_164 rfl (lv_at hl 0 rfl) ?_
  refine cm_getf kx_E S hW (kE hq) 3 (q + 1) rfl wd_353 (by decide) d_E_emit_165 ?_
  refine lv_aload hx hb d_E_emit_168 (lv_at hl 3 rfl) ?_
  refine lv_iload_n hx hb d_E_emit_170 rfl (lv_at hl 1 rfl) ?_
  refine lv_iload hx hb d_E_emit_171 (lv_at hl 2 rfl) ?_
  refine cm_cVv [.ref (b + v8), .int v2, .int v5] kx_U S hW (kEU hq) (fun σ' hc => c_U_copyTo (q + 1) v8 v2 v5 σ hc) q_U_copyTo wd_618 wd_619 wd_617 (by decide) hl.1 rfl rfl (Nat.le_of_ble_eq_true rfl) d_E_emit_173 h (fun r1 H locs cells slots h hW => ?_)
  refine lv_aload hx hb d_E_emit_176 (lv_at hl 3 rfl) ?_
  obtain ⟨hg, h⟩ := gd_s h
  refine cm_cVv [] kx_G S hW hg (fun σ' hc => c_G_mendChecksum v8 r1 hc) q_G_mendChecksum wd_623 wd_624 wd_622 (by decide) hl.1 rfl rfl (Nat.le_of_ble_eq_true rfl) d_E_emit_178 h (fun r2 H locs cells slots h hW => ?_)
  exact cm_vret S hW d_E_emit_181 h
theorem t_E_emit_25 {q : Nat} (S : CC p m c k_E_emit 9 s args cn_E meth none D tc b z) (hq : q = 7 ∨ q = 14) (v1 : Int32) (v2 : Int32) (v3 : Int32) (v4 : Int32) (v5 : Int32) (v6 : Int32) (w0 : Int32) (σ : CS) {B : CS} (h : b_E_emit_25 q v1 v2 v3 v4 v5 v6 w0 σ = some B) {ls : Array Slot} {H : Heap} {locs : List Loc} {cells slots : Nat} (hl : lv_has ls 9 [(0, .ref (b + q)), (1, .int v1), (2, .int v2), (3, .int v3), (4, .int v4), (5, .int v5), (6, .int v6)]) (hW : CWS D tc b z s σ0 σ H locs cells slots) : W p l e (CR 8 194 σ0) s m args below meth c H locs cells slots (CE D tc b z below args s σ0 none B) (F0 m 25 ls [.int w0]) := by
  have hx := S.1.1
  have hb := S.1.2.1
  unfold b_E_emit_25 at h
  refine lv_istore (lv' := [(7, .int w0), (0, .ref (b + q)), (1, .int v1), (2, .int v2), (3, .int v3), (4, .int v4), (5, .int v5), (6, .int v6)]) hx hb d_E_emit_25 hl (by decide) rfl (fun ls hl => ?_)
  refine lv_aload_n hx hb d_E_emit_27 rfl (lv_at hl 1 rfl) ?_
  refine lv_dup hx hb d_E_emit_28 rfl ?_
  refine cm_geti kx_E S hW (kE hq) 10 wd_366 (by decide) d_E_emit_29 h (fun x1 h => ?_)
  refine lv_iconst (v := 1) hx hb d_E_emit_32 (by decide) ?_
  refine lv_iadd hx hb d_E_emit_33 ?_
  refine cm_puti kx_E S hW (kE hq) 10 wd_366 (by decide) d_E_emit_34 h (fun r2 H locs h hW => ?_)
  refine lv_aload_n hx hb d_E_emit_37 rfl (lv_at hl 1 rfl) ?_
  refine cm_getf kx_E S hW (kE hq) 2 (4) rfl wd_352 (by decide) d_E_emit_38 ?_
  refine lv_iconst (v := 1) hx hb d_E_emit_41 (by decide) ?_
  refine lv_aload_n hx hb d_E_emit_42 rfl (lv_at hl 1 rfl) ?_
  refine cm_geti kx_E S hW (kE hq) 0 wd_349 (by decide) d_E_emit_43 h (fun x3 h => ?_)
  refine lv_isub hx hb d_E_emit_46 ?_
  refine lv_iload hx hb d_E_emit_47 (lv_at hl 0 rfl) ?_
  refine lv_iload hx hb d_E_emit_49 (lv_at hl 6 rfl) ?_
  refine lv_iadd hx hb d_E_emit_51 ?_
  refine cm_cVq [.int ((1 : Int32) - x3), .int (w0 + v5)] kx_N S hW rfl (fun x σ' hc => c_N_place ((1 : Int32) - x3) (w0 + v5) r2 hc) q_N_place wd_570 wd_571 wd_569 (by decide) hl.1 rfl rfl (Nat.le_of_ble_eq_true rfl) d_E_emit_52 h (fun u5 r4 H locs cells slots h hW => ?_)
  refine cm_qcase h (fun h => ?_) (fun a6 h => ?_)
  · refine lv_astoreN (lv' := [(8, .null), (7, .int w0), (0, .ref (b + q)), (1, .int v1), (2, .int v2), (3, .int v3), (4, .int v4), (5, .int v5), (6, .int v6)]) hx hb d_E_emit_55 hl (by decide) rfl (fun ls hl => ?_)
    refine lv_aloadN hx hb d_E_emit_57 (lv_at hl 0 rfl) ?_
    refine lv_ifnonnullN hx hb d_E_emit_59 ?_
    exact cm_vret S hW d_E_emit_62 h
  · refine lv_astore (lv' := [(8, .ref (b + a6)), (7, .int w0), (0, .ref (b + q)), (1, .int v1), (2, .int v2), (3, .int v3), (4, .int v4), (5, .int v5), (6, .int v6)]) hx hb d_E_emit_55 hl (by decide) rfl (fun ls hl => ?_)
    refine lv_aload hx hb d_E_emit_57 (lv_at hl 0 rfl) ?_
    refine lv_ifnonnull (tgt := 63) hx hb d_E_emit_59 (by decide) ?_
    refine lv_aload hx hb d_E_emit_63 (lv_at hl 0 rfl) ?_
    refine lv_iconst (v := 0) hx hb d_E_emit_65 (by decide) ?_
    refine lv_iconst (v := 2) hx hb d_E_emit_66 (by decide) ?_
    refine lv_aload_n hx hb d_E_emit_67 rfl (lv_at hl 2 rfl) ?_
    refine cm_geti kx_E S hW (kE hq) 12 wd_368 (by decide) d_E_emit_68 h (fun x7 h => ?_)
    obtain ⟨hg, h⟩ := gd_s h
    refine cm_cVv [.int (0 : Int32), .int (2 : Int32), .int x7] kx_G S hW hg (fun σ' hc => c_G_put a6 (0 : Int32) (2 : Int32) x7 r4 hc) q_G_put wd_613 wd_614 wd_612 (by decide) hl.1 rfl rfl (Nat.le_of_ble_eq_true rfl) d_E_emit_71 h (fun r8 H locs cells slots h hW => ?_)
    refine lv_aload hx hb d_E_emit_74 (lv_at hl 0 rfl) ?_
    refine lv_iconst (v := 2) hx hb d_E_emit_76 (by decide) ?_
    refine lv_iconst (v := 2) hx hb d_E_emit_77 (by decide) ?_
    refine lv_aload_n hx hb d_E_emit_78 rfl (lv_at hl 2 rfl) ?_
    refine cm_geti kx_E S hW (kE hq) 13 wd_369 (by decide) d_E_emit_79 h (fun x9 h => ?_)
    obtain ⟨hg, h⟩ := gd_s h
    refine cm_cVv [.int (2 : Int32), .int (2 : Int32), .int x9] kx_G S hW hg (fun σ' hc => c_G_put a6 (2 : Int32) (2 : Int32) x9 r8 hc) q_G_put wd_613 wd_614 wd_612 (by decide) hl.1 rfl rfl (Nat.le_of_ble_eq_true rfl) d_E_emit_82 h (fun r10 H locs cells slots h hW => ?_)
    refine lv_aload hx hb d_E_emit_85 (lv_at hl 0 rfl) ?_
    refine lv_iconst (v := 4) hx hb d_E_emit_87 (by decide) ?_
    refine lv_iconst (v := 4) hx hb d_E_emit_88 (by decide) ?_
    refine lv_iload_n hx hb d_E_emit_89 rfl (lv_at hl 4 rfl) ?_
    obtain ⟨hg, h⟩ := gd_s h
    refine cm_cVv [.int (4 : Int32), .int (4 : Int32), .int v2] kx_G S hW hg (fun σ' hc => c_G_put a6 (4 : Int32) (4 : Int32) v2 r10 hc) q_G_put wd_613 wd_614 wd_612 (by decide) hl.1 rfl rfl (Nat.le_of_ble_eq_true rfl) d_E_emit_90 h (fun r11 H locs cells slots h hW => ?_)
    refine lv_aload hx hb d_E_emit_93 (lv_at hl 0 rfl) ?_
    refine lv_bipush (v := 8) hx hb d_E_emit_95 (by decide) ?_
    refine lv_iconst (v := 4) hx hb d_E_emit_97 (by decide) ?_
    refine lv_iload_n hx hb d_E_emit_98 rfl (lv_at hl 5 rfl) ?_
    obtain ⟨hg, h⟩ := gd_s h
    refine cm_cVv [.int (8 : Int32), .int (4 : Int32), .int v3] kx_G S hW hg (fun σ' hc => c_G_put a6 (8 : Int32) (4 : Int32) v3 r11 hc) q_G_put wd_613 wd_614 wd_612 (by decide) hl.1 rfl rfl (Nat.le_of_ble_eq_true rfl) d_E_emit_99 h (fun r12 H locs cells slots h hW => ?_)
    refine lv_aload hx hb d_E_emit_102 (lv_at hl 0 rfl) ?_
    refine lv_bipush (v := 12) hx hb d_E_emit_104 (by decide) ?_
    refine lv_iconst (v := 1) hx hb d_E_emit_106 (by decide) ?_
    refine lv_iload hx hb d_E_emit_107 (lv_at hl 1 rfl) ?_
    refine lv_iconst (v := 4) hx hb d_E_emit_109 (by decide) ?_
    refine rv_idiv hx hb d_E_emit_110 h (fun h => ?_)
    refine lv_iconst (v := 4) hx hb d_E_emit_111 (by decide) ?_
    refine lv_ishl hx hb d_E_emit_112 ?_
    obtain ⟨hg, h⟩ := gd_s h
    refine cm_cVv [.int (12 : Int32), .int (1 : Int32), .int ((w0 / (4 : Int32)) <<< ((4 : Int32) &&& 31))] kx_G S hW hg (fun σ' hc => c_G_put a6 (12 : Int32) (1 : Int32) ((w0 / (4 : Int32)) <<< ((4 : Int32) &&& 31)) r12 hc) q_G_put wd_613 wd_614 wd_612 (by decide) hl.1 rfl rfl (Nat.le_of_ble_eq_true rfl) d_E_emit_113 h (fun r13 H locs cells slots h hW => ?_)
    refine lv_aload hx hb d_E_emit_116 (lv_at hl 0 rfl) ?_
    refine lv_bipush (v := 13) hx hb d_E_emit_118 (by decide) ?_
    refine lv_iconst (v := 1) hx hb d_E_emit_120 (by decide) ?_
    refine lv_iload_n hx hb d_E_emit_121 rfl (lv_at hl 3 rfl) ?_
    obtain ⟨hg, h⟩ := gd_s h
    refine cm_cVv [.int (13 : Int32), .int (1 : Int32), .int v1] kx_G S hW hg (fun σ' hc => c_G_put a6 (13 : Int32) (1 : Int32) v1 r13 hc) q_G_put wd_613 wd_614 wd_612 (by decide) hl.1 rfl rfl (Nat.le_of_ble_eq_true rfl) d_E_emit_122 h (fun r14 H locs cells slots h hW => ?_)
    refine lv_aload hx hb d_E_emit_125 (lv_at hl 0 rfl) ?_
    refine lv_bipush (v := 14) hx hb d_E_emit_127 (by decide) ?_
    refine lv_iconst (v := 2) hx hb d_E_emit_129 (by decide) ?_
    refine lv_iload hx hb d_E_emit_130 (lv_at hl 6 rfl) ?_
    obtain ⟨hg, h⟩ := gd_s h
    refine cm_cVv [.int (14 : Int32), .int (2 : Int32), .int v4] kx_G S hW hg (fun σ' hc => c_G_put a6 (14 : Int32) (2 : Int32) v4 r14 hc) q_G_put wd_613 wd_614 wd_612 (by decide) hl.1 rfl rfl (Nat.le_of_ble_eq_true rfl) d_E_emit_132 h (fun r15 H locs cells slots h hW => ?_)
    refine lv_aload hx hb d_E_emit_135 (lv_at hl 0 rfl) ?_
    refine lv_bipush (v := 18) hx hb d_E_emit_137 (by decide) ?_
    refine lv_iconst (v := 2) hx hb d_E_emit_139 (by decide) ?_
    refine lv_iconst (v := 0) hx hb d_E_emit_140 (by decide) ?_
    obtain ⟨hg, h⟩ := gd_s h
    refine cm_cVv [.int (18 : Int32), .int (2 : Int32), .int (0 : Int32)] kx_G S hW hg (fun σ' hc => c_G_put a6 (18 : Int32) (2 : Int32) (0 : Int32) r15 hc) q_G_put wd_613 wd_614 wd_612 (by decide) hl.1 rfl rfl (Nat.le_of_ble_eq_true rfl) d_E_emit_141 h (fun r16 H locs cells slots h hW => ?_)
    refine lv_iload hx hb d_E_emit_144 (lv_at hl 8 rfl) ?_
    refine rb_eq (tgt := 164) hx hb d_E_emit_146 (by decide) h (fun h => ?_) (fun h => ?_)
    · exact t_E_emit_164 S hq v2 v5 a6 r16 h (lv_sub hl [2, 4, 7, 0] rfl) hW
    · refine lv_aload hx hb d_E_emit_149 (lv_at hl 0 rfl) ?_
      refine lv_bipush (v := 20) hx hb d_E_emit_151 (by decide) ?_
      refine lv_iconst (v := 4) hx hb d_E_emit_153 (by decide) ?_
      refine lv_ldc hx hb S.1.2.2.2.1 (S.1.2.2.2.2 _ (gi wd_616 rfl)) d_E_emit_154 ?_
      refine lv_aload_n hx hb d_E_emit_156 rfl (lv_at hl 2 rfl) ?_
      refine cm_geti kx_E S hW (kE hq) 7 wd_360 (by decide) d_E_emit_157 h (fun x17 h => ?_)
      refine lv_ior hx hb d_E_emit_160 ?_
      obtain ⟨hg, h⟩ := gd_s h
      refine cm_cVv [.int (20 : Int32), .int (4 : Int32), .int ((33816576 : Int32) ||| x17)] kx_G S hW hg (fun σ' hc => c_G_put a6 (20 : Int32) (4 : Int32) ((33816576 : Int32) ||| x17) r16 hc) q_G_put wd_613 wd_614 wd_612 (by decide) hl.1 rfl rfl (Nat.le_of_ble_eq_true rfl) d_E_emit_161 h (fun r18 H locs cells slots h hW => ?_)
      exact t_E_emit_164 S hq v2 v5 a6 r18 h (lv_sub hl [2, 4, 7, 0] rfl) hW
theorem t_E_emit_11 {q : Nat} (S : CC p m c k_E_emit 9 s args cn_E meth none D tc b z) (hq : q = 7 ∨ q = 14) (v1 : Int32) (v2 : Int32) (v3 : Int32) (v4 : Int32) (v5 : Int32) (w0 : Int32) (σ : CS) {B : CS} (h : b_E_emit_11 q v1 v2 v3 v4 v5 w0 σ = some B) {ls : Array Slot} {H : Heap} {locs : List Loc} {cells slots : Nat} (hl : lv_has ls 9 [(0, .ref (b + q)), (1, .int v1), (2, .int v2), (3, .int v3), (4, .int v4), (5, .int v5)]) (hW : CWS D tc b z s σ0 σ H locs cells slots) : W p l e (CR 8 194 σ0) s m args below meth c H locs cells slots (CE D tc b z below args s σ0 none B) (F0 m 11 ls [.int w0]) := by
  have hx := S.1.1
  have hb := S.1.2.1
  unfold b_E_emit_11 at h
  refine lv_istore (lv' := [(6, .int w0), (0, .ref (b + q)), (1, .int v1), (2, .int v2), (3, .int v3), (4, .int v4), (5, .int v5)]) hx hb d_E_emit_11 hl (by decide) rfl (fun ls hl => ?_)
  refine lv_iload hx hb d_E_emit_13 (lv_at hl 0 rfl) ?_
  refine rb_eq (tgt := 23) hx hb d_E_emit_15 (by decide) h (fun h => ?_) (fun h => ?_)
  · refine lv_bipush (v := 20) hx hb d_E_emit_23 (by decide) ?_
    exact t_E_emit_25 S hq v1 v2 v3 v4 v5 w0 (20 : Int32) σ h (lv_sub hl [1, 2, 3, 4, 5, 6, 0] rfl) hW
  · refine lv_bipush (v := 24) hx hb d_E_emit_18 (by decide) ?_
    refine lv_goto (tgt := 25) hx hb d_E_emit_20 (by decide) ?_
    exact t_E_emit_25 S hq v1 v2 v3 v4 v5 w0 (24 : Int32) σ h (lv_sub hl [1, 2, 3, 4, 5, 6, 0] rfl) hW
theorem t_E_emit_0 (S : CC p m c k_E_emit 9 s args cn_E meth none D tc b z) (q : Nat) (v1 : Int32) (v2 : Int32) (v3 : Int32) (v4 : Int32) (v5 : Int32) (σ : CS) {B : CS} (h : m_E_emit q v1 v2 v3 v4 v5 σ = some B) {ls : Array Slot} {H : Heap} {locs : List Loc} {cells slots : Nat} (hl : lv_has ls 9 [(0, .ref (b + q)), (1, .int v1), (2, .int v2), (3, .int v3), (4, .int v4), (5, .int v5)]) (hW : CWS D tc b z s σ0 σ H locs cells slots) : W p l e (CR 8 194 σ0) s m args below meth c H locs cells slots (CE D tc b z below args s σ0 none B) (F0 m 0 ls []) := by
  have hx := S.1.1
  have hb := S.1.2.1
  unfold m_E_emit at h
  obtain ⟨hq, h⟩ := gd_s h
  refine lv_iload_n hx hb d_E_emit_0 rfl (lv_at hl 1 rfl) ?_
  refine lv_iconst (v := 2) hx hb d_E_emit_1 (by decide) ?_
  refine lv_iand hx hb d_E_emit_2 ?_
  refine rb_eq (tgt := 10) hx hb d_E_emit_3 (by decide) h (fun h => ?_) (fun h => ?_)
  · refine lv_iconst (v := 0) hx hb d_E_emit_10 (by decide) ?_
    exact t_E_emit_11 S hq v1 v2 v3 v4 v5 (0 : Int32) σ h (lv_sub hl [0, 1, 2, 3, 4, 5] rfl) hW
  · refine lv_iconst (v := 1) hx hb d_E_emit_6 (by decide) ?_
    refine lv_goto (tgt := 11) hx hb d_E_emit_7 (by decide) ?_
    exact t_E_emit_11 S hq v1 v2 v3 v4 v5 (1 : Int32) σ h (lv_sub hl [0, 1, 2, 3, 4, 5] rfl) hW
theorem c_E_emit (q : Nat) (v1 : Int32) (v2 : Int32) (v3 : Int32) (v4 : Int32) (v5 : Int32) (σ : CS) {B : CS} (h : m_E_emit q v1 v2 v3 v4 v5 σ = some B) : CMet l D tc b z y_E_emit k_E_emit 9 none 8 194 [.ref (b + q), .int v1, .int v2, .int v3, .int v4, .int v5] σ none B := cm_met (by decide) (Nat.le_of_ble_eq_true rfl) fun p e s m args below meth c S hW ls hl => t_E_emit_0 S q v1 v2 v3 v4 v5 σ h hl hW
end

/-! StreamPair$End.send (III)V -/
abbrev k_E_send : ByteArray := prog_5_method_12_code
abbrev y_E_send : MethodName := ⟨cn_E, "send", "(III)V"⟩
theorem q_E_send : Calee y_E_send k_E_send 6 none 3 := ⟨wd_551, wd_85, by decide, by decide +kernel⟩
theorem d_E_send_0 : decode k_E_send 0 = .ok (.aload_n 0, 1) := by decide +kernel
theorem d_E_send_1 : decode k_E_send 1 = .ok (.getfield 21, 3) := by decide +kernel
theorem d_E_send_4 : decode k_E_send 4 = .ok (.invokevirtual 143, 3) := by decide +kernel
theorem d_E_send_7 : decode k_E_send 7 = .ok (.istore 4, 2) := by decide +kernel
theorem d_E_send_9 : decode k_E_send 9 = .ok (.aload_n 0, 1) := by decide +kernel
theorem d_E_send_10 : decode k_E_send 10 = .ok (.getfield 43, 3) := by decide +kernel
theorem d_E_send_13 : decode k_E_send 13 = .ok (.ifCond .ne 19, 3) := by decide +kernel
theorem d_E_send_16 : decode k_E_send 16 = .ok (.iload_n 1, 1) := by decide +kernel
theorem d_E_send_17 : decode k_E_send 17 = .ok (.iconst 2, 1) := by decide +kernel
theorem d_E_send_18 : decode k_E_send 18 = .ok (.if_icmp .ne 14, 3) := by decide +kernel
theorem d_E_send_21 : decode k_E_send 21 = .ok (.aload_n 0, 1) := by decide +kernel
theorem d_E_send_22 : decode k_E_send 22 = .ok (.iconst 2, 1) := by decide +kernel
theorem d_E_send_23 : decode k_E_send 23 = .ok (.iload_n 2, 1) := by decide +kernel
theorem d_E_send_24 : decode k_E_send 24 = .ok (.iconst 0, 1) := by decide +kernel
theorem d_E_send_25 : decode k_E_send 25 = .ok (.iload 4, 2) := by decide +kernel
theorem d_E_send_27 : decode k_E_send 27 = .ok (.iconst 0, 1) := by decide +kernel
theorem d_E_send_28 : decode k_E_send 28 = .ok (.invokevirtual 146, 3) := by decide +kernel
theorem d_E_send_31 : decode k_E_send 31 = .ok (.return_, 1) := by decide +kernel
theorem d_E_send_32 : decode k_E_send 32 = .ok (.iload_n 3, 1) := by decide +kernel
theorem d_E_send_33 : decode k_E_send 33 = .ok (.ifCond .le 21, 3) := by decide +kernel
theorem d_E_send_36 : decode k_E_send 36 = .ok (.iload_n 2, 1) := by decide +kernel
theorem d_E_send_37 : decode k_E_send 37 = .ok (.iload_n 3, 1) := by decide +kernel
theorem d_E_send_38 : decode k_E_send 38 = .ok (.iadd, 1) := by decide +kernel
theorem d_E_send_39 : decode k_E_send 39 = .ok (.aload_n 0, 1) := by decide +kernel
theorem d_E_send_40 : decode k_E_send 40 = .ok (.getfield 12, 3) := by decide +kernel
theorem d_E_send_43 : decode k_E_send 43 = .ok (.getfield 150, 3) := by decide +kernel
theorem d_E_send_46 : decode k_E_send 46 = .ok (.if_icmp .ne 8, 3) := by decide +kernel
theorem d_E_send_49 : decode k_E_send 49 = .ok (.bipush 8, 2) := by decide +kernel
theorem d_E_send_51 : decode k_E_send 51 = .ok (.goto 4, 3) := by decide +kernel
theorem d_E_send_54 : decode k_E_send 54 = .ok (.iconst 0, 1) := by decide +kernel
theorem d_E_send_55 : decode k_E_send 55 = .ok (.istore 5, 2) := by decide +kernel
theorem d_E_send_57 : decode k_E_send 57 = .ok (.aload_n 0, 1) := by decide +kernel
theorem d_E_send_58 : decode k_E_send 58 = .ok (.iload_n 1, 1) := by decide +kernel
theorem d_E_send_59 : decode k_E_send 59 = .ok (.iload 5, 2) := by decide +kernel
theorem d_E_send_61 : decode k_E_send 61 = .ok (.ior, 1) := by decide +kernel
theorem d_E_send_62 : decode k_E_send 62 = .ok (.bipush 16, 2) := by decide +kernel
theorem d_E_send_64 : decode k_E_send 64 = .ok (.ior, 1) := by decide +kernel
theorem d_E_send_65 : decode k_E_send 65 = .ok (.iload_n 2, 1) := by decide +kernel
theorem d_E_send_66 : decode k_E_send 66 = .ok (.aload_n 0, 1) := by decide +kernel
theorem d_E_send_67 : decode k_E_send 67 = .ok (.getfield 21, 3) := by decide +kernel
theorem d_E_send_70 : decode k_E_send 70 = .ok (.getfield 153, 3) := by decide +kernel
theorem d_E_send_73 : decode k_E_send 73 = .ok (.iload 4, 2) := by decide +kernel
theorem d_E_send_75 : decode k_E_send 75 = .ok (.iload_n 3, 1) := by decide +kernel
theorem d_E_send_76 : decode k_E_send 76 = .ok (.invokevirtual 146, 3) := by decide +kernel
theorem d_E_send_79 : decode k_E_send 79 = .ok (.return_, 1) := by decide +kernel
def b_E_send_55 (q : Nat) (v1 : Int32) (v2 : Int32) (v3 : Int32) (v4 : Int32) (w0 : Int32) (σ : CS) : Option (CS) :=
  bd (cI σ (q + 3) 1) fun x1 => bc (m_E_emit q ((v1 ||| w0) ||| (16 : Int32)) v2 x1 v4 v3 σ) fun r2 => some r2
def b_E_send_54 (q : Nat) (v1 : Int32) (v2 : Int32) (v3 : Int32) (v4 : Int32) (σ : CS) : Option (CS) :=
  b_E_send_55 q v1 v2 v3 v4 (0 : Int32) σ
def b_E_send_32 (q : Nat) (v1 : Int32) (v2 : Int32) (v3 : Int32) (v4 : Int32) (σ : CS) : Option (CS) :=
  if v3 ≤ 0 then
  (b_E_send_54 q v1 v2 v3 v4 σ)
 else
  (bd (cI σ (q + 1) 7) fun x1 => if (v2 + v3) = x1 then
  (b_E_send_55 q v1 v2 v3 v4 (8 : Int32) σ)
 else
  (b_E_send_54 q v1 v2 v3 v4 σ))
def m_E_send (q : Nat) (v1 : Int32) (v2 : Int32) (v3 : Int32) (σ : CS) : Option (CS) :=
  gd (q = 7 ∨ q = 14) <| bc2 (m_V_openWindow (q + 3) σ) fun x2 r1 => bd (cI r1 q 0) fun x3 => if x3 = 0 then
  (if v1 = (2 : Int32) then
  (bc (m_E_emit q (2 : Int32) v2 (0 : Int32) x2 (0 : Int32) r1) fun r4 => some r4)
 else
  (b_E_send_32 q v1 v2 v3 x2 r1))
 else
  (b_E_send_32 q v1 v2 v3 x2 r1)
section
variable {p : Program} {l : Launch} {e : Env} {s : State} {m : MethodId} {args : Array Value} {below : List Frame} {meth : Method} {c : Code} {D : va_G} {tc : Nat → ClassId} {b z : Nat} {σ0 : CS}
theorem t_E_send_55 {q : Nat} (S : CC p m c k_E_send 6 s args cn_E meth none D tc b z) (hq : q = 7 ∨ q = 14) (v1 : Int32) (v2 : Int32) (v3 : Int32) (v4 : Int32) (w0 : Int32) (σ : CS) {B : CS} (h : b_E_send_55 q v1 v2 v3 v4 w0 σ = some B) {ls : Array Slot} {H : Heap} {locs : List Loc} {cells slots : Nat} (hl : lv_has ls 6 [(0, .ref (b + q)), (1, .int v1), (2, .int v2), (3, .int v3), (4, .int v4)]) (hW : CWS D tc b z s σ0 σ H locs cells slots) : W p l e (CR 9 222 σ0) s m args below meth c H locs cells slots (CE D tc b z below args s σ0 none B) (F0 m 55 ls [.int w0]) := by
  have hx := S.1.1
  have hb := S.1.2.1
  unfold b_E_send_55 at h
  refine lv_istore (lv' := [(5, .int w0), (0, .ref (b + q)), (1, .int v1), (2, .int v2), (3, .int v3), (4, .int v4)]) hx hb d_E_send_55 hl (by decide) rfl (fun ls hl => ?_)
  refine lv_aload_n hx hb d_E_send_57 rfl (lv_at hl 1 rfl) ?_
  refine lv_iload_n hx hb d_E_send_58 rfl (lv_at hl 2 rfl) ?_
  refine lv_iload hx hb d_E_send_59 (lv_at hl 0 rfl) ?_
  refine lv_ior hx hb d_E_send_61 ?_
  refine lv_bipush (v := 16) hx hb d_E_send_62 (by decide) ?_
  refine lv_ior hx hb d_E_send_64 ?_
  refine lv_iload_n hx hb d_E_send_65 rfl (lv_at hl 3 rfl) ?_
  refine lv_aload_n hx hb d_E_send_66 rfl (lv_at hl 1 rfl) ?_
  refine cm_getf kx_E S hW (kE hq) 4 (q + 3) rfl wd_355 (by decide) d_E_send_67 ?_
  refine cm_geti kx_V S hW (kEV hq) 1 wd_254 (by decide) d_E_send_70 h (fun x1 h => ?_)
  refine lv_iload hx hb d_E_send_73 (lv_at hl 5 rfl) ?_
  refine lv_iload_n hx hb d_E_send_75 rfl (lv_at hl 4 rfl) ?_
  refine cm_cVv [.int ((v1 ||| w0) ||| (16 : Int32)), .int v2, .int x1, .int v4, .int v3] kx_E S hW (kE hq) (fun σ' hc => c_E_emit q ((v1 ||| w0) ||| (16 : Int32)) v2 x1 v4 v3 σ hc) q_E_emit wd_567 wd_5 wd_565 (by decide) hl.1 rfl rfl (Nat.le_of_ble_eq_true rfl) d_E_send_76 h (fun r2 H locs cells slots h hW => ?_)
  exact cm_vret S hW d_E_send_79 h
theorem t_E_send_54 {q : Nat} (S : CC p m c k_E_send 6 s args cn_E meth none D tc b z) (hq : q = 7 ∨ q = 14) (v1 : Int32) (v2 : Int32) (v3 : Int32) (v4 : Int32) (σ : CS) {B : CS} (h : b_E_send_54 q v1 v2 v3 v4 σ = some B) {ls : Array Slot} {H : Heap} {locs : List Loc} {cells slots : Nat} (hl : lv_has ls 6 [(0, .ref (b + q)), (1, .int v1), (2, .int v2), (3, .int v3), (4, .int v4)]) (hW : CWS D tc b z s σ0 σ H locs cells slots) : W p l e (CR 9 222 σ0) s m args below meth c H locs cells slots (CE D tc b z below args s σ0 none B) (F0 m 54 ls []) := by
  have hx := S.1.1
  have hb := S.1.2.1
  unfold b_E_send_54 at h
  refine lv_iconst (v := 0) hx hb d_E_send_54 (by decide) ?_
  exact t_E_send_55 S hq v1 v2 v3 v4 (0 : Int32) σ h (lv_sub hl [0, 1, 2, 3, 4] rfl) hW
theorem t_E_send_32 {q : Nat} (S : CC p m c k_E_send 6 s args cn_E meth none D tc b z) (hq : q = 7 ∨ q = 14) (v1 : Int32) (v2 : Int32) (v3 : Int32) (v4 : Int32) (σ : CS) {B : CS} (h : b_E_send_32 q v1 v2 v3 v4 σ = some B) {ls : Array Slot} {H : Heap} {locs : List Loc} {cells slots : Nat} (hl : lv_has ls 6 [(0, .ref (b + q)), (1, .int v1), (2, .int v2), (3, .int v3), (4, .int v4)]) (hW : CWS D tc b z s σ0 σ H locs cells slots) : W p l e (CR 9 222 σ0) s m args below meth c H locs cells slots (CE D tc b z below args s σ0 none B) (F0 m 32 ls []) := by
  have hx := S.1.1
  have hb := S.1.2.1
  unfold b_E_send_32 at h
  refine lv_iload_n hx hb d_E_send_32 rfl (lv_at hl 3 rfl) ?_
  refine rb_le (tgt := 54) hx hb d_E_send_33 (by decide) h (fun h => ?_) (fun h => ?_)
  · exact t_E_send_54 S hq v1 v2 v3 v4 σ h (lv_sub hl [0, 1, 2, 3, 4] rfl) hW
  · refine lv_iload_n hx hb d_E_send_36 rfl (lv_at hl 2 rfl) ?_
    refine lv_iload_n hx hb d_E_send_37 rfl (lv_at hl 3 rfl) ?_
    refine lv_iadd hx hb d_E_send_38 ?_
    refine lv_aload_n hx hb d_E_send_39 rfl (lv_at hl 0 rfl) ?_
    refine cm_getf kx_E S hW (kE hq) 3 (q + 1) rfl wd_353 (by decide) d_E_send_40 ?_
    refine cm_geti kx_U S hW (kEU hq) 7 wd_212 (by decide) d_E_send_43 h (fun x1 h => ?_)
    refine rc_ne (tgt := 54) hx hb d_E_send_46 (by decide) h (fun h => ?_) (fun h => ?_)
    · exact t_E_send_54 S hq v1 v2 v3 v4 σ h (lv_sub hl [0, 1, 2, 3, 4] rfl) hW
    · refine lv_bipush (v := 8) hx hb d_E_send_49 (by decide) ?_
      refine lv_goto (tgt := 55) hx hb d_E_send_51 (by decide) ?_
      exact t_E_send_55 S hq v1 v2 v3 v4 (8 : Int32) σ h (lv_sub hl [0, 1, 2, 3, 4] rfl) hW
theorem t_E_send_0 (S : CC p m c k_E_send 6 s args cn_E meth none D tc b z) (q : Nat) (v1 : Int32) (v2 : Int32) (v3 : Int32) (σ : CS) {B : CS} (h : m_E_send q v1 v2 v3 σ = some B) {ls : Array Slot} {H : Heap} {locs : List Loc} {cells slots : Nat} (hl : lv_has ls 6 [(0, .ref (b + q)), (1, .int v1), (2, .int v2), (3, .int v3)]) (hW : CWS D tc b z s σ0 σ H locs cells slots) : W p l e (CR 9 222 σ0) s m args below meth c H locs cells slots (CE D tc b z below args s σ0 none B) (F0 m 0 ls []) := by
  have hx := S.1.1
  have hb := S.1.2.1
  unfold m_E_send at h
  obtain ⟨hq, h⟩ := gd_s h
  refine lv_aload_n hx hb d_E_send_0 rfl (lv_at hl 0 rfl) ?_
  refine cm_getf kx_E S hW (kE hq) 4 (q + 3) rfl wd_355 (by decide) d_E_send_1 ?_
  refine cm_cVi [] kx_V S hW (kEV hq) (fun x σ' hc => c_V_openWindow (q + 3) σ hc) q_V_openWindow wd_553 wd_554 wd_552 (by decide) hl.1 rfl rfl (Nat.le_of_ble_eq_true rfl) d_E_send_4 h (fun x2 r1 H locs cells slots h hW => ?_)
  refine lv_istore (lv' := [(4, .int x2), (0, .ref (b + q)), (1, .int v1), (2, .int v2), (3, .int v3)]) hx hb d_E_send_7 hl (by decide) rfl (fun ls hl => ?_)
  refine lv_aload_n hx hb d_E_send_9 rfl (lv_at hl 1 rfl) ?_
  refine cm_geti kx_E S hW (kE hq) 0 wd_349 (by decide) d_E_send_10 h (fun x3 h => ?_)
  refine rb_ne (tgt := 32) hx hb d_E_send_13 (by decide) h (fun h => ?_) (fun h => ?_)
  · exact t_E_send_32 S hq v1 v2 v3 x2 r1 h (lv_sub hl [1, 2, 3, 4, 0] rfl) hW
  · refine lv_iload_n hx hb d_E_send_16 rfl (lv_at hl 2 rfl) ?_
    refine lv_iconst (v := 2) hx hb d_E_send_17 (by decide) ?_
    refine rc_ne (tgt := 32) hx hb d_E_send_18 (by decide) h (fun h => ?_) (fun h => ?_)
    · exact t_E_send_32 S hq v1 v2 v3 x2 r1 h (lv_sub hl [1, 2, 3, 4, 0] rfl) hW
    · refine lv_aload_n hx hb d_E_send_21 rfl (lv_at hl 1 rfl) ?_
      refine lv_iconst (v := 2) hx hb d_E_send_22 (by decide) ?_
      refine lv_iload_n hx hb d_E_send_23 rfl (lv_at hl 3 rfl) ?_
      refine lv_iconst (v := 0) hx hb d_E_send_24 (by decide) ?_
      refine lv_iload hx hb d_E_send_25 (lv_at hl 0 rfl) ?_
      refine lv_iconst (v := 0) hx hb d_E_send_27 (by decide) ?_
      refine cm_cVv [.int (2 : Int32), .int v2, .int (0 : Int32), .int x2, .int (0 : Int32)] kx_E S hW (kE hq) (fun σ' hc => c_E_emit q (2 : Int32) v2 (0 : Int32) x2 (0 : Int32) r1 hc) q_E_emit wd_567 wd_5 wd_565 (by decide) hl.1 rfl rfl (Nat.le_of_ble_eq_true rfl) d_E_send_28 h (fun r4 H locs cells slots h hW => ?_)
      exact cm_vret S hW d_E_send_31 h
theorem c_E_send (q : Nat) (v1 : Int32) (v2 : Int32) (v3 : Int32) (σ : CS) {B : CS} (h : m_E_send q v1 v2 v3 σ = some B) : CMet l D tc b z y_E_send k_E_send 6 none 9 222 [.ref (b + q), .int v1, .int v2, .int v3] σ none B := cm_met (by decide) (Nat.le_of_ble_eq_true rfl) fun p e s m args below meth c S hW ls hl => t_E_send_0 S q v1 v2 v3 σ h hl hW
end

/-! StreamPair$End.sendAck ()V -/
abbrev k_E_sendAck : ByteArray := prog_5_method_9_code
abbrev y_E_sendAck : MethodName := ⟨cn_E, "sendAck", "()V"⟩
theorem q_E_sendAck : Calee y_E_sendAck k_E_sendAck 1 none 0 := ⟨wd_885, wd_85, by decide, by decide +kernel⟩
theorem d_E_sendAck_0 : decode k_E_sendAck 0 = .ok (.aload_n 0, 1) := by decide +kernel
theorem d_E_sendAck_1 : decode k_E_sendAck 1 = .ok (.iconst 0, 1) := by decide +kernel
theorem d_E_sendAck_2 : decode k_E_sendAck 2 = .ok (.aload_n 0, 1) := by decide +kernel
theorem d_E_sendAck_3 : decode k_E_sendAck 3 = .ok (.getfield 12, 3) := by decide +kernel
theorem d_E_sendAck_6 : decode k_E_sendAck 6 = .ok (.getfield 91, 3) := by decide +kernel
theorem d_E_sendAck_9 : decode k_E_sendAck 9 = .ok (.iconst 0, 1) := by decide +kernel
theorem d_E_sendAck_10 : decode k_E_sendAck 10 = .ok (.invokevirtual 94, 3) := by decide +kernel
theorem d_E_sendAck_13 : decode k_E_sendAck 13 = .ok (.return_, 1) := by decide +kernel
def m_E_sendAck (q : Nat) (σ : CS) : Option (CS) :=
  gd (q = 7 ∨ q = 14) <| bd (cI σ (q + 1) 5) fun x1 => bc (m_E_send q (0 : Int32) x1 (0 : Int32) σ) fun r2 => some r2
section
variable {p : Program} {l : Launch} {e : Env} {s : State} {m : MethodId} {args : Array Value} {below : List Frame} {meth : Method} {c : Code} {D : va_G} {tc : Nat → ClassId} {b z : Nat} {σ0 : CS}
theorem t_E_sendAck_0 (S : CC p m c k_E_sendAck 1 s args cn_E meth none D tc b z) (q : Nat) (σ : CS) {B : CS} (h : m_E_sendAck q σ = some B) {ls : Array Slot} {H : Heap} {locs : List Loc} {cells slots : Nat} (hl : lv_has ls 1 [(0, .ref (b + q))]) (hW : CWS D tc b z s σ0 σ H locs cells slots) : W p l e (CR 10 247 σ0) s m args below meth c H locs cells slots (CE D tc b z below args s σ0 none B) (F0 m 0 ls []) := by
  have hx := S.1.1
  have hb := S.1.2.1
  unfold m_E_sendAck at h
  obtain ⟨hq, h⟩ := gd_s h
  refine lv_aload_n hx hb d_E_sendAck_0 rfl (lv_at hl 0 rfl) ?_
  refine lv_iconst (v := 0) hx hb d_E_sendAck_1 (by decide) ?_
  refine lv_aload_n hx hb d_E_sendAck_2 rfl (lv_at hl 0 rfl) ?_
  refine cm_getf kx_E S hW (kE hq) 3 (q + 1) rfl wd_353 (by decide) d_E_sendAck_3 ?_
  refine cm_geti kx_U S hW (kEU hq) 5 wd_208 (by decide) d_E_sendAck_6 h (fun x1 h => ?_)
  refine lv_iconst (v := 0) hx hb d_E_sendAck_9 (by decide) ?_
  refine cm_cVv [.int (0 : Int32), .int x1, .int (0 : Int32)] kx_E S hW (kE hq) (fun σ' hc => c_E_send q (0 : Int32) x1 (0 : Int32) σ hc) q_E_send wd_550 wd_4 wd_548 (by decide) hl.1 rfl rfl (Nat.le_of_ble_eq_true rfl) d_E_sendAck_10 h (fun r2 H locs cells slots h hW => ?_)
  exact cm_vret S hW d_E_sendAck_13 h
theorem c_E_sendAck (q : Nat) (σ : CS) {B : CS} (h : m_E_sendAck q σ = some B) : CMet l D tc b z y_E_sendAck k_E_sendAck 1 none 10 247 [.ref (b + q)] σ none B := cm_met (by decide) (Nat.le_of_ble_eq_true rfl) fun p e s m args below meth c S hW ls hl => t_E_sendAck_0 S q σ h hl hW
end

/-! StreamPair$End.sendNext (II)V -/
abbrev k_E_sendNext : ByteArray := prog_5_method_11_code
abbrev y_E_sendNext : MethodName := ⟨cn_E, "sendNext", "(II)V"⟩
theorem q_E_sendNext : Calee y_E_sendNext k_E_sendNext 5 none 2 := ⟨wd_547, wd_85, by decide, by decide +kernel⟩
theorem d_E_sendNext_0 : decode k_E_sendNext 0 = .ok (.aload_n 0, 1) := by decide +kernel
theorem d_E_sendNext_1 : decode k_E_sendNext 1 = .ok (.getfield 12, 3) := by decide +kernel
theorem d_E_sendNext_4 : decode k_E_sendNext 4 = .ok (.getfield 91, 3) := by decide +kernel
theorem d_E_sendNext_7 : decode k_E_sendNext 7 = .ok (.istore_n 3, 1) := by decide +kernel
theorem d_E_sendNext_8 : decode k_E_sendNext 8 = .ok (.iload_n 3, 1) := by decide +kernel
theorem d_E_sendNext_9 : decode k_E_sendNext 9 = .ok (.iload_n 2, 1) := by decide +kernel
theorem d_E_sendNext_10 : decode k_E_sendNext 10 = .ok (.iadd, 1) := by decide +kernel
theorem d_E_sendNext_11 : decode k_E_sendNext 11 = .ok (.iload_n 1, 1) := by decide +kernel
theorem d_E_sendNext_12 : decode k_E_sendNext 12 = .ok (.ifCond .ne 7, 3) := by decide +kernel
theorem d_E_sendNext_15 : decode k_E_sendNext 15 = .ok (.iconst 0, 1) := by decide +kernel
theorem d_E_sendNext_16 : decode k_E_sendNext 16 = .ok (.goto 4, 3) := by decide +kernel
theorem d_E_sendNext_19 : decode k_E_sendNext 19 = .ok (.iconst 1, 1) := by decide +kernel
theorem d_E_sendNext_20 : decode k_E_sendNext 20 = .ok (.iadd, 1) := by decide +kernel
theorem d_E_sendNext_21 : decode k_E_sendNext 21 = .ok (.istore 4, 2) := by decide +kernel
theorem d_E_sendNext_23 : decode k_E_sendNext 23 = .ok (.aload_n 0, 1) := by decide +kernel
theorem d_E_sendNext_24 : decode k_E_sendNext 24 = .ok (.iload_n 1, 1) := by decide +kernel
theorem d_E_sendNext_25 : decode k_E_sendNext 25 = .ok (.iload_n 3, 1) := by decide +kernel
theorem d_E_sendNext_26 : decode k_E_sendNext 26 = .ok (.iload_n 2, 1) := by decide +kernel
theorem d_E_sendNext_27 : decode k_E_sendNext 27 = .ok (.invokevirtual 94, 3) := by decide +kernel
theorem d_E_sendNext_30 : decode k_E_sendNext 30 = .ok (.iload_n 3, 1) := by decide +kernel
theorem d_E_sendNext_31 : decode k_E_sendNext 31 = .ok (.aload_n 0, 1) := by decide +kernel
theorem d_E_sendNext_32 : decode k_E_sendNext 32 = .ok (.getfield 12, 3) := by decide +kernel
theorem d_E_sendNext_35 : decode k_E_sendNext 35 = .ok (.getfield 134, 3) := by decide +kernel
theorem d_E_sendNext_38 : decode k_E_sendNext 38 = .ok (.if_icmp .ne 19, 3) := by decide +kernel
theorem d_E_sendNext_41 : decode k_E_sendNext 41 = .ok (.aload_n 0, 1) := by decide +kernel
theorem d_E_sendNext_42 : decode k_E_sendNext 42 = .ok (.getfield 28, 3) := by decide +kernel
theorem d_E_sendNext_45 : decode k_E_sendNext 45 = .ok (.iload 4, 2) := by decide +kernel
theorem d_E_sendNext_47 : decode k_E_sendNext 47 = .ok (.aload_n 0, 1) := by decide +kernel
theorem d_E_sendNext_48 : decode k_E_sendNext 48 = .ok (.getfield 46, 3) := by decide +kernel
theorem d_E_sendNext_51 : decode k_E_sendNext 51 = .ok (.getfield 121, 3) := by decide +kernel
theorem d_E_sendNext_54 : decode k_E_sendNext 54 = .ok (.invokevirtual 137, 3) := by decide +kernel
theorem d_E_sendNext_57 : decode k_E_sendNext 57 = .ok (.aload_n 0, 1) := by decide +kernel
theorem d_E_sendNext_58 : decode k_E_sendNext 58 = .ok (.getfield 12, 3) := by decide +kernel
theorem d_E_sendNext_61 : decode k_E_sendNext 61 = .ok (.iload 4, 2) := by decide +kernel
theorem d_E_sendNext_63 : decode k_E_sendNext 63 = .ok (.invokevirtual 140, 3) := by decide +kernel
theorem d_E_sendNext_66 : decode k_E_sendNext 66 = .ok (.return_, 1) := by decide +kernel
def b_E_sendNext_57 (q : Nat) (v4 : Int32) (σ : CS) : Option (CS) :=
  bc (m_U_follow (q + 1) v4 σ) fun r1 => some r1
def b_E_sendNext_20 (q : Nat) (v1 : Int32) (v2 : Int32) (v3 : Int32) (w0 : Int32) (w1 : Int32) (σ : CS) : Option (CS) :=
  bd (w0 + w1) fun x1 => bc (m_E_send q v1 v3 v2 σ) fun r2 => bd (cI r2 (q + 1) 6) fun x3 => if v3 = x3 then
  (bd (cJ r2 3 0) fun x4 => bc (m_Z_time (q + 5) x1 x4 r2) fun r5 => b_E_sendNext_57 q x1 r5)
 else
  (b_E_sendNext_57 q x1 r2)
def m_E_sendNext (q : Nat) (v1 : Int32) (v2 : Int32) (σ : CS) : Option (CS) :=
  gd (q = 7 ∨ q = 14) <| bd (cI σ (q + 1) 5) fun x1 => if v1 = 0 then
  (b_E_sendNext_20 q v1 v2 x1 (x1 + v2) (0 : Int32) σ)
 else
  (b_E_sendNext_20 q v1 v2 x1 (x1 + v2) (1 : Int32) σ)
section
variable {p : Program} {l : Launch} {e : Env} {s : State} {m : MethodId} {args : Array Value} {below : List Frame} {meth : Method} {c : Code} {D : va_G} {tc : Nat → ClassId} {b z : Nat} {σ0 : CS}
theorem t_E_sendNext_57 {q : Nat} (S : CC p m c k_E_sendNext 5 s args cn_E meth none D tc b z) (hq : q = 7 ∨ q = 14) (v4 : Int32) (σ : CS) {B : CS} (h : b_E_sendNext_57 q v4 σ = some B) {ls : Array Slot} {H : Heap} {locs : List Loc} {cells slots : Nat} (hl : lv_has ls 5 [(0, .ref (b + q)), (4, .int v4)]) (hW : CWS D tc b z s σ0 σ H locs cells slots) : W p l e (CR 10 247 σ0) s m args below meth c H locs cells slots (CE D tc b z below args s σ0 none B) (F0 m 57 ls []) := by
  have hx := S.1.1
  have hb := S.1.2.1
  unfold b_E_sendNext_57 at h
  refine lv_aload_n hx hb d_E_sendNext_57 rfl (lv_at hl 0 rfl) ?_
  refine cm_getf kx_E S hW (kE hq) 3 (q + 1) rfl wd_353 (by decide) d_E_sendNext_58 ?_
  refine lv_iload hx hb d_E_sendNext_61 (lv_at hl 1 rfl) ?_
  refine cm_cVv [.int v4] kx_U S hW (kEU hq) (fun σ' hc => c_U_follow (q + 1) v4 σ hc) q_U_follow wd_637 wd_638 wd_636 (by decide) hl.1 rfl rfl (Nat.le_of_ble_eq_true rfl) d_E_sendNext_63 h (fun r1 H locs cells slots h hW => ?_)
  exact cm_vret S hW d_E_sendNext_66 h
theorem t_E_sendNext_20 {q : Nat} (S : CC p m c k_E_sendNext 5 s args cn_E meth none D tc b z) (hq : q = 7 ∨ q = 14) (v1 : Int32) (v2 : Int32) (v3 : Int32) (w0 : Int32) (w1 : Int32) (σ : CS) {B : CS} (h : b_E_sendNext_20 q v1 v2 v3 w0 w1 σ = some B) {ls : Array Slot} {H : Heap} {locs : List Loc} {cells slots : Nat} (hl : lv_has ls 5 [(0, .ref (b + q)), (1, .int v1), (2, .int v2), (3, .int v3)]) (hW : CWS D tc b z s σ0 σ H locs cells slots) : W p l e (CR 10 247 σ0) s m args below meth c H locs cells slots (CE D tc b z below args s σ0 none B) (F0 m 20 ls [.int w1, .int w0]) := by
  have hx := S.1.1
  have hb := S.1.2.1
  unfold b_E_sendNext_20 at h
  refine lv_iadd hx hb d_E_sendNext_20 ?_
  refine rv_i h (fun x1 h => ?_)
  refine lv_istore (lv' := [(4, .int x1), (0, .ref (b + q)), (1, .int v1), (2, .int v2), (3, .int v3)]) hx hb d_E_sendNext_21 hl (by decide) rfl (fun ls hl => ?_)
  refine lv_aload_n hx hb d_E_sendNext_23 rfl (lv_at hl 1 rfl) ?_
  refine lv_iload_n hx hb d_E_sendNext_24 rfl (lv_at hl 2 rfl) ?_
  refine lv_iload_n hx hb d_E_sendNext_25 rfl (lv_at hl 4 rfl) ?_
  refine lv_iload_n hx hb d_E_sendNext_26 rfl (lv_at hl 3 rfl) ?_
  refine cm_cVv [.int v1, .int v3, .int v2] kx_E S hW (kE hq) (fun σ' hc => c_E_send q v1 v3 v2 σ hc) q_E_send wd_550 wd_4 wd_548 (by decide) hl.1 rfl rfl (Nat.le_of_ble_eq_true rfl) d_E_sendNext_27 h (fun r2 H locs cells slots h hW => ?_)
  refine lv_iload_n hx hb d_E_sendNext_30 rfl (lv_at hl 4 rfl) ?_
  refine lv_aload_n hx hb d_E_sendNext_31 rfl (lv_at hl 1 rfl) ?_
  refine cm_getf kx_E S hW (kE hq) 3 (q + 1) rfl wd_353 (by decide) d_E_sendNext_32 ?_
  refine cm_geti kx_U S hW (kEU hq) 6 wd_210 (by decide) d_E_sendNext_35 h (fun x3 h => ?_)
  refine rc_ne (tgt := 57) hx hb d_E_sendNext_38 (by decide) h (fun h => ?_) (fun h => ?_)
  · exact t_E_sendNext_57 S hq x1 r2 h (lv_sub hl [1, 0] rfl) hW
  · refine lv_aload_n hx hb d_E_sendNext_41 rfl (lv_at hl 1 rfl) ?_
    refine cm_getf kx_E S hW (kE hq) 5 (q + 5) rfl wd_357 (by decide) d_E_sendNext_42 ?_
    refine lv_iload hx hb d_E_sendNext_45 (lv_at hl 0 rfl) ?_
    refine lv_aload_n hx hb d_E_sendNext_47 rfl (lv_at hl 1 rfl) ?_
    refine cm_getf kx_E S hW (kE hq) 1 (3) rfl wd_351 (by decide) d_E_sendNext_48 ?_
    refine cm_getl kx_C S hW rfl 0 wd_136 (by decide) d_E_sendNext_51 h (fun x4 h => ?_)
    refine cm_cVv [.int x1, .long x4] kx_Z S hW (kEZ hq) (fun σ' hc => c_Z_time (q + 5) x1 x4 r2 hc) q_Z_time wd_633 wd_634 wd_632 (by decide) hl.1 rfl rfl (Nat.le_of_ble_eq_true rfl) d_E_sendNext_54 h (fun r5 H locs cells slots h hW => ?_)
    exact t_E_sendNext_57 S hq x1 r5 h (lv_sub hl [1, 0] rfl) hW
theorem t_E_sendNext_0 (S : CC p m c k_E_sendNext 5 s args cn_E meth none D tc b z) (q : Nat) (v1 : Int32) (v2 : Int32) (σ : CS) {B : CS} (h : m_E_sendNext q v1 v2 σ = some B) {ls : Array Slot} {H : Heap} {locs : List Loc} {cells slots : Nat} (hl : lv_has ls 5 [(0, .ref (b + q)), (1, .int v1), (2, .int v2)]) (hW : CWS D tc b z s σ0 σ H locs cells slots) : W p l e (CR 10 247 σ0) s m args below meth c H locs cells slots (CE D tc b z below args s σ0 none B) (F0 m 0 ls []) := by
  have hx := S.1.1
  have hb := S.1.2.1
  unfold m_E_sendNext at h
  obtain ⟨hq, h⟩ := gd_s h
  refine lv_aload_n hx hb d_E_sendNext_0 rfl (lv_at hl 0 rfl) ?_
  refine cm_getf kx_E S hW (kE hq) 3 (q + 1) rfl wd_353 (by decide) d_E_sendNext_1 ?_
  refine cm_geti kx_U S hW (kEU hq) 5 wd_208 (by decide) d_E_sendNext_4 h (fun x1 h => ?_)
  refine lv_istore_n (lv' := [(3, .int x1), (0, .ref (b + q)), (1, .int v1), (2, .int v2)]) hx hb d_E_sendNext_7 rfl hl (by decide) rfl (fun ls hl => ?_)
  refine lv_iload_n hx hb d_E_sendNext_8 rfl (lv_at hl 0 rfl) ?_
  refine lv_iload_n hx hb d_E_sendNext_9 rfl (lv_at hl 3 rfl) ?_
  refine lv_iadd hx hb d_E_sendNext_10 ?_
  refine lv_iload_n hx hb d_E_sendNext_11 rfl (lv_at hl 2 rfl) ?_
  refine rb_ne (tgt := 19) hx hb d_E_sendNext_12 (by decide) h (fun h => ?_) (fun h => ?_)
  · refine lv_iconst (v := 1) hx hb d_E_sendNext_19 (by decide) ?_
    exact t_E_sendNext_20 S hq v1 v2 x1 (x1 + v2) (1 : Int32) σ h (lv_sub hl [1, 2, 3, 0] rfl) hW
  · refine lv_iconst (v := 0) hx hb d_E_sendNext_15 (by decide) ?_
    refine lv_goto (tgt := 20) hx hb d_E_sendNext_16 (by decide) ?_
    exact t_E_sendNext_20 S hq v1 v2 x1 (x1 + v2) (0 : Int32) σ h (lv_sub hl [1, 2, 3, 0] rfl) hW
theorem c_E_sendNext (q : Nat) (v1 : Int32) (v2 : Int32) (σ : CS) {B : CS} (h : m_E_sendNext q v1 v2 σ = some B) : CMet l D tc b z y_E_sendNext k_E_sendNext 5 none 10 247 [.ref (b + q), .int v1, .int v2] σ none B := cm_met (by decide) (Nat.le_of_ble_eq_true rfl) fun p e s m args below meth c S hW ls hl => t_E_sendNext_0 S q v1 v2 σ h hl hW
end

/-! StreamPair$End.sendFirstSyn ()V -/
abbrev k_E_sendFirstSyn : ByteArray := prog_5_method_10_code
abbrev y_E_sendFirstSyn : MethodName := ⟨cn_E, "sendFirstSyn", "()V"⟩
theorem q_E_sendFirstSyn : Calee y_E_sendFirstSyn k_E_sendFirstSyn 1 none 0 := ⟨wd_543, wd_85, by decide, by decide +kernel⟩
theorem d_E_sendFirstSyn_0 : decode k_E_sendFirstSyn 0 = .ok (.aload_n 0, 1) := by decide +kernel
theorem d_E_sendFirstSyn_1 : decode k_E_sendFirstSyn 1 = .ok (.iconst 2, 1) := by decide +kernel
theorem d_E_sendFirstSyn_2 : decode k_E_sendFirstSyn 2 = .ok (.iconst 0, 1) := by decide +kernel
theorem d_E_sendFirstSyn_3 : decode k_E_sendFirstSyn 3 = .ok (.invokevirtual 117, 3) := by decide +kernel
theorem d_E_sendFirstSyn_6 : decode k_E_sendFirstSyn 6 = .ok (.aload_n 0, 1) := by decide +kernel
theorem d_E_sendFirstSyn_7 : decode k_E_sendFirstSyn 7 = .ok (.getfield 28, 3) := by decide +kernel
theorem d_E_sendFirstSyn_10 : decode k_E_sendFirstSyn 10 = .ok (.aload_n 0, 1) := by decide +kernel
theorem d_E_sendFirstSyn_11 : decode k_E_sendFirstSyn 11 = .ok (.getfield 46, 3) := by decide +kernel
theorem d_E_sendFirstSyn_14 : decode k_E_sendFirstSyn 14 = .ok (.getfield 121, 3) := by decide +kernel
theorem d_E_sendFirstSyn_17 : decode k_E_sendFirstSyn 17 = .ok (.aload_n 0, 1) := by decide +kernel
theorem d_E_sendFirstSyn_18 : decode k_E_sendFirstSyn 18 = .ok (.getfield 28, 3) := by decide +kernel
theorem d_E_sendFirstSyn_21 : decode k_E_sendFirstSyn 21 = .ok (.getfield 127, 3) := by decide +kernel
theorem d_E_sendFirstSyn_24 : decode k_E_sendFirstSyn 24 = .ok (.invokevirtual 130, 3) := by decide +kernel
theorem d_E_sendFirstSyn_27 : decode k_E_sendFirstSyn 27 = .ok (.return_, 1) := by decide +kernel
def m_E_sendFirstSyn (q : Nat) (σ : CS) : Option (CS) :=
  gd (q = 7 ∨ q = 14) <| bc (m_E_sendNext q (2 : Int32) (0 : Int32) σ) fun r1 => bd (cJ r1 3 0) fun x2 => bd (cI r1 (q + 5) 0) fun x3 => bc (m_Z_startTimer (q + 5) x2 x3 r1) fun r4 => some r4
section
variable {p : Program} {l : Launch} {e : Env} {s : State} {m : MethodId} {args : Array Value} {below : List Frame} {meth : Method} {c : Code} {D : va_G} {tc : Nat → ClassId} {b z : Nat} {σ0 : CS}
theorem t_E_sendFirstSyn_0 (S : CC p m c k_E_sendFirstSyn 1 s args cn_E meth none D tc b z) (q : Nat) (σ : CS) {B : CS} (h : m_E_sendFirstSyn q σ = some B) {ls : Array Slot} {H : Heap} {locs : List Loc} {cells slots : Nat} (hl : lv_has ls 1 [(0, .ref (b + q))]) (hW : CWS D tc b z s σ0 σ H locs cells slots) : W p l e (CR 11 271 σ0) s m args below meth c H locs cells slots (CE D tc b z below args s σ0 none B) (F0 m 0 ls []) := by
  have hx := S.1.1
  have hb := S.1.2.1
  unfold m_E_sendFirstSyn at h
  obtain ⟨hq, h⟩ := gd_s h
  refine lv_aload_n hx hb d_E_sendFirstSyn_0 rfl (lv_at hl 0 rfl) ?_
  refine lv_iconst (v := 2) hx hb d_E_sendFirstSyn_1 (by decide) ?_
  refine lv_iconst (v := 0) hx hb d_E_sendFirstSyn_2 (by decide) ?_
  refine cm_cVv [.int (2 : Int32), .int (0 : Int32)] kx_E S hW (kE hq) (fun σ' hc => c_E_sendNext q (2 : Int32) (0 : Int32) σ hc) q_E_sendNext wd_546 wd_3 wd_544 (by decide) hl.1 rfl rfl (Nat.le_of_ble_eq_true rfl) d_E_sendFirstSyn_3 h (fun r1 H locs cells slots h hW => ?_)
  refine lv_aload_n hx hb d_E_sendFirstSyn_6 rfl (lv_at hl 0 rfl) ?_
  refine cm_getf kx_E S hW (kE hq) 5 (q + 5) rfl wd_357 (by decide) d_E_sendFirstSyn_7 ?_
  refine lv_aload_n hx hb d_E_sendFirstSyn_10 rfl (lv_at hl 0 rfl) ?_
  refine cm_getf kx_E S hW (kE hq) 1 (3) rfl wd_351 (by decide) d_E_sendFirstSyn_11 ?_
  refine cm_getl kx_C S hW rfl 0 wd_136 (by decide) d_E_sendFirstSyn_14 h (fun x2 h => ?_)
  refine lv_aload_n hx hb d_E_sendFirstSyn_17 rfl (lv_at hl 0 rfl) ?_
  refine cm_getf kx_E S hW (kE hq) 5 (q + 5) rfl wd_357 (by decide) d_E_sendFirstSyn_18 ?_
  refine cm_geti kx_Z S hW (kEZ hq) 0 wd_291 (by decide) d_E_sendFirstSyn_21 h (fun x3 h => ?_)
  refine cm_cVv [.long x2, .int x3] kx_Z S hW (kEZ hq) (fun σ' hc => c_Z_startTimer (q + 5) x2 x3 r1 hc) q_Z_startTimer wd_641 wd_642 wd_640 (by decide) hl.1 rfl rfl (Nat.le_of_ble_eq_true rfl) d_E_sendFirstSyn_24 h (fun r4 H locs cells slots h hW => ?_)
  exact cm_vret S hW d_E_sendFirstSyn_27 h
theorem c_E_sendFirstSyn (q : Nat) (σ : CS) {B : CS} (h : m_E_sendFirstSyn q σ = some B) : CMet l D tc b z y_E_sendFirstSyn k_E_sendFirstSyn 1 none 11 271 [.ref (b + q)] σ none B := cm_met (by decide) (Nat.le_of_ble_eq_true rfl) fun p e s m args below meth c S hW ls hl => t_E_sendFirstSyn_0 S q σ h hl hW
end

/-! StreamPair$End.maySend ()Z -/
abbrev k_E_maySend : ByteArray := prog_5_method_15_code
abbrev y_E_maySend : MethodName := ⟨cn_E, "maySend", "()Z"⟩
theorem q_E_maySend : Calee y_E_maySend k_E_maySend 1 (Option.some Jvm.ClassFile.FieldType.boolean) 0 := ⟨wd_838, wd_85, by decide, by decide +kernel⟩
theorem d_E_maySend_0 : decode k_E_maySend 0 = .ok (.aload_n 0, 1) := by decide +kernel
theorem d_E_maySend_1 : decode k_E_maySend 1 = .ok (.getfield 54, 3) := by decide +kernel
theorem d_E_maySend_4 : decode k_E_maySend 4 = .ok (.iconst 4, 1) := by decide +kernel
theorem d_E_maySend_5 : decode k_E_maySend 5 = .ok (.if_icmp .eq 29, 3) := by decide +kernel
theorem d_E_maySend_8 : decode k_E_maySend 8 = .ok (.aload_n 0, 1) := by decide +kernel
theorem d_E_maySend_9 : decode k_E_maySend 9 = .ok (.getfield 54, 3) := by decide +kernel
theorem d_E_maySend_12 : decode k_E_maySend 12 = .ok (.iconst 5, 1) := by decide +kernel
theorem d_E_maySend_13 : decode k_E_maySend 13 = .ok (.if_icmp .eq 21, 3) := by decide +kernel
theorem d_E_maySend_16 : decode k_E_maySend 16 = .ok (.aload_n 0, 1) := by decide +kernel
theorem d_E_maySend_17 : decode k_E_maySend 17 = .ok (.getfield 54, 3) := by decide +kernel
theorem d_E_maySend_20 : decode k_E_maySend 20 = .ok (.bipush 7, 2) := by decide +kernel
theorem d_E_maySend_22 : decode k_E_maySend 22 = .ok (.if_icmp .lt 16, 3) := by decide +kernel
theorem d_E_maySend_25 : decode k_E_maySend 25 = .ok (.aload_n 0, 1) := by decide +kernel
theorem d_E_maySend_26 : decode k_E_maySend 26 = .ok (.getfield 54, 3) := by decide +kernel
theorem d_E_maySend_29 : decode k_E_maySend 29 = .ok (.bipush 9, 2) := by decide +kernel
theorem d_E_maySend_31 : decode k_E_maySend 31 = .ok (.if_icmp .gt 7, 3) := by decide +kernel
theorem d_E_maySend_34 : decode k_E_maySend 34 = .ok (.iconst 1, 1) := by decide +kernel
theorem d_E_maySend_35 : decode k_E_maySend 35 = .ok (.goto 4, 3) := by decide +kernel
theorem d_E_maySend_38 : decode k_E_maySend 38 = .ok (.iconst 0, 1) := by decide +kernel
theorem d_E_maySend_39 : decode k_E_maySend 39 = .ok (.ireturn, 1) := by decide +kernel
def b_E_maySend_39 (q : Nat) (w0 : Int32) (σ : CS) : Option (Int32 × CS) :=
  gd (w0 = 0 ∨ w0 = 1) (some (w0, σ))
def b_E_maySend_38 (q : Nat) (σ : CS) : Option (Int32 × CS) :=
  b_E_maySend_39 q (0 : Int32) σ
def b_E_maySend_34 (q : Nat) (σ : CS) : Option (Int32 × CS) :=
  b_E_maySend_39 q (1 : Int32) σ
def m_E_maySend (q : Nat) (σ : CS) : Option (Int32 × CS) :=
  gd (q = 7 ∨ q = 14) <| bd (cI σ q 8) fun x1 => if x1 = (4 : Int32) then
  (b_E_maySend_34 q  σ)
 else
  (bd (cI σ q 8) fun x2 => if x2 = (5 : Int32) then
  (b_E_maySend_34 q  σ)
 else
  (bd (cI σ q 8) fun x3 => if x3 < (7 : Int32) then
  (b_E_maySend_38 q  σ)
 else
  (bd (cI σ q 8) fun x4 => if (9 : Int32) < x4 then
  (b_E_maySend_38 q  σ)
 else
  (b_E_maySend_34 q  σ))))
section
variable {p : Program} {l : Launch} {e : Env} {s : State} {m : MethodId} {args : Array Value} {below : List Frame} {meth : Method} {c : Code} {D : va_G} {tc : Nat → ClassId} {b z : Nat} {σ0 : CS}
theorem t_E_maySend_39 {q : Nat} (S : CC p m c k_E_maySend 1 s args cn_E meth (Option.some Jvm.ClassFile.FieldType.boolean) D tc b z) (hq : q = 7 ∨ q = 14) (w0 : Int32) (σ : CS) {B : Int32 × CS} (h : b_E_maySend_39 q w0 σ = some B) {ls : Array Slot} {H : Heap} {locs : List Loc} {cells slots : Nat} (hl : lv_has ls 1 []) (hW : CWS D tc b z s σ0 σ H locs cells slots) : W p l e (CR 0 0 σ0) s m args below meth c H locs cells slots (CE D tc b z below args s σ0 (some (.int B.1)) B.2) (F0 m 39 ls [.int w0]) := by
  have hx := S.1.1
  have hb := S.1.2.1
  unfold b_E_maySend_39 at h
  exact cm_zret S hW d_E_maySend_39 h
theorem t_E_maySend_38 {q : Nat} (S : CC p m c k_E_maySend 1 s args cn_E meth (Option.some Jvm.ClassFile.FieldType.boolean) D tc b z) (hq : q = 7 ∨ q = 14) (σ : CS) {B : Int32 × CS} (h : b_E_maySend_38 q  σ = some B) {ls : Array Slot} {H : Heap} {locs : List Loc} {cells slots : Nat} (hl : lv_has ls 1 []) (hW : CWS D tc b z s σ0 σ H locs cells slots) : W p l e (CR 0 0 σ0) s m args below meth c H locs cells slots (CE D tc b z below args s σ0 (some (.int B.1)) B.2) (F0 m 38 ls []) := by
  have hx := S.1.1
  have hb := S.1.2.1
  unfold b_E_maySend_38 at h
  refine lv_iconst (v := 0) hx hb d_E_maySend_38 (by decide) ?_
  exact t_E_maySend_39 S hq (0 : Int32) σ h (lv_sub hl [] rfl) hW
theorem t_E_maySend_34 {q : Nat} (S : CC p m c k_E_maySend 1 s args cn_E meth (Option.some Jvm.ClassFile.FieldType.boolean) D tc b z) (hq : q = 7 ∨ q = 14) (σ : CS) {B : Int32 × CS} (h : b_E_maySend_34 q  σ = some B) {ls : Array Slot} {H : Heap} {locs : List Loc} {cells slots : Nat} (hl : lv_has ls 1 []) (hW : CWS D tc b z s σ0 σ H locs cells slots) : W p l e (CR 0 0 σ0) s m args below meth c H locs cells slots (CE D tc b z below args s σ0 (some (.int B.1)) B.2) (F0 m 34 ls []) := by
  have hx := S.1.1
  have hb := S.1.2.1
  unfold b_E_maySend_34 at h
  refine lv_iconst (v := 1) hx hb d_E_maySend_34 (by decide) ?_
  refine lv_goto (tgt := 39) hx hb d_E_maySend_35 (by decide) ?_
  exact t_E_maySend_39 S hq (1 : Int32) σ h (lv_sub hl [] rfl) hW
theorem t_E_maySend_0 (S : CC p m c k_E_maySend 1 s args cn_E meth (Option.some Jvm.ClassFile.FieldType.boolean) D tc b z) (q : Nat) (σ : CS) {B : Int32 × CS} (h : m_E_maySend q σ = some B) {ls : Array Slot} {H : Heap} {locs : List Loc} {cells slots : Nat} (hl : lv_has ls 1 [(0, .ref (b + q))]) (hW : CWS D tc b z s σ0 σ H locs cells slots) : W p l e (CR 0 0 σ0) s m args below meth c H locs cells slots (CE D tc b z below args s σ0 (some (.int B.1)) B.2) (F0 m 0 ls []) := by
  have hx := S.1.1
  have hb := S.1.2.1
  unfold m_E_maySend at h
  obtain ⟨hq, h⟩ := gd_s h
  refine lv_aload_n hx hb d_E_maySend_0 rfl (lv_at hl 0 rfl) ?_
  refine cm_geti kx_E S hW (kE hq) 8 wd_362 (by decide) d_E_maySend_1 h (fun x1 h => ?_)
  refine lv_iconst (v := 4) hx hb d_E_maySend_4 (by decide) ?_
  refine rc_eq (tgt := 34) hx hb d_E_maySend_5 (by decide) h (fun h => ?_) (fun h => ?_)
  · exact t_E_maySend_34 S hq  σ h (lv_sub hl [] rfl) hW
  · refine lv_aload_n hx hb d_E_maySend_8 rfl (lv_at hl 0 rfl) ?_
    refine cm_geti kx_E S hW (kE hq) 8 wd_362 (by decide) d_E_maySend_9 h (fun x2 h => ?_)
    refine lv_iconst (v := 5) hx hb d_E_maySend_12 (by decide) ?_
    refine rc_eq (tgt := 34) hx hb d_E_maySend_13 (by decide) h (fun h => ?_) (fun h => ?_)
    · exact t_E_maySend_34 S hq  σ h (lv_sub hl [] rfl) hW
    · refine lv_aload_n hx hb d_E_maySend_16 rfl (lv_at hl 0 rfl) ?_
      refine cm_geti kx_E S hW (kE hq) 8 wd_362 (by decide) d_E_maySend_17 h (fun x3 h => ?_)
      refine lv_bipush (v := 7) hx hb d_E_maySend_20 (by decide) ?_
      refine rc_lt (tgt := 38) hx hb d_E_maySend_22 (by decide) h (fun h => ?_) (fun h => ?_)
      · exact t_E_maySend_38 S hq  σ h (lv_sub hl [] rfl) hW
      · refine lv_aload_n hx hb d_E_maySend_25 rfl (lv_at hl 0 rfl) ?_
        refine cm_geti kx_E S hW (kE hq) 8 wd_362 (by decide) d_E_maySend_26 h (fun x4 h => ?_)
        refine lv_bipush (v := 9) hx hb d_E_maySend_29 (by decide) ?_
        refine rc_gt (tgt := 38) hx hb d_E_maySend_31 (by decide) h (fun h => ?_) (fun h => ?_)
        · exact t_E_maySend_38 S hq  σ h (lv_sub hl [] rfl) hW
        · exact t_E_maySend_34 S hq  σ h (lv_sub hl [] rfl) hW
theorem c_E_maySend (q : Nat) (σ : CS) {x : Int32} {σ' : CS} (h : m_E_maySend q σ = some (x, σ')) : CMet l D tc b z y_E_maySend k_E_maySend 1 (Option.some Jvm.ClassFile.FieldType.boolean) 0 0 [.ref (b + q)] σ (some (.int x)) σ' := cm_met (by decide) (Nat.le_of_ble_eq_true rfl) fun p e s m args below meth c S hW ls hl => t_E_maySend_0 S q σ h hl hW
end

/-! StreamPair$End.bytesToSend ()I -/
abbrev k_E_bytesToSend : ByteArray := prog_5_method_16_code
abbrev y_E_bytesToSend : MethodName := ⟨cn_E, "bytesToSend", "()I"⟩
theorem q_E_bytesToSend : Calee y_E_bytesToSend k_E_bytesToSend 5 (Option.some Jvm.ClassFile.FieldType.int) 0 := ⟨wd_842, wd_85, by decide, by decide +kernel⟩
theorem d_E_bytesToSend_0 : decode k_E_bytesToSend 0 = .ok (.aload_n 0, 1) := by decide +kernel
theorem d_E_bytesToSend_1 : decode k_E_bytesToSend 1 = .ok (.getfield 12, 3) := by decide +kernel
theorem d_E_bytesToSend_4 : decode k_E_bytesToSend 4 = .ok (.invokevirtual 187, 3) := by decide +kernel
theorem d_E_bytesToSend_7 : decode k_E_bytesToSend 7 = .ok (.istore_n 1, 1) := by decide +kernel
theorem d_E_bytesToSend_8 : decode k_E_bytesToSend 8 = .ok (.aload_n 0, 1) := by decide +kernel
theorem d_E_bytesToSend_9 : decode k_E_bytesToSend 9 = .ok (.getfield 35, 3) := by decide +kernel
theorem d_E_bytesToSend_12 : decode k_E_bytesToSend 12 = .ok (.getfield 190, 3) := by decide +kernel
theorem d_E_bytesToSend_15 : decode k_E_bytesToSend 15 = .ok (.aload_n 0, 1) := by decide +kernel
theorem d_E_bytesToSend_16 : decode k_E_bytesToSend 16 = .ok (.getfield 12, 3) := by decide +kernel
theorem d_E_bytesToSend_19 : decode k_E_bytesToSend 19 = .ok (.getfield 193, 3) := by decide +kernel
theorem d_E_bytesToSend_22 : decode k_E_bytesToSend 22 = .ok (.invokestatic 196, 3) := by decide +kernel
theorem d_E_bytesToSend_25 : decode k_E_bytesToSend 25 = .ok (.aload_n 0, 1) := by decide +kernel
theorem d_E_bytesToSend_26 : decode k_E_bytesToSend 26 = .ok (.getfield 12, 3) := by decide +kernel
theorem d_E_bytesToSend_29 : decode k_E_bytesToSend 29 = .ok (.invokevirtual 184, 3) := by decide +kernel
theorem d_E_bytesToSend_32 : decode k_E_bytesToSend 32 = .ok (.isub, 1) := by decide +kernel
theorem d_E_bytesToSend_33 : decode k_E_bytesToSend 33 = .ok (.istore_n 2, 1) := by decide +kernel
theorem d_E_bytesToSend_34 : decode k_E_bytesToSend 34 = .ok (.iload_n 1, 1) := by decide +kernel
theorem d_E_bytesToSend_35 : decode k_E_bytesToSend 35 = .ok (.iload_n 2, 1) := by decide +kernel
theorem d_E_bytesToSend_36 : decode k_E_bytesToSend 36 = .ok (.invokestatic 196, 3) := by decide +kernel
theorem d_E_bytesToSend_39 : decode k_E_bytesToSend 39 = .ok (.aload_n 0, 1) := by decide +kernel
theorem d_E_bytesToSend_40 : decode k_E_bytesToSend 40 = .ok (.getfield 35, 3) := by decide +kernel
theorem d_E_bytesToSend_43 : decode k_E_bytesToSend 43 = .ok (.getfield 108, 3) := by decide +kernel
theorem d_E_bytesToSend_46 : decode k_E_bytesToSend 46 = .ok (.invokestatic 196, 3) := by decide +kernel
theorem d_E_bytesToSend_49 : decode k_E_bytesToSend 49 = .ok (.istore_n 3, 1) := by decide +kernel
theorem d_E_bytesToSend_50 : decode k_E_bytesToSend 50 = .ok (.iload_n 3, 1) := by decide +kernel
theorem d_E_bytesToSend_51 : decode k_E_bytesToSend 51 = .ok (.iload_n 1, 1) := by decide +kernel
theorem d_E_bytesToSend_52 : decode k_E_bytesToSend 52 = .ok (.if_icmp .eq 24, 3) := by decide +kernel
theorem d_E_bytesToSend_55 : decode k_E_bytesToSend 55 = .ok (.iload_n 3, 1) := by decide +kernel
theorem d_E_bytesToSend_56 : decode k_E_bytesToSend 56 = .ok (.aload_n 0, 1) := by decide +kernel
theorem d_E_bytesToSend_57 : decode k_E_bytesToSend 57 = .ok (.getfield 35, 3) := by decide +kernel
theorem d_E_bytesToSend_60 : decode k_E_bytesToSend 60 = .ok (.getfield 108, 3) := by decide +kernel
theorem d_E_bytesToSend_63 : decode k_E_bytesToSend 63 = .ok (.if_icmp .eq 13, 3) := by decide +kernel
theorem d_E_bytesToSend_66 : decode k_E_bytesToSend 66 = .ok (.aload_n 0, 1) := by decide +kernel
theorem d_E_bytesToSend_67 : decode k_E_bytesToSend 67 = .ok (.getfield 12, 3) := by decide +kernel
theorem d_E_bytesToSend_70 : decode k_E_bytesToSend 70 = .ok (.invokevirtual 184, 3) := by decide +kernel
theorem d_E_bytesToSend_73 : decode k_E_bytesToSend 73 = .ok (.ifCond .ne 7, 3) := by decide +kernel
theorem d_E_bytesToSend_76 : decode k_E_bytesToSend 76 = .ok (.iconst 1, 1) := by decide +kernel
theorem d_E_bytesToSend_77 : decode k_E_bytesToSend 77 = .ok (.goto 4, 3) := by decide +kernel
theorem d_E_bytesToSend_80 : decode k_E_bytesToSend 80 = .ok (.iconst 0, 1) := by decide +kernel
theorem d_E_bytesToSend_81 : decode k_E_bytesToSend 81 = .ok (.istore 4, 2) := by decide +kernel
theorem d_E_bytesToSend_83 : decode k_E_bytesToSend 83 = .ok (.iload_n 3, 1) := by decide +kernel
theorem d_E_bytesToSend_84 : decode k_E_bytesToSend 84 = .ok (.ifCond .le 12, 3) := by decide +kernel
theorem d_E_bytesToSend_87 : decode k_E_bytesToSend 87 = .ok (.iload 4, 2) := by decide +kernel
theorem d_E_bytesToSend_89 : decode k_E_bytesToSend 89 = .ok (.ifCond .eq 7, 3) := by decide +kernel
theorem d_E_bytesToSend_92 : decode k_E_bytesToSend 92 = .ok (.iload_n 3, 1) := by decide +kernel
theorem d_E_bytesToSend_93 : decode k_E_bytesToSend 93 = .ok (.goto 4, 3) := by decide +kernel
theorem d_E_bytesToSend_96 : decode k_E_bytesToSend 96 = .ok (.iconst 0, 1) := by decide +kernel
theorem d_E_bytesToSend_97 : decode k_E_bytesToSend 97 = .ok (.ireturn, 1) := by decide +kernel
def b_E_bytesToSend_97 (q : Nat) (w0 : Int32) (σ : CS) : Option (Int32 × CS) :=
  some (w0, σ)
def b_E_bytesToSend_96 (q : Nat) (σ : CS) : Option (Int32 × CS) :=
  b_E_bytesToSend_97 q (0 : Int32) σ
def b_E_bytesToSend_81 (q : Nat) (v3 : Int32) (w0 : Int32) (σ : CS) : Option (Int32 × CS) :=
  if v3 ≤ 0 then
  (b_E_bytesToSend_96 q  σ)
 else
  (if w0 = 0 then
  (b_E_bytesToSend_96 q  σ)
 else
  (b_E_bytesToSend_97 q v3 σ))
def b_E_bytesToSend_76 (q : Nat) (v3 : Int32) (σ : CS) : Option (Int32 × CS) :=
  b_E_bytesToSend_81 q v3 (1 : Int32) σ
def m_E_bytesToSend (q : Nat) (σ : CS) : Option (Int32 × CS) :=
  gd (q = 7 ∨ q = 14) <| bc2 (m_U_unsent (q + 1) σ) fun x2 r1 => bd (cI r1 (q + 6) 1) fun x3 => bd (cI r1 (q + 1) 9) fun x4 => bd (if x4 < x3 then x4 else x3) fun x5 => bc2 (m_U_flight (q + 1) r1) fun x7 r6 => bd (x5 - x7) fun x8 => bd (if x8 < x2 then x8 else x2) fun x9 => bd (cI r6 (q + 6) 0) fun x10 => bd (if x10 < x9 then x10 else x9) fun x11 => if x11 = x2 then
  (b_E_bytesToSend_76 q x11 r6)
 else
  (bd (cI r6 (q + 6) 0) fun x12 => if x11 = x12 then
  (b_E_bytesToSend_76 q x11 r6)
 else
  (bc2 (m_U_flight (q + 1) r6) fun x14 r13 => if x14 = 0 then
  (b_E_bytesToSend_76 q x11 r13)
 else
  (b_E_bytesToSend_81 q x11 (0 : Int32) r13)))
section
variable {p : Program} {l : Launch} {e : Env} {s : State} {m : MethodId} {args : Array Value} {below : List Frame} {meth : Method} {c : Code} {D : va_G} {tc : Nat → ClassId} {b z : Nat} {σ0 : CS}
theorem t_E_bytesToSend_97 {q : Nat} (S : CC p m c k_E_bytesToSend 5 s args cn_E meth (Option.some Jvm.ClassFile.FieldType.int) D tc b z) (hq : q = 7 ∨ q = 14) (w0 : Int32) (σ : CS) {B : Int32 × CS} (h : b_E_bytesToSend_97 q w0 σ = some B) {ls : Array Slot} {H : Heap} {locs : List Loc} {cells slots : Nat} (hl : lv_has ls 5 []) (hW : CWS D tc b z s σ0 σ H locs cells slots) : W p l e (CR 2 44 σ0) s m args below meth c H locs cells slots (CE D tc b z below args s σ0 (some (.int B.1)) B.2) (F0 m 97 ls [.int w0]) := by
  have hx := S.1.1
  have hb := S.1.2.1
  unfold b_E_bytesToSend_97 at h
  exact cm_iret S hW d_E_bytesToSend_97 h
theorem t_E_bytesToSend_96 {q : Nat} (S : CC p m c k_E_bytesToSend 5 s args cn_E meth (Option.some Jvm.ClassFile.FieldType.int) D tc b z) (hq : q = 7 ∨ q = 14) (σ : CS) {B : Int32 × CS} (h : b_E_bytesToSend_96 q  σ = some B) {ls : Array Slot} {H : Heap} {locs : List Loc} {cells slots : Nat} (hl : lv_has ls 5 []) (hW : CWS D tc b z s σ0 σ H locs cells slots) : W p l e (CR 2 44 σ0) s m args below meth c H locs cells slots (CE D tc b z below args s σ0 (some (.int B.1)) B.2) (F0 m 96 ls []) := by
  have hx := S.1.1
  have hb := S.1.2.1
  unfold b_E_bytesToSend_96 at h
  refine lv_iconst (v := 0) hx hb d_E_bytesToSend_96 (by decide) ?_
  exact t_E_bytesToSend_97 S hq (0 : Int32) σ h (lv_sub hl [] rfl) hW
theorem t_E_bytesToSend_81 {q : Nat} (S : CC p m c k_E_bytesToSend 5 s args cn_E meth (Option.some Jvm.ClassFile.FieldType.int) D tc b z) (hq : q = 7 ∨ q = 14) (v3 : Int32) (w0 : Int32) (σ : CS) {B : Int32 × CS} (h : b_E_bytesToSend_81 q v3 w0 σ = some B) {ls : Array Slot} {H : Heap} {locs : List Loc} {cells slots : Nat} (hl : lv_has ls 5 [(3, .int v3)]) (hW : CWS D tc b z s σ0 σ H locs cells slots) : W p l e (CR 2 44 σ0) s m args below meth c H locs cells slots (CE D tc b z below args s σ0 (some (.int B.1)) B.2) (F0 m 81 ls [.int w0]) := by
  have hx := S.1.1
  have hb := S.1.2.1
  unfold b_E_bytesToSend_81 at h
  refine lv_istore (lv' := [(4, .int w0), (3, .int v3)]) hx hb d_E_bytesToSend_81 hl (by decide) rfl (fun ls hl => ?_)
  refine lv_iload_n hx hb d_E_bytesToSend_83 rfl (lv_at hl 1 rfl) ?_
  refine rb_le (tgt := 96) hx hb d_E_bytesToSend_84 (by decide) h (fun h => ?_) (fun h => ?_)
  · exact t_E_bytesToSend_96 S hq  σ h (lv_sub hl [] rfl) hW
  · refine lv_iload hx hb d_E_bytesToSend_87 (lv_at hl 0 rfl) ?_
    refine rb_eq (tgt := 96) hx hb d_E_bytesToSend_89 (by decide) h (fun h => ?_) (fun h => ?_)
    · exact t_E_bytesToSend_96 S hq  σ h (lv_sub hl [] rfl) hW
    · refine lv_iload_n hx hb d_E_bytesToSend_92 rfl (lv_at hl 1 rfl) ?_
      refine lv_goto (tgt := 97) hx hb d_E_bytesToSend_93 (by decide) ?_
      exact t_E_bytesToSend_97 S hq v3 σ h (lv_sub hl [] rfl) hW
theorem t_E_bytesToSend_76 {q : Nat} (S : CC p m c k_E_bytesToSend 5 s args cn_E meth (Option.some Jvm.ClassFile.FieldType.int) D tc b z) (hq : q = 7 ∨ q = 14) (v3 : Int32) (σ : CS) {B : Int32 × CS} (h : b_E_bytesToSend_76 q v3 σ = some B) {ls : Array Slot} {H : Heap} {locs : List Loc} {cells slots : Nat} (hl : lv_has ls 5 [(3, .int v3)]) (hW : CWS D tc b z s σ0 σ H locs cells slots) : W p l e (CR 2 44 σ0) s m args below meth c H locs cells slots (CE D tc b z below args s σ0 (some (.int B.1)) B.2) (F0 m 76 ls []) := by
  have hx := S.1.1
  have hb := S.1.2.1
  unfold b_E_bytesToSend_76 at h
  refine lv_iconst (v := 1) hx hb d_E_bytesToSend_76 (by decide) ?_
  refine lv_goto (tgt := 81) hx hb d_E_bytesToSend_77 (by decide) ?_
  exact t_E_bytesToSend_81 S hq v3 (1 : Int32) σ h (lv_sub hl [0] rfl) hW
theorem t_E_bytesToSend_0 (S : CC p m c k_E_bytesToSend 5 s args cn_E meth (Option.some Jvm.ClassFile.FieldType.int) D tc b z) (q : Nat) (σ : CS) {B : Int32 × CS} (h : m_E_bytesToSend q σ = some B) {ls : Array Slot} {H : Heap} {locs : List Loc} {cells slots : Nat} (hl : lv_has ls 5 [(0, .ref (b + q))]) (hW : CWS D tc b z s σ0 σ H locs cells slots) : W p l e (CR 2 44 σ0) s m args below meth c H locs cells slots (CE D tc b z below args s σ0 (some (.int B.1)) B.2) (F0 m 0 ls []) := by
  have hx := S.1.1
  have hb := S.1.2.1
  unfold m_E_bytesToSend at h
  obtain ⟨hq, h⟩ := gd_s h
  refine lv_aload_n hx hb d_E_bytesToSend_0 rfl (lv_at hl 0 rfl) ?_
  refine cm_getf kx_E S hW (kE hq) 3 (q + 1) rfl wd_353 (by decide) d_E_bytesToSend_1 ?_
  refine cm_cVi [] kx_U S hW (kEU hq) (fun x σ' hc => c_U_unsent (q + 1) σ hc) q_U_unsent wd_844 wd_845 wd_843 (by decide) hl.1 rfl rfl (Nat.le_of_ble_eq_true rfl) d_E_bytesToSend_4 h (fun x2 r1 H locs cells slots h hW => ?_)
  refine lv_istore_n (lv' := [(1, .int x2), (0, .ref (b + q))]) hx hb d_E_bytesToSend_7 rfl hl (by decide) rfl (fun ls hl => ?_)
  refine lv_aload_n hx hb d_E_bytesToSend_8 rfl (lv_at hl 1 rfl) ?_
  refine cm_getf kx_E S hW (kE hq) 6 (q + 6) rfl wd_359 (by decide) d_E_bytesToSend_9 ?_
  refine cm_geti kx_O S hW (kEO hq) 1 wd_335 (by decide) d_E_bytesToSend_12 h (fun x3 h => ?_)
  refine lv_aload_n hx hb d_E_bytesToSend_15 rfl (lv_at hl 1 rfl) ?_
  refine cm_getf kx_E S hW (kE hq) 3 (q + 1) rfl wd_353 (by decide) d_E_bytesToSend_16 ?_
  refine cm_geti kx_U S hW (kEU hq) 9 wd_216 (by decide) d_E_bytesToSend_19 h (fun x4 h => ?_)
  refine cm_jmin S hW wd_847 wd_506 wd_96 wd_507 hl.1 (by decide) (Nat.le_of_ble_eq_true rfl) d_E_bytesToSend_22 ?_
  refine rv_i h (fun x5 h => ?_)
  refine lv_aload_n hx hb d_E_bytesToSend_25 rfl (lv_at hl 1 rfl) ?_
  refine cm_getf kx_E S hW (kE hq) 3 (q + 1) rfl wd_353 (by decide) d_E_bytesToSend_26 ?_
  refine cm_cVi [] kx_U S hW (kEU hq) (fun x σ' hc => c_U_flight (q + 1) r1 hc) q_U_flight wd_849 wd_850 wd_848 (by decide) hl.1 rfl rfl (Nat.le_of_ble_eq_true rfl) d_E_bytesToSend_29 h (fun x7 r6 H locs cells slots h hW => ?_)
  refine lv_isub hx hb d_E_bytesToSend_32 ?_
  refine rv_i h (fun x8 h => ?_)
  refine lv_istore_n (lv' := [(2, .int x8), (1, .int x2), (0, .ref (b + q))]) hx hb d_E_bytesToSend_33 rfl hl (by decide) rfl (fun ls hl => ?_)
  refine lv_iload_n hx hb d_E_bytesToSend_34 rfl (lv_at hl 1 rfl) ?_
  refine lv_iload_n hx hb d_E_bytesToSend_35 rfl (lv_at hl 0 rfl) ?_
  refine cm_jmin S hW wd_847 wd_506 wd_96 wd_507 hl.1 (by decide) (Nat.le_of_ble_eq_true rfl) d_E_bytesToSend_36 ?_
  refine rv_i h (fun x9 h => ?_)
  refine lv_aload_n hx hb d_E_bytesToSend_39 rfl (lv_at hl 2 rfl) ?_
  refine cm_getf kx_E S hW (kE hq) 6 (q + 6) rfl wd_359 (by decide) d_E_bytesToSend_40 ?_
  refine cm_geti kx_O S hW (kEO hq) 0 wd_333 (by decide) d_E_bytesToSend_43 h (fun x10 h => ?_)
  refine cm_jmin S hW wd_847 wd_506 wd_96 wd_507 hl.1 (by decide) (Nat.le_of_ble_eq_true rfl) d_E_bytesToSend_46 ?_
  refine rv_i h (fun x11 h => ?_)
  refine lv_istore_n (lv' := [(3, .int x11), (2, .int x8), (1, .int x2), (0, .ref (b + q))]) hx hb d_E_bytesToSend_49 rfl hl (by decide) rfl (fun ls hl => ?_)
  refine lv_iload_n hx hb d_E_bytesToSend_50 rfl (lv_at hl 0 rfl) ?_
  refine lv_iload_n hx hb d_E_bytesToSend_51 rfl (lv_at hl 2 rfl) ?_
  refine rc_eq (tgt := 76) hx hb d_E_bytesToSend_52 (by decide) h (fun h => ?_) (fun h => ?_)
  · exact t_E_bytesToSend_76 S hq x11 r6 h (lv_sub hl [0] rfl) hW
  · refine lv_iload_n hx hb d_E_bytesToSend_55 rfl (lv_at hl 0 rfl) ?_
    refine lv_aload_n hx hb d_E_bytesToSend_56 rfl (lv_at hl 3 rfl) ?_
    refine cm_getf kx_E S hW (kE hq) 6 (q + 6) rfl wd_359 (by decide) d_E_bytesToSend_57 ?_
    refine cm_geti kx_O S hW (kEO hq) 0 wd_333 (by decide) d_E_bytesToSend_60 h (fun x12 h => ?_)
    refine rc_eq (tgt := 76) hx hb d_E_bytesToSend_63 (by decide) h (fun h => ?_) (fun h => ?_)
    · exact t_E_bytesToSend_76 S hq x11 r6 h (lv_sub hl [0] rfl) hW
    · refine lv_aload_n hx hb d_E_bytesToSend_66 rfl (lv_at hl 3 rfl) ?_
      refine cm_getf kx_E S hW (kE hq) 3 (q + 1) rfl wd_353 (by decide) d_E_bytesToSend_67 ?_
      refine cm_cVi [] kx_U S hW (kEU hq) (fun x σ' hc => c_U_flight (q + 1) r6 hc) q_U_flight wd_849 wd_850 wd_848 (by decide) hl.1 rfl rfl (Nat.le_of_ble_eq_true rfl) d_E_bytesToSend_70 h (fun x14 r13 H locs cells slots h hW => ?_)
      refine rb_ne (tgt := 80) hx hb d_E_bytesToSend_73 (by decide) h (fun h => ?_) (fun h => ?_)
      · refine lv_iconst (v := 0) hx hb d_E_bytesToSend_80 (by decide) ?_
        exact t_E_bytesToSend_81 S hq x11 (0 : Int32) r13 h (lv_sub hl [0] rfl) hW
      · exact t_E_bytesToSend_76 S hq x11 r13 h (lv_sub hl [0] rfl) hW
theorem c_E_bytesToSend (q : Nat) (σ : CS) {x : Int32} {σ' : CS} (h : m_E_bytesToSend q σ = some (x, σ')) : CMet l D tc b z y_E_bytesToSend k_E_bytesToSend 5 (Option.some Jvm.ClassFile.FieldType.int) 2 44 [.ref (b + q)] σ (some (.int x)) σ' := cm_met (by decide) (Nat.le_of_ble_eq_true rfl) fun p e s m args below meth c S hW ls hl => t_E_bytesToSend_0 S q σ h hl hW
end

