/-! StreamPair$Supply.begin (I)V -/
abbrev k_U_begin : ByteArray := prog_9_method_2_code
abbrev y_U_begin : MethodName := ⟨cn_U, "begin", "(I)V"⟩
theorem q_U_begin : Calee y_U_begin k_U_begin 2 none 1 := ⟨wd_524, wd_86, by decide, by decide +kernel⟩
theorem d_U_begin_0 : decode k_U_begin 0 = .ok (.aload_n 0, 1) := by decide +kernel
theorem d_U_begin_1 : decode k_U_begin 1 = .ok (.iconst 0, 1) := by decide +kernel
theorem d_U_begin_2 : decode k_U_begin 2 = .ok (.putfield 15, 3) := by decide +kernel
theorem d_U_begin_5 : decode k_U_begin 5 = .ok (.aload_n 0, 1) := by decide +kernel
theorem d_U_begin_6 : decode k_U_begin 6 = .ok (.iconst 0, 1) := by decide +kernel
theorem d_U_begin_7 : decode k_U_begin 7 = .ok (.putfield 19, 3) := by decide +kernel
theorem d_U_begin_10 : decode k_U_begin 10 = .ok (.aload_n 0, 1) := by decide +kernel
theorem d_U_begin_11 : decode k_U_begin 11 = .ok (.iload_n 1, 1) := by decide +kernel
theorem d_U_begin_12 : decode k_U_begin 12 = .ok (.putfield 22, 3) := by decide +kernel
theorem d_U_begin_15 : decode k_U_begin 15 = .ok (.aload_n 0, 1) := by decide +kernel
theorem d_U_begin_16 : decode k_U_begin 16 = .ok (.iload_n 1, 1) := by decide +kernel
theorem d_U_begin_17 : decode k_U_begin 17 = .ok (.putfield 25, 3) := by decide +kernel
theorem d_U_begin_20 : decode k_U_begin 20 = .ok (.aload_n 0, 1) := by decide +kernel
theorem d_U_begin_21 : decode k_U_begin 21 = .ok (.iload_n 1, 1) := by decide +kernel
theorem d_U_begin_22 : decode k_U_begin 22 = .ok (.putfield 28, 3) := by decide +kernel
theorem d_U_begin_25 : decode k_U_begin 25 = .ok (.aload_n 0, 1) := by decide +kernel
theorem d_U_begin_26 : decode k_U_begin 26 = .ok (.iload_n 1, 1) := by decide +kernel
theorem d_U_begin_27 : decode k_U_begin 27 = .ok (.putfield 31, 3) := by decide +kernel
theorem d_U_begin_30 : decode k_U_begin 30 = .ok (.aload_n 0, 1) := by decide +kernel
theorem d_U_begin_31 : decode k_U_begin 31 = .ok (.iload_n 1, 1) := by decide +kernel
theorem d_U_begin_32 : decode k_U_begin 32 = .ok (.iconst 1, 1) := by decide +kernel
theorem d_U_begin_33 : decode k_U_begin 33 = .ok (.iadd, 1) := by decide +kernel
theorem d_U_begin_34 : decode k_U_begin 34 = .ok (.putfield 34, 3) := by decide +kernel
theorem d_U_begin_37 : decode k_U_begin 37 = .ok (.aload_n 0, 1) := by decide +kernel
theorem d_U_begin_38 : decode k_U_begin 38 = .ok (.iconst 0, 1) := by decide +kernel
theorem d_U_begin_39 : decode k_U_begin 39 = .ok (.putfield 37, 3) := by decide +kernel
theorem d_U_begin_42 : decode k_U_begin 42 = .ok (.aload_n 0, 1) := by decide +kernel
theorem d_U_begin_43 : decode k_U_begin 43 = .ok (.iconst 0, 1) := by decide +kernel
theorem d_U_begin_44 : decode k_U_begin 44 = .ok (.putfield 41, 3) := by decide +kernel
theorem d_U_begin_47 : decode k_U_begin 47 = .ok (.aload_n 0, 1) := by decide +kernel
theorem d_U_begin_48 : decode k_U_begin 48 = .ok (.iconst 0, 1) := by decide +kernel
theorem d_U_begin_49 : decode k_U_begin 49 = .ok (.putfield 44, 3) := by decide +kernel
theorem d_U_begin_52 : decode k_U_begin 52 = .ok (.aload_n 0, 1) := by decide +kernel
theorem d_U_begin_53 : decode k_U_begin 53 = .ok (.iconst 0, 1) := by decide +kernel
theorem d_U_begin_54 : decode k_U_begin 54 = .ok (.putfield 47, 3) := by decide +kernel
theorem d_U_begin_57 : decode k_U_begin 57 = .ok (.return_, 1) := by decide +kernel
def m_U_begin (q : Nat) (v1 : Int32) (σ : CS) : Option (CS) :=
  gd (q = 8 ∨ q = 15) <| bd (wi σ q 1 (0 : Int32)) fun r1 => bd (wi r1 q 2 (0 : Int32)) fun r2 => bd (wi r2 q 3 v1) fun r3 => bd (wi r3 q 4 v1) fun r4 => bd (wi r4 q 5 v1) fun r5 => bd (wi r5 q 6 v1) fun r6 => bd (wi r6 q 7 (v1 + (1 : Int32))) fun r7 => gd ((0 : Int32) = 0 ∨ (0 : Int32) = 1) <| bd (wi r7 q 8 (0 : Int32)) fun r8 => bd (wi r8 q 9 (0 : Int32)) fun r9 => bd (wi r9 q 10 (0 : Int32)) fun r10 => bd (wi r10 q 11 (0 : Int32)) fun r11 => some r11
section
variable {p : Program} {l : Launch} {e : Env} {s : State} {m : MethodId} {args : Array Value} {below : List Frame} {meth : Method} {c : Code} {D : va_G} {tc : Nat → ClassId} {b z : Nat} {σ0 : CS}
theorem t_U_begin_0 (S : CC p m c k_U_begin 2 s args cn_U meth none D tc b z) (q : Nat) (v1 : Int32) (σ : CS) {B : CS} (h : m_U_begin q v1 σ = some B) {ls : Array Slot} {H : Heap} {locs : List Loc} {cells slots : Nat} (hl : lv_has ls 2 [(0, .ref (b + q)), (1, .int v1)]) (hW : CWS D tc b z s σ0 σ H locs cells slots) : W p l e (CR 0 0 σ0) s m args below meth c H locs cells slots (CE D tc b z below args s σ0 none B) (F0 m 0 ls []) := by
  have hx := S.1.1
  have hb := S.1.2.1
  unfold m_U_begin at h
  obtain ⟨hq, h⟩ := gd_s h
  refine lv_aload_n hx hb d_U_begin_0 rfl (lv_at hl 0 rfl) ?_
  refine lv_iconst (v := 0) hx hb d_U_begin_1 (by decide) ?_
  refine cm_puti kx_U S hW (kU hq) 1 wd_199 (by decide) d_U_begin_2 h (fun r1 H locs h hW => ?_)
  refine lv_aload_n hx hb d_U_begin_5 rfl (lv_at hl 0 rfl) ?_
  refine lv_iconst (v := 0) hx hb d_U_begin_6 (by decide) ?_
  refine cm_puti kx_U S hW (kU hq) 2 wd_200 (by decide) d_U_begin_7 h (fun r2 H locs h hW => ?_)
  refine lv_aload_n hx hb d_U_begin_10 rfl (lv_at hl 0 rfl) ?_
  refine lv_iload_n hx hb d_U_begin_11 rfl (lv_at hl 1 rfl) ?_
  refine cm_puti kx_U S hW (kU hq) 3 wd_203 (by decide) d_U_begin_12 h (fun r3 H locs h hW => ?_)
  refine lv_aload_n hx hb d_U_begin_15 rfl (lv_at hl 0 rfl) ?_
  refine lv_iload_n hx hb d_U_begin_16 rfl (lv_at hl 1 rfl) ?_
  refine cm_puti kx_U S hW (kU hq) 4 wd_205 (by decide) d_U_begin_17 h (fun r4 H locs h hW => ?_)
  refine lv_aload_n hx hb d_U_begin_20 rfl (lv_at hl 0 rfl) ?_
  refine lv_iload_n hx hb d_U_begin_21 rfl (lv_at hl 1 rfl) ?_
  refine cm_puti kx_U S hW (kU hq) 5 wd_207 (by decide) d_U_begin_22 h (fun r5 H locs h hW => ?_)
  refine lv_aload_n hx hb d_U_begin_25 rfl (lv_at hl 0 rfl) ?_
  refine lv_iload_n hx hb d_U_begin_26 rfl (lv_at hl 1 rfl) ?_
  refine cm_puti kx_U S hW (kU hq) 6 wd_209 (by decide) d_U_begin_27 h (fun r6 H locs h hW => ?_)
  refine lv_aload_n hx hb d_U_begin_30 rfl (lv_at hl 0 rfl) ?_
  refine lv_iload_n hx hb d_U_begin_31 rfl (lv_at hl 1 rfl) ?_
  refine lv_iconst (v := 1) hx hb d_U_begin_32 (by decide) ?_
  refine lv_iadd hx hb d_U_begin_33 ?_
  refine cm_puti kx_U S hW (kU hq) 7 wd_211 (by decide) d_U_begin_34 h (fun r7 H locs h hW => ?_)
  refine lv_aload_n hx hb d_U_begin_37 rfl (lv_at hl 0 rfl) ?_
  refine lv_iconst (v := 0) hx hb d_U_begin_38 (by decide) ?_
  refine cm_putz kx_U S hW (kU hq) 8 wd_213 (by decide) d_U_begin_39 h (fun r8 H locs h hW => ?_)
  refine lv_aload_n hx hb d_U_begin_42 rfl (lv_at hl 0 rfl) ?_
  refine lv_iconst (v := 0) hx hb d_U_begin_43 (by decide) ?_
  refine cm_puti kx_U S hW (kU hq) 9 wd_215 (by decide) d_U_begin_44 h (fun r9 H locs h hW => ?_)
  refine lv_aload_n hx hb d_U_begin_47 rfl (lv_at hl 0 rfl) ?_
  refine lv_iconst (v := 0) hx hb d_U_begin_48 (by decide) ?_
  refine cm_puti kx_U S hW (kU hq) 10 wd_217 (by decide) d_U_begin_49 h (fun r10 H locs h hW => ?_)
  refine lv_aload_n hx hb d_U_begin_52 rfl (lv_at hl 0 rfl) ?_
  refine lv_iconst (v := 0) hx hb d_U_begin_53 (by decide) ?_
  refine cm_puti kx_U S hW (kU hq) 11 wd_218 (by decide) d_U_begin_54 h (fun r11 H locs h hW => ?_)
  exact cm_vret S hW d_U_begin_57 h
theorem c_U_begin (q : Nat) (v1 : Int32) (σ : CS) {B : CS} (h : m_U_begin q v1 σ = some B) : CMet l D tc b z y_U_begin k_U_begin 2 none 0 0 [.ref (b + q), .int v1] σ none B := cm_met (by decide) (Nat.le_of_ble_eq_true rfl) fun p e s m args below meth c S hW ls hl => t_U_begin_0 S q v1 σ h hl hW
end

/-! StreamPair$Supply.makeRoom (I)V -/
abbrev k_U_makeRoom : ByteArray := prog_9_method_4_code
abbrev y_U_makeRoom : MethodName := ⟨cn_U, "makeRoom", "(I)V"⟩
theorem q_U_makeRoom : Calee y_U_makeRoom k_U_makeRoom 3 none 1 := ⟨wd_829, wd_86, by decide, by decide +kernel⟩
theorem d_U_makeRoom_0 : decode k_U_makeRoom 0 = .ok (.aload_n 0, 1) := by decide +kernel
theorem d_U_makeRoom_1 : decode k_U_makeRoom 1 = .ok (.getfield 15, 3) := by decide +kernel
theorem d_U_makeRoom_4 : decode k_U_makeRoom 4 = .ok (.aload_n 0, 1) := by decide +kernel
theorem d_U_makeRoom_5 : decode k_U_makeRoom 5 = .ok (.getfield 19, 3) := by decide +kernel
theorem d_U_makeRoom_8 : decode k_U_makeRoom 8 = .ok (.iadd, 1) := by decide +kernel
theorem d_U_makeRoom_9 : decode k_U_makeRoom 9 = .ok (.iload_n 1, 1) := by decide +kernel
theorem d_U_makeRoom_10 : decode k_U_makeRoom 10 = .ok (.iadd, 1) := by decide +kernel
theorem d_U_makeRoom_11 : decode k_U_makeRoom 11 = .ok (.aload_n 0, 1) := by decide +kernel
theorem d_U_makeRoom_12 : decode k_U_makeRoom 12 = .ok (.getfield 9, 3) := by decide +kernel
theorem d_U_makeRoom_15 : decode k_U_makeRoom 15 = .ok (.arraylength, 1) := by decide +kernel
theorem d_U_makeRoom_16 : decode k_U_makeRoom 16 = .ok (.if_icmp .gt 4, 3) := by decide +kernel
theorem d_U_makeRoom_19 : decode k_U_makeRoom 19 = .ok (.return_, 1) := by decide +kernel
theorem d_U_makeRoom_20 : decode k_U_makeRoom 20 = .ok (.aload_n 0, 1) := by decide +kernel
theorem d_U_makeRoom_21 : decode k_U_makeRoom 21 = .ok (.getfield 9, 3) := by decide +kernel
theorem d_U_makeRoom_24 : decode k_U_makeRoom 24 = .ok (.astore_n 2, 1) := by decide +kernel
theorem d_U_makeRoom_25 : decode k_U_makeRoom 25 = .ok (.aload_n 0, 1) := by decide +kernel
theorem d_U_makeRoom_26 : decode k_U_makeRoom 26 = .ok (.getfield 19, 3) := by decide +kernel
theorem d_U_makeRoom_29 : decode k_U_makeRoom 29 = .ok (.iload_n 1, 1) := by decide +kernel
theorem d_U_makeRoom_30 : decode k_U_makeRoom 30 = .ok (.iadd, 1) := by decide +kernel
theorem d_U_makeRoom_31 : decode k_U_makeRoom 31 = .ok (.aload_n 0, 1) := by decide +kernel
theorem d_U_makeRoom_32 : decode k_U_makeRoom 32 = .ok (.getfield 9, 3) := by decide +kernel
theorem d_U_makeRoom_35 : decode k_U_makeRoom 35 = .ok (.arraylength, 1) := by decide +kernel
theorem d_U_makeRoom_36 : decode k_U_makeRoom 36 = .ok (.if_icmp .le 25, 3) := by decide +kernel
theorem d_U_makeRoom_39 : decode k_U_makeRoom 39 = .ok (.aload_n 0, 1) := by decide +kernel
theorem d_U_makeRoom_40 : decode k_U_makeRoom 40 = .ok (.aload_n 0, 1) := by decide +kernel
theorem d_U_makeRoom_41 : decode k_U_makeRoom 41 = .ok (.getfield 19, 3) := by decide +kernel
theorem d_U_makeRoom_44 : decode k_U_makeRoom 44 = .ok (.iload_n 1, 1) := by decide +kernel
theorem d_U_makeRoom_45 : decode k_U_makeRoom 45 = .ok (.iadd, 1) := by decide +kernel
theorem d_U_makeRoom_46 : decode k_U_makeRoom 46 = .ok (.iconst 2, 1) := by decide +kernel
theorem d_U_makeRoom_47 : decode k_U_makeRoom 47 = .ok (.aload_n 0, 1) := by decide +kernel
theorem d_U_makeRoom_48 : decode k_U_makeRoom 48 = .ok (.getfield 9, 3) := by decide +kernel
theorem d_U_makeRoom_51 : decode k_U_makeRoom 51 = .ok (.arraylength, 1) := by decide +kernel
theorem d_U_makeRoom_52 : decode k_U_makeRoom 52 = .ok (.imul, 1) := by decide +kernel
theorem d_U_makeRoom_53 : decode k_U_makeRoom 53 = .ok (.invokestatic 60, 3) := by decide +kernel
theorem d_U_makeRoom_56 : decode k_U_makeRoom 56 = .ok (.newarray .byte, 2) := by decide +kernel
theorem d_U_makeRoom_58 : decode k_U_makeRoom 58 = .ok (.putfield 9, 3) := by decide +kernel
theorem d_U_makeRoom_61 : decode k_U_makeRoom 61 = .ok (.aload_n 2, 1) := by decide +kernel
theorem d_U_makeRoom_62 : decode k_U_makeRoom 62 = .ok (.aload_n 0, 1) := by decide +kernel
theorem d_U_makeRoom_63 : decode k_U_makeRoom 63 = .ok (.getfield 15, 3) := by decide +kernel
theorem d_U_makeRoom_66 : decode k_U_makeRoom 66 = .ok (.aload_n 0, 1) := by decide +kernel
theorem d_U_makeRoom_67 : decode k_U_makeRoom 67 = .ok (.getfield 9, 3) := by decide +kernel
theorem d_U_makeRoom_70 : decode k_U_makeRoom 70 = .ok (.iconst 0, 1) := by decide +kernel
theorem d_U_makeRoom_71 : decode k_U_makeRoom 71 = .ok (.aload_n 0, 1) := by decide +kernel
theorem d_U_makeRoom_72 : decode k_U_makeRoom 72 = .ok (.getfield 19, 3) := by decide +kernel
theorem d_U_makeRoom_75 : decode k_U_makeRoom 75 = .ok (.invokestatic 54, 3) := by decide +kernel
theorem d_U_makeRoom_78 : decode k_U_makeRoom 78 = .ok (.aload_n 0, 1) := by decide +kernel
theorem d_U_makeRoom_79 : decode k_U_makeRoom 79 = .ok (.iconst 0, 1) := by decide +kernel
theorem d_U_makeRoom_80 : decode k_U_makeRoom 80 = .ok (.putfield 15, 3) := by decide +kernel
theorem d_U_makeRoom_83 : decode k_U_makeRoom 83 = .ok (.return_, 1) := by decide +kernel
def b_U_makeRoom_61 (q : Nat) (v2 : Nat) (σ : CS) : Option (CS) :=
  bd (cI σ q 1) fun x1 => bc (cR σ q 0) fun a2 => bd (cI σ q 2) fun x3 => gd (kd σ v2 = 21 ∧ kd σ a2 = 21 ∧ ¬ x1 < 0 ∧ ¬ (0 : Int32) < 0 ∧ ¬ x3 < 0 ∧ x1.toNatClampNeg + x3.toNatClampNeg ≤ cN σ v2 ∧ (0 : Int32).toNatClampNeg + x3.toNatClampNeg ≤ cN σ a2) <| bd (wcp σ v2 a2 x1.toNatClampNeg (0 : Int32).toNatClampNeg x3.toNatClampNeg) fun r4 => bd (wi r4 q 1 (0 : Int32)) fun r5 => some r5
def m_U_makeRoom (q : Nat) (v1 : Int32) (σ : CS) : Option (CS) :=
  gd (q = 8 ∨ q = 15) <| bd (cI σ q 1) fun x1 => bd (cI σ q 2) fun x2 => bc (cR σ q 0) fun a3 => gd (kd σ a3 = 21 ∨ kd σ a3 = 24 ∨ kd σ a3 = 25) <| bd (nI (cN σ a3)) fun x4 => if x4 < ((x1 + x2) + v1) then
  (bc (cR σ q 0) fun a5 => bd (cI σ q 2) fun x6 => bc (cR σ q 0) fun a7 => gd (kd σ a7 = 21 ∨ kd σ a7 = 24 ∨ kd σ a7 = 25) <| bd (nI (cN σ a7)) fun x8 => if (x6 + v1) ≤ x8 then
  (b_U_makeRoom_61 q a5 σ)
 else
  (bd (cI σ q 2) fun x9 => bc (cR σ q 0) fun a10 => gd (kd σ a10 = 21 ∨ kd σ a10 = 24 ∨ kd σ a10 = 25) <| bd (nI (cN σ a10)) fun x11 => bd (if (x9 + v1) < ((2 : Int32) * x11) then ((2 : Int32) * x11) else (x9 + v1)) fun x12 => gd (¬ x12 < 0 ∧ cX σ + 1 ≤ 601024 ∧ cU σ + x12.toNatClampNeg ≤ 7293034) <| bd2 (cX σ) (wa σ 21 x12.toNatClampNeg x12.toNatClampNeg) fun a13 r14 => bd (wr r14 q 0 (some a13)) fun r15 => b_U_makeRoom_61 q a5 r15))
 else
  (some σ)
section
variable {p : Program} {l : Launch} {e : Env} {s : State} {m : MethodId} {args : Array Value} {below : List Frame} {meth : Method} {c : Code} {D : va_G} {tc : Nat → ClassId} {b z : Nat} {σ0 : CS}
theorem t_U_makeRoom_61 {q : Nat} (S : CC p m c k_U_makeRoom 3 s args cn_U meth none D tc b z) (hq : q = 8 ∨ q = 15) (v2 : Nat) (σ : CS) {B : CS} (h : b_U_makeRoom_61 q v2 σ = some B) {ls : Array Slot} {H : Heap} {locs : List Loc} {cells slots : Nat} (hl : lv_has ls 3 [(0, .ref (b + q)), (2, .ref (b + v2))]) (hW : CWS D tc b z s σ0 σ H locs cells slots) : W p l e (CR 1 40 σ0) s m args below meth c H locs cells slots (CE D tc b z below args s σ0 none B) (F0 m 61 ls []) := by
  have hx := S.1.1
  have hb := S.1.2.1
  unfold b_U_makeRoom_61 at h
  refine lv_aload_n hx hb d_U_makeRoom_61 rfl (lv_at hl 1 rfl) ?_
  refine lv_aload_n hx hb d_U_makeRoom_62 rfl (lv_at hl 0 rfl) ?_
  refine cm_geti kx_U S hW (kU hq) 1 wd_199 (by decide) d_U_makeRoom_63 h (fun x1 h => ?_)
  refine lv_aload_n hx hb d_U_makeRoom_66 rfl (lv_at hl 0 rfl) ?_
  refine cm_getr kx_U S hW (kU hq) 0 wd_198 (by decide) d_U_makeRoom_67 h (fun a2 h => ?_)
  refine lv_iconst (v := 0) hx hb d_U_makeRoom_70 (by decide) ?_
  refine lv_aload_n hx hb d_U_makeRoom_71 rfl (lv_at hl 0 rfl) ?_
  refine cm_geti kx_U S hW (kU hq) 2 wd_200 (by decide) d_U_makeRoom_72 h (fun x3 h => ?_)
  refine cm_copyb S hW wd_621 wd_510 wd_509 wd_97 hl.1 (by decide) (by decide) d_U_makeRoom_75 h (fun r4 H locs h hW => ?_)
  refine lv_aload_n hx hb d_U_makeRoom_78 rfl (lv_at hl 0 rfl) ?_
  refine lv_iconst (v := 0) hx hb d_U_makeRoom_79 (by decide) ?_
  refine cm_puti kx_U S hW (kU hq) 1 wd_199 (by decide) d_U_makeRoom_80 h (fun r5 H locs h hW => ?_)
  exact cm_vret S hW d_U_makeRoom_83 h
theorem t_U_makeRoom_0 (S : CC p m c k_U_makeRoom 3 s args cn_U meth none D tc b z) (q : Nat) (v1 : Int32) (σ : CS) {B : CS} (h : m_U_makeRoom q v1 σ = some B) {ls : Array Slot} {H : Heap} {locs : List Loc} {cells slots : Nat} (hl : lv_has ls 3 [(0, .ref (b + q)), (1, .int v1)]) (hW : CWS D tc b z s σ0 σ H locs cells slots) : W p l e (CR 1 40 σ0) s m args below meth c H locs cells slots (CE D tc b z below args s σ0 none B) (F0 m 0 ls []) := by
  have hx := S.1.1
  have hb := S.1.2.1
  unfold m_U_makeRoom at h
  obtain ⟨hq, h⟩ := gd_s h
  refine lv_aload_n hx hb d_U_makeRoom_0 rfl (lv_at hl 0 rfl) ?_
  refine cm_geti kx_U S hW (kU hq) 1 wd_199 (by decide) d_U_makeRoom_1 h (fun x1 h => ?_)
  refine lv_aload_n hx hb d_U_makeRoom_4 rfl (lv_at hl 0 rfl) ?_
  refine cm_geti kx_U S hW (kU hq) 2 wd_200 (by decide) d_U_makeRoom_5 h (fun x2 h => ?_)
  refine lv_iadd hx hb d_U_makeRoom_8 ?_
  refine lv_iload_n hx hb d_U_makeRoom_9 rfl (lv_at hl 1 rfl) ?_
  refine lv_iadd hx hb d_U_makeRoom_10 ?_
  refine lv_aload_n hx hb d_U_makeRoom_11 rfl (lv_at hl 0 rfl) ?_
  refine cm_getr kx_U S hW (kU hq) 0 wd_198 (by decide) d_U_makeRoom_12 h (fun a3 h => ?_)
  refine cm_alen S hW d_U_makeRoom_15 h (fun x4 h => ?_)
  refine rc_gt (tgt := 20) hx hb d_U_makeRoom_16 (by decide) h (fun h => ?_) (fun h => ?_)
  · refine lv_aload_n hx hb d_U_makeRoom_20 rfl (lv_at hl 0 rfl) ?_
    refine cm_getr kx_U S hW (kU hq) 0 wd_198 (by decide) d_U_makeRoom_21 h (fun a5 h => ?_)
    refine lv_astore_n (lv' := [(2, .ref (b + a5)), (0, .ref (b + q)), (1, .int v1)]) hx hb d_U_makeRoom_24 rfl hl (by decide) rfl (fun ls hl => ?_)
    refine lv_aload_n hx hb d_U_makeRoom_25 rfl (lv_at hl 1 rfl) ?_
    refine cm_geti kx_U S hW (kU hq) 2 wd_200 (by decide) d_U_makeRoom_26 h (fun x6 h => ?_)
    refine lv_iload_n hx hb d_U_makeRoom_29 rfl (lv_at hl 2 rfl) ?_
    refine lv_iadd hx hb d_U_makeRoom_30 ?_
    refine lv_aload_n hx hb d_U_makeRoom_31 rfl (lv_at hl 1 rfl) ?_
    refine cm_getr kx_U S hW (kU hq) 0 wd_198 (by decide) d_U_makeRoom_32 h (fun a7 h => ?_)
    refine cm_alen S hW d_U_makeRoom_35 h (fun x8 h => ?_)
    refine rc_le (tgt := 61) hx hb d_U_makeRoom_36 (by decide) h (fun h => ?_) (fun h => ?_)
    · exact t_U_makeRoom_61 S hq a5 σ h (lv_sub hl [1, 0] rfl) hW
    · refine lv_aload_n hx hb d_U_makeRoom_39 rfl (lv_at hl 1 rfl) ?_
      refine lv_aload_n hx hb d_U_makeRoom_40 rfl (lv_at hl 1 rfl) ?_
      refine cm_geti kx_U S hW (kU hq) 2 wd_200 (by decide) d_U_makeRoom_41 h (fun x9 h => ?_)
      refine lv_iload_n hx hb d_U_makeRoom_44 rfl (lv_at hl 2 rfl) ?_
      refine lv_iadd hx hb d_U_makeRoom_45 ?_
      refine lv_iconst (v := 2) hx hb d_U_makeRoom_46 (by decide) ?_
      refine lv_aload_n hx hb d_U_makeRoom_47 rfl (lv_at hl 1 rfl) ?_
      refine cm_getr kx_U S hW (kU hq) 0 wd_198 (by decide) d_U_makeRoom_48 h (fun a10 h => ?_)
      refine cm_alen S hW d_U_makeRoom_51 h (fun x11 h => ?_)
      refine lv_imul hx hb d_U_makeRoom_52 ?_
      refine cm_jmax S hW wd_830 wd_469 wd_96 wd_470 hl.1 (by decide) (Nat.le_of_ble_eq_true rfl) d_U_makeRoom_53 ?_
      refine rv_i h (fun x12 h => ?_)
      refine cm_newb S hW d_U_makeRoom_56 wd_129 h (fun a13 r14 H cells slots h hW => ?_)
      refine cm_putr kx_U S hW (kU hq) 0 (t := .array .byte) wd_198 (by decide) rfl (fun _ => rfl) (fun _ => rfl) d_U_makeRoom_58 h (fun r15 H locs h hW => ?_)
      exact t_U_makeRoom_61 S hq a5 r15 h (lv_sub hl [1, 0] rfl) hW
  · exact cm_vret S hW d_U_makeRoom_19 h
theorem c_U_makeRoom (q : Nat) (v1 : Int32) (σ : CS) {B : CS} (h : m_U_makeRoom q v1 σ = some B) : CMet l D tc b z y_U_makeRoom k_U_makeRoom 3 none 1 40 [.ref (b + q), .int v1] σ none B := cm_met (by decide) (Nat.le_of_ble_eq_true rfl) fun p e s m args below meth c S hW ls hl => t_U_makeRoom_0 S q v1 σ h hl hW
end

/-! StreamPair$Supply.add ([BI)V -/
abbrev k_U_add : ByteArray := prog_9_method_3_code
abbrev y_U_add : MethodName := ⟨cn_U, "add", "([BI)V"⟩
theorem q_U_add : Calee y_U_add k_U_add 3 none 2 := ⟨wd_825, wd_86, by decide, by decide +kernel⟩
theorem d_U_add_0 : decode k_U_add 0 = .ok (.aload_n 0, 1) := by decide +kernel
theorem d_U_add_1 : decode k_U_add 1 = .ok (.iload_n 2, 1) := by decide +kernel
theorem d_U_add_2 : decode k_U_add 2 = .ok (.invokevirtual 50, 3) := by decide +kernel
theorem d_U_add_5 : decode k_U_add 5 = .ok (.aload_n 1, 1) := by decide +kernel
theorem d_U_add_6 : decode k_U_add 6 = .ok (.iconst 0, 1) := by decide +kernel
theorem d_U_add_7 : decode k_U_add 7 = .ok (.aload_n 0, 1) := by decide +kernel
theorem d_U_add_8 : decode k_U_add 8 = .ok (.getfield 9, 3) := by decide +kernel
theorem d_U_add_11 : decode k_U_add 11 = .ok (.aload_n 0, 1) := by decide +kernel
theorem d_U_add_12 : decode k_U_add 12 = .ok (.getfield 15, 3) := by decide +kernel
theorem d_U_add_15 : decode k_U_add 15 = .ok (.aload_n 0, 1) := by decide +kernel
theorem d_U_add_16 : decode k_U_add 16 = .ok (.getfield 19, 3) := by decide +kernel
theorem d_U_add_19 : decode k_U_add 19 = .ok (.iadd, 1) := by decide +kernel
theorem d_U_add_20 : decode k_U_add 20 = .ok (.iload_n 2, 1) := by decide +kernel
theorem d_U_add_21 : decode k_U_add 21 = .ok (.invokestatic 54, 3) := by decide +kernel
theorem d_U_add_24 : decode k_U_add 24 = .ok (.aload_n 0, 1) := by decide +kernel
theorem d_U_add_25 : decode k_U_add 25 = .ok (.dup, 1) := by decide +kernel
theorem d_U_add_26 : decode k_U_add 26 = .ok (.getfield 19, 3) := by decide +kernel
theorem d_U_add_29 : decode k_U_add 29 = .ok (.iload_n 2, 1) := by decide +kernel
theorem d_U_add_30 : decode k_U_add 30 = .ok (.iadd, 1) := by decide +kernel
theorem d_U_add_31 : decode k_U_add 31 = .ok (.putfield 19, 3) := by decide +kernel
theorem d_U_add_34 : decode k_U_add 34 = .ok (.aload_n 0, 1) := by decide +kernel
theorem d_U_add_35 : decode k_U_add 35 = .ok (.dup, 1) := by decide +kernel
theorem d_U_add_36 : decode k_U_add 36 = .ok (.getfield 34, 3) := by decide +kernel
theorem d_U_add_39 : decode k_U_add 39 = .ok (.iload_n 2, 1) := by decide +kernel
theorem d_U_add_40 : decode k_U_add 40 = .ok (.iadd, 1) := by decide +kernel
theorem d_U_add_41 : decode k_U_add 41 = .ok (.putfield 34, 3) := by decide +kernel
theorem d_U_add_44 : decode k_U_add 44 = .ok (.return_, 1) := by decide +kernel
def m_U_add (q : Nat) (v1 : Nat) (v2 : Int32) (σ : CS) : Option (CS) :=
  gd (q = 8 ∨ q = 15) <| bc (m_U_makeRoom q v2 σ) fun r1 => bc (cR r1 q 0) fun a2 => bd (cI r1 q 1) fun x3 => bd (cI r1 q 2) fun x4 => gd (kd r1 v1 = 21 ∧ kd r1 a2 = 21 ∧ ¬ (0 : Int32) < 0 ∧ ¬ (x3 + x4) < 0 ∧ ¬ v2 < 0 ∧ (0 : Int32).toNatClampNeg + v2.toNatClampNeg ≤ cN r1 v1 ∧ (x3 + x4).toNatClampNeg + v2.toNatClampNeg ≤ cN r1 a2) <| bd (wcp r1 v1 a2 (0 : Int32).toNatClampNeg (x3 + x4).toNatClampNeg v2.toNatClampNeg) fun r5 => bd (cI r5 q 2) fun x6 => bd (wi r5 q 2 (x6 + v2)) fun r7 => bd (cI r7 q 7) fun x8 => bd (wi r7 q 7 (x8 + v2)) fun r9 => some r9
section
variable {p : Program} {l : Launch} {e : Env} {s : State} {m : MethodId} {args : Array Value} {below : List Frame} {meth : Method} {c : Code} {D : va_G} {tc : Nat → ClassId} {b z : Nat} {σ0 : CS}
theorem t_U_add_0 (S : CC p m c k_U_add 3 s args cn_U meth none D tc b z) (q : Nat) (v1 : Nat) (v2 : Int32) (σ : CS) {B : CS} (h : m_U_add q v1 v2 σ = some B) {ls : Array Slot} {H : Heap} {locs : List Loc} {cells slots : Nat} (hl : lv_has ls 3 [(0, .ref (b + q)), (1, .ref (b + v1)), (2, .int v2)]) (hW : CWS D tc b z s σ0 σ H locs cells slots) : W p l e (CR 2 62 σ0) s m args below meth c H locs cells slots (CE D tc b z below args s σ0 none B) (F0 m 0 ls []) := by
  have hx := S.1.1
  have hb := S.1.2.1
  unfold m_U_add at h
  obtain ⟨hq, h⟩ := gd_s h
  refine lv_aload_n hx hb d_U_add_0 rfl (lv_at hl 0 rfl) ?_
  refine lv_iload_n hx hb d_U_add_1 rfl (lv_at hl 2 rfl) ?_
  refine cm_cVv [.int v2] kx_U S hW (kU hq) (fun σ' hc => c_U_makeRoom q v2 σ hc) q_U_makeRoom wd_828 wd_9 wd_826 (by decide) hl.1 rfl rfl (Nat.le_of_ble_eq_true rfl) d_U_add_2 h (fun r1 H locs cells slots h hW => ?_)
  refine lv_aload_n hx hb d_U_add_5 rfl (lv_at hl 1 rfl) ?_
  refine lv_iconst (v := 0) hx hb d_U_add_6 (by decide) ?_
  refine lv_aload_n hx hb d_U_add_7 rfl (lv_at hl 0 rfl) ?_
  refine cm_getr kx_U S hW (kU hq) 0 wd_198 (by decide) d_U_add_8 h (fun a2 h => ?_)
  refine lv_aload_n hx hb d_U_add_11 rfl (lv_at hl 0 rfl) ?_
  refine cm_geti kx_U S hW (kU hq) 1 wd_199 (by decide) d_U_add_12 h (fun x3 h => ?_)
  refine lv_aload_n hx hb d_U_add_15 rfl (lv_at hl 0 rfl) ?_
  refine cm_geti kx_U S hW (kU hq) 2 wd_200 (by decide) d_U_add_16 h (fun x4 h => ?_)
  refine lv_iadd hx hb d_U_add_19 ?_
  refine lv_iload_n hx hb d_U_add_20 rfl (lv_at hl 2 rfl) ?_
  refine cm_copyb S hW wd_621 wd_510 wd_509 wd_97 hl.1 (by decide) (by decide) d_U_add_21 h (fun r5 H locs h hW => ?_)
  refine lv_aload_n hx hb d_U_add_24 rfl (lv_at hl 0 rfl) ?_
  refine lv_dup hx hb d_U_add_25 rfl ?_
  refine cm_geti kx_U S hW (kU hq) 2 wd_200 (by decide) d_U_add_26 h (fun x6 h => ?_)
  refine lv_iload_n hx hb d_U_add_29 rfl (lv_at hl 2 rfl) ?_
  refine lv_iadd hx hb d_U_add_30 ?_
  refine cm_puti kx_U S hW (kU hq) 2 wd_200 (by decide) d_U_add_31 h (fun r7 H locs h hW => ?_)
  refine lv_aload_n hx hb d_U_add_34 rfl (lv_at hl 0 rfl) ?_
  refine lv_dup hx hb d_U_add_35 rfl ?_
  refine cm_geti kx_U S hW (kU hq) 7 wd_211 (by decide) d_U_add_36 h (fun x8 h => ?_)
  refine lv_iload_n hx hb d_U_add_39 rfl (lv_at hl 2 rfl) ?_
  refine lv_iadd hx hb d_U_add_40 ?_
  refine cm_puti kx_U S hW (kU hq) 7 wd_211 (by decide) d_U_add_41 h (fun r9 H locs h hW => ?_)
  exact cm_vret S hW d_U_add_44 h
theorem c_U_add (q : Nat) (v1 : Nat) (v2 : Int32) (σ : CS) {B : CS} (h : m_U_add q v1 v2 σ = some B) : CMet l D tc b z y_U_add k_U_add 3 none 2 62 [.ref (b + q), .ref (b + v1), .int v2] σ none B := cm_met (by decide) (Nat.le_of_ble_eq_true rfl) fun p e s m args below meth c S hW ls hl => t_U_add_0 S q v1 v2 σ h hl hW
end

/-! StreamPair$Supply.copyTo (LStreamPair$Segment;II)V -/
abbrev k_U_copyTo : ByteArray := prog_9_method_5_code
abbrev y_U_copyTo : MethodName := ⟨cn_U, "copyTo", "(LStreamPair$Segment;II)V"⟩
theorem q_U_copyTo : Calee y_U_copyTo k_U_copyTo 5 none 3 := ⟨wd_620, wd_86, by decide, by decide +kernel⟩
theorem d_U_copyTo_0 : decode k_U_copyTo 0 = .ok (.aload_n 0, 1) := by decide +kernel
theorem d_U_copyTo_1 : decode k_U_copyTo 1 = .ok (.getfield 15, 3) := by decide +kernel
theorem d_U_copyTo_4 : decode k_U_copyTo 4 = .ok (.aload_n 0, 1) := by decide +kernel
theorem d_U_copyTo_5 : decode k_U_copyTo 5 = .ok (.getfield 19, 3) := by decide +kernel
theorem d_U_copyTo_8 : decode k_U_copyTo 8 = .ok (.iadd, 1) := by decide +kernel
theorem d_U_copyTo_9 : decode k_U_copyTo 9 = .ok (.aload_n 0, 1) := by decide +kernel
theorem d_U_copyTo_10 : decode k_U_copyTo 10 = .ok (.getfield 34, 3) := by decide +kernel
theorem d_U_copyTo_13 : decode k_U_copyTo 13 = .ok (.iload_n 2, 1) := by decide +kernel
theorem d_U_copyTo_14 : decode k_U_copyTo 14 = .ok (.isub, 1) := by decide +kernel
theorem d_U_copyTo_15 : decode k_U_copyTo 15 = .ok (.isub, 1) := by decide +kernel
theorem d_U_copyTo_16 : decode k_U_copyTo 16 = .ok (.istore 4, 2) := by decide +kernel
theorem d_U_copyTo_18 : decode k_U_copyTo 18 = .ok (.iload_n 3, 1) := by decide +kernel
theorem d_U_copyTo_19 : decode k_U_copyTo 19 = .ok (.ifCond .le 44, 3) := by decide +kernel
theorem d_U_copyTo_22 : decode k_U_copyTo 22 = .ok (.iload 4, 2) := by decide +kernel
theorem d_U_copyTo_24 : decode k_U_copyTo 24 = .ok (.aload_n 0, 1) := by decide +kernel
theorem d_U_copyTo_25 : decode k_U_copyTo 25 = .ok (.getfield 15, 3) := by decide +kernel
theorem d_U_copyTo_28 : decode k_U_copyTo 28 = .ok (.if_icmp .lt 35, 3) := by decide +kernel
theorem d_U_copyTo_31 : decode k_U_copyTo 31 = .ok (.iload 4, 2) := by decide +kernel
theorem d_U_copyTo_33 : decode k_U_copyTo 33 = .ok (.iload_n 3, 1) := by decide +kernel
theorem d_U_copyTo_34 : decode k_U_copyTo 34 = .ok (.iadd, 1) := by decide +kernel
theorem d_U_copyTo_35 : decode k_U_copyTo 35 = .ok (.aload_n 0, 1) := by decide +kernel
theorem d_U_copyTo_36 : decode k_U_copyTo 36 = .ok (.getfield 15, 3) := by decide +kernel
theorem d_U_copyTo_39 : decode k_U_copyTo 39 = .ok (.aload_n 0, 1) := by decide +kernel
theorem d_U_copyTo_40 : decode k_U_copyTo 40 = .ok (.getfield 19, 3) := by decide +kernel
theorem d_U_copyTo_43 : decode k_U_copyTo 43 = .ok (.iadd, 1) := by decide +kernel
theorem d_U_copyTo_44 : decode k_U_copyTo 44 = .ok (.if_icmp .gt 19, 3) := by decide +kernel
theorem d_U_copyTo_47 : decode k_U_copyTo 47 = .ok (.aload_n 0, 1) := by decide +kernel
theorem d_U_copyTo_48 : decode k_U_copyTo 48 = .ok (.getfield 9, 3) := by decide +kernel
theorem d_U_copyTo_51 : decode k_U_copyTo 51 = .ok (.iload 4, 2) := by decide +kernel
theorem d_U_copyTo_53 : decode k_U_copyTo 53 = .ok (.aload_n 1, 1) := by decide +kernel
theorem d_U_copyTo_54 : decode k_U_copyTo 54 = .ok (.getfield 65, 3) := by decide +kernel
theorem d_U_copyTo_57 : decode k_U_copyTo 57 = .ok (.bipush 20, 2) := by decide +kernel
theorem d_U_copyTo_59 : decode k_U_copyTo 59 = .ok (.iload_n 3, 1) := by decide +kernel
theorem d_U_copyTo_60 : decode k_U_copyTo 60 = .ok (.invokestatic 54, 3) := by decide +kernel
theorem d_U_copyTo_63 : decode k_U_copyTo 63 = .ok (.return_, 1) := by decide +kernel
def b_U_copyTo_63 (q : Nat) (σ : CS) : Option (CS) :=
  some σ
def m_U_copyTo (q : Nat) (v1 : Nat) (v2 : Int32) (v3 : Int32) (σ : CS) : Option (CS) :=
  gd (q = 8 ∨ q = 15) <| bd (cI σ q 1) fun x1 => bd (cI σ q 2) fun x2 => bd (cI σ q 7) fun x3 => bd ((x1 + x2) - (x3 - v2)) fun x4 => if v3 ≤ 0 then
  (b_U_copyTo_63 q  σ)
 else
  (bd (cI σ q 1) fun x5 => if x4 < x5 then
  (b_U_copyTo_63 q  σ)
 else
  (bd (cI σ q 1) fun x6 => bd (cI σ q 2) fun x7 => if (x6 + x7) < (x4 + v3) then
  (b_U_copyTo_63 q  σ)
 else
  (bc (cR σ q 0) fun a8 => gd (kd σ v1 = 11) <| bc (cR σ v1 0) fun a9 => gd (kd σ a8 = 21 ∧ kd σ a9 = 21 ∧ ¬ x4 < 0 ∧ ¬ (20 : Int32) < 0 ∧ ¬ v3 < 0 ∧ x4.toNatClampNeg + v3.toNatClampNeg ≤ cN σ a8 ∧ (20 : Int32).toNatClampNeg + v3.toNatClampNeg ≤ cN σ a9) <| bd (wcp σ a8 a9 x4.toNatClampNeg (20 : Int32).toNatClampNeg v3.toNatClampNeg) fun r10 => b_U_copyTo_63 q  r10)))
section
variable {p : Program} {l : Launch} {e : Env} {s : State} {m : MethodId} {args : Array Value} {below : List Frame} {meth : Method} {c : Code} {D : va_G} {tc : Nat → ClassId} {b z : Nat} {σ0 : CS}
theorem t_U_copyTo_63 {q : Nat} (S : CC p m c k_U_copyTo 5 s args cn_U meth none D tc b z) (hq : q = 8 ∨ q = 15) (σ : CS) {B : CS} (h : b_U_copyTo_63 q  σ = some B) {ls : Array Slot} {H : Heap} {locs : List Loc} {cells slots : Nat} (hl : lv_has ls 5 []) (hW : CWS D tc b z s σ0 σ H locs cells slots) : W p l e (CR 1 40 σ0) s m args below meth c H locs cells slots (CE D tc b z below args s σ0 none B) (F0 m 63 ls []) := by
  have hx := S.1.1
  have hb := S.1.2.1
  unfold b_U_copyTo_63 at h
  exact cm_vret S hW d_U_copyTo_63 h
theorem t_U_copyTo_0 (S : CC p m c k_U_copyTo 5 s args cn_U meth none D tc b z) (q : Nat) (v1 : Nat) (v2 : Int32) (v3 : Int32) (σ : CS) {B : CS} (h : m_U_copyTo q v1 v2 v3 σ = some B) {ls : Array Slot} {H : Heap} {locs : List Loc} {cells slots : Nat} (hl : lv_has ls 5 [(0, .ref (b + q)), (1, .ref (b + v1)), (2, .int v2), (3, .int v3)]) (hW : CWS D tc b z s σ0 σ H locs cells slots) : W p l e (CR 1 40 σ0) s m args below meth c H locs cells slots (CE D tc b z below args s σ0 none B) (F0 m 0 ls []) := by
  have hx := S.1.1
  have hb := S.1.2.1
  unfold m_U_copyTo at h
  obtain ⟨hq, h⟩ := gd_s h
  refine lv_aload_n hx hb d_U_copyTo_0 rfl (lv_at hl 0 rfl) ?_
  refine cm_geti kx_U S hW (kU hq) 1 wd_199 (by decide) d_U_copyTo_1 h (fun x1 h => ?_)
  refine lv_aload_n hx hb d_U_copyTo_4 rfl (lv_at hl 0 rfl) ?_
  refine cm_geti kx_U S hW (kU hq) 2 wd_200 (by decide) d_U_copyTo_5 h (fun x2 h => ?_)
  refine lv_iadd hx hb d_U_copyTo_8 ?_
  refine lv_aload_n hx hb d_U_copyTo_9 rfl (lv_at hl 0 rfl) ?_
  refine cm_geti kx_U S hW (kU hq) 7 wd_211 (by decide) d_U_copyTo_10 h (fun x3 h => ?_)
  refine lv_iload_n hx hb d_U_copyTo_13 rfl (lv_at hl 2 rfl) ?_
  refine lv_isub hx hb d_U_copyTo_14 ?_
  refine lv_isub hx hb d_U_copyTo_15 ?_
  refine rv_i h (fun x4 h => ?_)
  refine lv_istore (lv' := [(4, .int x4), (0, .ref (b + q)), (1, .ref (b + v1)), (2, .int v2), (3, .int v3)]) hx hb d_U_copyTo_16 hl (by decide) rfl (fun ls hl => ?_)
  refine lv_iload_n hx hb d_U_copyTo_18 rfl (lv_at hl 4 rfl) ?_
  refine rb_le (tgt := 63) hx hb d_U_copyTo_19 (by decide) h (fun h => ?_) (fun h => ?_)
  · exact t_U_copyTo_63 S hq  σ h (lv_sub hl [] rfl) hW
  · refine lv_iload hx hb d_U_copyTo_22 (lv_at hl 0 rfl) ?_
    refine lv_aload_n hx hb d_U_copyTo_24 rfl (lv_at hl 1 rfl) ?_
    refine cm_geti kx_U S hW (kU hq) 1 wd_199 (by decide) d_U_copyTo_25 h (fun x5 h => ?_)
    refine rc_lt (tgt := 63) hx hb d_U_copyTo_28 (by decide) h (fun h => ?_) (fun h => ?_)
    · exact t_U_copyTo_63 S hq  σ h (lv_sub hl [] rfl) hW
    · refine lv_iload hx hb d_U_copyTo_31 (lv_at hl 0 rfl) ?_
      refine lv_iload_n hx hb d_U_copyTo_33 rfl (lv_at hl 4 rfl) ?_
      refine lv_iadd hx hb d_U_copyTo_34 ?_
      refine lv_aload_n hx hb d_U_copyTo_35 rfl (lv_at hl 1 rfl) ?_
      refine cm_geti kx_U S hW (kU hq) 1 wd_199 (by decide) d_U_copyTo_36 h (fun x6 h => ?_)
      refine lv_aload_n hx hb d_U_copyTo_39 rfl (lv_at hl 1 rfl) ?_
      refine cm_geti kx_U S hW (kU hq) 2 wd_200 (by decide) d_U_copyTo_40 h (fun x7 h => ?_)
      refine lv_iadd hx hb d_U_copyTo_43 ?_
      refine rc_gt (tgt := 63) hx hb d_U_copyTo_44 (by decide) h (fun h => ?_) (fun h => ?_)
      · exact t_U_copyTo_63 S hq  σ h (lv_sub hl [] rfl) hW
      · refine lv_aload_n hx hb d_U_copyTo_47 rfl (lv_at hl 1 rfl) ?_
        refine cm_getr kx_U S hW (kU hq) 0 wd_198 (by decide) d_U_copyTo_48 h (fun a8 h => ?_)
        refine lv_iload hx hb d_U_copyTo_51 (lv_at hl 0 rfl) ?_
        refine lv_aload_n hx hb d_U_copyTo_53 rfl (lv_at hl 2 rfl) ?_
        obtain ⟨hg, h⟩ := gd_s h
        refine cm_getr kx_G S hW hg 0 wd_584 (by decide) d_U_copyTo_54 h (fun a9 h => ?_)
        refine lv_bipush (v := 20) hx hb d_U_copyTo_57 (by decide) ?_
        refine lv_iload_n hx hb d_U_copyTo_59 rfl (lv_at hl 4 rfl) ?_
        refine cm_copyb S hW wd_621 wd_510 wd_509 wd_97 hl.1 (by decide) (by decide) d_U_copyTo_60 h (fun r10 H locs h hW => ?_)
        exact t_U_copyTo_63 S hq  r10 h (lv_sub hl [] rfl) hW
theorem c_U_copyTo (q : Nat) (v1 : Nat) (v2 : Int32) (v3 : Int32) (σ : CS) {B : CS} (h : m_U_copyTo q v1 v2 v3 σ = some B) : CMet l D tc b z y_U_copyTo k_U_copyTo 5 none 1 40 [.ref (b + q), .ref (b + v1), .int v2, .int v3] σ none B := cm_met (by decide) (Nat.le_of_ble_eq_true rfl) fun p e s m args below meth c S hW ls hl => t_U_copyTo_0 S q v1 v2 v3 σ h hl hW
end

/-! StreamPair$Supply.acknowledge (I)V -/
abbrev k_U_acknowledge : ByteArray := prog_9_method_6_code
abbrev y_U_acknowledge : MethodName := ⟨cn_U, "acknowledge", "(I)V"⟩
theorem q_U_acknowledge : Calee y_U_acknowledge k_U_acknowledge 3 none 1 := ⟨wd_1040, wd_86, by decide, by decide +kernel⟩
theorem d_U_acknowledge_0 : decode k_U_acknowledge 0 = .ok (.aload_n 0, 1) := by decide +kernel
theorem d_U_acknowledge_1 : decode k_U_acknowledge 1 = .ok (.getfield 34, 3) := by decide +kernel
theorem d_U_acknowledge_4 : decode k_U_acknowledge 4 = .ok (.iload_n 1, 1) := by decide +kernel
theorem d_U_acknowledge_5 : decode k_U_acknowledge 5 = .ok (.isub, 1) := by decide +kernel
theorem d_U_acknowledge_6 : decode k_U_acknowledge 6 = .ok (.iconst 0, 1) := by decide +kernel
theorem d_U_acknowledge_7 : decode k_U_acknowledge 7 = .ok (.invokestatic 60, 3) := by decide +kernel
theorem d_U_acknowledge_10 : decode k_U_acknowledge 10 = .ok (.aload_n 0, 1) := by decide +kernel
theorem d_U_acknowledge_11 : decode k_U_acknowledge 11 = .ok (.getfield 19, 3) := by decide +kernel
theorem d_U_acknowledge_14 : decode k_U_acknowledge 14 = .ok (.invokestatic 68, 3) := by decide +kernel
theorem d_U_acknowledge_17 : decode k_U_acknowledge 17 = .ok (.istore_n 2, 1) := by decide +kernel
theorem d_U_acknowledge_18 : decode k_U_acknowledge 18 = .ok (.aload_n 0, 1) := by decide +kernel
theorem d_U_acknowledge_19 : decode k_U_acknowledge 19 = .ok (.dup, 1) := by decide +kernel
theorem d_U_acknowledge_20 : decode k_U_acknowledge 20 = .ok (.getfield 15, 3) := by decide +kernel
theorem d_U_acknowledge_23 : decode k_U_acknowledge 23 = .ok (.aload_n 0, 1) := by decide +kernel
theorem d_U_acknowledge_24 : decode k_U_acknowledge 24 = .ok (.getfield 19, 3) := by decide +kernel
theorem d_U_acknowledge_27 : decode k_U_acknowledge 27 = .ok (.iload_n 2, 1) := by decide +kernel
theorem d_U_acknowledge_28 : decode k_U_acknowledge 28 = .ok (.isub, 1) := by decide +kernel
theorem d_U_acknowledge_29 : decode k_U_acknowledge 29 = .ok (.iadd, 1) := by decide +kernel
theorem d_U_acknowledge_30 : decode k_U_acknowledge 30 = .ok (.putfield 15, 3) := by decide +kernel
theorem d_U_acknowledge_33 : decode k_U_acknowledge 33 = .ok (.aload_n 0, 1) := by decide +kernel
theorem d_U_acknowledge_34 : decode k_U_acknowledge 34 = .ok (.iload_n 2, 1) := by decide +kernel
theorem d_U_acknowledge_35 : decode k_U_acknowledge 35 = .ok (.putfield 19, 3) := by decide +kernel
theorem d_U_acknowledge_38 : decode k_U_acknowledge 38 = .ok (.aload_n 0, 1) := by decide +kernel
theorem d_U_acknowledge_39 : decode k_U_acknowledge 39 = .ok (.iload_n 1, 1) := by decide +kernel
theorem d_U_acknowledge_40 : decode k_U_acknowledge 40 = .ok (.putfield 25, 3) := by decide +kernel
theorem d_U_acknowledge_43 : decode k_U_acknowledge 43 = .ok (.aload_n 0, 1) := by decide +kernel
theorem d_U_acknowledge_44 : decode k_U_acknowledge 44 = .ok (.getfield 28, 3) := by decide +kernel
theorem d_U_acknowledge_47 : decode k_U_acknowledge 47 = .ok (.aload_n 0, 1) := by decide +kernel
theorem d_U_acknowledge_48 : decode k_U_acknowledge 48 = .ok (.getfield 25, 3) := by decide +kernel
theorem d_U_acknowledge_51 : decode k_U_acknowledge 51 = .ok (.isub, 1) := by decide +kernel
theorem d_U_acknowledge_52 : decode k_U_acknowledge 52 = .ok (.ifCond .ge 11, 3) := by decide +kernel
theorem d_U_acknowledge_55 : decode k_U_acknowledge 55 = .ok (.aload_n 0, 1) := by decide +kernel
theorem d_U_acknowledge_56 : decode k_U_acknowledge 56 = .ok (.aload_n 0, 1) := by decide +kernel
theorem d_U_acknowledge_57 : decode k_U_acknowledge 57 = .ok (.getfield 25, 3) := by decide +kernel
theorem d_U_acknowledge_60 : decode k_U_acknowledge 60 = .ok (.putfield 28, 3) := by decide +kernel
theorem d_U_acknowledge_63 : decode k_U_acknowledge 63 = .ok (.return_, 1) := by decide +kernel
def b_U_acknowledge_63 (q : Nat) (σ : CS) : Option (CS) :=
  some σ
def m_U_acknowledge (q : Nat) (v1 : Int32) (σ : CS) : Option (CS) :=
  gd (q = 8 ∨ q = 15) <| bd (cI σ q 7) fun x1 => bd (if (x1 - v1) < (0 : Int32) then (0 : Int32) else (x1 - v1)) fun x2 => bd (cI σ q 2) fun x3 => bd (if x3 < x2 then x3 else x2) fun x4 => bd (cI σ q 1) fun x5 => bd (cI σ q 2) fun x6 => bd (wi σ q 1 (x5 + (x6 - x4))) fun r7 => bd (wi r7 q 2 x4) fun r8 => bd (wi r8 q 4 v1) fun r9 => bd (cI r9 q 5) fun x10 => bd (cI r9 q 4) fun x11 => if 0 ≤ (x10 - x11) then
  (b_U_acknowledge_63 q  r9)
 else
  (bd (cI r9 q 4) fun x12 => bd (wi r9 q 5 x12) fun r13 => b_U_acknowledge_63 q  r13)
section
variable {p : Program} {l : Launch} {e : Env} {s : State} {m : MethodId} {args : Array Value} {below : List Frame} {meth : Method} {c : Code} {D : va_G} {tc : Nat → ClassId} {b z : Nat} {σ0 : CS}
theorem t_U_acknowledge_63 {q : Nat} (S : CC p m c k_U_acknowledge 3 s args cn_U meth none D tc b z) (hq : q = 8 ∨ q = 15) (σ : CS) {B : CS} (h : b_U_acknowledge_63 q  σ = some B) {ls : Array Slot} {H : Heap} {locs : List Loc} {cells slots : Nat} (hl : lv_has ls 3 []) (hW : CWS D tc b z s σ0 σ H locs cells slots) : W p l e (CR 1 24 σ0) s m args below meth c H locs cells slots (CE D tc b z below args s σ0 none B) (F0 m 63 ls []) := by
  have hx := S.1.1
  have hb := S.1.2.1
  unfold b_U_acknowledge_63 at h
  exact cm_vret S hW d_U_acknowledge_63 h
theorem t_U_acknowledge_0 (S : CC p m c k_U_acknowledge 3 s args cn_U meth none D tc b z) (q : Nat) (v1 : Int32) (σ : CS) {B : CS} (h : m_U_acknowledge q v1 σ = some B) {ls : Array Slot} {H : Heap} {locs : List Loc} {cells slots : Nat} (hl : lv_has ls 3 [(0, .ref (b + q)), (1, .int v1)]) (hW : CWS D tc b z s σ0 σ H locs cells slots) : W p l e (CR 1 24 σ0) s m args below meth c H locs cells slots (CE D tc b z below args s σ0 none B) (F0 m 0 ls []) := by
  have hx := S.1.1
  have hb := S.1.2.1
  unfold m_U_acknowledge at h
  obtain ⟨hq, h⟩ := gd_s h
  refine lv_aload_n hx hb d_U_acknowledge_0 rfl (lv_at hl 0 rfl) ?_
  refine cm_geti kx_U S hW (kU hq) 7 wd_211 (by decide) d_U_acknowledge_1 h (fun x1 h => ?_)
  refine lv_iload_n hx hb d_U_acknowledge_4 rfl (lv_at hl 1 rfl) ?_
  refine lv_isub hx hb d_U_acknowledge_5 ?_
  refine lv_iconst (v := 0) hx hb d_U_acknowledge_6 (by decide) ?_
  refine cm_jmax S hW wd_830 wd_469 wd_96 wd_470 hl.1 (by decide) (Nat.le_of_ble_eq_true rfl) d_U_acknowledge_7 ?_
  refine rv_i h (fun x2 h => ?_)
  refine lv_aload_n hx hb d_U_acknowledge_10 rfl (lv_at hl 0 rfl) ?_
  refine cm_geti kx_U S hW (kU hq) 2 wd_200 (by decide) d_U_acknowledge_11 h (fun x3 h => ?_)
  refine cm_jmin S hW wd_1041 wd_506 wd_96 wd_507 hl.1 (by decide) (Nat.le_of_ble_eq_true rfl) d_U_acknowledge_14 ?_
  refine rv_i h (fun x4 h => ?_)
  refine lv_istore_n (lv' := [(2, .int x4), (0, .ref (b + q)), (1, .int v1)]) hx hb d_U_acknowledge_17 rfl hl (by decide) rfl (fun ls hl => ?_)
  refine lv_aload_n hx hb d_U_acknowledge_18 rfl (lv_at hl 1 rfl) ?_
  refine lv_dup hx hb d_U_acknowledge_19 rfl ?_
  refine cm_geti kx_U S hW (kU hq) 1 wd_199 (by decide) d_U_acknowledge_20 h (fun x5 h => ?_)
  refine lv_aload_n hx hb d_U_acknowledge_23 rfl (lv_at hl 1 rfl) ?_
  refine cm_geti kx_U S hW (kU hq) 2 wd_200 (by decide) d_U_acknowledge_24 h (fun x6 h => ?_)
  refine lv_iload_n hx hb d_U_acknowledge_27 rfl (lv_at hl 0 rfl) ?_
  refine lv_isub hx hb d_U_acknowledge_28 ?_
  refine lv_iadd hx hb d_U_acknowledge_29 ?_
  refine cm_puti kx_U S hW (kU hq) 1 wd_199 (by decide) d_U_acknowledge_30 h (fun r7 H locs h hW => ?_)
  refine lv_aload_n hx hb d_U_acknowledge_33 rfl (lv_at hl 1 rfl) ?_
  refine lv_iload_n hx hb d_U_acknowledge_34 rfl (lv_at hl 0 rfl) ?_
  refine cm_puti kx_U S hW (kU hq) 2 wd_200 (by decide) d_U_acknowledge_35 h (fun r8 H locs h hW => ?_)
  refine lv_aload_n hx hb d_U_acknowledge_38 rfl (lv_at hl 1 rfl) ?_
  refine lv_iload_n hx hb d_U_acknowledge_39 rfl (lv_at hl 2 rfl) ?_
  refine cm_puti kx_U S hW (kU hq) 4 wd_205 (by decide) d_U_acknowledge_40 h (fun r9 H locs h hW => ?_)
  refine lv_aload_n hx hb d_U_acknowledge_43 rfl (lv_at hl 1 rfl) ?_
  refine cm_geti kx_U S hW (kU hq) 5 wd_207 (by decide) d_U_acknowledge_44 h (fun x10 h => ?_)
  refine lv_aload_n hx hb d_U_acknowledge_47 rfl (lv_at hl 1 rfl) ?_
  refine cm_geti kx_U S hW (kU hq) 4 wd_205 (by decide) d_U_acknowledge_48 h (fun x11 h => ?_)
  refine lv_isub hx hb d_U_acknowledge_51 ?_
  refine rb_ge (tgt := 63) hx hb d_U_acknowledge_52 (by decide) h (fun h => ?_) (fun h => ?_)
  · exact t_U_acknowledge_63 S hq  r9 h (lv_sub hl [] rfl) hW
  · refine lv_aload_n hx hb d_U_acknowledge_55 rfl (lv_at hl 1 rfl) ?_
    refine lv_aload_n hx hb d_U_acknowledge_56 rfl (lv_at hl 1 rfl) ?_
    refine cm_geti kx_U S hW (kU hq) 4 wd_205 (by decide) d_U_acknowledge_57 h (fun x12 h => ?_)
    refine cm_puti kx_U S hW (kU hq) 5 wd_207 (by decide) d_U_acknowledge_60 h (fun r13 H locs h hW => ?_)
    exact t_U_acknowledge_63 S hq  r13 h (lv_sub hl [] rfl) hW
theorem c_U_acknowledge (q : Nat) (v1 : Int32) (σ : CS) {B : CS} (h : m_U_acknowledge q v1 σ = some B) : CMet l D tc b z y_U_acknowledge k_U_acknowledge 3 none 1 24 [.ref (b + q), .int v1] σ none B := cm_met (by decide) (Nat.le_of_ble_eq_true rfl) fun p e s m args below meth c S hW ls hl => t_U_acknowledge_0 S q v1 σ h hl hW
end

/-! StreamPair$Supply.follow (I)V -/
abbrev k_U_follow : ByteArray := prog_9_method_7_code
abbrev y_U_follow : MethodName := ⟨cn_U, "follow", "(I)V"⟩
theorem q_U_follow : Calee y_U_follow k_U_follow 2 none 1 := ⟨wd_639, wd_86, by decide, by decide +kernel⟩
theorem d_U_follow_0 : decode k_U_follow 0 = .ok (.aload_n 0, 1) := by decide +kernel
theorem d_U_follow_1 : decode k_U_follow 1 = .ok (.iload_n 1, 1) := by decide +kernel
theorem d_U_follow_2 : decode k_U_follow 2 = .ok (.putfield 28, 3) := by decide +kernel
theorem d_U_follow_5 : decode k_U_follow 5 = .ok (.aload_n 0, 1) := by decide +kernel
theorem d_U_follow_6 : decode k_U_follow 6 = .ok (.getfield 28, 3) := by decide +kernel
theorem d_U_follow_9 : decode k_U_follow 9 = .ok (.aload_n 0, 1) := by decide +kernel
theorem d_U_follow_10 : decode k_U_follow 10 = .ok (.getfield 31, 3) := by decide +kernel
theorem d_U_follow_13 : decode k_U_follow 13 = .ok (.isub, 1) := by decide +kernel
theorem d_U_follow_14 : decode k_U_follow 14 = .ok (.ifCond .le 11, 3) := by decide +kernel
theorem d_U_follow_17 : decode k_U_follow 17 = .ok (.aload_n 0, 1) := by decide +kernel
theorem d_U_follow_18 : decode k_U_follow 18 = .ok (.aload_n 0, 1) := by decide +kernel
theorem d_U_follow_19 : decode k_U_follow 19 = .ok (.getfield 28, 3) := by decide +kernel
theorem d_U_follow_22 : decode k_U_follow 22 = .ok (.putfield 31, 3) := by decide +kernel
theorem d_U_follow_25 : decode k_U_follow 25 = .ok (.return_, 1) := by decide +kernel
def b_U_follow_25 (q : Nat) (σ : CS) : Option (CS) :=
  some σ
def m_U_follow (q : Nat) (v1 : Int32) (σ : CS) : Option (CS) :=
  gd (q = 8 ∨ q = 15) <| bd (wi σ q 5 v1) fun r1 => bd (cI r1 q 5) fun x2 => bd (cI r1 q 6) fun x3 => if (x2 - x3) ≤ 0 then
  (b_U_follow_25 q  r1)
 else
  (bd (cI r1 q 5) fun x4 => bd (wi r1 q 6 x4) fun r5 => b_U_follow_25 q  r5)
section
variable {p : Program} {l : Launch} {e : Env} {s : State} {m : MethodId} {args : Array Value} {below : List Frame} {meth : Method} {c : Code} {D : va_G} {tc : Nat → ClassId} {b z : Nat} {σ0 : CS}
theorem t_U_follow_25 {q : Nat} (S : CC p m c k_U_follow 2 s args cn_U meth none D tc b z) (hq : q = 8 ∨ q = 15) (σ : CS) {B : CS} (h : b_U_follow_25 q  σ = some B) {ls : Array Slot} {H : Heap} {locs : List Loc} {cells slots : Nat} (hl : lv_has ls 2 []) (hW : CWS D tc b z s σ0 σ H locs cells slots) : W p l e (CR 0 0 σ0) s m args below meth c H locs cells slots (CE D tc b z below args s σ0 none B) (F0 m 25 ls []) := by
  have hx := S.1.1
  have hb := S.1.2.1
  unfold b_U_follow_25 at h
  exact cm_vret S hW d_U_follow_25 h
theorem t_U_follow_0 (S : CC p m c k_U_follow 2 s args cn_U meth none D tc b z) (q : Nat) (v1 : Int32) (σ : CS) {B : CS} (h : m_U_follow q v1 σ = some B) {ls : Array Slot} {H : Heap} {locs : List Loc} {cells slots : Nat} (hl : lv_has ls 2 [(0, .ref (b + q)), (1, .int v1)]) (hW : CWS D tc b z s σ0 σ H locs cells slots) : W p l e (CR 0 0 σ0) s m args below meth c H locs cells slots (CE D tc b z below args s σ0 none B) (F0 m 0 ls []) := by
  have hx := S.1.1
  have hb := S.1.2.1
  unfold m_U_follow at h
  obtain ⟨hq, h⟩ := gd_s h
  refine lv_aload_n hx hb d_U_follow_0 rfl (lv_at hl 0 rfl) ?_
  refine lv_iload_n hx hb d_U_follow_1 rfl (lv_at hl 1 rfl) ?_
  refine cm_puti kx_U S hW (kU hq) 5 wd_207 (by decide) d_U_follow_2 h (fun r1 H locs h hW => ?_)
  refine lv_aload_n hx hb d_U_follow_5 rfl (lv_at hl 0 rfl) ?_
  refine cm_geti kx_U S hW (kU hq) 5 wd_207 (by decide) d_U_follow_6 h (fun x2 h => ?_)
  refine lv_aload_n hx hb d_U_follow_9 rfl (lv_at hl 0 rfl) ?_
  refine cm_geti kx_U S hW (kU hq) 6 wd_209 (by decide) d_U_follow_10 h (fun x3 h => ?_)
  refine lv_isub hx hb d_U_follow_13 ?_
  refine rb_le (tgt := 25) hx hb d_U_follow_14 (by decide) h (fun h => ?_) (fun h => ?_)
  · exact t_U_follow_25 S hq  r1 h (lv_sub hl [] rfl) hW
  · refine lv_aload_n hx hb d_U_follow_17 rfl (lv_at hl 0 rfl) ?_
    refine lv_aload_n hx hb d_U_follow_18 rfl (lv_at hl 0 rfl) ?_
    refine cm_geti kx_U S hW (kU hq) 5 wd_207 (by decide) d_U_follow_19 h (fun x4 h => ?_)
    refine cm_puti kx_U S hW (kU hq) 6 wd_209 (by decide) d_U_follow_22 h (fun r5 H locs h hW => ?_)
    exact t_U_follow_25 S hq  r5 h (lv_sub hl [] rfl) hW
theorem c_U_follow (q : Nat) (v1 : Int32) (σ : CS) {B : CS} (h : m_U_follow q v1 σ = some B) : CMet l D tc b z y_U_follow k_U_follow 2 none 0 0 [.ref (b + q), .int v1] σ none B := cm_met (by decide) (Nat.le_of_ble_eq_true rfl) fun p e s m args below meth c S hW ls hl => t_U_follow_0 S q v1 σ h hl hW
end

/-! StreamPair$Supply.flight ()I -/
abbrev k_U_flight : ByteArray := prog_9_method_8_code
abbrev y_U_flight : MethodName := ⟨cn_U, "flight", "()I"⟩
theorem q_U_flight : Calee y_U_flight k_U_flight 1 (Option.some Jvm.ClassFile.FieldType.int) 0 := ⟨wd_851, wd_86, by decide, by decide +kernel⟩
theorem d_U_flight_0 : decode k_U_flight 0 = .ok (.aload_n 0, 1) := by decide +kernel
theorem d_U_flight_1 : decode k_U_flight 1 = .ok (.getfield 28, 3) := by decide +kernel
theorem d_U_flight_4 : decode k_U_flight 4 = .ok (.aload_n 0, 1) := by decide +kernel
theorem d_U_flight_5 : decode k_U_flight 5 = .ok (.getfield 25, 3) := by decide +kernel
theorem d_U_flight_8 : decode k_U_flight 8 = .ok (.isub, 1) := by decide +kernel
theorem d_U_flight_9 : decode k_U_flight 9 = .ok (.ireturn, 1) := by decide +kernel
def m_U_flight (q : Nat) (σ : CS) : Option (Int32 × CS) :=
  gd (q = 8 ∨ q = 15) <| bd (cI σ q 5) fun x1 => bd (cI σ q 4) fun x2 => some (x1 - x2, σ)
section
variable {p : Program} {l : Launch} {e : Env} {s : State} {m : MethodId} {args : Array Value} {below : List Frame} {meth : Method} {c : Code} {D : va_G} {tc : Nat → ClassId} {b z : Nat} {σ0 : CS}
theorem t_U_flight_0 (S : CC p m c k_U_flight 1 s args cn_U meth (Option.some Jvm.ClassFile.FieldType.int) D tc b z) (q : Nat) (σ : CS) {B : Int32 × CS} (h : m_U_flight q σ = some B) {ls : Array Slot} {H : Heap} {locs : List Loc} {cells slots : Nat} (hl : lv_has ls 1 [(0, .ref (b + q))]) (hW : CWS D tc b z s σ0 σ H locs cells slots) : W p l e (CR 0 0 σ0) s m args below meth c H locs cells slots (CE D tc b z below args s σ0 (some (.int B.1)) B.2) (F0 m 0 ls []) := by
  have hx := S.1.1
  have hb := S.1.2.1
  unfold m_U_flight at h
  obtain ⟨hq, h⟩ := gd_s h
  refine lv_aload_n hx hb d_U_flight_0 rfl (lv_at hl 0 rfl) ?_
  refine cm_geti kx_U S hW (kU hq) 5 wd_207 (by decide) d_U_flight_1 h (fun x1 h => ?_)
  refine lv_aload_n hx hb d_U_flight_4 rfl (lv_at hl 0 rfl) ?_
  refine cm_geti kx_U S hW (kU hq) 4 wd_205 (by decide) d_U_flight_5 h (fun x2 h => ?_)
  refine lv_isub hx hb d_U_flight_8 ?_
  exact cm_iret S hW d_U_flight_9 h
theorem c_U_flight (q : Nat) (σ : CS) {x : Int32} {σ' : CS} (h : m_U_flight q σ = some (x, σ')) : CMet l D tc b z y_U_flight k_U_flight 1 (Option.some Jvm.ClassFile.FieldType.int) 0 0 [.ref (b + q)] σ (some (.int x)) σ' := cm_met (by decide) (Nat.le_of_ble_eq_true rfl) fun p e s m args below meth c S hW ls hl => t_U_flight_0 S q σ h hl hW
end

/-! StreamPair$Supply.unsent ()I -/
abbrev k_U_unsent : ByteArray := prog_9_method_9_code
abbrev y_U_unsent : MethodName := ⟨cn_U, "unsent", "()I"⟩
theorem q_U_unsent : Calee y_U_unsent k_U_unsent 1 (Option.some Jvm.ClassFile.FieldType.int) 0 := ⟨wd_846, wd_86, by decide, by decide +kernel⟩
theorem d_U_unsent_0 : decode k_U_unsent 0 = .ok (.aload_n 0, 1) := by decide +kernel
theorem d_U_unsent_1 : decode k_U_unsent 1 = .ok (.getfield 34, 3) := by decide +kernel
theorem d_U_unsent_4 : decode k_U_unsent 4 = .ok (.aload_n 0, 1) := by decide +kernel
theorem d_U_unsent_5 : decode k_U_unsent 5 = .ok (.getfield 28, 3) := by decide +kernel
theorem d_U_unsent_8 : decode k_U_unsent 8 = .ok (.isub, 1) := by decide +kernel
theorem d_U_unsent_9 : decode k_U_unsent 9 = .ok (.iconst 0, 1) := by decide +kernel
theorem d_U_unsent_10 : decode k_U_unsent 10 = .ok (.invokestatic 60, 3) := by decide +kernel
theorem d_U_unsent_13 : decode k_U_unsent 13 = .ok (.ireturn, 1) := by decide +kernel
def m_U_unsent (q : Nat) (σ : CS) : Option (Int32 × CS) :=
  gd (q = 8 ∨ q = 15) <| bd (cI σ q 7) fun x1 => bd (cI σ q 5) fun x2 => bd (if (x1 - x2) < (0 : Int32) then (0 : Int32) else (x1 - x2)) fun x3 => some (x3, σ)
section
variable {p : Program} {l : Launch} {e : Env} {s : State} {m : MethodId} {args : Array Value} {below : List Frame} {meth : Method} {c : Code} {D : va_G} {tc : Nat → ClassId} {b z : Nat} {σ0 : CS}
theorem t_U_unsent_0 (S : CC p m c k_U_unsent 1 s args cn_U meth (Option.some Jvm.ClassFile.FieldType.int) D tc b z) (q : Nat) (σ : CS) {B : Int32 × CS} (h : m_U_unsent q σ = some B) {ls : Array Slot} {H : Heap} {locs : List Loc} {cells slots : Nat} (hl : lv_has ls 1 [(0, .ref (b + q))]) (hW : CWS D tc b z s σ0 σ H locs cells slots) : W p l e (CR 1 24 σ0) s m args below meth c H locs cells slots (CE D tc b z below args s σ0 (some (.int B.1)) B.2) (F0 m 0 ls []) := by
  have hx := S.1.1
  have hb := S.1.2.1
  unfold m_U_unsent at h
  obtain ⟨hq, h⟩ := gd_s h
  refine lv_aload_n hx hb d_U_unsent_0 rfl (lv_at hl 0 rfl) ?_
  refine cm_geti kx_U S hW (kU hq) 7 wd_211 (by decide) d_U_unsent_1 h (fun x1 h => ?_)
  refine lv_aload_n hx hb d_U_unsent_4 rfl (lv_at hl 0 rfl) ?_
  refine cm_geti kx_U S hW (kU hq) 5 wd_207 (by decide) d_U_unsent_5 h (fun x2 h => ?_)
  refine lv_isub hx hb d_U_unsent_8 ?_
  refine lv_iconst (v := 0) hx hb d_U_unsent_9 (by decide) ?_
  refine cm_jmax S hW wd_830 wd_469 wd_96 wd_470 hl.1 (by decide) (Nat.le_of_ble_eq_true rfl) d_U_unsent_10 ?_
  refine rv_i h (fun x3 h => ?_)
  exact cm_iret S hW d_U_unsent_13 h
theorem c_U_unsent (q : Nat) (σ : CS) {x : Int32} {σ' : CS} (h : m_U_unsent q σ = some (x, σ')) : CMet l D tc b z y_U_unsent k_U_unsent 1 (Option.some Jvm.ClassFile.FieldType.int) 1 24 [.ref (b + q)] σ (some (.int x)) σ' := cm_met (by decide) (Nat.le_of_ble_eq_true rfl) fun p e s m args below meth c S hW ls hl => t_U_unsent_0 S q σ h hl hW
end

/-! StreamPair$Supply.sentBytes ()I -/
abbrev k_U_sentBytes : ByteArray := prog_9_method_10_code
abbrev y_U_sentBytes : MethodName := ⟨cn_U, "sentBytes", "()I"⟩
theorem q_U_sentBytes : Calee y_U_sentBytes k_U_sentBytes 1 (Option.some Jvm.ClassFile.FieldType.int) 0 := ⟨wd_1124, wd_86, by decide, by decide +kernel⟩
theorem d_U_sentBytes_0 : decode k_U_sentBytes 0 = .ok (.aload_n 0, 1) := by decide +kernel
theorem d_U_sentBytes_1 : decode k_U_sentBytes 1 = .ok (.getfield 31, 3) := by decide +kernel
theorem d_U_sentBytes_4 : decode k_U_sentBytes 4 = .ok (.aload_n 0, 1) := by decide +kernel
theorem d_U_sentBytes_5 : decode k_U_sentBytes 5 = .ok (.getfield 34, 3) := by decide +kernel
theorem d_U_sentBytes_8 : decode k_U_sentBytes 8 = .ok (.isub, 1) := by decide +kernel
theorem d_U_sentBytes_9 : decode k_U_sentBytes 9 = .ok (.ifCond .le 10, 3) := by decide +kernel
theorem d_U_sentBytes_12 : decode k_U_sentBytes 12 = .ok (.aload_n 0, 1) := by decide +kernel
theorem d_U_sentBytes_13 : decode k_U_sentBytes 13 = .ok (.getfield 34, 3) := by decide +kernel
theorem d_U_sentBytes_16 : decode k_U_sentBytes 16 = .ok (.goto 7, 3) := by decide +kernel
theorem d_U_sentBytes_19 : decode k_U_sentBytes 19 = .ok (.aload_n 0, 1) := by decide +kernel
theorem d_U_sentBytes_20 : decode k_U_sentBytes 20 = .ok (.getfield 31, 3) := by decide +kernel
theorem d_U_sentBytes_23 : decode k_U_sentBytes 23 = .ok (.aload_n 0, 1) := by decide +kernel
theorem d_U_sentBytes_24 : decode k_U_sentBytes 24 = .ok (.getfield 25, 3) := by decide +kernel
theorem d_U_sentBytes_27 : decode k_U_sentBytes 27 = .ok (.isub, 1) := by decide +kernel
theorem d_U_sentBytes_28 : decode k_U_sentBytes 28 = .ok (.iconst 0, 1) := by decide +kernel
theorem d_U_sentBytes_29 : decode k_U_sentBytes 29 = .ok (.invokestatic 60, 3) := by decide +kernel
theorem d_U_sentBytes_32 : decode k_U_sentBytes 32 = .ok (.ireturn, 1) := by decide +kernel
def b_U_sentBytes_23 (q : Nat) (w0 : Int32) (σ : CS) : Option (Int32 × CS) :=
  bd (cI σ q 4) fun x1 => bd (if (w0 - x1) < (0 : Int32) then (0 : Int32) else (w0 - x1)) fun x2 => some (x2, σ)
def m_U_sentBytes (q : Nat) (σ : CS) : Option (Int32 × CS) :=
  gd (q = 8 ∨ q = 15) <| bd (cI σ q 6) fun x1 => bd (cI σ q 7) fun x2 => if (x1 - x2) ≤ 0 then
  (bd (cI σ q 6) fun x3 => b_U_sentBytes_23 q x3 σ)
 else
  (bd (cI σ q 7) fun x4 => b_U_sentBytes_23 q x4 σ)
section
variable {p : Program} {l : Launch} {e : Env} {s : State} {m : MethodId} {args : Array Value} {below : List Frame} {meth : Method} {c : Code} {D : va_G} {tc : Nat → ClassId} {b z : Nat} {σ0 : CS}
theorem t_U_sentBytes_23 {q : Nat} (S : CC p m c k_U_sentBytes 1 s args cn_U meth (Option.some Jvm.ClassFile.FieldType.int) D tc b z) (hq : q = 8 ∨ q = 15) (w0 : Int32) (σ : CS) {B : Int32 × CS} (h : b_U_sentBytes_23 q w0 σ = some B) {ls : Array Slot} {H : Heap} {locs : List Loc} {cells slots : Nat} (hl : lv_has ls 1 [(0, .ref (b + q))]) (hW : CWS D tc b z s σ0 σ H locs cells slots) : W p l e (CR 1 24 σ0) s m args below meth c H locs cells slots (CE D tc b z below args s σ0 (some (.int B.1)) B.2) (F0 m 23 ls [.int w0]) := by
  have hx := S.1.1
  have hb := S.1.2.1
  unfold b_U_sentBytes_23 at h
  refine lv_aload_n hx hb d_U_sentBytes_23 rfl (lv_at hl 0 rfl) ?_
  refine cm_geti kx_U S hW (kU hq) 4 wd_205 (by decide) d_U_sentBytes_24 h (fun x1 h => ?_)
  refine lv_isub hx hb d_U_sentBytes_27 ?_
  refine lv_iconst (v := 0) hx hb d_U_sentBytes_28 (by decide) ?_
  refine cm_jmax S hW wd_830 wd_469 wd_96 wd_470 hl.1 (by decide) (Nat.le_of_ble_eq_true rfl) d_U_sentBytes_29 ?_
  refine rv_i h (fun x2 h => ?_)
  exact cm_iret S hW d_U_sentBytes_32 h
theorem t_U_sentBytes_0 (S : CC p m c k_U_sentBytes 1 s args cn_U meth (Option.some Jvm.ClassFile.FieldType.int) D tc b z) (q : Nat) (σ : CS) {B : Int32 × CS} (h : m_U_sentBytes q σ = some B) {ls : Array Slot} {H : Heap} {locs : List Loc} {cells slots : Nat} (hl : lv_has ls 1 [(0, .ref (b + q))]) (hW : CWS D tc b z s σ0 σ H locs cells slots) : W p l e (CR 1 24 σ0) s m args below meth c H locs cells slots (CE D tc b z below args s σ0 (some (.int B.1)) B.2) (F0 m 0 ls []) := by
  have hx := S.1.1
  have hb := S.1.2.1
  unfold m_U_sentBytes at h
  obtain ⟨hq, h⟩ := gd_s h
  refine lv_aload_n hx hb d_U_sentBytes_0 rfl (lv_at hl 0 rfl) ?_
  refine cm_geti kx_U S hW (kU hq) 6 wd_209 (by decide) d_U_sentBytes_1 h (fun x1 h => ?_)
  refine lv_aload_n hx hb d_U_sentBytes_4 rfl (lv_at hl 0 rfl) ?_
  refine cm_geti kx_U S hW (kU hq) 7 wd_211 (by decide) d_U_sentBytes_5 h (fun x2 h => ?_)
  refine lv_isub hx hb d_U_sentBytes_8 ?_
  refine rb_le (tgt := 19) hx hb d_U_sentBytes_9 (by decide) h (fun h => ?_) (fun h => ?_)
  · refine lv_aload_n hx hb d_U_sentBytes_19 rfl (lv_at hl 0 rfl) ?_
    refine cm_geti kx_U S hW (kU hq) 6 wd_209 (by decide) d_U_sentBytes_20 h (fun x3 h => ?_)
    exact t_U_sentBytes_23 S hq x3 σ h (lv_sub hl [0] rfl) hW
  · refine lv_aload_n hx hb d_U_sentBytes_12 rfl (lv_at hl 0 rfl) ?_
    refine cm_geti kx_U S hW (kU hq) 7 wd_211 (by decide) d_U_sentBytes_13 h (fun x4 h => ?_)
    refine lv_goto (tgt := 23) hx hb d_U_sentBytes_16 (by decide) ?_
    exact t_U_sentBytes_23 S hq x4 σ h (lv_sub hl [0] rfl) hW
theorem c_U_sentBytes (q : Nat) (σ : CS) {x : Int32} {σ' : CS} (h : m_U_sentBytes q σ = some (x, σ')) : CMet l D tc b z y_U_sentBytes k_U_sentBytes 1 (Option.some Jvm.ClassFile.FieldType.int) 1 24 [.ref (b + q)] σ (some (.int x)) σ' := cm_met (by decide) (Nat.le_of_ble_eq_true rfl) fun p e s m args below meth c S hW ls hl => t_U_sentBytes_0 S q σ h hl hW
end

/-! StreamPair$Supply.finIsDue ()Z -/
abbrev k_U_finIsDue : ByteArray := prog_9_method_11_code
abbrev y_U_finIsDue : MethodName := ⟨cn_U, "finIsDue", "()Z"⟩
theorem q_U_finIsDue : Calee y_U_finIsDue k_U_finIsDue 1 (Option.some Jvm.ClassFile.FieldType.boolean) 0 := ⟨wd_855, wd_86, by decide, by decide +kernel⟩
theorem d_U_finIsDue_0 : decode k_U_finIsDue 0 = .ok (.aload_n 0, 1) := by decide +kernel
theorem d_U_finIsDue_1 : decode k_U_finIsDue 1 = .ok (.getfield 37, 3) := by decide +kernel
theorem d_U_finIsDue_4 : decode k_U_finIsDue 4 = .ok (.ifCond .eq 26, 3) := by decide +kernel
theorem d_U_finIsDue_7 : decode k_U_finIsDue 7 = .ok (.aload_n 0, 1) := by decide +kernel
theorem d_U_finIsDue_8 : decode k_U_finIsDue 8 = .ok (.invokevirtual 71, 3) := by decide +kernel
theorem d_U_finIsDue_11 : decode k_U_finIsDue 11 = .ok (.ifCond .ne 19, 3) := by decide +kernel
theorem d_U_finIsDue_14 : decode k_U_finIsDue 14 = .ok (.aload_n 0, 1) := by decide +kernel
theorem d_U_finIsDue_15 : decode k_U_finIsDue 15 = .ok (.getfield 28, 3) := by decide +kernel
theorem d_U_finIsDue_18 : decode k_U_finIsDue 18 = .ok (.aload_n 0, 1) := by decide +kernel
theorem d_U_finIsDue_19 : decode k_U_finIsDue 19 = .ok (.getfield 34, 3) := by decide +kernel
theorem d_U_finIsDue_22 : decode k_U_finIsDue 22 = .ok (.isub, 1) := by decide +kernel
theorem d_U_finIsDue_23 : decode k_U_finIsDue 23 = .ok (.ifCond .gt 7, 3) := by decide +kernel
theorem d_U_finIsDue_26 : decode k_U_finIsDue 26 = .ok (.iconst 1, 1) := by decide +kernel
theorem d_U_finIsDue_27 : decode k_U_finIsDue 27 = .ok (.goto 4, 3) := by decide +kernel
theorem d_U_finIsDue_30 : decode k_U_finIsDue 30 = .ok (.iconst 0, 1) := by decide +kernel
theorem d_U_finIsDue_31 : decode k_U_finIsDue 31 = .ok (.ireturn, 1) := by decide +kernel
def b_U_finIsDue_31 (q : Nat) (w0 : Int32) (σ : CS) : Option (Int32 × CS) :=
  gd (w0 = 0 ∨ w0 = 1) (some (w0, σ))
def b_U_finIsDue_30 (q : Nat) (σ : CS) : Option (Int32 × CS) :=
  b_U_finIsDue_31 q (0 : Int32) σ
def m_U_finIsDue (q : Nat) (σ : CS) : Option (Int32 × CS) :=
  gd (q = 8 ∨ q = 15) <| bd (cI σ q 8) fun x1 => if x1 = 0 then
  (b_U_finIsDue_30 q  σ)
 else
  (bc2 (m_U_unsent q σ) fun x3 r2 => if x3 = 0 then
  (bd (cI r2 q 5) fun x4 => bd (cI r2 q 7) fun x5 => if 0 < (x4 - x5) then
  (b_U_finIsDue_30 q  r2)
 else
  (b_U_finIsDue_31 q (1 : Int32) r2))
 else
  (b_U_finIsDue_30 q  r2))
section
variable {p : Program} {l : Launch} {e : Env} {s : State} {m : MethodId} {args : Array Value} {below : List Frame} {meth : Method} {c : Code} {D : va_G} {tc : Nat → ClassId} {b z : Nat} {σ0 : CS}
theorem t_U_finIsDue_31 {q : Nat} (S : CC p m c k_U_finIsDue 1 s args cn_U meth (Option.some Jvm.ClassFile.FieldType.boolean) D tc b z) (hq : q = 8 ∨ q = 15) (w0 : Int32) (σ : CS) {B : Int32 × CS} (h : b_U_finIsDue_31 q w0 σ = some B) {ls : Array Slot} {H : Heap} {locs : List Loc} {cells slots : Nat} (hl : lv_has ls 1 []) (hW : CWS D tc b z s σ0 σ H locs cells slots) : W p l e (CR 2 44 σ0) s m args below meth c H locs cells slots (CE D tc b z below args s σ0 (some (.int B.1)) B.2) (F0 m 31 ls [.int w0]) := by
  have hx := S.1.1
  have hb := S.1.2.1
  unfold b_U_finIsDue_31 at h
  exact cm_zret S hW d_U_finIsDue_31 h
theorem t_U_finIsDue_30 {q : Nat} (S : CC p m c k_U_finIsDue 1 s args cn_U meth (Option.some Jvm.ClassFile.FieldType.boolean) D tc b z) (hq : q = 8 ∨ q = 15) (σ : CS) {B : Int32 × CS} (h : b_U_finIsDue_30 q  σ = some B) {ls : Array Slot} {H : Heap} {locs : List Loc} {cells slots : Nat} (hl : lv_has ls 1 []) (hW : CWS D tc b z s σ0 σ H locs cells slots) : W p l e (CR 2 44 σ0) s m args below meth c H locs cells slots (CE D tc b z below args s σ0 (some (.int B.1)) B.2) (F0 m 30 ls []) := by
  have hx := S.1.1
  have hb := S.1.2.1
  unfold b_U_finIsDue_30 at h
  refine lv_iconst (v := 0) hx hb d_U_finIsDue_30 (by decide) ?_
  exact t_U_finIsDue_31 S hq (0 : Int32) σ h (lv_sub hl [] rfl) hW
theorem t_U_finIsDue_0 (S : CC p m c k_U_finIsDue 1 s args cn_U meth (Option.some Jvm.ClassFile.FieldType.boolean) D tc b z) (q : Nat) (σ : CS) {B : Int32 × CS} (h : m_U_finIsDue q σ = some B) {ls : Array Slot} {H : Heap} {locs : List Loc} {cells slots : Nat} (hl : lv_has ls 1 [(0, .ref (b + q))]) (hW : CWS D tc b z s σ0 σ H locs cells slots) : W p l e (CR 2 44 σ0) s m args below meth c H locs cells slots (CE D tc b z below args s σ0 (some (.int B.1)) B.2) (F0 m 0 ls []) := by
  have hx := S.1.1
  have hb := S.1.2.1
  unfold m_U_finIsDue at h
  obtain ⟨hq, h⟩ := gd_s h
  refine lv_aload_n hx hb d_U_finIsDue_0 rfl (lv_at hl 0 rfl) ?_
  refine cm_geti kx_U S hW (kU hq) 8 wd_213 (by decide) d_U_finIsDue_1 h (fun x1 h => ?_)
  refine rb_eq (tgt := 30) hx hb d_U_finIsDue_4 (by decide) h (fun h => ?_) (fun h => ?_)
  · exact t_U_finIsDue_30 S hq  σ h (lv_sub hl [] rfl) hW
  · refine lv_aload_n hx hb d_U_finIsDue_7 rfl (lv_at hl 0 rfl) ?_
    refine cm_cVi [] kx_U S hW (kU hq) (fun x σ' hc => c_U_unsent q σ hc) q_U_unsent wd_844 wd_845 wd_856 (by decide) hl.1 rfl rfl (Nat.le_of_ble_eq_true rfl) d_U_finIsDue_8 h (fun x3 r2 H locs cells slots h hW => ?_)
    refine rb_ne (tgt := 30) hx hb d_U_finIsDue_11 (by decide) h (fun h => ?_) (fun h => ?_)
    · exact t_U_finIsDue_30 S hq  r2 h (lv_sub hl [] rfl) hW
    · refine lv_aload_n hx hb d_U_finIsDue_14 rfl (lv_at hl 0 rfl) ?_
      refine cm_geti kx_U S hW (kU hq) 5 wd_207 (by decide) d_U_finIsDue_15 h (fun x4 h => ?_)
      refine lv_aload_n hx hb d_U_finIsDue_18 rfl (lv_at hl 0 rfl) ?_
      refine cm_geti kx_U S hW (kU hq) 7 wd_211 (by decide) d_U_finIsDue_19 h (fun x5 h => ?_)
      refine lv_isub hx hb d_U_finIsDue_22 ?_
      refine rb_gt (tgt := 30) hx hb d_U_finIsDue_23 (by decide) h (fun h => ?_) (fun h => ?_)
      · exact t_U_finIsDue_30 S hq  r2 h (lv_sub hl [] rfl) hW
      · refine lv_iconst (v := 1) hx hb d_U_finIsDue_26 (by decide) ?_
        refine lv_goto (tgt := 31) hx hb d_U_finIsDue_27 (by decide) ?_
        exact t_U_finIsDue_31 S hq (1 : Int32) r2 h (lv_sub hl [] rfl) hW
theorem c_U_finIsDue (q : Nat) (σ : CS) {x : Int32} {σ' : CS} (h : m_U_finIsDue q σ = some (x, σ')) : CMet l D tc b z y_U_finIsDue k_U_finIsDue 1 (Option.some Jvm.ClassFile.FieldType.boolean) 2 44 [.ref (b + q)] σ (some (.int x)) σ' := cm_met (by decide) (Nat.le_of_ble_eq_true rfl) fun p e s m args below meth c S hW ls hl => t_U_finIsDue_0 S q σ h hl hW
end

/-! StreamPair$Supply.finIsAcknowledged ()Z -/
abbrev k_U_finIsAcknowledged : ByteArray := prog_9_method_12_code
abbrev y_U_finIsAcknowledged : MethodName := ⟨cn_U, "finIsAcknowledged", "()Z"⟩
theorem q_U_finIsAcknowledged : Calee y_U_finIsAcknowledged k_U_finIsAcknowledged 1 (Option.some Jvm.ClassFile.FieldType.boolean) 0 := ⟨wd_1136, wd_86, by decide, by decide +kernel⟩
theorem d_U_finIsAcknowledged_0 : decode k_U_finIsAcknowledged 0 = .ok (.aload_n 0, 1) := by decide +kernel
theorem d_U_finIsAcknowledged_1 : decode k_U_finIsAcknowledged 1 = .ok (.getfield 37, 3) := by decide +kernel
theorem d_U_finIsAcknowledged_4 : decode k_U_finIsAcknowledged 4 = .ok (.ifCond .eq 19, 3) := by decide +kernel
theorem d_U_finIsAcknowledged_7 : decode k_U_finIsAcknowledged 7 = .ok (.aload_n 0, 1) := by decide +kernel
theorem d_U_finIsAcknowledged_8 : decode k_U_finIsAcknowledged 8 = .ok (.getfield 25, 3) := by decide +kernel
theorem d_U_finIsAcknowledged_11 : decode k_U_finIsAcknowledged 11 = .ok (.aload_n 0, 1) := by decide +kernel
theorem d_U_finIsAcknowledged_12 : decode k_U_finIsAcknowledged 12 = .ok (.getfield 34, 3) := by decide +kernel
theorem d_U_finIsAcknowledged_15 : decode k_U_finIsAcknowledged 15 = .ok (.isub, 1) := by decide +kernel
theorem d_U_finIsAcknowledged_16 : decode k_U_finIsAcknowledged 16 = .ok (.ifCond .le 7, 3) := by decide +kernel
theorem d_U_finIsAcknowledged_19 : decode k_U_finIsAcknowledged 19 = .ok (.iconst 1, 1) := by decide +kernel
theorem d_U_finIsAcknowledged_20 : decode k_U_finIsAcknowledged 20 = .ok (.goto 4, 3) := by decide +kernel
theorem d_U_finIsAcknowledged_23 : decode k_U_finIsAcknowledged 23 = .ok (.iconst 0, 1) := by decide +kernel
theorem d_U_finIsAcknowledged_24 : decode k_U_finIsAcknowledged 24 = .ok (.ireturn, 1) := by decide +kernel
def b_U_finIsAcknowledged_24 (q : Nat) (w0 : Int32) (σ : CS) : Option (Int32 × CS) :=
  gd (w0 = 0 ∨ w0 = 1) (some (w0, σ))
def b_U_finIsAcknowledged_23 (q : Nat) (σ : CS) : Option (Int32 × CS) :=
  b_U_finIsAcknowledged_24 q (0 : Int32) σ
def m_U_finIsAcknowledged (q : Nat) (σ : CS) : Option (Int32 × CS) :=
  gd (q = 8 ∨ q = 15) <| bd (cI σ q 8) fun x1 => if x1 = 0 then
  (b_U_finIsAcknowledged_23 q  σ)
 else
  (bd (cI σ q 4) fun x2 => bd (cI σ q 7) fun x3 => if (x2 - x3) ≤ 0 then
  (b_U_finIsAcknowledged_23 q  σ)
 else
  (b_U_finIsAcknowledged_24 q (1 : Int32) σ))
section
variable {p : Program} {l : Launch} {e : Env} {s : State} {m : MethodId} {args : Array Value} {below : List Frame} {meth : Method} {c : Code} {D : va_G} {tc : Nat → ClassId} {b z : Nat} {σ0 : CS}
theorem t_U_finIsAcknowledged_24 {q : Nat} (S : CC p m c k_U_finIsAcknowledged 1 s args cn_U meth (Option.some Jvm.ClassFile.FieldType.boolean) D tc b z) (hq : q = 8 ∨ q = 15) (w0 : Int32) (σ : CS) {B : Int32 × CS} (h : b_U_finIsAcknowledged_24 q w0 σ = some B) {ls : Array Slot} {H : Heap} {locs : List Loc} {cells slots : Nat} (hl : lv_has ls 1 []) (hW : CWS D tc b z s σ0 σ H locs cells slots) : W p l e (CR 0 0 σ0) s m args below meth c H locs cells slots (CE D tc b z below args s σ0 (some (.int B.1)) B.2) (F0 m 24 ls [.int w0]) := by
  have hx := S.1.1
  have hb := S.1.2.1
  unfold b_U_finIsAcknowledged_24 at h
  exact cm_zret S hW d_U_finIsAcknowledged_24 h
theorem t_U_finIsAcknowledged_23 {q : Nat} (S : CC p m c k_U_finIsAcknowledged 1 s args cn_U meth (Option.some Jvm.ClassFile.FieldType.boolean) D tc b z) (hq : q = 8 ∨ q = 15) (σ : CS) {B : Int32 × CS} (h : b_U_finIsAcknowledged_23 q  σ = some B) {ls : Array Slot} {H : Heap} {locs : List Loc} {cells slots : Nat} (hl : lv_has ls 1 []) (hW : CWS D tc b z s σ0 σ H locs cells slots) : W p l e (CR 0 0 σ0) s m args below meth c H locs cells slots (CE D tc b z below args s σ0 (some (.int B.1)) B.2) (F0 m 23 ls []) := by
  have hx := S.1.1
  have hb := S.1.2.1
  unfold b_U_finIsAcknowledged_23 at h
  refine lv_iconst (v := 0) hx hb d_U_finIsAcknowledged_23 (by decide) ?_
  exact t_U_finIsAcknowledged_24 S hq (0 : Int32) σ h (lv_sub hl [] rfl) hW
theorem t_U_finIsAcknowledged_0 (S : CC p m c k_U_finIsAcknowledged 1 s args cn_U meth (Option.some Jvm.ClassFile.FieldType.boolean) D tc b z) (q : Nat) (σ : CS) {B : Int32 × CS} (h : m_U_finIsAcknowledged q σ = some B) {ls : Array Slot} {H : Heap} {locs : List Loc} {cells slots : Nat} (hl : lv_has ls 1 [(0, .ref (b + q))]) (hW : CWS D tc b z s σ0 σ H locs cells slots) : W p l e (CR 0 0 σ0) s m args below meth c H locs cells slots (CE D tc b z below args s σ0 (some (.int B.1)) B.2) (F0 m 0 ls []) := by
  have hx := S.1.1
  have hb := S.1.2.1
  unfold m_U_finIsAcknowledged at h
  obtain ⟨hq, h⟩ := gd_s h
  refine lv_aload_n hx hb d_U_finIsAcknowledged_0 rfl (lv_at hl 0 rfl) ?_
  refine cm_geti kx_U S hW (kU hq) 8 wd_213 (by decide) d_U_finIsAcknowledged_1 h (fun x1 h => ?_)
  refine rb_eq (tgt := 23) hx hb d_U_finIsAcknowledged_4 (by decide) h (fun h => ?_) (fun h => ?_)
  · exact t_U_finIsAcknowledged_23 S hq  σ h (lv_sub hl [] rfl) hW
  · refine lv_aload_n hx hb d_U_finIsAcknowledged_7 rfl (lv_at hl 0 rfl) ?_
    refine cm_geti kx_U S hW (kU hq) 4 wd_205 (by decide) d_U_finIsAcknowledged_8 h (fun x2 h => ?_)
    refine lv_aload_n hx hb d_U_finIsAcknowledged_11 rfl (lv_at hl 0 rfl) ?_
    refine cm_geti kx_U S hW (kU hq) 7 wd_211 (by decide) d_U_finIsAcknowledged_12 h (fun x3 h => ?_)
    refine lv_isub hx hb d_U_finIsAcknowledged_15 ?_
    refine rb_le (tgt := 23) hx hb d_U_finIsAcknowledged_16 (by decide) h (fun h => ?_) (fun h => ?_)
    · exact t_U_finIsAcknowledged_23 S hq  σ h (lv_sub hl [] rfl) hW
    · refine lv_iconst (v := 1) hx hb d_U_finIsAcknowledged_19 (by decide) ?_
      refine lv_goto (tgt := 24) hx hb d_U_finIsAcknowledged_20 (by decide) ?_
      exact t_U_finIsAcknowledged_24 S hq (1 : Int32) σ h (lv_sub hl [] rfl) hW
theorem c_U_finIsAcknowledged (q : Nat) (σ : CS) {x : Int32} {σ' : CS} (h : m_U_finIsAcknowledged q σ = some (x, σ')) : CMet l D tc b z y_U_finIsAcknowledged k_U_finIsAcknowledged 1 (Option.some Jvm.ClassFile.FieldType.boolean) 0 0 [.ref (b + q)] σ (some (.int x)) σ' := cm_met (by decide) (Nat.le_of_ble_eq_true rfl) fun p e s m args below meth c S hW ls hl => t_U_finIsAcknowledged_0 S q σ h hl hW
end

/-! StreamPair$Supply.heedWindow (LStreamPair$Segment;)V -/
abbrev k_U_heedWindow : ByteArray := prog_9_method_13_code
abbrev y_U_heedWindow : MethodName := ⟨cn_U, "heedWindow", "(LStreamPair$Segment;)V"⟩
theorem q_U_heedWindow : Calee y_U_heedWindow k_U_heedWindow 2 none 1 := ⟨wd_1012, wd_86, by decide, by decide +kernel⟩
theorem d_U_heedWindow_0 : decode k_U_heedWindow 0 = .ok (.aload_n 0, 1) := by decide +kernel
theorem d_U_heedWindow_1 : decode k_U_heedWindow 1 = .ok (.aload_n 1, 1) := by decide +kernel
theorem d_U_heedWindow_2 : decode k_U_heedWindow 2 = .ok (.invokevirtual 75, 3) := by decide +kernel
theorem d_U_heedWindow_5 : decode k_U_heedWindow 5 = .ok (.putfield 41, 3) := by decide +kernel
theorem d_U_heedWindow_8 : decode k_U_heedWindow 8 = .ok (.aload_n 0, 1) := by decide +kernel
theorem d_U_heedWindow_9 : decode k_U_heedWindow 9 = .ok (.aload_n 1, 1) := by decide +kernel
theorem d_U_heedWindow_10 : decode k_U_heedWindow 10 = .ok (.invokevirtual 78, 3) := by decide +kernel
theorem d_U_heedWindow_13 : decode k_U_heedWindow 13 = .ok (.putfield 44, 3) := by decide +kernel
theorem d_U_heedWindow_16 : decode k_U_heedWindow 16 = .ok (.aload_n 0, 1) := by decide +kernel
theorem d_U_heedWindow_17 : decode k_U_heedWindow 17 = .ok (.aload_n 1, 1) := by decide +kernel
theorem d_U_heedWindow_18 : decode k_U_heedWindow 18 = .ok (.invokevirtual 81, 3) := by decide +kernel
theorem d_U_heedWindow_21 : decode k_U_heedWindow 21 = .ok (.putfield 47, 3) := by decide +kernel
theorem d_U_heedWindow_24 : decode k_U_heedWindow 24 = .ok (.return_, 1) := by decide +kernel
def m_U_heedWindow (q : Nat) (v1 : Nat) (σ : CS) : Option (CS) :=
  gd (q = 8 ∨ q = 15) <| gd (kd σ v1 = 11) <| bc2 (m_G_window v1 σ) fun x2 r1 => bd (wi r1 q 9 x2) fun r3 => gd (kd r3 v1 = 11) <| bc2 (m_G_seq v1 r3) fun x5 r4 => bd (wi r4 q 10 x5) fun r6 => gd (kd r6 v1 = 11) <| bc2 (m_G_ack v1 r6) fun x8 r7 => bd (wi r7 q 11 x8) fun r9 => some r9
section
variable {p : Program} {l : Launch} {e : Env} {s : State} {m : MethodId} {args : Array Value} {below : List Frame} {meth : Method} {c : Code} {D : va_G} {tc : Nat → ClassId} {b z : Nat} {σ0 : CS}
theorem t_U_heedWindow_0 (S : CC p m c k_U_heedWindow 2 s args cn_U meth none D tc b z) (q : Nat) (v1 : Nat) (σ : CS) {B : CS} (h : m_U_heedWindow q v1 σ = some B) {ls : Array Slot} {H : Heap} {locs : List Loc} {cells slots : Nat} (hl : lv_has ls 2 [(0, .ref (b + q)), (1, .ref (b + v1))]) (hW : CWS D tc b z s σ0 σ H locs cells slots) : W p l e (CR 2 44 σ0) s m args below meth c H locs cells slots (CE D tc b z below args s σ0 none B) (F0 m 0 ls []) := by
  have hx := S.1.1
  have hb := S.1.2.1
  unfold m_U_heedWindow at h
  obtain ⟨hq, h⟩ := gd_s h
  refine lv_aload_n hx hb d_U_heedWindow_0 rfl (lv_at hl 0 rfl) ?_
  refine lv_aload_n hx hb d_U_heedWindow_1 rfl (lv_at hl 1 rfl) ?_
  obtain ⟨hg, h⟩ := gd_s h
  refine cm_cVi [] kx_G S hW hg (fun x σ' hc => c_G_window v1 σ hc) q_G_window wd_1014 wd_1015 wd_1013 (by decide) hl.1 rfl rfl (Nat.le_of_ble_eq_true rfl) d_U_heedWindow_2 h (fun x2 r1 H locs cells slots h hW => ?_)
  refine cm_puti kx_U S hW (kU hq) 9 wd_215 (by decide) d_U_heedWindow_5 h (fun r3 H locs h hW => ?_)
  refine lv_aload_n hx hb d_U_heedWindow_8 rfl (lv_at hl 0 rfl) ?_
  refine lv_aload_n hx hb d_U_heedWindow_9 rfl (lv_at hl 1 rfl) ?_
  obtain ⟨hg, h⟩ := gd_s h
  refine cm_cVi [] kx_G S hW hg (fun x σ' hc => c_G_seq v1 r3 hc) q_G_seq wd_1002 wd_1003 wd_1017 (by decide) hl.1 rfl rfl (Nat.le_of_ble_eq_true rfl) d_U_heedWindow_10 h (fun x5 r4 H locs cells slots h hW => ?_)
  refine cm_puti kx_U S hW (kU hq) 10 wd_217 (by decide) d_U_heedWindow_13 h (fun r6 H locs h hW => ?_)
  refine lv_aload_n hx hb d_U_heedWindow_16 rfl (lv_at hl 0 rfl) ?_
  refine lv_aload_n hx hb d_U_heedWindow_17 rfl (lv_at hl 1 rfl) ?_
  obtain ⟨hg, h⟩ := gd_s h
  refine cm_cVi [] kx_G S hW hg (fun x σ' hc => c_G_ack v1 r6 hc) q_G_ack wd_1019 wd_1020 wd_1018 (by decide) hl.1 rfl rfl (Nat.le_of_ble_eq_true rfl) d_U_heedWindow_18 h (fun x8 r7 H locs cells slots h hW => ?_)
  refine cm_puti kx_U S hW (kU hq) 11 wd_218 (by decide) d_U_heedWindow_21 h (fun r9 H locs h hW => ?_)
  exact cm_vret S hW d_U_heedWindow_24 h
theorem c_U_heedWindow (q : Nat) (v1 : Nat) (σ : CS) {B : CS} (h : m_U_heedWindow q v1 σ = some B) : CMet l D tc b z y_U_heedWindow k_U_heedWindow 2 none 2 44 [.ref (b + q), .ref (b + v1)] σ none B := cm_met (by decide) (Nat.le_of_ble_eq_true rfl) fun p e s m args below meth c S hW ls hl => t_U_heedWindow_0 S q v1 σ h hl hW
end

/-! StreamPair$Supply.isNewerWindow (LStreamPair$Segment;)Z -/
abbrev k_U_isNewerWindow : ByteArray := prog_9_method_14_code
abbrev y_U_isNewerWindow : MethodName := ⟨cn_U, "isNewerWindow", "(LStreamPair$Segment;)Z"⟩
theorem q_U_isNewerWindow : Calee y_U_isNewerWindow k_U_isNewerWindow 4 (Option.some Jvm.ClassFile.FieldType.boolean) 1 := ⟨wd_1132, wd_86, by decide, by decide +kernel⟩
theorem d_U_isNewerWindow_0 : decode k_U_isNewerWindow 0 = .ok (.aload_n 1, 1) := by decide +kernel
theorem d_U_isNewerWindow_1 : decode k_U_isNewerWindow 1 = .ok (.invokevirtual 78, 3) := by decide +kernel
theorem d_U_isNewerWindow_4 : decode k_U_isNewerWindow 4 = .ok (.istore_n 2, 1) := by decide +kernel
theorem d_U_isNewerWindow_5 : decode k_U_isNewerWindow 5 = .ok (.aload_n 1, 1) := by decide +kernel
theorem d_U_isNewerWindow_6 : decode k_U_isNewerWindow 6 = .ok (.invokevirtual 81, 3) := by decide +kernel
theorem d_U_isNewerWindow_9 : decode k_U_isNewerWindow 9 = .ok (.istore_n 3, 1) := by decide +kernel
theorem d_U_isNewerWindow_10 : decode k_U_isNewerWindow 10 = .ok (.iload_n 3, 1) := by decide +kernel
theorem d_U_isNewerWindow_11 : decode k_U_isNewerWindow 11 = .ok (.aload_n 0, 1) := by decide +kernel
theorem d_U_isNewerWindow_12 : decode k_U_isNewerWindow 12 = .ok (.getfield 25, 3) := by decide +kernel
theorem d_U_isNewerWindow_15 : decode k_U_isNewerWindow 15 = .ok (.isub, 1) := by decide +kernel
theorem d_U_isNewerWindow_16 : decode k_U_isNewerWindow 16 = .ok (.ifCond .lt 33, 3) := by decide +kernel
theorem d_U_isNewerWindow_19 : decode k_U_isNewerWindow 19 = .ok (.iload_n 2, 1) := by decide +kernel
theorem d_U_isNewerWindow_20 : decode k_U_isNewerWindow 20 = .ok (.aload_n 0, 1) := by decide +kernel
theorem d_U_isNewerWindow_21 : decode k_U_isNewerWindow 21 = .ok (.getfield 44, 3) := by decide +kernel
theorem d_U_isNewerWindow_24 : decode k_U_isNewerWindow 24 = .ok (.isub, 1) := by decide +kernel
theorem d_U_isNewerWindow_25 : decode k_U_isNewerWindow 25 = .ok (.ifCond .gt 20, 3) := by decide +kernel
theorem d_U_isNewerWindow_28 : decode k_U_isNewerWindow 28 = .ok (.iload_n 2, 1) := by decide +kernel
theorem d_U_isNewerWindow_29 : decode k_U_isNewerWindow 29 = .ok (.aload_n 0, 1) := by decide +kernel
theorem d_U_isNewerWindow_30 : decode k_U_isNewerWindow 30 = .ok (.getfield 44, 3) := by decide +kernel
theorem d_U_isNewerWindow_33 : decode k_U_isNewerWindow 33 = .ok (.if_icmp .ne 16, 3) := by decide +kernel
theorem d_U_isNewerWindow_36 : decode k_U_isNewerWindow 36 = .ok (.iload_n 3, 1) := by decide +kernel
theorem d_U_isNewerWindow_37 : decode k_U_isNewerWindow 37 = .ok (.aload_n 0, 1) := by decide +kernel
theorem d_U_isNewerWindow_38 : decode k_U_isNewerWindow 38 = .ok (.getfield 47, 3) := by decide +kernel
theorem d_U_isNewerWindow_41 : decode k_U_isNewerWindow 41 = .ok (.isub, 1) := by decide +kernel
theorem d_U_isNewerWindow_42 : decode k_U_isNewerWindow 42 = .ok (.ifCond .lt 7, 3) := by decide +kernel
theorem d_U_isNewerWindow_45 : decode k_U_isNewerWindow 45 = .ok (.iconst 1, 1) := by decide +kernel
theorem d_U_isNewerWindow_46 : decode k_U_isNewerWindow 46 = .ok (.goto 4, 3) := by decide +kernel
theorem d_U_isNewerWindow_49 : decode k_U_isNewerWindow 49 = .ok (.iconst 0, 1) := by decide +kernel
theorem d_U_isNewerWindow_50 : decode k_U_isNewerWindow 50 = .ok (.ireturn, 1) := by decide +kernel
def b_U_isNewerWindow_50 (q : Nat) (w0 : Int32) (σ : CS) : Option (Int32 × CS) :=
  gd (w0 = 0 ∨ w0 = 1) (some (w0, σ))
def b_U_isNewerWindow_49 (q : Nat) (σ : CS) : Option (Int32 × CS) :=
  b_U_isNewerWindow_50 q (0 : Int32) σ
def b_U_isNewerWindow_45 (q : Nat) (σ : CS) : Option (Int32 × CS) :=
  b_U_isNewerWindow_50 q (1 : Int32) σ
def m_U_isNewerWindow (q : Nat) (v1 : Nat) (σ : CS) : Option (Int32 × CS) :=
  gd (q = 8 ∨ q = 15) <| gd (kd σ v1 = 11) <| bc2 (m_G_seq v1 σ) fun x2 r1 => gd (kd r1 v1 = 11) <| bc2 (m_G_ack v1 r1) fun x4 r3 => bd (cI r3 q 4) fun x5 => if (x4 - x5) < 0 then
  (b_U_isNewerWindow_49 q  r3)
 else
  (bd (cI r3 q 10) fun x6 => if 0 < (x2 - x6) then
  (b_U_isNewerWindow_45 q  r3)
 else
  (bd (cI r3 q 10) fun x7 => if x2 = x7 then
  (bd (cI r3 q 11) fun x8 => if (x4 - x8) < 0 then
  (b_U_isNewerWindow_49 q  r3)
 else
  (b_U_isNewerWindow_45 q  r3))
 else
  (b_U_isNewerWindow_49 q  r3)))
section
variable {p : Program} {l : Launch} {e : Env} {s : State} {m : MethodId} {args : Array Value} {below : List Frame} {meth : Method} {c : Code} {D : va_G} {tc : Nat → ClassId} {b z : Nat} {σ0 : CS}
theorem t_U_isNewerWindow_50 {q : Nat} (S : CC p m c k_U_isNewerWindow 4 s args cn_U meth (Option.some Jvm.ClassFile.FieldType.boolean) D tc b z) (hq : q = 8 ∨ q = 15) (w0 : Int32) (σ : CS) {B : Int32 × CS} (h : b_U_isNewerWindow_50 q w0 σ = some B) {ls : Array Slot} {H : Heap} {locs : List Loc} {cells slots : Nat} (hl : lv_has ls 4 []) (hW : CWS D tc b z s σ0 σ H locs cells slots) : W p l e (CR 2 44 σ0) s m args below meth c H locs cells slots (CE D tc b z below args s σ0 (some (.int B.1)) B.2) (F0 m 50 ls [.int w0]) := by
  have hx := S.1.1
  have hb := S.1.2.1
  unfold b_U_isNewerWindow_50 at h
  exact cm_zret S hW d_U_isNewerWindow_50 h
theorem t_U_isNewerWindow_49 {q : Nat} (S : CC p m c k_U_isNewerWindow 4 s args cn_U meth (Option.some Jvm.ClassFile.FieldType.boolean) D tc b z) (hq : q = 8 ∨ q = 15) (σ : CS) {B : Int32 × CS} (h : b_U_isNewerWindow_49 q  σ = some B) {ls : Array Slot} {H : Heap} {locs : List Loc} {cells slots : Nat} (hl : lv_has ls 4 []) (hW : CWS D tc b z s σ0 σ H locs cells slots) : W p l e (CR 2 44 σ0) s m args below meth c H locs cells slots (CE D tc b z below args s σ0 (some (.int B.1)) B.2) (F0 m 49 ls []) := by
  have hx := S.1.1
  have hb := S.1.2.1
  unfold b_U_isNewerWindow_49 at h
  refine lv_iconst (v := 0) hx hb d_U_isNewerWindow_49 (by decide) ?_
  exact t_U_isNewerWindow_50 S hq (0 : Int32) σ h (lv_sub hl [] rfl) hW
theorem t_U_isNewerWindow_45 {q : Nat} (S : CC p m c k_U_isNewerWindow 4 s args cn_U meth (Option.some Jvm.ClassFile.FieldType.boolean) D tc b z) (hq : q = 8 ∨ q = 15) (σ : CS) {B : Int32 × CS} (h : b_U_isNewerWindow_45 q  σ = some B) {ls : Array Slot} {H : Heap} {locs : List Loc} {cells slots : Nat} (hl : lv_has ls 4 []) (hW : CWS D tc b z s σ0 σ H locs cells slots) : W p l e (CR 2 44 σ0) s m args below meth c H locs cells slots (CE D tc b z below args s σ0 (some (.int B.1)) B.2) (F0 m 45 ls []) := by
  have hx := S.1.1
  have hb := S.1.2.1
  unfold b_U_isNewerWindow_45 at h
  refine lv_iconst (v := 1) hx hb d_U_isNewerWindow_45 (by decide) ?_
  refine lv_goto (tgt := 50) hx hb d_U_isNewerWindow_46 (by decide) ?_
  exact t_U_isNewerWindow_50 S hq (1 : Int32) σ h (lv_sub hl [] rfl) hW
theorem t_U_isNewerWindow_0 (S : CC p m c k_U_isNewerWindow 4 s args cn_U meth (Option.some Jvm.ClassFile.FieldType.boolean) D tc b z) (q : Nat) (v1 : Nat) (σ : CS) {B : Int32 × CS} (h : m_U_isNewerWindow q v1 σ = some B) {ls : Array Slot} {H : Heap} {locs : List Loc} {cells slots : Nat} (hl : lv_has ls 4 [(0, .ref (b + q)), (1, .ref (b + v1))]) (hW : CWS D tc b z s σ0 σ H locs cells slots) : W p l e (CR 2 44 σ0) s m args below meth c H locs cells slots (CE D tc b z below args s σ0 (some (.int B.1)) B.2) (F0 m 0 ls []) := by
  have hx := S.1.1
  have hb := S.1.2.1
  unfold m_U_isNewerWindow at h
  obtain ⟨hq, h⟩ := gd_s h
  refine lv_aload_n hx hb d_U_isNewerWindow_0 rfl (lv_at hl 1 rfl) ?_
  obtain ⟨hg, h⟩ := gd_s h
  refine cm_cVi [] kx_G S hW hg (fun x σ' hc => c_G_seq v1 σ hc) q_G_seq wd_1002 wd_1003 wd_1017 (by decide) hl.1 rfl rfl (Nat.le_of_ble_eq_true rfl) d_U_isNewerWindow_1 h (fun x2 r1 H locs cells slots h hW => ?_)
  refine lv_istore_n (lv' := [(2, .int x2), (0, .ref (b + q)), (1, .ref (b + v1))]) hx hb d_U_isNewerWindow_4 rfl hl (by decide) rfl (fun ls hl => ?_)
  refine lv_aload_n hx hb d_U_isNewerWindow_5 rfl (lv_at hl 2 rfl) ?_
  obtain ⟨hg, h⟩ := gd_s h
  refine cm_cVi [] kx_G S hW hg (fun x σ' hc => c_G_ack v1 r1 hc) q_G_ack wd_1019 wd_1020 wd_1018 (by decide) hl.1 rfl rfl (Nat.le_of_ble_eq_true rfl) d_U_isNewerWindow_6 h (fun x4 r3 H locs cells slots h hW => ?_)
  refine lv_istore_n (lv' := [(3, .int x4), (2, .int x2), (0, .ref (b + q)), (1, .ref (b + v1))]) hx hb d_U_isNewerWindow_9 rfl hl (by decide) rfl (fun ls hl => ?_)
  refine lv_iload_n hx hb d_U_isNewerWindow_10 rfl (lv_at hl 0 rfl) ?_
  refine lv_aload_n hx hb d_U_isNewerWindow_11 rfl (lv_at hl 2 rfl) ?_
  refine cm_geti kx_U S hW (kU hq) 4 wd_205 (by decide) d_U_isNewerWindow_12 h (fun x5 h => ?_)
  refine lv_isub hx hb d_U_isNewerWindow_15 ?_
  refine rb_lt (tgt := 49) hx hb d_U_isNewerWindow_16 (by decide) h (fun h => ?_) (fun h => ?_)
  · exact t_U_isNewerWindow_49 S hq  r3 h (lv_sub hl [] rfl) hW
  · refine lv_iload_n hx hb d_U_isNewerWindow_19 rfl (lv_at hl 1 rfl) ?_
    refine lv_aload_n hx hb d_U_isNewerWindow_20 rfl (lv_at hl 2 rfl) ?_
    refine cm_geti kx_U S hW (kU hq) 10 wd_217 (by decide) d_U_isNewerWindow_21 h (fun x6 h => ?_)
    refine lv_isub hx hb d_U_isNewerWindow_24 ?_
    refine rb_gt (tgt := 45) hx hb d_U_isNewerWindow_25 (by decide) h (fun h => ?_) (fun h => ?_)
    · exact t_U_isNewerWindow_45 S hq  r3 h (lv_sub hl [] rfl) hW
    · refine lv_iload_n hx hb d_U_isNewerWindow_28 rfl (lv_at hl 1 rfl) ?_
      refine lv_aload_n hx hb d_U_isNewerWindow_29 rfl (lv_at hl 2 rfl) ?_
      refine cm_geti kx_U S hW (kU hq) 10 wd_217 (by decide) d_U_isNewerWindow_30 h (fun x7 h => ?_)
      refine rc_ne (tgt := 49) hx hb d_U_isNewerWindow_33 (by decide) h (fun h => ?_) (fun h => ?_)
      · exact t_U_isNewerWindow_49 S hq  r3 h (lv_sub hl [] rfl) hW
      · refine lv_iload_n hx hb d_U_isNewerWindow_36 rfl (lv_at hl 0 rfl) ?_
        refine lv_aload_n hx hb d_U_isNewerWindow_37 rfl (lv_at hl 2 rfl) ?_
        refine cm_geti kx_U S hW (kU hq) 11 wd_218 (by decide) d_U_isNewerWindow_38 h (fun x8 h => ?_)
        refine lv_isub hx hb d_U_isNewerWindow_41 ?_
        refine rb_lt (tgt := 49) hx hb d_U_isNewerWindow_42 (by decide) h (fun h => ?_) (fun h => ?_)
        · exact t_U_isNewerWindow_49 S hq  r3 h (lv_sub hl [] rfl) hW
        · exact t_U_isNewerWindow_45 S hq  r3 h (lv_sub hl [] rfl) hW
theorem c_U_isNewerWindow (q : Nat) (v1 : Nat) (σ : CS) {x : Int32} {σ' : CS} (h : m_U_isNewerWindow q v1 σ = some (x, σ')) : CMet l D tc b z y_U_isNewerWindow k_U_isNewerWindow 4 (Option.some Jvm.ClassFile.FieldType.boolean) 2 44 [.ref (b + q), .ref (b + v1)] σ (some (.int x)) σ' := cm_met (by decide) (Nat.le_of_ble_eq_true rfl) fun p e s m args below meth c S hW ls hl => t_U_isNewerWindow_0 S q v1 σ h hl hW
end
