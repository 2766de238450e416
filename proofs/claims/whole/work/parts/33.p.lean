/-! StreamPair.count (I)I -/
abbrev k_P_count : ByteArray := prog_1_method_18_code
abbrev y_P_count : MethodName := ⟨cn_P, "count", "(I)I"⟩
theorem q_P_count : Calee y_P_count k_P_count 2 (Option.some Jvm.ClassFile.FieldType.int) 1 := ⟨wd_647, wd_78, by decide, by decide +kernel⟩
theorem d_P_count_0 : decode k_P_count 0 = .ok (.iload_n 1, 1) := by decide +kernel
theorem d_P_count_1 : decode k_P_count 1 = .ok (.tableswitch 80 0 4 #[35, 48, 59, 64, 72], 35) := by decide +kernel
theorem d_P_count_36 : decode k_P_count 36 = .ok (.aload_n 0, 1) := by decide +kernel
theorem d_P_count_37 : decode k_P_count 37 = .ok (.getfield 19, 3) := by decide +kernel
theorem d_P_count_40 : decode k_P_count 40 = .ok (.getfield 171, 3) := by decide +kernel
theorem d_P_count_43 : decode k_P_count 43 = .ok (.ldc2_w 254, 3) := by decide +kernel
theorem d_P_count_46 : decode k_P_count 46 = .ok (.land, 1) := by decide +kernel
theorem d_P_count_47 : decode k_P_count 47 = .ok (.l2i, 1) := by decide +kernel
theorem d_P_count_48 : decode k_P_count 48 = .ok (.ireturn, 1) := by decide +kernel
theorem d_P_count_49 : decode k_P_count 49 = .ok (.aload_n 0, 1) := by decide +kernel
theorem d_P_count_50 : decode k_P_count 50 = .ok (.getfield 26, 3) := by decide +kernel
theorem d_P_count_53 : decode k_P_count 53 = .ok (.getfield 219, 3) := by decide +kernel
theorem d_P_count_56 : decode k_P_count 56 = .ok (.invokevirtual 222, 3) := by decide +kernel
theorem d_P_count_59 : decode k_P_count 59 = .ok (.ireturn, 1) := by decide +kernel
theorem d_P_count_60 : decode k_P_count 60 = .ok (.aload_n 0, 1) := by decide +kernel
theorem d_P_count_61 : decode k_P_count 61 = .ok (.getfield 63, 3) := by decide +kernel
theorem d_P_count_64 : decode k_P_count 64 = .ok (.ireturn, 1) := by decide +kernel
theorem d_P_count_65 : decode k_P_count 65 = .ok (.aload_n 0, 1) := by decide +kernel
theorem d_P_count_66 : decode k_P_count 66 = .ok (.getfield 10, 3) := by decide +kernel
theorem d_P_count_69 : decode k_P_count 69 = .ok (.getfield 42, 3) := by decide +kernel
theorem d_P_count_72 : decode k_P_count 72 = .ok (.ireturn, 1) := by decide +kernel
theorem d_P_count_73 : decode k_P_count 73 = .ok (.aload_n 0, 1) := by decide +kernel
theorem d_P_count_74 : decode k_P_count 74 = .ok (.getfield 26, 3) := by decide +kernel
theorem d_P_count_77 : decode k_P_count 77 = .ok (.getfield 256, 3) := by decide +kernel
theorem d_P_count_80 : decode k_P_count 80 = .ok (.ireturn, 1) := by decide +kernel
theorem d_P_count_81 : decode k_P_count 81 = .ok (.iconst (-1), 1) := by decide +kernel
theorem d_P_count_82 : decode k_P_count 82 = .ok (.ireturn, 1) := by decide +kernel
def m_P_count (v1 : Int32) (σ : CS) : Option (Int32 × CS) :=
  if v1 = 0 then
  (bd (cJ σ 3 0) fun x1 => some ((x1 &&& (2147483647 : Int64)).toInt32, σ))
 else (
if v1 = 1 then
  (bc2 (m_A_size 5 σ) fun x3 r2 => some (x3, r2))
 else (
if v1 = 2 then
  (bd (cI σ 0 5) fun x4 => some (x4, σ))
 else (
if v1 = 3 then
  (bd (cI σ 1 1) fun x5 => some (x5, σ))
 else (
if v1 = 4 then
  (bd (cI σ 4 2) fun x6 => some (x6, σ))
 else (
some ((-1 : Int32), σ))))))
section
variable {p : Program} {l : Launch} {e : Env} {s : State} {m : MethodId} {args : Array Value} {below : List Frame} {meth : Method} {c : Code} {D : va_G} {tc : Nat → ClassId} {b z : Nat} {σ0 : CS}
theorem t_P_count_0 (S : CC p m c k_P_count 2 s args cn_P meth (Option.some Jvm.ClassFile.FieldType.int) D tc b z) (v1 : Int32) (σ : CS) {B : Int32 × CS} (h : m_P_count v1 σ = some B) {ls : Array Slot} {H : Heap} {locs : List Loc} {cells slots : Nat} (hl : lv_has ls 2 [(0, .ref (b + 0)), (1, .int v1)]) (hW : CWS D tc b z s σ0 σ H locs cells slots) : W p l e (CR 1 20 σ0) s m args below meth c H locs cells slots (CE D tc b z below args s σ0 (some (.int B.1)) B.2) (F0 m 0 ls []) := by
  have hx := S.1.1
  have hb := S.1.2.1
  unfold m_P_count at h
  refine lv_iload_n hx hb d_P_count_0 rfl (lv_at hl 1 rfl) ?_
  by_cases z0 : v1 = 0
  · rw [if_pos z0] at h
    refine lv_tableIn (tgt := 36) (off := 35) hx hb d_P_count_1 (by rw [z0]; decide) (by rw [z0]; decide) (by rw [z0]; decide) (by decide) ?_
    refine lv_aload_n hx hb d_P_count_36 rfl (lv_at hl 0 rfl) ?_
    refine cm_getf kx_P S hW rfl 1 (3) rfl wd_400 (by decide) d_P_count_37 ?_
    refine cm_getl kx_C S hW rfl 0 wd_137 (by decide) d_P_count_40 h (fun x1 h => ?_)
    refine lv_ldc2 hx hb S.1.2.2.2.1 (S.1.2.2.2.2 _ (gi wd_648 rfl)) d_P_count_43 ?_
    refine lv_land hx hb d_P_count_46 ?_
    refine lv_l2i hx hb d_P_count_47 rfl ?_
    exact cm_iret S hW d_P_count_48 h
  rw [if_neg z0] at h
  by_cases z1 : v1 = 1
  · rw [if_pos z1] at h
    refine lv_tableIn (tgt := 49) (off := 48) hx hb d_P_count_1 (by rw [z1]; decide) (by rw [z1]; decide) (by rw [z1]; decide) (by decide) ?_
    refine lv_aload_n hx hb d_P_count_49 rfl (lv_at hl 0 rfl) ?_
    refine cm_getf kx_P S hW rfl 2 (4) rfl wd_401 (by decide) d_P_count_50 ?_
    refine cm_getf kx_N S hW rfl 0 (5) rfl wd_174 (by decide) d_P_count_53 ?_
    refine cm_cVi [] kx_A S hW rfl (fun x σ' hc => c_A_size 5 σ hc) q_A_size wd_431 wd_432 wd_649 (by decide) hl.1 rfl rfl (Nat.le_of_ble_eq_true rfl) d_P_count_56 h (fun x3 r2 H locs cells slots h hW => ?_)
    exact cm_iret S hW d_P_count_59 h
  rw [if_neg z1] at h
  by_cases z2 : v1 = 2
  · rw [if_pos z2] at h
    refine lv_tableIn (tgt := 60) (off := 59) hx hb d_P_count_1 (by rw [z2]; decide) (by rw [z2]; decide) (by rw [z2]; decide) (by decide) ?_
    refine lv_aload_n hx hb d_P_count_60 rfl (lv_at hl 0 rfl) ?_
    refine cm_geti kx_P S hW rfl 5 wd_404 (by decide) d_P_count_61 h (fun x4 h => ?_)
    exact cm_iret S hW d_P_count_64 h
  rw [if_neg z2] at h
  by_cases z3 : v1 = 3
  · rw [if_pos z3] at h
    refine lv_tableIn (tgt := 65) (off := 64) hx hb d_P_count_1 (by rw [z3]; decide) (by rw [z3]; decide) (by rw [z3]; decide) (by decide) ?_
    refine lv_aload_n hx hb d_P_count_65 rfl (lv_at hl 0 rfl) ?_
    refine cm_getf kx_P S hW rfl 0 (1) rfl wd_399 (by decide) d_P_count_66 ?_
    refine cm_geti kx_T S hW rfl 1 wd_123 (by decide) d_P_count_69 h (fun x5 h => ?_)
    exact cm_iret S hW d_P_count_72 h
  rw [if_neg z3] at h
  by_cases z4 : v1 = 4
  · rw [if_pos z4] at h
    refine lv_tableIn (tgt := 73) (off := 72) hx hb d_P_count_1 (by rw [z4]; decide) (by rw [z4]; decide) (by rw [z4]; decide) (by decide) ?_
    refine lv_aload_n hx hb d_P_count_73 rfl (lv_at hl 0 rfl) ?_
    refine cm_getf kx_P S hW rfl 2 (4) rfl wd_401 (by decide) d_P_count_74 ?_
    refine cm_geti kx_N S hW rfl 2 wd_178 (by decide) d_P_count_77 h (fun x6 h => ?_)
    exact cm_iret S hW d_P_count_80 h
  rw [if_neg z4] at h
  refine lv_tableOut (tgt := 81) hx hb d_P_count_1 (tab_out 0 4 (fun k h1 h2 hk => ?_)) (by decide) ?_
  · have hq : k = 0 ∨ k = 1 ∨ k = 2 ∨ k = 3 ∨ k = 4 := by omega
    rcases hq with rfl | rfl | rfl | rfl | rfl
    · exact z0 (Int32.toInt_inj.mp (hk.trans (by decide)))
    · exact z1 (Int32.toInt_inj.mp (hk.trans (by decide)))
    · exact z2 (Int32.toInt_inj.mp (hk.trans (by decide)))
    · exact z3 (Int32.toInt_inj.mp (hk.trans (by decide)))
    · exact z4 (Int32.toInt_inj.mp (hk.trans (by decide)))
  refine lv_iconst (v := -1) hx hb d_P_count_81 (by decide) ?_
  exact cm_iret S hW d_P_count_82 h
theorem c_P_count (v1 : Int32) (σ : CS) {x : Int32} {σ' : CS} (h : m_P_count v1 σ = some (x, σ')) : CMet l D tc b z y_P_count k_P_count 2 (Option.some Jvm.ClassFile.FieldType.int) 1 20 [.ref (b + 0), .int v1] σ (some (.int x)) σ' := cm_met (by decide) (Nat.le_of_ble_eq_true rfl) fun p e s m args below meth c S hW ls hl => t_P_count_0 S v1 σ h hl hW
end

/-! StreamPair.nextDue ()LStreamPair$End; -/
abbrev k_P_nextDue : ByteArray := prog_1_method_21_code
abbrev y_P_nextDue : MethodName := ⟨cn_P, "nextDue", "()LStreamPair$End;"⟩
theorem q_P_nextDue : Calee y_P_nextDue k_P_nextDue 1 (Option.some (Jvm.ClassFile.FieldType.object "StreamPair$End")) 0 := ⟨wd_930, wd_78, by decide, by decide +kernel⟩
theorem d_P_nextDue_0 : decode k_P_nextDue 0 = .ok (.aload_n 0, 1) := by decide +kernel
theorem d_P_nextDue_1 : decode k_P_nextDue 1 = .ok (.getfield 39, 3) := by decide +kernel
theorem d_P_nextDue_4 : decode k_P_nextDue 4 = .ok (.getfield 179, 3) := by decide +kernel
theorem d_P_nextDue_7 : decode k_P_nextDue 7 = .ok (.getfield 183, 3) := by decide +kernel
theorem d_P_nextDue_10 : decode k_P_nextDue 10 = .ok (.ifCond .ne 8, 3) := by decide +kernel
theorem d_P_nextDue_13 : decode k_P_nextDue 13 = .ok (.aload_n 0, 1) := by decide +kernel
theorem d_P_nextDue_14 : decode k_P_nextDue 14 = .ok (.getfield 35, 3) := by decide +kernel
theorem d_P_nextDue_17 : decode k_P_nextDue 17 = .ok (.areturn, 1) := by decide +kernel
theorem d_P_nextDue_18 : decode k_P_nextDue 18 = .ok (.aload_n 0, 1) := by decide +kernel
theorem d_P_nextDue_19 : decode k_P_nextDue 19 = .ok (.getfield 35, 3) := by decide +kernel
theorem d_P_nextDue_22 : decode k_P_nextDue 22 = .ok (.getfield 179, 3) := by decide +kernel
theorem d_P_nextDue_25 : decode k_P_nextDue 25 = .ok (.getfield 183, 3) := by decide +kernel
theorem d_P_nextDue_28 : decode k_P_nextDue 28 = .ok (.ifCond .eq 34, 3) := by decide +kernel
theorem d_P_nextDue_31 : decode k_P_nextDue 31 = .ok (.aload_n 0, 1) := by decide +kernel
theorem d_P_nextDue_32 : decode k_P_nextDue 32 = .ok (.getfield 35, 3) := by decide +kernel
theorem d_P_nextDue_35 : decode k_P_nextDue 35 = .ok (.getfield 179, 3) := by decide +kernel
theorem d_P_nextDue_38 : decode k_P_nextDue 38 = .ok (.getfield 188, 3) := by decide +kernel
theorem d_P_nextDue_41 : decode k_P_nextDue 41 = .ok (.aload_n 0, 1) := by decide +kernel
theorem d_P_nextDue_42 : decode k_P_nextDue 42 = .ok (.getfield 39, 3) := by decide +kernel
theorem d_P_nextDue_45 : decode k_P_nextDue 45 = .ok (.getfield 179, 3) := by decide +kernel
theorem d_P_nextDue_48 : decode k_P_nextDue 48 = .ok (.getfield 188, 3) := by decide +kernel
theorem d_P_nextDue_51 : decode k_P_nextDue 51 = .ok (.lcmp, 1) := by decide +kernel
theorem d_P_nextDue_52 : decode k_P_nextDue 52 = .ok (.ifCond .gt 10, 3) := by decide +kernel
theorem d_P_nextDue_55 : decode k_P_nextDue 55 = .ok (.aload_n 0, 1) := by decide +kernel
theorem d_P_nextDue_56 : decode k_P_nextDue 56 = .ok (.getfield 35, 3) := by decide +kernel
theorem d_P_nextDue_59 : decode k_P_nextDue 59 = .ok (.goto 7, 3) := by decide +kernel
theorem d_P_nextDue_62 : decode k_P_nextDue 62 = .ok (.aload_n 0, 1) := by decide +kernel
theorem d_P_nextDue_63 : decode k_P_nextDue 63 = .ok (.getfield 39, 3) := by decide +kernel
theorem d_P_nextDue_66 : decode k_P_nextDue 66 = .ok (.areturn, 1) := by decide +kernel
def b_P_nextDue_66 (w0 : Nat) (σ : CS) : Option (Nat × CS) :=
  some (w0, σ)
def b_P_nextDue_62 (σ : CS) : Option (Nat × CS) :=
  b_P_nextDue_66 14 σ
def m_P_nextDue (σ : CS) : Option (Nat × CS) :=
  bd (cI σ 19 2) fun x1 => if x1 = 0 then
  (some (7, σ))
 else
  (bd (cI σ 12 2) fun x2 => if x2 = 0 then
  (b_P_nextDue_62  σ)
 else
  (bd (cJ σ 12 3) fun x3 => bd (cJ σ 19 3) fun x4 => if 0 < (lg_cmp x3 x4) then
  (b_P_nextDue_62  σ)
 else
  (b_P_nextDue_66 7 σ)))
section
variable {p : Program} {l : Launch} {e : Env} {s : State} {m : MethodId} {args : Array Value} {below : List Frame} {meth : Method} {c : Code} {D : va_G} {tc : Nat → ClassId} {b z : Nat} {σ0 : CS}
theorem t_P_nextDue_66 {w0 : Nat} (S : CC p m c k_P_nextDue 1 s args cn_P meth (Option.some (Jvm.ClassFile.FieldType.object "StreamPair$End")) D tc b z) (hk_w0 : w0 = 7 ∨ w0 = 14) (w0_ : Nat) (σ : CS) {B : Nat × CS} (h : b_P_nextDue_66 w0 σ = some B) {ls : Array Slot} {H : Heap} {locs : List Loc} {cells slots : Nat} (hl : lv_has ls 1 []) (hW : CWS D tc b z s σ0 σ H locs cells slots) : W p l e (CR 0 0 σ0) s m args below meth c H locs cells slots (CE D tc b z below args s σ0 (some (.ref (b + B.1))) B.2) (F0 m 66 ls [.ref (b + w0)]) := by
  have hx := S.1.1
  have hb := S.1.2.1
  unfold b_P_nextDue_66 at h
  exact cm_rret S (by first | exact Or.inl ⟨_, rfl⟩ | exact Or.inr ⟨_, rfl⟩) hW d_P_nextDue_66 h
theorem t_P_nextDue_62 (S : CC p m c k_P_nextDue 1 s args cn_P meth (Option.some (Jvm.ClassFile.FieldType.object "StreamPair$End")) D tc b z) (σ : CS) {B : Nat × CS} (h : b_P_nextDue_62  σ = some B) {ls : Array Slot} {H : Heap} {locs : List Loc} {cells slots : Nat} (hl : lv_has ls 1 [(0, .ref (b + 0))]) (hW : CWS D tc b z s σ0 σ H locs cells slots) : W p l e (CR 0 0 σ0) s m args below meth c H locs cells slots (CE D tc b z below args s σ0 (some (.ref (b + B.1))) B.2) (F0 m 62 ls []) := by
  have hx := S.1.1
  have hb := S.1.2.1
  unfold b_P_nextDue_62 at h
  refine lv_aload_n hx hb d_P_nextDue_62 rfl (lv_at hl 0 rfl) ?_
  refine cm_getf kx_P S hW rfl 4 (14) rfl wd_403 (by decide) d_P_nextDue_63 ?_
  exact t_P_nextDue_66 S (by decide) 14 σ h (lv_sub hl [] rfl) hW
theorem t_P_nextDue_0 (S : CC p m c k_P_nextDue 1 s args cn_P meth (Option.some (Jvm.ClassFile.FieldType.object "StreamPair$End")) D tc b z) (σ : CS) {B : Nat × CS} (h : m_P_nextDue  σ = some B) {ls : Array Slot} {H : Heap} {locs : List Loc} {cells slots : Nat} (hl : lv_has ls 1 [(0, .ref (b + 0))]) (hW : CWS D tc b z s σ0 σ H locs cells slots) : W p l e (CR 0 0 σ0) s m args below meth c H locs cells slots (CE D tc b z below args s σ0 (some (.ref (b + B.1))) B.2) (F0 m 0 ls []) := by
  have hx := S.1.1
  have hb := S.1.2.1
  unfold m_P_nextDue at h
  refine lv_aload_n hx hb d_P_nextDue_0 rfl (lv_at hl 0 rfl) ?_
  refine cm_getf kx_P S hW rfl 4 (14) rfl wd_403 (by decide) d_P_nextDue_1 ?_
  refine cm_getf kx_E S hW rfl 5 (19) rfl wd_358 (by decide) d_P_nextDue_4 ?_
  refine cm_geti kx_Z S hW rfl 2 wd_296 (by decide) d_P_nextDue_7 h (fun x1 h => ?_)
  refine rb_ne (tgt := 18) hx hb d_P_nextDue_10 (by decide) h (fun h => ?_) (fun h => ?_)
  · refine lv_aload_n hx hb d_P_nextDue_18 rfl (lv_at hl 0 rfl) ?_
    refine cm_getf kx_P S hW rfl 3 (7) rfl wd_402 (by decide) d_P_nextDue_19 ?_
    refine cm_getf kx_E S hW rfl 5 (12) rfl wd_358 (by decide) d_P_nextDue_22 ?_
    refine cm_geti kx_Z S hW rfl 2 wd_296 (by decide) d_P_nextDue_25 h (fun x2 h => ?_)
    refine rb_eq (tgt := 62) hx hb d_P_nextDue_28 (by decide) h (fun h => ?_) (fun h => ?_)
    · exact t_P_nextDue_62 S  σ h (lv_sub hl [0] rfl) hW
    · refine lv_aload_n hx hb d_P_nextDue_31 rfl (lv_at hl 0 rfl) ?_
      refine cm_getf kx_P S hW rfl 3 (7) rfl wd_402 (by decide) d_P_nextDue_32 ?_
      refine cm_getf kx_E S hW rfl 5 (12) rfl wd_358 (by decide) d_P_nextDue_35 ?_
      refine cm_getl kx_Z S hW rfl 3 wd_298 (by decide) d_P_nextDue_38 h (fun x3 h => ?_)
      refine lv_aload_n hx hb d_P_nextDue_41 rfl (lv_at hl 0 rfl) ?_
      refine cm_getf kx_P S hW rfl 4 (14) rfl wd_403 (by decide) d_P_nextDue_42 ?_
      refine cm_getf kx_E S hW rfl 5 (19) rfl wd_358 (by decide) d_P_nextDue_45 ?_
      refine cm_getl kx_Z S hW rfl 3 wd_298 (by decide) d_P_nextDue_48 h (fun x4 h => ?_)
      refine W.lcmp hx hb d_P_nextDue_51 ?_
      refine rb_gt (tgt := 62) hx hb d_P_nextDue_52 (by decide) h (fun h => ?_) (fun h => ?_)
      · exact t_P_nextDue_62 S  σ h (lv_sub hl [0] rfl) hW
      · refine lv_aload_n hx hb d_P_nextDue_55 rfl (lv_at hl 0 rfl) ?_
        refine cm_getf kx_P S hW rfl 3 (7) rfl wd_402 (by decide) d_P_nextDue_56 ?_
        refine lv_goto (tgt := 66) hx hb d_P_nextDue_59 (by decide) ?_
        exact t_P_nextDue_66 S (by decide) 7 σ h (lv_sub hl [] rfl) hW
  · refine lv_aload_n hx hb d_P_nextDue_13 rfl (lv_at hl 0 rfl) ?_
    refine cm_getf kx_P S hW rfl 3 (7) rfl wd_402 (by decide) d_P_nextDue_14 ?_
    exact cm_rret S (by first | exact Or.inl ⟨_, rfl⟩ | exact Or.inr ⟨_, rfl⟩) hW d_P_nextDue_17 h
theorem c_P_nextDue (σ : CS) {x : Nat} {σ' : CS} (h : m_P_nextDue  σ = some (x, σ')) : CMet l D tc b z y_P_nextDue k_P_nextDue 1 (Option.some (Jvm.ClassFile.FieldType.object "StreamPair$End")) 0 0 [.ref (b + 0)] σ (some (.ref (b + x))) σ' := cm_met (by decide) (Nat.le_of_ble_eq_true rfl) fun p e s m args below meth c S hW ls hl => t_P_nextDue_0 S  σ h hl hW
end

/-! StreamPair.feed (IIIII)I -/
abbrev k_P_feed : ByteArray := prog_1_method_2_code
abbrev y_P_feed : MethodName := ⟨cn_P, "feed", "(IIIII)I"⟩
theorem q_P_feed : Calee y_P_feed k_P_feed 6 (Option.some Jvm.ClassFile.FieldType.int) 5 := ⟨wd_657, wd_78, by decide, by decide +kernel⟩
theorem d_P_feed_0 : decode k_P_feed 0 = .ok (.aload_n 0, 1) := by decide +kernel
theorem d_P_feed_1 : decode k_P_feed 1 = .ok (.getfield 10, 3) := by decide +kernel
theorem d_P_feed_4 : decode k_P_feed 4 = .ok (.getfield 42, 3) := by decide +kernel
theorem d_P_feed_7 : decode k_P_feed 7 = .ok (.bipush 20, 2) := by decide +kernel
theorem d_P_feed_9 : decode k_P_feed 9 = .ok (.iadd, 1) := by decide +kernel
theorem d_P_feed_10 : decode k_P_feed 10 = .ok (.ldc 46, 2) := by decide +kernel
theorem d_P_feed_12 : decode k_P_feed 12 = .ok (.if_icmp .le 13, 3) := by decide +kernel
theorem d_P_feed_15 : decode k_P_feed 15 = .ok (.new 47, 3) := by decide +kernel
theorem d_P_feed_18 : decode k_P_feed 18 = .ok (.dup, 1) := by decide +kernel
theorem d_P_feed_19 : decode k_P_feed 19 = .ok (.ldc 49, 2) := by decide +kernel
theorem d_P_feed_21 : decode k_P_feed 21 = .ok (.invokespecial 51, 3) := by decide +kernel
theorem d_P_feed_24 : decode k_P_feed 24 = .ok (.athrow, 1) := by decide +kernel
theorem d_P_feed_25 : decode k_P_feed 25 = .ok (.aload_n 0, 1) := by decide +kernel
theorem d_P_feed_26 : decode k_P_feed 26 = .ok (.getfield 10, 3) := by decide +kernel
theorem d_P_feed_29 : decode k_P_feed 29 = .ok (.iload_n 1, 1) := by decide +kernel
theorem d_P_feed_30 : decode k_P_feed 30 = .ok (.invokevirtual 54, 3) := by decide +kernel
theorem d_P_feed_33 : decode k_P_feed 33 = .ok (.aload_n 0, 1) := by decide +kernel
theorem d_P_feed_34 : decode k_P_feed 34 = .ok (.getfield 10, 3) := by decide +kernel
theorem d_P_feed_37 : decode k_P_feed 37 = .ok (.iload_n 2, 1) := by decide +kernel
theorem d_P_feed_38 : decode k_P_feed 38 = .ok (.invokevirtual 54, 3) := by decide +kernel
theorem d_P_feed_41 : decode k_P_feed 41 = .ok (.aload_n 0, 1) := by decide +kernel
theorem d_P_feed_42 : decode k_P_feed 42 = .ok (.getfield 10, 3) := by decide +kernel
theorem d_P_feed_45 : decode k_P_feed 45 = .ok (.iload_n 3, 1) := by decide +kernel
theorem d_P_feed_46 : decode k_P_feed 46 = .ok (.invokevirtual 54, 3) := by decide +kernel
theorem d_P_feed_49 : decode k_P_feed 49 = .ok (.aload_n 0, 1) := by decide +kernel
theorem d_P_feed_50 : decode k_P_feed 50 = .ok (.getfield 10, 3) := by decide +kernel
theorem d_P_feed_53 : decode k_P_feed 53 = .ok (.iload 4, 2) := by decide +kernel
theorem d_P_feed_55 : decode k_P_feed 55 = .ok (.invokevirtual 54, 3) := by decide +kernel
theorem d_P_feed_58 : decode k_P_feed 58 = .ok (.aload_n 0, 1) := by decide +kernel
theorem d_P_feed_59 : decode k_P_feed 59 = .ok (.getfield 10, 3) := by decide +kernel
theorem d_P_feed_62 : decode k_P_feed 62 = .ok (.iload 5, 2) := by decide +kernel
theorem d_P_feed_64 : decode k_P_feed 64 = .ok (.invokevirtual 54, 3) := by decide +kernel
theorem d_P_feed_67 : decode k_P_feed 67 = .ok (.aload_n 0, 1) := by decide +kernel
theorem d_P_feed_68 : decode k_P_feed 68 = .ok (.getfield 10, 3) := by decide +kernel
theorem d_P_feed_71 : decode k_P_feed 71 = .ok (.getfield 42, 3) := by decide +kernel
theorem d_P_feed_74 : decode k_P_feed 74 = .ok (.ireturn, 1) := by decide +kernel
def m_P_feed (v1 : Int32) (v2 : Int32) (v3 : Int32) (v4 : Int32) (v5 : Int32) (σ : CS) : Option ((Nat ⊕ Int32) × CS) :=
  bd (cI σ 1 1) fun x1 => if (x1 + (20 : Int32)) ≤ (65536 : Int32) then
  (bc (m_T_addNumber v1 σ) fun r2 => bc (m_T_addNumber v2 r2) fun r3 => bc (m_T_addNumber v3 r3) fun r4 => bc (m_T_addNumber v4 r4) fun r5 => bc (m_T_addNumber v5 r5) fun r6 => bd (cI r6 1 1) fun x7 => some (.inr x7, r6))
 else
  (gd (cX σ + 1 ≤ 601024 ∧ cU σ + 6 ≤ 7293034) <| some (.inl 1, wa σ 0 0 6))
section
variable {p : Program} {l : Launch} {e : Env} {s : State} {m : MethodId} {args : Array Value} {below : List Frame} {meth : Method} {c : Code} {D : va_G} {tc : Nat → ClassId} {b z : Nat} {σ0 : CS}
theorem t_P_feed_0 (S : CC p m c k_P_feed 6 s args cn_P meth (Option.some Jvm.ClassFile.FieldType.int) D tc b z) (hT : TK b s) (hfl : l.flags = flags0) (hex : c.exceptionTable.toList = []) (v1 : Int32) (v2 : Int32) (v3 : Int32) (v4 : Int32) (v5 : Int32) (σ : CS) {B : (Nat ⊕ Int32) × CS} (h : m_P_feed v1 v2 v3 v4 v5 σ = some B) {ls : Array Slot} (hl : lv_has ls 6 [(0, .ref (b + 0)), (1, .int v1), (2, .int v2), (3, .int v3), (4, .int v4), (5, .int v5)]) (hW : CWS D tc b z s σ σ s.heap [] 0 0) : W p l e (CR 6 83 σ) s m args below meth c s.heap [] 0 0 (PQ D tc b z below args s σ (fun x => some (.int x)) B) (F0 m 0 ls []) := by
  have hx := S.1.1
  have hb := S.1.2.1
  unfold m_P_feed at h
  refine lv_aload_n hx hb d_P_feed_0 rfl (lv_at hl 0 rfl) ?_
  refine cm_getf kx_P S hW rfl 0 (1) rfl wd_399 (by decide) d_P_feed_1 ?_
  refine cm_geti kx_T S hW rfl 1 wd_123 (by decide) d_P_feed_4 h (fun x1 h => ?_)
  refine lv_bipush (v := 20) hx hb d_P_feed_7 (by decide) ?_
  refine lv_iadd hx hb d_P_feed_9 ?_
  refine lv_ldc hx hb S.1.2.2.2.1 (S.1.2.2.2.2 _ (gi wd_658 rfl)) d_P_feed_10 ?_
  refine rc_le (tgt := 25) hx hb d_P_feed_12 (by decide) h (fun h => ?_) (fun h => ?_)
  · refine lv_aload_n hx hb d_P_feed_25 rfl (lv_at hl 0 rfl) ?_
    refine cm_getf kx_P S hW rfl 0 (1) rfl wd_399 (by decide) d_P_feed_26 ?_
    refine lv_iload_n hx hb d_P_feed_29 rfl (lv_at hl 1 rfl) ?_
    refine cm_cVv [.int v1] kx_T S hW rfl (fun σ' hc => c_T_addNumber v1 σ hc) q_T_addNumber wd_729 wd_730 wd_728 (by decide) hl.1 rfl rfl (Nat.le_of_ble_eq_true rfl) d_P_feed_30 h (fun r2 H locs cells slots h hW => ?_)
    refine lv_aload_n hx hb d_P_feed_33 rfl (lv_at hl 0 rfl) ?_
    refine cm_getf kx_P S hW rfl 0 (1) rfl wd_399 (by decide) d_P_feed_34 ?_
    refine lv_iload_n hx hb d_P_feed_37 rfl (lv_at hl 2 rfl) ?_
    refine cm_cVv [.int v2] kx_T S hW rfl (fun σ' hc => c_T_addNumber v2 r2 hc) q_T_addNumber wd_729 wd_730 wd_728 (by decide) hl.1 rfl rfl (Nat.le_of_ble_eq_true rfl) d_P_feed_38 h (fun r3 H locs cells slots h hW => ?_)
    refine lv_aload_n hx hb d_P_feed_41 rfl (lv_at hl 0 rfl) ?_
    refine cm_getf kx_P S hW rfl 0 (1) rfl wd_399 (by decide) d_P_feed_42 ?_
    refine lv_iload_n hx hb d_P_feed_45 rfl (lv_at hl 3 rfl) ?_
    refine cm_cVv [.int v3] kx_T S hW rfl (fun σ' hc => c_T_addNumber v3 r3 hc) q_T_addNumber wd_729 wd_730 wd_728 (by decide) hl.1 rfl rfl (Nat.le_of_ble_eq_true rfl) d_P_feed_46 h (fun r4 H locs cells slots h hW => ?_)
    refine lv_aload_n hx hb d_P_feed_49 rfl (lv_at hl 0 rfl) ?_
    refine cm_getf kx_P S hW rfl 0 (1) rfl wd_399 (by decide) d_P_feed_50 ?_
    refine lv_iload hx hb d_P_feed_53 (lv_at hl 4 rfl) ?_
    refine cm_cVv [.int v4] kx_T S hW rfl (fun σ' hc => c_T_addNumber v4 r4 hc) q_T_addNumber wd_729 wd_730 wd_728 (by decide) hl.1 rfl rfl (Nat.le_of_ble_eq_true rfl) d_P_feed_55 h (fun r5 H locs cells slots h hW => ?_)
    refine lv_aload_n hx hb d_P_feed_58 rfl (lv_at hl 0 rfl) ?_
    refine cm_getf kx_P S hW rfl 0 (1) rfl wd_399 (by decide) d_P_feed_59 ?_
    refine lv_iload hx hb d_P_feed_62 (lv_at hl 5 rfl) ?_
    refine cm_cVv [.int v5] kx_T S hW rfl (fun σ' hc => c_T_addNumber v5 r5 hc) q_T_addNumber wd_729 wd_730 wd_728 (by decide) hl.1 rfl rfl (Nat.le_of_ble_eq_true rfl) d_P_feed_64 h (fun r6 H locs cells slots h hW => ?_)
    refine lv_aload_n hx hb d_P_feed_67 rfl (lv_at hl 0 rfl) ?_
    refine cm_getf kx_P S hW rfl 0 (1) rfl wd_399 (by decide) d_P_feed_68 ?_
    refine cm_geti kx_T S hW rfl 1 wd_123 (by decide) d_P_feed_71 h (fun x7 h => ?_)
    exact pr_i S hW d_P_feed_74 h
  · refine xm_new (k := 1) (by decide) S hW d_P_feed_15 h (fun H1 cC kC h hfc hkC hcell => ?_)
    refine lv_dup hx hb d_P_feed_18 rfl ?_
    obtain ⟨q9, hq9⟩ := hT.2.2.2.2.2 (49, "no room on the tape") (by decide)
    refine va_ldcS hx hb S.1.2.2.2.1 hq9 d_P_feed_19 ?_
    cases h
    exact xm_end (k := 1) (by decide) S hT hfl hex hfc hkC hcell hl.1 (by decide) (by decide) d_P_feed_21 d_P_feed_24
theorem cx_P_feed (v1 : Int32) (v2 : Int32) (v3 : Int32) (v4 : Int32) (v5 : Int32) (σ : CS) (hfl : l.flags = flags0) {j : Nat} {σ' : CS} (h : m_P_feed v1 v2 v3 v4 v5 σ = some (.inl j, σ')) : XMet l D tc b z y_P_feed k_P_feed 6 (Option.some Jvm.ClassFile.FieldType.int) 6 83 [.ref (b + 0), .int v1, .int v2, .int v3, .int v4, .int v5] σ j := xm_met (by decide) (Nat.le_of_ble_eq_true rfl) fun p e s m args below meth c S hT hex hW ls hl => t_P_feed_0 S hT hfl hex v1 v2 v3 v4 v5 σ h hl hW
theorem cr_P_feed (v1 : Int32) (v2 : Int32) (v3 : Int32) (v4 : Int32) (v5 : Int32) (σ : CS) (hfl : l.flags = flags0) {x : Int32} {σ' : CS} (h : m_P_feed v1 v2 v3 v4 v5 σ = some (.inr x, σ')) : PMet l D tc b z y_P_feed k_P_feed 6 (Option.some Jvm.ClassFile.FieldType.int) 6 83 [.ref (b + 0), .int v1, .int v2, .int v3, .int v4, .int v5] σ (some (.int x)) σ' := pm_met (by decide) (Nat.le_of_ble_eq_true rfl) fun p e s m args below meth c S hT hex hW ls hl => t_P_feed_0 S hT hfl hex v1 v2 v3 v4 v5 σ h hl hW
end

/-! StreamPair.end (I)I -/
abbrev k_P_end : ByteArray := prog_1_method_3_code
abbrev y_P_end : MethodName := ⟨cn_P, "end", "(I)I"⟩
theorem q_P_end : Calee y_P_end k_P_end 2 (Option.some Jvm.ClassFile.FieldType.int) 1 := ⟨wd_749, wd_78, by decide, by decide +kernel⟩
theorem d_P_end_0 : decode k_P_end 0 = .ok (.iload_n 1, 1) := by decide +kernel
theorem d_P_end_1 : decode k_P_end 1 = .ok (.ifCond .lt 14, 3) := by decide +kernel
theorem d_P_end_4 : decode k_P_end 4 = .ok (.iload_n 1, 1) := by decide +kernel
theorem d_P_end_5 : decode k_P_end 5 = .ok (.aload_n 0, 1) := by decide +kernel
theorem d_P_end_6 : decode k_P_end 6 = .ok (.getfield 10, 3) := by decide +kernel
theorem d_P_end_9 : decode k_P_end 9 = .ok (.getfield 42, 3) := by decide +kernel
theorem d_P_end_12 : decode k_P_end 12 = .ok (.if_icmp .le 13, 3) := by decide +kernel
theorem d_P_end_15 : decode k_P_end 15 = .ok (.new 58, 3) := by decide +kernel
theorem d_P_end_18 : decode k_P_end 18 = .ok (.dup, 1) := by decide +kernel
theorem d_P_end_19 : decode k_P_end 19 = .ok (.ldc 60, 2) := by decide +kernel
theorem d_P_end_21 : decode k_P_end 21 = .ok (.invokespecial 62, 3) := by decide +kernel
theorem d_P_end_24 : decode k_P_end 24 = .ok (.athrow, 1) := by decide +kernel
theorem d_P_end_25 : decode k_P_end 25 = .ok (.aload_n 0, 1) := by decide +kernel
theorem d_P_end_26 : decode k_P_end 26 = .ok (.getfield 10, 3) := by decide +kernel
theorem d_P_end_29 : decode k_P_end 29 = .ok (.iload_n 1, 1) := by decide +kernel
theorem d_P_end_30 : decode k_P_end 30 = .ok (.putfield 42, 3) := by decide +kernel
theorem d_P_end_33 : decode k_P_end 33 = .ok (.iload_n 1, 1) := by decide +kernel
theorem d_P_end_34 : decode k_P_end 34 = .ok (.ireturn, 1) := by decide +kernel
def b_P_end_15 (σ : CS) : Option ((Nat ⊕ Int32) × CS) :=
  gd (cX σ + 1 ≤ 601024 ∧ cU σ + 6 ≤ 7293034) <| some (.inl 2, wa σ 0 0 6)
def m_P_end (v1 : Int32) (σ : CS) : Option ((Nat ⊕ Int32) × CS) :=
  if v1 < 0 then
  (b_P_end_15  σ)
 else
  (bd (cI σ 1 1) fun x1 => if v1 ≤ x1 then
  (bd (wi σ 1 1 v1) fun r2 => some (.inr v1, r2))
 else
  (b_P_end_15  σ))
section
variable {p : Program} {l : Launch} {e : Env} {s : State} {m : MethodId} {args : Array Value} {below : List Frame} {meth : Method} {c : Code} {D : va_G} {tc : Nat → ClassId} {b z : Nat} {σ0 : CS}
theorem t_P_end_15 (S : CC p m c k_P_end 2 s args cn_P meth (Option.some Jvm.ClassFile.FieldType.int) D tc b z) (hT : TK b s) (hfl : l.flags = flags0) (hex : c.exceptionTable.toList = []) (σ : CS) {B : (Nat ⊕ Int32) × CS} (h : b_P_end_15  σ = some B) {ls : Array Slot} (hl : lv_has ls 2 []) (hW : CWS D tc b z s σ σ s.heap [] 0 0) : W p l e (CR 6 83 σ) s m args below meth c s.heap [] 0 0 (PQ D tc b z below args s σ (fun x => some (.int x)) B) (F0 m 15 ls []) := by
  have hx := S.1.1
  have hb := S.1.2.1
  unfold b_P_end_15 at h
  refine xm_new (k := 2) (by decide) S hW d_P_end_15 h (fun H1 cC kC h hfc hkC hcell => ?_)
  refine lv_dup hx hb d_P_end_18 rfl ?_
  obtain ⟨q9, hq9⟩ := hT.2.2.2.2.2 (60, "not a length within the tape") (by decide)
  refine va_ldcS hx hb S.1.2.2.2.1 hq9 d_P_end_19 ?_
  cases h
  exact xm_end (k := 2) (by decide) S hT hfl hex hfc hkC hcell hl.1 (by decide) (by decide) d_P_end_21 d_P_end_24
theorem t_P_end_0 (S : CC p m c k_P_end 2 s args cn_P meth (Option.some Jvm.ClassFile.FieldType.int) D tc b z) (hT : TK b s) (hfl : l.flags = flags0) (hex : c.exceptionTable.toList = []) (v1 : Int32) (σ : CS) {B : (Nat ⊕ Int32) × CS} (h : m_P_end v1 σ = some B) {ls : Array Slot} (hl : lv_has ls 2 [(0, .ref (b + 0)), (1, .int v1)]) (hW : CWS D tc b z s σ σ s.heap [] 0 0) : W p l e (CR 6 83 σ) s m args below meth c s.heap [] 0 0 (PQ D tc b z below args s σ (fun x => some (.int x)) B) (F0 m 0 ls []) := by
  have hx := S.1.1
  have hb := S.1.2.1
  unfold m_P_end at h
  refine lv_iload_n hx hb d_P_end_0 rfl (lv_at hl 1 rfl) ?_
  refine rb_lt (tgt := 15) hx hb d_P_end_1 (by decide) h (fun h => ?_) (fun h => ?_)
  · exact t_P_end_15 S hT hfl hex  σ h (lv_sub hl [] rfl) hW
  · refine lv_iload_n hx hb d_P_end_4 rfl (lv_at hl 1 rfl) ?_
    refine lv_aload_n hx hb d_P_end_5 rfl (lv_at hl 0 rfl) ?_
    refine cm_getf kx_P S hW rfl 0 (1) rfl wd_399 (by decide) d_P_end_6 ?_
    refine cm_geti kx_T S hW rfl 1 wd_123 (by decide) d_P_end_9 h (fun x1 h => ?_)
    refine rc_le (tgt := 25) hx hb d_P_end_12 (by decide) h (fun h => ?_) (fun h => ?_)
    · refine lv_aload_n hx hb d_P_end_25 rfl (lv_at hl 0 rfl) ?_
      refine cm_getf kx_P S hW rfl 0 (1) rfl wd_399 (by decide) d_P_end_26 ?_
      refine lv_iload_n hx hb d_P_end_29 rfl (lv_at hl 1 rfl) ?_
      refine cm_puti kx_T S hW rfl 1 wd_123 (by decide) d_P_end_30 h (fun r2 H locs h hW => ?_)
      refine lv_iload_n hx hb d_P_end_33 rfl (lv_at hl 1 rfl) ?_
      exact pr_i S hW d_P_end_34 h
    · exact t_P_end_15 S hT hfl hex  σ h (lv_sub hl [] rfl) hW
theorem cx_P_end (v1 : Int32) (σ : CS) (hfl : l.flags = flags0) {j : Nat} {σ' : CS} (h : m_P_end v1 σ = some (.inl j, σ')) : XMet l D tc b z y_P_end k_P_end 2 (Option.some Jvm.ClassFile.FieldType.int) 6 83 [.ref (b + 0), .int v1] σ j := xm_met (by decide) (Nat.le_of_ble_eq_true rfl) fun p e s m args below meth c S hT hex hW ls hl => t_P_end_0 S hT hfl hex v1 σ h hl hW
theorem cr_P_end (v1 : Int32) (σ : CS) (hfl : l.flags = flags0) {x : Int32} {σ' : CS} (h : m_P_end v1 σ = some (.inr x, σ')) : PMet l D tc b z y_P_end k_P_end 2 (Option.some Jvm.ClassFile.FieldType.int) 6 83 [.ref (b + 0), .int v1] σ (some (.int x)) σ' := pm_met (by decide) (Nat.le_of_ble_eq_true rfl) fun p e s m args below meth c S hT hex hW ls hl => t_P_end_0 S hT hfl hex v1 σ h hl hW
end

/-! StreamPair.set (III)I -/
abbrev k_P_set : ByteArray := prog_1_method_5_code
abbrev y_P_set : MethodName := ⟨cn_P, "set", "(III)I"⟩
theorem q_P_set : Calee y_P_set k_P_set 6 (Option.some Jvm.ClassFile.FieldType.int) 3 := ⟨wd_773, wd_78, by decide, by decide +kernel⟩
theorem d_P_set_0 : decode k_P_set 0 = .ok (.aload_n 0, 1) := by decide +kernel
theorem d_P_set_1 : decode k_P_set 1 = .ok (.iload_n 1, 1) := by decide +kernel
theorem d_P_set_2 : decode k_P_set 2 = .ok (.invokevirtual 83, 3) := by decide +kernel
theorem d_P_set_5 : decode k_P_set 5 = .ok (.astore 4, 2) := by decide +kernel
theorem d_P_set_7 : decode k_P_set 7 = .ok (.iload_n 2, 1) := by decide +kernel
theorem d_P_set_8 : decode k_P_set 8 = .ok (.ifCond .ne 35, 3) := by decide +kernel
theorem d_P_set_11 : decode k_P_set 11 = .ok (.iload_n 3, 1) := by decide +kernel
theorem d_P_set_12 : decode k_P_set 12 = .ok (.ifCond .lt 31, 3) := by decide +kernel
theorem d_P_set_15 : decode k_P_set 15 = .ok (.iload_n 3, 1) := by decide +kernel
theorem d_P_set_16 : decode k_P_set 16 = .ok (.ldc 87, 2) := by decide +kernel
theorem d_P_set_18 : decode k_P_set 18 = .ok (.if_icmp .gt 25, 3) := by decide +kernel
theorem d_P_set_21 : decode k_P_set 21 = .ok (.aload 4, 2) := by decide +kernel
theorem d_P_set_23 : decode k_P_set 23 = .ok (.getfield 88, 3) := by decide +kernel
theorem d_P_set_26 : decode k_P_set 26 = .ok (.getfield 92, 3) := by decide +kernel
theorem d_P_set_29 : decode k_P_set 29 = .ok (.istore 5, 2) := by decide +kernel
theorem d_P_set_31 : decode k_P_set 31 = .ok (.aload 4, 2) := by decide +kernel
theorem d_P_set_33 : decode k_P_set 33 = .ok (.getfield 88, 3) := by decide +kernel
theorem d_P_set_36 : decode k_P_set 36 = .ok (.iload_n 3, 1) := by decide +kernel
theorem d_P_set_37 : decode k_P_set 37 = .ok (.putfield 92, 3) := by decide +kernel
theorem d_P_set_40 : decode k_P_set 40 = .ok (.iload 5, 2) := by decide +kernel
theorem d_P_set_42 : decode k_P_set 42 = .ok (.ireturn, 1) := by decide +kernel
theorem d_P_set_43 : decode k_P_set 43 = .ok (.iload_n 2, 1) := by decide +kernel
theorem d_P_set_44 : decode k_P_set 44 = .ok (.iconst 1, 1) := by decide +kernel
theorem d_P_set_45 : decode k_P_set 45 = .ok (.if_icmp .ne 32, 3) := by decide +kernel
theorem d_P_set_48 : decode k_P_set 48 = .ok (.iload_n 3, 1) := by decide +kernel
theorem d_P_set_49 : decode k_P_set 49 = .ok (.bipush 64, 2) := by decide +kernel
theorem d_P_set_51 : decode k_P_set 51 = .ok (.if_icmp .lt 26, 3) := by decide +kernel
theorem d_P_set_54 : decode k_P_set 54 = .ok (.iload_n 3, 1) := by decide +kernel
theorem d_P_set_55 : decode k_P_set 55 = .ok (.sipush 1460, 3) := by decide +kernel
theorem d_P_set_58 : decode k_P_set 58 = .ok (.if_icmp .gt 19, 3) := by decide +kernel
theorem d_P_set_61 : decode k_P_set 61 = .ok (.aload 4, 2) := by decide +kernel
theorem d_P_set_63 : decode k_P_set 63 = .ok (.getfield 97, 3) := by decide +kernel
theorem d_P_set_66 : decode k_P_set 66 = .ok (.istore 5, 2) := by decide +kernel
theorem d_P_set_68 : decode k_P_set 68 = .ok (.aload 4, 2) := by decide +kernel
theorem d_P_set_70 : decode k_P_set 70 = .ok (.iload_n 3, 1) := by decide +kernel
theorem d_P_set_71 : decode k_P_set 71 = .ok (.putfield 97, 3) := by decide +kernel
theorem d_P_set_74 : decode k_P_set 74 = .ok (.iload 5, 2) := by decide +kernel
theorem d_P_set_76 : decode k_P_set 76 = .ok (.ireturn, 1) := by decide +kernel
theorem d_P_set_77 : decode k_P_set 77 = .ok (.new 58, 3) := by decide +kernel
theorem d_P_set_80 : decode k_P_set 80 = .ok (.dup, 1) := by decide +kernel
theorem d_P_set_81 : decode k_P_set 81 = .ok (.ldc 100, 2) := by decide +kernel
theorem d_P_set_83 : decode k_P_set 83 = .ok (.invokespecial 62, 3) := by decide +kernel
theorem d_P_set_86 : decode k_P_set 86 = .ok (.athrow, 1) := by decide +kernel
def b_P_set_77 (σ : CS) : Option ((Nat ⊕ Int32) × CS) :=
  gd (cX σ + 1 ≤ 601024 ∧ cU σ + 6 ≤ 7293034) <| some (.inl 2, wa σ 0 0 6)
def b_P_set_43 (v2 : Int32) (v3 : Int32) (v4 : Nat) (σ : CS) : Option ((Nat ⊕ Int32) × CS) :=
  if v2 = (1 : Int32) then
  (if v3 < (64 : Int32) then
  (b_P_set_77  σ)
 else
  (if (1460 : Int32) < v3 then
  (b_P_set_77  σ)
 else
  (bd (cI σ v4 7) fun x1 => bd (wi σ v4 7 v3) fun r2 => some (.inr x1, r2))))
 else
  (b_P_set_77  σ)
def m_P_set (v1 : Int32) (v2 : Int32) (v3 : Int32) (σ : CS) : Option ((Nat ⊕ Int32) × CS) :=
  bcn (n_P_sideOf v1 σ) σ fun x1 => gd (x1 = 7 ∨ x1 = 14) <| if v2 = 0 then
  (if v3 < 0 then
  (b_P_set_43 v2 v3 x1 σ)
 else
  (if (65535 : Int32) < v3 then
  (b_P_set_43 v2 v3 x1 σ)
 else
  (bd (cI σ (x1 + 3) 0) fun x2 => bd (wi σ (x1 + 3) 0 v3) fun r3 => some (.inr x2, r3))))
 else
  (b_P_set_43 v2 v3 x1 σ)
section
variable {p : Program} {l : Launch} {e : Env} {s : State} {m : MethodId} {args : Array Value} {below : List Frame} {meth : Method} {c : Code} {D : va_G} {tc : Nat → ClassId} {b z : Nat} {σ0 : CS}
theorem t_P_set_77 (S : CC p m c k_P_set 6 s args cn_P meth (Option.some Jvm.ClassFile.FieldType.int) D tc b z) (hT : TK b s) (hfl : l.flags = flags0) (hex : c.exceptionTable.toList = []) (σ : CS) {B : (Nat ⊕ Int32) × CS} (h : b_P_set_77  σ = some B) {ls : Array Slot} (hl : lv_has ls 6 []) (hW : CWS D tc b z s σ σ s.heap [] 0 0) : W p l e (CR 7 104 σ) s m args below meth c s.heap [] 0 0 (PQ D tc b z below args s σ (fun x => some (.int x)) B) (F0 m 77 ls []) := by
  have hx := S.1.1
  have hb := S.1.2.1
  unfold b_P_set_77 at h
  refine xm_new (k := 2) (by decide) S hW d_P_set_77 h (fun H1 cC kC h hfc hkC hcell => ?_)
  refine lv_dup hx hb d_P_set_80 rfl ?_
  obtain ⟨q9, hq9⟩ := hT.2.2.2.2.2 (100, "no such setting or value") (by decide)
  refine va_ldcS hx hb S.1.2.2.2.1 hq9 d_P_set_81 ?_
  cases h
  exact xm_end (k := 2) (by decide) S hT hfl hex hfc hkC hcell hl.1 (by decide) (by decide) d_P_set_83 d_P_set_86
theorem t_P_set_43 {v4 : Nat} (S : CC p m c k_P_set 6 s args cn_P meth (Option.some Jvm.ClassFile.FieldType.int) D tc b z) (hT : TK b s) (hfl : l.flags = flags0) (hex : c.exceptionTable.toList = []) (hk_v4 : v4 = 7 ∨ v4 = 14) (v2 : Int32) (v3 : Int32) (v4_ : Nat) (σ : CS) {B : (Nat ⊕ Int32) × CS} (h : b_P_set_43 v2 v3 v4 σ = some B) {ls : Array Slot} (hl : lv_has ls 6 [(2, .int v2), (3, .int v3), (4, .ref (b + v4))]) (hW : CWS D tc b z s σ σ s.heap [] 0 0) : W p l e (CR 7 104 σ) s m args below meth c s.heap [] 0 0 (PQ D tc b z below args s σ (fun x => some (.int x)) B) (F0 m 43 ls []) := by
  have hx := S.1.1
  have hb := S.1.2.1
  unfold b_P_set_43 at h
  refine lv_iload_n hx hb d_P_set_43 rfl (lv_at hl 0 rfl) ?_
  refine lv_iconst (v := 1) hx hb d_P_set_44 (by decide) ?_
  refine rc_ne (tgt := 77) hx hb d_P_set_45 (by decide) h (fun h => ?_) (fun h => ?_)
  · exact t_P_set_77 S hT hfl hex  σ h (lv_sub hl [] rfl) hW
  · refine lv_iload_n hx hb d_P_set_48 rfl (lv_at hl 1 rfl) ?_
    refine lv_bipush (v := 64) hx hb d_P_set_49 (by decide) ?_
    refine rc_lt (tgt := 77) hx hb d_P_set_51 (by decide) h (fun h => ?_) (fun h => ?_)
    · exact t_P_set_77 S hT hfl hex  σ h (lv_sub hl [] rfl) hW
    · refine lv_iload_n hx hb d_P_set_54 rfl (lv_at hl 1 rfl) ?_
      refine lv_sipush (v := 1460) hx hb d_P_set_55 (by decide) ?_
      refine rc_gt (tgt := 77) hx hb d_P_set_58 (by decide) h (fun h => ?_) (fun h => ?_)
      · exact t_P_set_77 S hT hfl hex  σ h (lv_sub hl [] rfl) hW
      · refine lv_aload hx hb d_P_set_61 (lv_at hl 2 rfl) ?_
        refine cm_geti kx_E S hW (kE hk_v4) 7 wd_361 (by decide) d_P_set_63 h (fun x1 h => ?_)
        refine lv_istore (lv' := [(5, .int x1), (2, .int v2), (3, .int v3), (4, .ref (b + v4))]) hx hb d_P_set_66 hl (by decide) rfl (fun ls hl => ?_)
        refine lv_aload hx hb d_P_set_68 (lv_at hl 3 rfl) ?_
        refine lv_iload_n hx hb d_P_set_70 rfl (lv_at hl 2 rfl) ?_
        refine cm_puti kx_E S hW (kE hk_v4) 7 wd_361 (by decide) d_P_set_71 h (fun r2 H locs h hW => ?_)
        refine lv_iload hx hb d_P_set_74 (lv_at hl 0 rfl) ?_
        exact pr_i S hW d_P_set_76 h
theorem t_P_set_0 (S : CC p m c k_P_set 6 s args cn_P meth (Option.some Jvm.ClassFile.FieldType.int) D tc b z) (hT : TK b s) (hfl : l.flags = flags0) (hex : c.exceptionTable.toList = []) (v1 : Int32) (v2 : Int32) (v3 : Int32) (σ : CS) {B : (Nat ⊕ Int32) × CS} (h : m_P_set v1 v2 v3 σ = some B) {ls : Array Slot} (hl : lv_has ls 6 [(0, .ref (b + 0)), (1, .int v1), (2, .int v2), (3, .int v3)]) (hW : CWS D tc b z s σ σ s.heap [] 0 0) : W p l e (CR 7 104 σ) s m args below meth c s.heap [] 0 0 (PQ D tc b z below args s σ (fun x => some (.int x)) B) (F0 m 0 ls []) := by
  have hx := S.1.1
  have hb := S.1.2.1
  unfold m_P_set at h
  refine lv_aload_n hx hb d_P_set_0 rfl (lv_at hl 0 rfl) ?_
  refine lv_iload_n hx hb d_P_set_1 rfl (lv_at hl 1 rfl) ?_
  refine pm_look (As := [.int v1]) S hT hex hW (fun j hc => cyx_P_sideOf v1 σ hfl hc) (fun x hc => cyr_P_sideOf v1 σ hfl hc) q_P_sideOf wd_776 wd_8 wd_774 (by decide) hl.1 rfl rfl (Nat.le_of_ble_eq_true rfl) d_P_set_2 h (fun x1 h => ?_)
  obtain ⟨hk_x1, h⟩ := gd_s h
  refine lv_astore (lv' := [(4, .ref (b + x1)), (0, .ref (b + 0)), (1, .int v1), (2, .int v2), (3, .int v3)]) hx hb d_P_set_5 hl (by decide) rfl (fun ls hl => ?_)
  refine lv_iload_n hx hb d_P_set_7 rfl (lv_at hl 3 rfl) ?_
  refine rb_ne (tgt := 43) hx hb d_P_set_8 (by decide) h (fun h => ?_) (fun h => ?_)
  · exact t_P_set_43 S hT hfl hex hk_x1 v2 v3 x1 σ h (lv_sub hl [3, 4, 0] rfl) hW
  · refine lv_iload_n hx hb d_P_set_11 rfl (lv_at hl 4 rfl) ?_
    refine rb_lt (tgt := 43) hx hb d_P_set_12 (by decide) h (fun h => ?_) (fun h => ?_)
    · exact t_P_set_43 S hT hfl hex hk_x1 v2 v3 x1 σ h (lv_sub hl [3, 4, 0] rfl) hW
    · refine lv_iload_n hx hb d_P_set_15 rfl (lv_at hl 4 rfl) ?_
      refine lv_ldc hx hb S.1.2.2.2.1 (S.1.2.2.2.2 _ (gi wd_794 rfl)) d_P_set_16 ?_
      refine rc_gt (tgt := 43) hx hb d_P_set_18 (by decide) h (fun h => ?_) (fun h => ?_)
      · exact t_P_set_43 S hT hfl hex hk_x1 v2 v3 x1 σ h (lv_sub hl [3, 4, 0] rfl) hW
      · refine lv_aload hx hb d_P_set_21 (lv_at hl 0 rfl) ?_
        refine cm_getf kx_E S hW (kE hk_x1) 4 (x1 + 3) rfl wd_356 (by decide) d_P_set_23 ?_
        refine cm_geti kx_V S hW (kEV hk_x1) 0 wd_252 (by decide) d_P_set_26 h (fun x2 h => ?_)
        refine lv_istore (lv' := [(5, .int x2), (4, .ref (b + x1)), (0, .ref (b + 0)), (1, .int v1), (2, .int v2), (3, .int v3)]) hx hb d_P_set_29 hl (by decide) rfl (fun ls hl => ?_)
        refine lv_aload hx hb d_P_set_31 (lv_at hl 1 rfl) ?_
        refine cm_getf kx_E S hW (kE hk_x1) 4 (x1 + 3) rfl wd_356 (by decide) d_P_set_33 ?_
        refine lv_iload_n hx hb d_P_set_36 rfl (lv_at hl 5 rfl) ?_
        refine cm_puti kx_V S hW (kEV hk_x1) 0 wd_252 (by decide) d_P_set_37 h (fun r3 H locs h hW => ?_)
        refine lv_iload hx hb d_P_set_40 (lv_at hl 0 rfl) ?_
        exact pr_i S hW d_P_set_42 h
theorem cx_P_set (v1 : Int32) (v2 : Int32) (v3 : Int32) (σ : CS) (hfl : l.flags = flags0) {j : Nat} {σ' : CS} (h : m_P_set v1 v2 v3 σ = some (.inl j, σ')) : XMet l D tc b z y_P_set k_P_set 6 (Option.some Jvm.ClassFile.FieldType.int) 7 104 [.ref (b + 0), .int v1, .int v2, .int v3] σ j := xm_met (by decide) (Nat.le_of_ble_eq_true rfl) fun p e s m args below meth c S hT hex hW ls hl => t_P_set_0 S hT hfl hex v1 v2 v3 σ h hl hW
theorem cr_P_set (v1 : Int32) (v2 : Int32) (v3 : Int32) (σ : CS) (hfl : l.flags = flags0) {x : Int32} {σ' : CS} (h : m_P_set v1 v2 v3 σ = some (.inr x, σ')) : PMet l D tc b z y_P_set k_P_set 6 (Option.some Jvm.ClassFile.FieldType.int) 7 104 [.ref (b + 0), .int v1, .int v2, .int v3] σ (some (.int x)) σ' := pm_met (by decide) (Nat.le_of_ble_eq_true rfl) fun p e s m args below meth c S hT hex hW ls hl => t_P_set_0 S hT hfl hex v1 v2 v3 σ h hl hW
end

/-! StreamPair.write (I)I -/
abbrev k_P_write : ByteArray := prog_1_method_6_code
abbrev y_P_write : MethodName := ⟨cn_P, "write", "(I)I"⟩
theorem q_P_write : Calee y_P_write k_P_write 4 (Option.some Jvm.ClassFile.FieldType.int) 1 := ⟨wd_803, wd_78, by decide, by decide +kernel⟩
theorem d_P_write_0 : decode k_P_write 0 = .ok (.aload_n 0, 1) := by decide +kernel
theorem d_P_write_1 : decode k_P_write 1 = .ok (.iload_n 1, 1) := by decide +kernel
theorem d_P_write_2 : decode k_P_write 2 = .ok (.invokevirtual 83, 3) := by decide +kernel
theorem d_P_write_5 : decode k_P_write 5 = .ok (.astore_n 2, 1) := by decide +kernel
theorem d_P_write_6 : decode k_P_write 6 = .ok (.aload_n 2, 1) := by decide +kernel
theorem d_P_write_7 : decode k_P_write 7 = .ok (.getfield 102, 3) := by decide +kernel
theorem d_P_write_10 : decode k_P_write 10 = .ok (.iconst 4, 1) := by decide +kernel
theorem d_P_write_11 : decode k_P_write 11 = .ok (.if_icmp .eq 22, 3) := by decide +kernel
theorem d_P_write_14 : decode k_P_write 14 = .ok (.aload_n 2, 1) := by decide +kernel
theorem d_P_write_15 : decode k_P_write 15 = .ok (.getfield 102, 3) := by decide +kernel
theorem d_P_write_18 : decode k_P_write 18 = .ok (.bipush 7, 2) := by decide +kernel
theorem d_P_write_20 : decode k_P_write 20 = .ok (.if_icmp .eq 13, 3) := by decide +kernel
theorem d_P_write_23 : decode k_P_write 23 = .ok (.new 47, 3) := by decide +kernel
theorem d_P_write_26 : decode k_P_write 26 = .ok (.dup, 1) := by decide +kernel
theorem d_P_write_27 : decode k_P_write 27 = .ok (.ldc 105, 2) := by decide +kernel
theorem d_P_write_29 : decode k_P_write 29 = .ok (.invokespecial 51, 3) := by decide +kernel
theorem d_P_write_32 : decode k_P_write 32 = .ok (.athrow, 1) := by decide +kernel
theorem d_P_write_33 : decode k_P_write 33 = .ok (.aload_n 2, 1) := by decide +kernel
theorem d_P_write_34 : decode k_P_write 34 = .ok (.getfield 107, 3) := by decide +kernel
theorem d_P_write_37 : decode k_P_write 37 = .ok (.getfield 111, 3) := by decide +kernel
theorem d_P_write_40 : decode k_P_write 40 = .ok (.ldc 116, 2) := by decide +kernel
theorem d_P_write_42 : decode k_P_write 42 = .ok (.if_icmp .le 13, 3) := by decide +kernel
theorem d_P_write_45 : decode k_P_write 45 = .ok (.new 117, 3) := by decide +kernel
theorem d_P_write_48 : decode k_P_write 48 = .ok (.dup, 1) := by decide +kernel
theorem d_P_write_49 : decode k_P_write 49 = .ok (.ldc 119, 2) := by decide +kernel
theorem d_P_write_51 : decode k_P_write 51 = .ok (.invokespecial 121, 3) := by decide +kernel
theorem d_P_write_54 : decode k_P_write 54 = .ok (.athrow, 1) := by decide +kernel
theorem d_P_write_55 : decode k_P_write 55 = .ok (.aload_n 0, 1) := by decide +kernel
theorem d_P_write_56 : decode k_P_write 56 = .ok (.getfield 10, 3) := by decide +kernel
theorem d_P_write_59 : decode k_P_write 59 = .ok (.getfield 42, 3) := by decide +kernel
theorem d_P_write_62 : decode k_P_write 62 = .ok (.istore_n 3, 1) := by decide +kernel
theorem d_P_write_63 : decode k_P_write 63 = .ok (.aload_n 2, 1) := by decide +kernel
theorem d_P_write_64 : decode k_P_write 64 = .ok (.getfield 107, 3) := by decide +kernel
theorem d_P_write_67 : decode k_P_write 67 = .ok (.aload_n 0, 1) := by decide +kernel
theorem d_P_write_68 : decode k_P_write 68 = .ok (.getfield 10, 3) := by decide +kernel
theorem d_P_write_71 : decode k_P_write 71 = .ok (.getfield 122, 3) := by decide +kernel
theorem d_P_write_74 : decode k_P_write 74 = .ok (.iload_n 3, 1) := by decide +kernel
theorem d_P_write_75 : decode k_P_write 75 = .ok (.invokevirtual 126, 3) := by decide +kernel
theorem d_P_write_78 : decode k_P_write 78 = .ok (.aload_n 0, 1) := by decide +kernel
theorem d_P_write_79 : decode k_P_write 79 = .ok (.getfield 10, 3) := by decide +kernel
theorem d_P_write_82 : decode k_P_write 82 = .ok (.iconst 0, 1) := by decide +kernel
theorem d_P_write_83 : decode k_P_write 83 = .ok (.putfield 42, 3) := by decide +kernel
theorem d_P_write_86 : decode k_P_write 86 = .ok (.aload_n 2, 1) := by decide +kernel
theorem d_P_write_87 : decode k_P_write 87 = .ok (.invokevirtual 130, 3) := by decide +kernel
theorem d_P_write_90 : decode k_P_write 90 = .ok (.pop, 1) := by decide +kernel
theorem d_P_write_91 : decode k_P_write 91 = .ok (.iload_n 3, 1) := by decide +kernel
theorem d_P_write_92 : decode k_P_write 92 = .ok (.ireturn, 1) := by decide +kernel
def b_P_write_33 (v2 : Nat) (σ : CS) : Option ((Nat ⊕ Int32) × CS) :=
  bd (cI σ (v2 + 1) 2) fun x1 => if x1 ≤ (131072 : Int32) then
  (bd (cI σ 1 1) fun x2 => bc (cR σ 1 0) fun a3 => bc (m_U_add (v2 + 1) a3 x2 σ) fun r4 => bd (wi r4 1 1 (0 : Int32)) fun r5 => bc2 (m_E_output v2 r5) fun x7 r6 => some (.inr x2, r6))
 else
  (gd (cX σ + 1 ≤ 601024 ∧ cU σ + 6 ≤ 7293034) <| some (.inl 4, wa σ 0 0 6))
def m_P_write (v1 : Int32) (σ : CS) : Option ((Nat ⊕ Int32) × CS) :=
  bcn (n_P_sideOf v1 σ) σ fun x1 => gd (x1 = 7 ∨ x1 = 14) <| bd (cI σ x1 8) fun x2 => if x2 = (4 : Int32) then
  (b_P_write_33 x1 σ)
 else
  (bd (cI σ x1 8) fun x3 => if x3 = (7 : Int32) then
  (b_P_write_33 x1 σ)
 else
  (gd (cX σ + 1 ≤ 601024 ∧ cU σ + 6 ≤ 7293034) <| some (.inl 1, wa σ 0 0 6)))
section
variable {p : Program} {l : Launch} {e : Env} {s : State} {m : MethodId} {args : Array Value} {below : List Frame} {meth : Method} {c : Code} {D : va_G} {tc : Nat → ClassId} {b z : Nat} {σ0 : CS}
theorem t_P_write_33 {v2 : Nat} (S : CC p m c k_P_write 4 s args cn_P meth (Option.some Jvm.ClassFile.FieldType.int) D tc b z) (hT : TK b s) (hfl : l.flags = flags0) (hex : c.exceptionTable.toList = []) (hk_v2 : v2 = 7 ∨ v2 = 14) (v2_ : Nat) (σ : CS) {B : (Nat ⊕ Int32) × CS} (h : b_P_write_33 v2 σ = some B) {ls : Array Slot} (hl : lv_has ls 4 [(0, .ref (b + 0)), (2, .ref (b + v2))]) (hW : CWS D tc b z s σ σ s.heap [] 0 0) : W p l e (CR 12 294 σ) s m args below meth c s.heap [] 0 0 (PQ D tc b z below args s σ (fun x => some (.int x)) B) (F0 m 33 ls []) := by
  have hx := S.1.1
  have hb := S.1.2.1
  unfold b_P_write_33 at h
  refine lv_aload_n hx hb d_P_write_33 rfl (lv_at hl 1 rfl) ?_
  refine cm_getf kx_E S hW (kE hk_v2) 3 (v2 + 1) rfl wd_354 (by decide) d_P_write_34 ?_
  refine cm_geti kx_U S hW (kEU hk_v2) 2 wd_201 (by decide) d_P_write_37 h (fun x1 h => ?_)
  refine lv_ldc hx hb S.1.2.2.2.1 (S.1.2.2.2.2 _ (gi wd_805 rfl)) d_P_write_40 ?_
  refine rc_le (tgt := 55) hx hb d_P_write_42 (by decide) h (fun h => ?_) (fun h => ?_)
  · refine lv_aload_n hx hb d_P_write_55 rfl (lv_at hl 0 rfl) ?_
    refine cm_getf kx_P S hW rfl 0 (1) rfl wd_399 (by decide) d_P_write_56 ?_
    refine cm_geti kx_T S hW rfl 1 wd_123 (by decide) d_P_write_59 h (fun x2 h => ?_)
    refine lv_istore_n (lv' := [(3, .int x2), (0, .ref (b + 0)), (2, .ref (b + v2))]) hx hb d_P_write_62 rfl hl (by decide) rfl (fun ls hl => ?_)
    refine lv_aload_n hx hb d_P_write_63 rfl (lv_at hl 2 rfl) ?_
    refine cm_getf kx_E S hW (kE hk_v2) 3 (v2 + 1) rfl wd_354 (by decide) d_P_write_64 ?_
    refine lv_aload_n hx hb d_P_write_67 rfl (lv_at hl 1 rfl) ?_
    refine cm_getf kx_P S hW rfl 0 (1) rfl wd_399 (by decide) d_P_write_68 ?_
    refine cm_getr kx_T S hW rfl 0 wd_121 (by decide) d_P_write_71 h (fun a3 h => ?_)
    refine lv_iload_n hx hb d_P_write_74 rfl (lv_at hl 0 rfl) ?_
    refine cm_cVv [.ref (b + a3), .int x2] kx_U S hW (kEU hk_v2) (fun σ' hc => c_U_add (v2 + 1) a3 x2 σ hc) q_U_add wd_823 wd_824 wd_822 (by decide) hl.1 rfl rfl (Nat.le_of_ble_eq_true rfl) d_P_write_75 h (fun r4 H locs cells slots h hW => ?_)
    refine lv_aload_n hx hb d_P_write_78 rfl (lv_at hl 1 rfl) ?_
    refine cm_getf kx_P S hW rfl 0 (1) rfl wd_399 (by decide) d_P_write_79 ?_
    refine lv_iconst (v := 0) hx hb d_P_write_82 (by decide) ?_
    refine cm_puti kx_T S hW rfl 1 wd_123 (by decide) d_P_write_83 h (fun r5 H locs h hW => ?_)
    refine lv_aload_n hx hb d_P_write_86 rfl (lv_at hl 2 rfl) ?_
    refine cm_cVi [] kx_E S hW (kE hk_v2) (fun x σ' hc => c_E_output v2 r5 hc) q_E_output wd_832 wd_833 wd_831 (by decide) hl.1 rfl rfl (Nat.le_of_ble_eq_true rfl) d_P_write_87 h (fun x7 r6 H locs cells slots h hW => ?_)
    refine lv_pop hx hb d_P_write_90 rfl ?_
    refine lv_iload_n hx hb d_P_write_91 rfl (lv_at hl 0 rfl) ?_
    exact pr_i S hW d_P_write_92 h
  · refine xm_new (k := 4) (by decide) S hW d_P_write_45 h (fun H1 cC kC h hfc hkC hcell => ?_)
    refine lv_dup hx hb d_P_write_48 rfl ?_
    obtain ⟨q9, hq9⟩ := hT.2.2.2.2.2 (119, "too many bytes wait") (by decide)
    refine va_ldcS hx hb S.1.2.2.2.1 hq9 d_P_write_49 ?_
    cases h
    exact xm_end (k := 4) (by decide) S hT hfl hex hfc hkC hcell hl.1 (by decide) (by decide) d_P_write_51 d_P_write_54
theorem t_P_write_0 (S : CC p m c k_P_write 4 s args cn_P meth (Option.some Jvm.ClassFile.FieldType.int) D tc b z) (hT : TK b s) (hfl : l.flags = flags0) (hex : c.exceptionTable.toList = []) (v1 : Int32) (σ : CS) {B : (Nat ⊕ Int32) × CS} (h : m_P_write v1 σ = some B) {ls : Array Slot} (hl : lv_has ls 4 [(0, .ref (b + 0)), (1, .int v1)]) (hW : CWS D tc b z s σ σ s.heap [] 0 0) : W p l e (CR 12 294 σ) s m args below meth c s.heap [] 0 0 (PQ D tc b z below args s σ (fun x => some (.int x)) B) (F0 m 0 ls []) := by
  have hx := S.1.1
  have hb := S.1.2.1
  unfold m_P_write at h
  refine lv_aload_n hx hb d_P_write_0 rfl (lv_at hl 0 rfl) ?_
  refine lv_iload_n hx hb d_P_write_1 rfl (lv_at hl 1 rfl) ?_
  refine pm_look (As := [.int v1]) S hT hex hW (fun j hc => cyx_P_sideOf v1 σ hfl hc) (fun x hc => cyr_P_sideOf v1 σ hfl hc) q_P_sideOf wd_776 wd_8 wd_774 (by decide) hl.1 rfl rfl (Nat.le_of_ble_eq_true rfl) d_P_write_2 h (fun x1 h => ?_)
  obtain ⟨hk_x1, h⟩ := gd_s h
  refine lv_astore_n (lv' := [(2, .ref (b + x1)), (0, .ref (b + 0)), (1, .int v1)]) hx hb d_P_write_5 rfl hl (by decide) rfl (fun ls hl => ?_)
  refine lv_aload_n hx hb d_P_write_6 rfl (lv_at hl 0 rfl) ?_
  refine cm_geti kx_E S hW (kE hk_x1) 8 wd_363 (by decide) d_P_write_7 h (fun x2 h => ?_)
  refine lv_iconst (v := 4) hx hb d_P_write_10 (by decide) ?_
  refine rc_eq (tgt := 33) hx hb d_P_write_11 (by decide) h (fun h => ?_) (fun h => ?_)
  · exact t_P_write_33 S hT hfl hex hk_x1 x1 σ h (lv_sub hl [1, 0] rfl) hW
  · refine lv_aload_n hx hb d_P_write_14 rfl (lv_at hl 0 rfl) ?_
    refine cm_geti kx_E S hW (kE hk_x1) 8 wd_363 (by decide) d_P_write_15 h (fun x3 h => ?_)
    refine lv_bipush (v := 7) hx hb d_P_write_18 (by decide) ?_
    refine rc_eq (tgt := 33) hx hb d_P_write_20 (by decide) h (fun h => ?_) (fun h => ?_)
    · exact t_P_write_33 S hT hfl hex hk_x1 x1 σ h (lv_sub hl [1, 0] rfl) hW
    · refine xm_new (k := 1) (by decide) S hW d_P_write_23 h (fun H1 cC kC h hfc hkC hcell => ?_)
      refine lv_dup hx hb d_P_write_26 rfl ?_
      obtain ⟨q9, hq9⟩ := hT.2.2.2.2.2 (105, "not a state to write in") (by decide)
      refine va_ldcS hx hb S.1.2.2.2.1 hq9 d_P_write_27 ?_
      cases h
      exact xm_end (k := 1) (by decide) S hT hfl hex hfc hkC hcell hl.1 (by decide) (by decide) d_P_write_29 d_P_write_32
theorem cx_P_write (v1 : Int32) (σ : CS) (hfl : l.flags = flags0) {j : Nat} {σ' : CS} (h : m_P_write v1 σ = some (.inl j, σ')) : XMet l D tc b z y_P_write k_P_write 4 (Option.some Jvm.ClassFile.FieldType.int) 12 294 [.ref (b + 0), .int v1] σ j := xm_met (by decide) (Nat.le_of_ble_eq_true rfl) fun p e s m args below meth c S hT hex hW ls hl => t_P_write_0 S hT hfl hex v1 σ h hl hW
theorem cr_P_write (v1 : Int32) (σ : CS) (hfl : l.flags = flags0) {x : Int32} {σ' : CS} (h : m_P_write v1 σ = some (.inr x, σ')) : PMet l D tc b z y_P_write k_P_write 4 (Option.some Jvm.ClassFile.FieldType.int) 12 294 [.ref (b + 0), .int v1] σ (some (.int x)) σ' := pm_met (by decide) (Nat.le_of_ble_eq_true rfl) fun p e s m args below meth c S hT hex hW ls hl => t_P_write_0 S hT hfl hex v1 σ h hl hW
end

/-! StreamPair.read (II)J -/
abbrev k_P_read : ByteArray := prog_1_method_7_code
abbrev y_P_read : MethodName := ⟨cn_P, "read", "(II)J"⟩
theorem q_P_read : Calee y_P_read k_P_read 6 (Option.some Jvm.ClassFile.FieldType.long) 2 := ⟨wd_863, wd_78, by decide, by decide +kernel⟩
theorem d_P_read_0 : decode k_P_read 0 = .ok (.aload_n 0, 1) := by decide +kernel
theorem d_P_read_1 : decode k_P_read 1 = .ok (.iload_n 1, 1) := by decide +kernel
theorem d_P_read_2 : decode k_P_read 2 = .ok (.invokevirtual 83, 3) := by decide +kernel
theorem d_P_read_5 : decode k_P_read 5 = .ok (.astore_n 3, 1) := by decide +kernel
theorem d_P_read_6 : decode k_P_read 6 = .ok (.iload_n 2, 1) := by decide +kernel
theorem d_P_read_7 : decode k_P_read 7 = .ok (.iconst 1, 1) := by decide +kernel
theorem d_P_read_8 : decode k_P_read 8 = .ok (.if_icmp .lt 9, 3) := by decide +kernel
theorem d_P_read_11 : decode k_P_read 11 = .ok (.iload_n 2, 1) := by decide +kernel
theorem d_P_read_12 : decode k_P_read 12 = .ok (.bipush 7, 2) := by decide +kernel
theorem d_P_read_14 : decode k_P_read 14 = .ok (.if_icmp .le 13, 3) := by decide +kernel
theorem d_P_read_17 : decode k_P_read 17 = .ok (.new 58, 3) := by decide +kernel
theorem d_P_read_20 : decode k_P_read 20 = .ok (.dup, 1) := by decide +kernel
theorem d_P_read_21 : decode k_P_read 21 = .ok (.ldc 134, 2) := by decide +kernel
theorem d_P_read_23 : decode k_P_read 23 = .ok (.invokespecial 62, 3) := by decide +kernel
theorem d_P_read_26 : decode k_P_read 26 = .ok (.athrow, 1) := by decide +kernel
theorem d_P_read_27 : decode k_P_read 27 = .ok (.aload_n 3, 1) := by decide +kernel
theorem d_P_read_28 : decode k_P_read 28 = .ok (.getfield 88, 3) := by decide +kernel
theorem d_P_read_31 : decode k_P_read 31 = .ok (.getfield 136, 3) := by decide +kernel
theorem d_P_read_34 : decode k_P_read 34 = .ok (.ifCond .ne 23, 3) := by decide +kernel
theorem d_P_read_37 : decode k_P_read 37 = .ok (.aload_n 3, 1) := by decide +kernel
theorem d_P_read_38 : decode k_P_read 38 = .ok (.getfield 88, 3) := by decide +kernel
theorem d_P_read_41 : decode k_P_read 41 = .ok (.getfield 139, 3) := by decide +kernel
theorem d_P_read_44 : decode k_P_read 44 = .ok (.ifCond .eq 13, 3) := by decide +kernel
theorem d_P_read_47 : decode k_P_read 47 = .ok (.new 47, 3) := by decide +kernel
theorem d_P_read_50 : decode k_P_read 50 = .ok (.dup, 1) := by decide +kernel
theorem d_P_read_51 : decode k_P_read 51 = .ok (.ldc 143, 2) := by decide +kernel
theorem d_P_read_53 : decode k_P_read 53 = .ok (.invokespecial 51, 3) := by decide +kernel
theorem d_P_read_56 : decode k_P_read 56 = .ok (.athrow, 1) := by decide +kernel
theorem d_P_read_57 : decode k_P_read 57 = .ok (.aload_n 3, 1) := by decide +kernel
theorem d_P_read_58 : decode k_P_read 58 = .ok (.getfield 88, 3) := by decide +kernel
theorem d_P_read_61 : decode k_P_read 61 = .ok (.getfield 136, 3) := by decide +kernel
theorem d_P_read_64 : decode k_P_read 64 = .ok (.ifCond .ne 20, 3) := by decide +kernel
theorem d_P_read_67 : decode k_P_read 67 = .ok (.aload_n 3, 1) := by decide +kernel
theorem d_P_read_68 : decode k_P_read 68 = .ok (.getfield 145, 3) := by decide +kernel
theorem d_P_read_71 : decode k_P_read 71 = .ok (.ifCond .eq 13, 3) := by decide +kernel
theorem d_P_read_74 : decode k_P_read 74 = .ok (.new 117, 3) := by decide +kernel
theorem d_P_read_77 : decode k_P_read 77 = .ok (.dup, 1) := by decide +kernel
theorem d_P_read_78 : decode k_P_read 78 = .ok (.ldc 148, 2) := by decide +kernel
theorem d_P_read_80 : decode k_P_read 80 = .ok (.invokespecial 121, 3) := by decide +kernel
theorem d_P_read_83 : decode k_P_read 83 = .ok (.athrow, 1) := by decide +kernel
theorem d_P_read_84 : decode k_P_read 84 = .ok (.aload_n 3, 1) := by decide +kernel
theorem d_P_read_85 : decode k_P_read 85 = .ok (.getfield 88, 3) := by decide +kernel
theorem d_P_read_88 : decode k_P_read 88 = .ok (.iload_n 2, 1) := by decide +kernel
theorem d_P_read_89 : decode k_P_read 89 = .ok (.invokevirtual 150, 3) := by decide +kernel
theorem d_P_read_92 : decode k_P_read 92 = .ok (.lstore 4, 2) := by decide +kernel
theorem d_P_read_94 : decode k_P_read 94 = .ok (.aload_n 3, 1) := by decide +kernel
theorem d_P_read_95 : decode k_P_read 95 = .ok (.invokevirtual 154, 3) := by decide +kernel
theorem d_P_read_98 : decode k_P_read 98 = .ok (.lload 4, 2) := by decide +kernel
theorem d_P_read_100 : decode k_P_read 100 = .ok (.lreturn, 1) := by decide +kernel
def b_P_read_84 (v2 : Int32) (v3 : Nat) (σ : CS) : Option ((Nat ⊕ Int64) × CS) :=
  bc2 (m_V_takeUnread (v3 + 3) v2 σ) fun x2 r1 => bc (m_E_tellOpenedWindow v3 r1) fun r3 => some (.inr x2, r3)
def b_P_read_57 (v2 : Int32) (v3 : Nat) (σ : CS) : Option ((Nat ⊕ Int64) × CS) :=
  bd (cI σ (v3 + 3) 4) fun x1 => if x1 = 0 then
  (bd (cI σ v3 9) fun x2 => if x2 = 0 then
  (b_P_read_84 v2 v3 σ)
 else
  (gd (cX σ + 1 ≤ 601024 ∧ cU σ + 6 ≤ 7293034) <| some (.inl 4, wa σ 0 0 6)))
 else
  (b_P_read_84 v2 v3 σ)
def b_P_read_17 (σ : CS) : Option ((Nat ⊕ Int64) × CS) :=
  gd (cX σ + 1 ≤ 601024 ∧ cU σ + 6 ≤ 7293034) <| some (.inl 2, wa σ 0 0 6)
def m_P_read (v1 : Int32) (v2 : Int32) (σ : CS) : Option ((Nat ⊕ Int64) × CS) :=
  bcn (n_P_sideOf v1 σ) σ fun x1 => gd (x1 = 7 ∨ x1 = 14) <| if v2 < (1 : Int32) then
  (b_P_read_17  σ)
 else
  (if v2 ≤ (7 : Int32) then
  (bd (cI σ (x1 + 3) 4) fun x2 => if x2 = 0 then
  (bd (cI σ (x1 + 3) 3) fun x3 => if x3 = 0 then
  (b_P_read_57 v2 x1 σ)
 else
  (gd (cX σ + 1 ≤ 601024 ∧ cU σ + 6 ≤ 7293034) <| some (.inl 1, wa σ 0 0 6)))
 else
  (b_P_read_57 v2 x1 σ))
 else
  (b_P_read_17  σ))
section
variable {p : Program} {l : Launch} {e : Env} {s : State} {m : MethodId} {args : Array Value} {below : List Frame} {meth : Method} {c : Code} {D : va_G} {tc : Nat → ClassId} {b z : Nat} {σ0 : CS}
theorem t_P_read_84 {v3 : Nat} (S : CC p m c k_P_read 6 s args cn_P meth (Option.some Jvm.ClassFile.FieldType.long) D tc b z) (hT : TK b s) (hfl : l.flags = flags0) (hex : c.exceptionTable.toList = []) (hk_v3 : v3 = 7 ∨ v3 = 14) (v2 : Int32) (v3_ : Nat) (σ : CS) {B : (Nat ⊕ Int64) × CS} (h : b_P_read_84 v2 v3 σ = some B) {ls : Array Slot} (hl : lv_has ls 6 [(2, .int v2), (3, .ref (b + v3))]) (hW : CWS D tc b z s σ σ s.heap [] 0 0) : W p l e (CR 12 288 σ) s m args below meth c s.heap [] 0 0 (PQ D tc b z below args s σ (fun x => some (.long x)) B) (F0 m 84 ls []) := by
  have hx := S.1.1
  have hb := S.1.2.1
  unfold b_P_read_84 at h
  refine lv_aload_n hx hb d_P_read_84 rfl (lv_at hl 1 rfl) ?_
  refine cm_getf kx_E S hW (kE hk_v3) 4 (v3 + 3) rfl wd_356 (by decide) d_P_read_85 ?_
  refine lv_iload_n hx hb d_P_read_88 rfl (lv_at hl 0 rfl) ?_
  refine cm_cVl [.int v2] kx_V S hW (kEV hk_v3) (fun x σ' hc => c_V_takeUnread (v3 + 3) v2 σ hc) q_V_takeUnread wd_868 wd_869 wd_867 (by decide) hl.1 rfl rfl (Nat.le_of_ble_eq_true rfl) d_P_read_89 h (fun x2 r1 H locs cells slots h hW => ?_)
  refine lv_lstore (lv' := [(4, .long x2), (2, .int v2), (3, .ref (b + v3))]) hx hb d_P_read_92 hl (by decide) rfl (fun ls hl => ?_)
  refine lv_aload_n hx hb d_P_read_94 rfl (lv_at hl 2 rfl) ?_
  refine cm_cVv [] kx_E S hW (kE hk_v3) (fun σ' hc => c_E_tellOpenedWindow v3 r1 hc) q_E_tellOpenedWindow wd_873 wd_874 wd_872 (by decide) hl.1 rfl rfl (Nat.le_of_ble_eq_true rfl) d_P_read_95 h (fun r3 H locs cells slots h hW => ?_)
  refine lv_lload hx hb d_P_read_98 (lv_at hl 0 rfl) ?_
  exact pr_l S hW d_P_read_100 h
theorem t_P_read_57 {v3 : Nat} (S : CC p m c k_P_read 6 s args cn_P meth (Option.some Jvm.ClassFile.FieldType.long) D tc b z) (hT : TK b s) (hfl : l.flags = flags0) (hex : c.exceptionTable.toList = []) (hk_v3 : v3 = 7 ∨ v3 = 14) (v2 : Int32) (v3_ : Nat) (σ : CS) {B : (Nat ⊕ Int64) × CS} (h : b_P_read_57 v2 v3 σ = some B) {ls : Array Slot} (hl : lv_has ls 6 [(2, .int v2), (3, .ref (b + v3))]) (hW : CWS D tc b z s σ σ s.heap [] 0 0) : W p l e (CR 12 288 σ) s m args below meth c s.heap [] 0 0 (PQ D tc b z below args s σ (fun x => some (.long x)) B) (F0 m 57 ls []) := by
  have hx := S.1.1
  have hb := S.1.2.1
  unfold b_P_read_57 at h
  refine lv_aload_n hx hb d_P_read_57 rfl (lv_at hl 1 rfl) ?_
  refine cm_getf kx_E S hW (kE hk_v3) 4 (v3 + 3) rfl wd_356 (by decide) d_P_read_58 ?_
  refine cm_geti kx_V S hW (kEV hk_v3) 4 wd_259 (by decide) d_P_read_61 h (fun x1 h => ?_)
  refine rb_ne (tgt := 84) hx hb d_P_read_64 (by decide) h (fun h => ?_) (fun h => ?_)
  · exact t_P_read_84 S hT hfl hex hk_v3 v2 v3 σ h (lv_sub hl [0, 1] rfl) hW
  · refine lv_aload_n hx hb d_P_read_67 rfl (lv_at hl 1 rfl) ?_
    refine cm_geti kx_E S hW (kE hk_v3) 9 wd_365 (by decide) d_P_read_68 h (fun x2 h => ?_)
    refine rb_eq (tgt := 84) hx hb d_P_read_71 (by decide) h (fun h => ?_) (fun h => ?_)
    · exact t_P_read_84 S hT hfl hex hk_v3 v2 v3 σ h (lv_sub hl [0, 1] rfl) hW
    · refine xm_new (k := 4) (by decide) S hW d_P_read_74 h (fun H1 cC kC h hfc hkC hcell => ?_)
      refine lv_dup hx hb d_P_read_77 rfl ?_
      obtain ⟨q9, hq9⟩ := hT.2.2.2.2.2 (148, "the stream was broken off") (by decide)
      refine va_ldcS hx hb S.1.2.2.2.1 hq9 d_P_read_78 ?_
      cases h
      exact xm_end (k := 4) (by decide) S hT hfl hex hfc hkC hcell hl.1 (by decide) (by decide) d_P_read_80 d_P_read_83
theorem t_P_read_17 (S : CC p m c k_P_read 6 s args cn_P meth (Option.some Jvm.ClassFile.FieldType.long) D tc b z) (hT : TK b s) (hfl : l.flags = flags0) (hex : c.exceptionTable.toList = []) (σ : CS) {B : (Nat ⊕ Int64) × CS} (h : b_P_read_17  σ = some B) {ls : Array Slot} (hl : lv_has ls 6 []) (hW : CWS D tc b z s σ σ s.heap [] 0 0) : W p l e (CR 12 288 σ) s m args below meth c s.heap [] 0 0 (PQ D tc b z below args s σ (fun x => some (.long x)) B) (F0 m 17 ls []) := by
  have hx := S.1.1
  have hb := S.1.2.1
  unfold b_P_read_17 at h
  refine xm_new (k := 2) (by decide) S hW d_P_read_17 h (fun H1 cC kC h hfc hkC hcell => ?_)
  refine lv_dup hx hb d_P_read_20 rfl ?_
  obtain ⟨q9, hq9⟩ := hT.2.2.2.2.2 (134, "not 1 to 7 bytes") (by decide)
  refine va_ldcS hx hb S.1.2.2.2.1 hq9 d_P_read_21 ?_
  cases h
  exact xm_end (k := 2) (by decide) S hT hfl hex hfc hkC hcell hl.1 (by decide) (by decide) d_P_read_23 d_P_read_26
theorem t_P_read_0 (S : CC p m c k_P_read 6 s args cn_P meth (Option.some Jvm.ClassFile.FieldType.long) D tc b z) (hT : TK b s) (hfl : l.flags = flags0) (hex : c.exceptionTable.toList = []) (v1 : Int32) (v2 : Int32) (σ : CS) {B : (Nat ⊕ Int64) × CS} (h : m_P_read v1 v2 σ = some B) {ls : Array Slot} (hl : lv_has ls 6 [(0, .ref (b + 0)), (1, .int v1), (2, .int v2)]) (hW : CWS D tc b z s σ σ s.heap [] 0 0) : W p l e (CR 12 288 σ) s m args below meth c s.heap [] 0 0 (PQ D tc b z below args s σ (fun x => some (.long x)) B) (F0 m 0 ls []) := by
  have hx := S.1.1
  have hb := S.1.2.1
  unfold m_P_read at h
  refine lv_aload_n hx hb d_P_read_0 rfl (lv_at hl 0 rfl) ?_
  refine lv_iload_n hx hb d_P_read_1 rfl (lv_at hl 1 rfl) ?_
  refine pm_look (As := [.int v1]) S hT hex hW (fun j hc => cyx_P_sideOf v1 σ hfl hc) (fun x hc => cyr_P_sideOf v1 σ hfl hc) q_P_sideOf wd_776 wd_8 wd_774 (by decide) hl.1 rfl rfl (Nat.le_of_ble_eq_true rfl) d_P_read_2 h (fun x1 h => ?_)
  obtain ⟨hk_x1, h⟩ := gd_s h
  refine lv_astore_n (lv' := [(3, .ref (b + x1)), (0, .ref (b + 0)), (1, .int v1), (2, .int v2)]) hx hb d_P_read_5 rfl hl (by decide) rfl (fun ls hl => ?_)
  refine lv_iload_n hx hb d_P_read_6 rfl (lv_at hl 3 rfl) ?_
  refine lv_iconst (v := 1) hx hb d_P_read_7 (by decide) ?_
  refine rc_lt (tgt := 17) hx hb d_P_read_8 (by decide) h (fun h => ?_) (fun h => ?_)
  · exact t_P_read_17 S hT hfl hex  σ h (lv_sub hl [] rfl) hW
  · refine lv_iload_n hx hb d_P_read_11 rfl (lv_at hl 3 rfl) ?_
    refine lv_bipush (v := 7) hx hb d_P_read_12 (by decide) ?_
    refine rc_le (tgt := 27) hx hb d_P_read_14 (by decide) h (fun h => ?_) (fun h => ?_)
    · refine lv_aload_n hx hb d_P_read_27 rfl (lv_at hl 0 rfl) ?_
      refine cm_getf kx_E S hW (kE hk_x1) 4 (x1 + 3) rfl wd_356 (by decide) d_P_read_28 ?_
      refine cm_geti kx_V S hW (kEV hk_x1) 4 wd_259 (by decide) d_P_read_31 h (fun x2 h => ?_)
      refine rb_ne (tgt := 57) hx hb d_P_read_34 (by decide) h (fun h => ?_) (fun h => ?_)
      · exact t_P_read_57 S hT hfl hex hk_x1 v2 x1 σ h (lv_sub hl [3, 0] rfl) hW
      · refine lv_aload_n hx hb d_P_read_37 rfl (lv_at hl 0 rfl) ?_
        refine cm_getf kx_E S hW (kE hk_x1) 4 (x1 + 3) rfl wd_356 (by decide) d_P_read_38 ?_
        refine cm_geti kx_V S hW (kEV hk_x1) 3 wd_257 (by decide) d_P_read_41 h (fun x3 h => ?_)
        refine rb_eq (tgt := 57) hx hb d_P_read_44 (by decide) h (fun h => ?_) (fun h => ?_)
        · exact t_P_read_57 S hT hfl hex hk_x1 v2 x1 σ h (lv_sub hl [3, 0] rfl) hW
        · refine xm_new (k := 1) (by decide) S hW d_P_read_47 h (fun H1 cC kC h hfc hkC hcell => ?_)
          refine lv_dup hx hb d_P_read_50 rfl ?_
          obtain ⟨q9, hq9⟩ := hT.2.2.2.2.2 (143, "the stream has ended") (by decide)
          refine va_ldcS hx hb S.1.2.2.2.1 hq9 d_P_read_51 ?_
          cases h
          exact xm_end (k := 1) (by decide) S hT hfl hex hfc hkC hcell hl.1 (by decide) (by decide) d_P_read_53 d_P_read_56
    · exact t_P_read_17 S hT hfl hex  σ h (lv_sub hl [] rfl) hW
theorem cx_P_read (v1 : Int32) (v2 : Int32) (σ : CS) (hfl : l.flags = flags0) {j : Nat} {σ' : CS} (h : m_P_read v1 v2 σ = some (.inl j, σ')) : XMet l D tc b z y_P_read k_P_read 6 (Option.some Jvm.ClassFile.FieldType.long) 12 288 [.ref (b + 0), .int v1, .int v2] σ j := xm_met (by decide) (Nat.le_of_ble_eq_true rfl) fun p e s m args below meth c S hT hex hW ls hl => t_P_read_0 S hT hfl hex v1 v2 σ h hl hW
theorem cr_P_read (v1 : Int32) (v2 : Int32) (σ : CS) (hfl : l.flags = flags0) {x : Int64} {σ' : CS} (h : m_P_read v1 v2 σ = some (.inr x, σ')) : PMet l D tc b z y_P_read k_P_read 6 (Option.some Jvm.ClassFile.FieldType.long) 12 288 [.ref (b + 0), .int v1, .int v2] σ (some (.long x)) σ' := pm_met (by decide) (Nat.le_of_ble_eq_true rfl) fun p e s m args below meth c S hT hex hW ls hl => t_P_read_0 S hT hfl hex v1 v2 σ h hl hW
end

/-! StreamPair.close (I)I -/
abbrev k_P_close : ByteArray := prog_1_method_8_code
abbrev y_P_close : MethodName := ⟨cn_P, "close", "(I)I"⟩
theorem q_P_close : Calee y_P_close k_P_close 3 (Option.some Jvm.ClassFile.FieldType.int) 1 := ⟨wd_892, wd_78, by decide, by decide +kernel⟩
theorem d_P_close_0 : decode k_P_close 0 = .ok (.aload_n 0, 1) := by decide +kernel
theorem d_P_close_1 : decode k_P_close 1 = .ok (.iload_n 1, 1) := by decide +kernel
theorem d_P_close_2 : decode k_P_close 2 = .ok (.invokevirtual 83, 3) := by decide +kernel
theorem d_P_close_5 : decode k_P_close 5 = .ok (.astore_n 2, 1) := by decide +kernel
theorem d_P_close_6 : decode k_P_close 6 = .ok (.aload_n 2, 1) := by decide +kernel
theorem d_P_close_7 : decode k_P_close 7 = .ok (.invokevirtual 157, 3) := by decide +kernel
theorem d_P_close_10 : decode k_P_close 10 = .ok (.ifCond .ne 13, 3) := by decide +kernel
theorem d_P_close_13 : decode k_P_close 13 = .ok (.new 47, 3) := by decide +kernel
theorem d_P_close_16 : decode k_P_close 16 = .ok (.dup, 1) := by decide +kernel
theorem d_P_close_17 : decode k_P_close 17 = .ok (.ldc 160, 2) := by decide +kernel
theorem d_P_close_19 : decode k_P_close 19 = .ok (.invokespecial 51, 3) := by decide +kernel
theorem d_P_close_22 : decode k_P_close 22 = .ok (.athrow, 1) := by decide +kernel
theorem d_P_close_23 : decode k_P_close 23 = .ok (.aload_n 2, 1) := by decide +kernel
theorem d_P_close_24 : decode k_P_close 24 = .ok (.invokevirtual 162, 3) := by decide +kernel
theorem d_P_close_27 : decode k_P_close 27 = .ok (.aload_n 2, 1) := by decide +kernel
theorem d_P_close_28 : decode k_P_close 28 = .ok (.getfield 102, 3) := by decide +kernel
theorem d_P_close_31 : decode k_P_close 31 = .ok (.ireturn, 1) := by decide +kernel
def m_P_close (v1 : Int32) (σ : CS) : Option ((Nat ⊕ Int32) × CS) :=
  bcn (n_P_sideOf v1 σ) σ fun x1 => gd (x1 = 7 ∨ x1 = 14) <| bc (n_E_mayClose x1 σ) fun x2 => if x2 = 0 then
  (gd (cX σ + 1 ≤ 601024 ∧ cU σ + 6 ≤ 7293034) <| some (.inl 1, wa σ 0 0 6))
 else
  (bc (m_E_closes x1 σ) fun r3 => bd (cI r3 x1 8) fun x4 => some (.inr x4, r3))
section
variable {p : Program} {l : Launch} {e : Env} {s : State} {m : MethodId} {args : Array Value} {below : List Frame} {meth : Method} {c : Code} {D : va_G} {tc : Nat → ClassId} {b z : Nat} {σ0 : CS}
theorem t_P_close_0 (S : CC p m c k_P_close 3 s args cn_P meth (Option.some Jvm.ClassFile.FieldType.int) D tc b z) (hT : TK b s) (hfl : l.flags = flags0) (hex : c.exceptionTable.toList = []) (v1 : Int32) (σ : CS) {B : (Nat ⊕ Int32) × CS} (h : m_P_close v1 σ = some B) {ls : Array Slot} (hl : lv_has ls 3 [(0, .ref (b + 0)), (1, .int v1)]) (hW : CWS D tc b z s σ σ s.heap [] 0 0) : W p l e (CR 13 314 σ) s m args below meth c s.heap [] 0 0 (PQ D tc b z below args s σ (fun x => some (.int x)) B) (F0 m 0 ls []) := by
  have hx := S.1.1
  have hb := S.1.2.1
  unfold m_P_close at h
  refine lv_aload_n hx hb d_P_close_0 rfl (lv_at hl 0 rfl) ?_
  refine lv_iload_n hx hb d_P_close_1 rfl (lv_at hl 1 rfl) ?_
  refine pm_look (As := [.int v1]) S hT hex hW (fun j hc => cyx_P_sideOf v1 σ hfl hc) (fun x hc => cyr_P_sideOf v1 σ hfl hc) q_P_sideOf wd_776 wd_8 wd_774 (by decide) hl.1 rfl rfl (Nat.le_of_ble_eq_true rfl) d_P_close_2 h (fun x1 h => ?_)
  obtain ⟨hk_x1, h⟩ := gd_s h
  refine lv_astore_n (lv' := [(2, .ref (b + x1)), (0, .ref (b + 0)), (1, .int v1)]) hx hb d_P_close_5 rfl hl (by decide) rfl (fun ls hl => ?_)
  refine lv_aload_n hx hb d_P_close_6 rfl (lv_at hl 0 rfl) ?_
  refine ym_cVi (As := []) kx_E S hW (kE hk_x1) (fun x hc => cy_E_mayClose x1 σ hc) q_E_mayClose wd_894 wd_895 wd_893 (by decide) hl.1 rfl rfl (Nat.le_of_ble_eq_true rfl) d_P_close_7 h (fun x2 h => ?_)
  refine rb_ne (tgt := 23) hx hb d_P_close_10 (by decide) h (fun h => ?_) (fun h => ?_)
  · refine lv_aload_n hx hb d_P_close_23 rfl (lv_at hl 0 rfl) ?_
    refine cm_cVv [] kx_E S hW (kE hk_x1) (fun σ' hc => c_E_closes x1 σ hc) q_E_closes wd_899 wd_900 wd_898 (by decide) hl.1 rfl rfl (Nat.le_of_ble_eq_true rfl) d_P_close_24 h (fun r3 H locs cells slots h hW => ?_)
    refine lv_aload_n hx hb d_P_close_27 rfl (lv_at hl 0 rfl) ?_
    refine cm_geti kx_E S hW (kE hk_x1) 8 wd_363 (by decide) d_P_close_28 h (fun x4 h => ?_)
    exact pr_i S hW d_P_close_31 h
  · refine xm_new (k := 1) (by decide) S hW d_P_close_13 h (fun H1 cC kC h hfc hkC hcell => ?_)
    refine lv_dup hx hb d_P_close_16 rfl ?_
    obtain ⟨q9, hq9⟩ := hT.2.2.2.2.2 (160, "not a state to close in") (by decide)
    refine va_ldcS hx hb S.1.2.2.2.1 hq9 d_P_close_17 ?_
    cases h
    exact xm_end (k := 1) (by decide) S hT hfl hex hfc hkC hcell hl.1 (by decide) (by decide) d_P_close_19 d_P_close_22
theorem cx_P_close (v1 : Int32) (σ : CS) (hfl : l.flags = flags0) {j : Nat} {σ' : CS} (h : m_P_close v1 σ = some (.inl j, σ')) : XMet l D tc b z y_P_close k_P_close 3 (Option.some Jvm.ClassFile.FieldType.int) 13 314 [.ref (b + 0), .int v1] σ j := xm_met (by decide) (Nat.le_of_ble_eq_true rfl) fun p e s m args below meth c S hT hex hW ls hl => t_P_close_0 S hT hfl hex v1 σ h hl hW
theorem cr_P_close (v1 : Int32) (σ : CS) (hfl : l.flags = flags0) {x : Int32} {σ' : CS} (h : m_P_close v1 σ = some (.inr x, σ')) : PMet l D tc b z y_P_close k_P_close 3 (Option.some Jvm.ClassFile.FieldType.int) 13 314 [.ref (b + 0), .int v1] σ (some (.int x)) σ' := pm_met (by decide) (Nat.le_of_ble_eq_true rfl) fun p e s m args below meth c S hT hex hW ls hl => t_P_close_0 S hT hfl hex v1 σ h hl hW
end

/-! StreamPair.abort (I)I -/
abbrev k_P_abort : ByteArray := prog_1_method_9_code
abbrev y_P_abort : MethodName := ⟨cn_P, "abort", "(I)I"⟩
theorem q_P_abort : Calee y_P_abort k_P_abort 4 (Option.some Jvm.ClassFile.FieldType.int) 1 := ⟨wd_913, wd_78, by decide, by decide +kernel⟩
theorem d_P_abort_0 : decode k_P_abort 0 = .ok (.aload_n 0, 1) := by decide +kernel
theorem d_P_abort_1 : decode k_P_abort 1 = .ok (.iload_n 1, 1) := by decide +kernel
theorem d_P_abort_2 : decode k_P_abort 2 = .ok (.invokevirtual 83, 3) := by decide +kernel
theorem d_P_abort_5 : decode k_P_abort 5 = .ok (.astore_n 2, 1) := by decide +kernel
theorem d_P_abort_6 : decode k_P_abort 6 = .ok (.aload_n 2, 1) := by decide +kernel
theorem d_P_abort_7 : decode k_P_abort 7 = .ok (.getfield 102, 3) := by decide +kernel
theorem d_P_abort_10 : decode k_P_abort 10 = .ok (.istore_n 3, 1) := by decide +kernel
theorem d_P_abort_11 : decode k_P_abort 11 = .ok (.aload_n 2, 1) := by decide +kernel
theorem d_P_abort_12 : decode k_P_abort 12 = .ok (.invokevirtual 165, 3) := by decide +kernel
theorem d_P_abort_15 : decode k_P_abort 15 = .ok (.iload_n 3, 1) := by decide +kernel
theorem d_P_abort_16 : decode k_P_abort 16 = .ok (.ireturn, 1) := by decide +kernel
def m_P_abort (v1 : Int32) (σ : CS) : Option ((Nat ⊕ Int32) × CS) :=
  bcn (n_P_sideOf v1 σ) σ fun x1 => gd (x1 = 7 ∨ x1 = 14) <| bd (cI σ x1 8) fun x2 => bc (m_E_breaksOff x1 σ) fun r3 => some (.inr x2, r3)
section
variable {p : Program} {l : Launch} {e : Env} {s : State} {m : MethodId} {args : Array Value} {below : List Frame} {meth : Method} {c : Code} {D : va_G} {tc : Nat → ClassId} {b z : Nat} {σ0 : CS}
theorem t_P_abort_0 (S : CC p m c k_P_abort 4 s args cn_P meth (Option.some Jvm.ClassFile.FieldType.int) D tc b z) (hT : TK b s) (hfl : l.flags = flags0) (hex : c.exceptionTable.toList = []) (v1 : Int32) (σ : CS) {B : (Nat ⊕ Int32) × CS} (h : m_P_abort v1 σ = some B) {ls : Array Slot} (hl : lv_has ls 4 [(0, .ref (b + 0)), (1, .int v1)]) (hW : CWS D tc b z s σ σ s.heap [] 0 0) : W p l e (CR 11 267 σ) s m args below meth c s.heap [] 0 0 (PQ D tc b z below args s σ (fun x => some (.int x)) B) (F0 m 0 ls []) := by
  have hx := S.1.1
  have hb := S.1.2.1
  unfold m_P_abort at h
  refine lv_aload_n hx hb d_P_abort_0 rfl (lv_at hl 0 rfl) ?_
  refine lv_iload_n hx hb d_P_abort_1 rfl (lv_at hl 1 rfl) ?_
  refine pm_look (As := [.int v1]) S hT hex hW (fun j hc => cyx_P_sideOf v1 σ hfl hc) (fun x hc => cyr_P_sideOf v1 σ hfl hc) q_P_sideOf wd_776 wd_8 wd_774 (by decide) hl.1 rfl rfl (Nat.le_of_ble_eq_true rfl) d_P_abort_2 h (fun x1 h => ?_)
  obtain ⟨hk_x1, h⟩ := gd_s h
  refine lv_astore_n (lv' := [(2, .ref (b + x1)), (0, .ref (b + 0)), (1, .int v1)]) hx hb d_P_abort_5 rfl hl (by decide) rfl (fun ls hl => ?_)
  refine lv_aload_n hx hb d_P_abort_6 rfl (lv_at hl 0 rfl) ?_
  refine cm_geti kx_E S hW (kE hk_x1) 8 wd_363 (by decide) d_P_abort_7 h (fun x2 h => ?_)
  refine lv_istore_n (lv' := [(3, .int x2), (2, .ref (b + x1)), (0, .ref (b + 0)), (1, .int v1)]) hx hb d_P_abort_10 rfl hl (by decide) rfl (fun ls hl => ?_)
  refine lv_aload_n hx hb d_P_abort_11 rfl (lv_at hl 1 rfl) ?_
  refine cm_cVv [] kx_E S hW (kE hk_x1) (fun σ' hc => c_E_breaksOff x1 σ hc) q_E_breaksOff wd_915 wd_916 wd_914 (by decide) hl.1 rfl rfl (Nat.le_of_ble_eq_true rfl) d_P_abort_12 h (fun r3 H locs cells slots h hW => ?_)
  refine lv_iload_n hx hb d_P_abort_15 rfl (lv_at hl 0 rfl) ?_
  exact pr_i S hW d_P_abort_16 h
theorem cx_P_abort (v1 : Int32) (σ : CS) (hfl : l.flags = flags0) {j : Nat} {σ' : CS} (h : m_P_abort v1 σ = some (.inl j, σ')) : XMet l D tc b z y_P_abort k_P_abort 4 (Option.some Jvm.ClassFile.FieldType.int) 11 267 [.ref (b + 0), .int v1] σ j := xm_met (by decide) (Nat.le_of_ble_eq_true rfl) fun p e s m args below meth c S hT hex hW ls hl => t_P_abort_0 S hT hfl hex v1 σ h hl hW
theorem cr_P_abort (v1 : Int32) (σ : CS) (hfl : l.flags = flags0) {x : Int32} {σ' : CS} (h : m_P_abort v1 σ = some (.inr x, σ')) : PMet l D tc b z y_P_abort k_P_abort 4 (Option.some Jvm.ClassFile.FieldType.int) 11 267 [.ref (b + 0), .int v1] σ (some (.int x)) σ' := pm_met (by decide) (Nat.le_of_ble_eq_true rfl) fun p e s m args below meth c S hT hex hW ls hl => t_P_abort_0 S hT hfl hex v1 σ h hl hW
end

/-! StreamPair.tick (I)J -/
abbrev k_P_tick : ByteArray := prog_1_method_10_code
abbrev y_P_tick : MethodName := ⟨cn_P, "tick", "(I)J"⟩
theorem q_P_tick : Calee y_P_tick k_P_tick 6 (Option.some Jvm.ClassFile.FieldType.long) 1 := ⟨wd_924, wd_78, by decide, by decide +kernel⟩
theorem d_P_tick_0 : decode k_P_tick 0 = .ok (.iload_n 1, 1) := by decide +kernel
theorem d_P_tick_1 : decode k_P_tick 1 = .ok (.iconst 1, 1) := by decide +kernel
theorem d_P_tick_2 : decode k_P_tick 2 = .ok (.if_icmp .lt 9, 3) := by decide +kernel
theorem d_P_tick_5 : decode k_P_tick 5 = .ok (.iload_n 1, 1) := by decide +kernel
theorem d_P_tick_6 : decode k_P_tick 6 = .ok (.ldc 168, 2) := by decide +kernel
theorem d_P_tick_8 : decode k_P_tick 8 = .ok (.if_icmp .le 13, 3) := by decide +kernel
theorem d_P_tick_11 : decode k_P_tick 11 = .ok (.new 58, 3) := by decide +kernel
theorem d_P_tick_14 : decode k_P_tick 14 = .ok (.dup, 1) := by decide +kernel
theorem d_P_tick_15 : decode k_P_tick 15 = .ok (.ldc 169, 2) := by decide +kernel
theorem d_P_tick_17 : decode k_P_tick 17 = .ok (.invokespecial 62, 3) := by decide +kernel
theorem d_P_tick_20 : decode k_P_tick 20 = .ok (.athrow, 1) := by decide +kernel
theorem d_P_tick_21 : decode k_P_tick 21 = .ok (.aload_n 0, 1) := by decide +kernel
theorem d_P_tick_22 : decode k_P_tick 22 = .ok (.getfield 19, 3) := by decide +kernel
theorem d_P_tick_25 : decode k_P_tick 25 = .ok (.getfield 171, 3) := by decide +kernel
theorem d_P_tick_28 : decode k_P_tick 28 = .ok (.iload_n 1, 1) := by decide +kernel
theorem d_P_tick_29 : decode k_P_tick 29 = .ok (.i2l, 1) := by decide +kernel
theorem d_P_tick_30 : decode k_P_tick 30 = .ok (.ladd, 1) := by decide +kernel
theorem d_P_tick_31 : decode k_P_tick 31 = .ok (.lstore_n 2, 1) := by decide +kernel
theorem d_P_tick_32 : decode k_P_tick 32 = .ok (.iconst 0, 1) := by decide +kernel
theorem d_P_tick_33 : decode k_P_tick 33 = .ok (.istore 4, 2) := by decide +kernel
theorem d_P_tick_35 : decode k_P_tick 35 = .ok (.iload 4, 2) := by decide +kernel
theorem d_P_tick_37 : decode k_P_tick 37 = .ok (.sipush 1000, 3) := by decide +kernel
theorem d_P_tick_40 : decode k_P_tick 40 = .ok (.if_icmp .ge 62, 3) := by decide +kernel
theorem d_P_tick_43 : decode k_P_tick 43 = .ok (.aload_n 0, 1) := by decide +kernel
theorem d_P_tick_44 : decode k_P_tick 44 = .ok (.invokevirtual 175, 3) := by decide +kernel
theorem d_P_tick_47 : decode k_P_tick 47 = .ok (.astore 5, 2) := by decide +kernel
theorem d_P_tick_49 : decode k_P_tick 49 = .ok (.aload 5, 2) := by decide +kernel
theorem d_P_tick_51 : decode k_P_tick 51 = .ok (.getfield 179, 3) := by decide +kernel
theorem d_P_tick_54 : decode k_P_tick 54 = .ok (.getfield 183, 3) := by decide +kernel
theorem d_P_tick_57 : decode k_P_tick 57 = .ok (.ifCond .eq 45, 3) := by decide +kernel
theorem d_P_tick_60 : decode k_P_tick 60 = .ok (.aload 5, 2) := by decide +kernel
theorem d_P_tick_62 : decode k_P_tick 62 = .ok (.getfield 179, 3) := by decide +kernel
theorem d_P_tick_65 : decode k_P_tick 65 = .ok (.getfield 188, 3) := by decide +kernel
theorem d_P_tick_68 : decode k_P_tick 68 = .ok (.lload_n 2, 1) := by decide +kernel
theorem d_P_tick_69 : decode k_P_tick 69 = .ok (.lcmp, 1) := by decide +kernel
theorem d_P_tick_70 : decode k_P_tick 70 = .ok (.ifCond .le 6, 3) := by decide +kernel
theorem d_P_tick_73 : decode k_P_tick 73 = .ok (.goto 29, 3) := by decide +kernel
theorem d_P_tick_76 : decode k_P_tick 76 = .ok (.aload_n 0, 1) := by decide +kernel
theorem d_P_tick_77 : decode k_P_tick 77 = .ok (.getfield 19, 3) := by decide +kernel
theorem d_P_tick_80 : decode k_P_tick 80 = .ok (.aload 5, 2) := by decide +kernel
theorem d_P_tick_82 : decode k_P_tick 82 = .ok (.getfield 179, 3) := by decide +kernel
theorem d_P_tick_85 : decode k_P_tick 85 = .ok (.getfield 188, 3) := by decide +kernel
theorem d_P_tick_88 : decode k_P_tick 88 = .ok (.putfield 171, 3) := by decide +kernel
theorem d_P_tick_91 : decode k_P_tick 91 = .ok (.aload 5, 2) := by decide +kernel
theorem d_P_tick_93 : decode k_P_tick 93 = .ok (.invokevirtual 191, 3) := by decide +kernel
theorem d_P_tick_96 : decode k_P_tick 96 = .ok (.iinc 4 1, 3) := by decide +kernel
theorem d_P_tick_99 : decode k_P_tick 99 = .ok (.goto (-64), 3) := by decide +kernel
theorem d_P_tick_102 : decode k_P_tick 102 = .ok (.aload_n 0, 1) := by decide +kernel
theorem d_P_tick_103 : decode k_P_tick 103 = .ok (.getfield 19, 3) := by decide +kernel
theorem d_P_tick_106 : decode k_P_tick 106 = .ok (.lload_n 2, 1) := by decide +kernel
theorem d_P_tick_107 : decode k_P_tick 107 = .ok (.putfield 171, 3) := by decide +kernel
theorem d_P_tick_110 : decode k_P_tick 110 = .ok (.lload_n 2, 1) := by decide +kernel
theorem d_P_tick_111 : decode k_P_tick 111 = .ok (.lreturn, 1) := by decide +kernel
def b_P_tick_102 (v2 : Int64) (ω : CS) : Option ((Nat ⊕ Int64) × CS) :=
  bd (wl ω 3 0 v2) fun r1 => some (.inr v2, r1)
def F_P_tick_35 (rec35 : Int64 → Int32 → CS → Option ((Nat ⊕ Int64) × CS)) (v2 : Int64) (v4 : Int32) (ω : CS) : Option ((Nat ⊕ Int64) × CS) :=
  if (1000 : Int32) ≤ v4 then
  (b_P_tick_102 v2 ω)
 else
  (bc2 (m_P_nextDue ω) fun x2 r1 => gd (x2 = 7 ∨ x2 = 14) <| bd (cI r1 (x2 + 5) 2) fun x3 => if x3 = 0 then
  (b_P_tick_102 v2 r1)
 else
  (bd (cJ r1 (x2 + 5) 3) fun x4 => if (lg_cmp x4 v2) ≤ 0 then
  (bd (cJ r1 (x2 + 5) 3) fun x5 => bd (wl r1 3 0 x5) fun r6 => bc (m_E_timerDue x2 r6) fun r7 => bd (v4 + (1 : Int32)) fun x8 => rec35 v2 x8 r7)
 else
  (b_P_tick_102 v2 r1)))
def b_P_tick_11 (σ : CS) : Option ((Nat ⊕ Int64) × CS) :=
  gd (cX σ + 1 ≤ 601024 ∧ cU σ + 6 ≤ 7293034) <| some (.inl 2, wa σ 0 0 6)
def m_P_tick (v1 : Int32) (σ : CS) : Option ((Nat ⊕ Int64) × CS) :=
  if v1 < (1 : Int32) then
  (b_P_tick_11  σ)
 else
  (if v1 ≤ (1000000 : Int32) then
  (bd (cJ σ 3 0) fun x1 => bd (x1 + (v1.toInt64)) fun x2 => lq3 (F_P_tick_35) fuel x2 (0 : Int32) σ)
 else
  (b_P_tick_11  σ))
def P_P_tick_35 (p : Program) (l : Launch) (e : Env) (s : State) (m : MethodId) (args : Array Value) (below : List Frame) (meth : Method) (c : Code) (D : va_G) (tc : Nat → ClassId) (b z : Nat) (σ0 : CS) (v2 : Int64) (v4 : Int32) (ω : CS) (B : (Nat ⊕ Int64) × CS) : Prop := ∀ (ls : Array Slot) (H : Heap) (locs : List Loc) (cells slots : Nat), lv_has ls 6 [(0, .ref (b + 0)), (2, .long v2), (4, .int v4)] → CWS D tc b z s σ0 ω H locs cells slots → W p l e (CR 13 314 σ0) s m args below meth c H locs cells slots (PQ D tc b z below args s σ0 (fun x => some (.long x)) B) (F0 m 35 ls [])
section
variable {p : Program} {l : Launch} {e : Env} {s : State} {m : MethodId} {args : Array Value} {below : List Frame} {meth : Method} {c : Code} {D : va_G} {tc : Nat → ClassId} {b z : Nat} {σ0 : CS}
theorem t_P_tick_102 (S : CC p m c k_P_tick 6 s args cn_P meth (Option.some Jvm.ClassFile.FieldType.long) D tc b z) (v2 : Int64) (ω : CS) {B : (Nat ⊕ Int64) × CS} (h : b_P_tick_102 v2 ω = some B) {ls : Array Slot} {H : Heap} {locs : List Loc} {cells slots : Nat} (hl : lv_has ls 6 [(0, .ref (b + 0)), (2, .long v2)]) (hW : CWS D tc b z s σ0 ω H locs cells slots) : W p l e (CR 13 314 σ0) s m args below meth c H locs cells slots (PQ D tc b z below args s σ0 (fun x => some (.long x)) B) (F0 m 102 ls []) := by
  have hx := S.1.1
  have hb := S.1.2.1
  unfold b_P_tick_102 at h
  refine lv_aload_n hx hb d_P_tick_102 rfl (lv_at hl 0 rfl) ?_
  refine cm_getf kx_P S hW rfl 1 (3) rfl wd_400 (by decide) d_P_tick_103 ?_
  refine lv_lload_n hx hb d_P_tick_106 rfl (lv_at hl 1 rfl) ?_
  refine cm_putl kx_C S hW rfl 0 wd_137 (by decide) d_P_tick_107 h (fun r1 H locs h hW => ?_)
  refine lv_lload_n hx hb d_P_tick_110 rfl (lv_at hl 1 rfl) ?_
  exact pr_l S hW d_P_tick_111 h
theorem tF_P_tick_35 (S : CC p m c k_P_tick 6 s args cn_P meth (Option.some Jvm.ClassFile.FieldType.long) D tc b z) : ∀ (rec35 : Int64 → Int32 → CS → Option ((Nat ⊕ Int64) × CS)), (∀ (v2 : Int64) (v4 : Int32) (ω : CS) (B : (Nat ⊕ Int64) × CS), rec35 v2 v4 ω = some B → P_P_tick_35 p l e s m args below meth c D tc b z σ0 v2 v4 ω B) → ∀ (v2 : Int64) (v4 : Int32) (ω : CS) (B : (Nat ⊕ Int64) × CS), F_P_tick_35 rec35 v2 v4 ω = some B → P_P_tick_35 p l e s m args below meth c D tc b z σ0 v2 v4 ω B := by
  intro rec35 hrec35 v2 v4 ω B h ls H locs cells slots hl hW
  have hx := S.1.1
  have hb := S.1.2.1
  unfold F_P_tick_35 at h
  refine lv_iload hx hb d_P_tick_35 (lv_at hl 2 rfl) ?_
  refine lv_sipush (v := 1000) hx hb d_P_tick_37 (by decide) ?_
  refine rc_ge (tgt := 102) hx hb d_P_tick_40 (by decide) h (fun h => ?_) (fun h => ?_)
  · exact t_P_tick_102 S v2 ω h (lv_sub hl [0, 1] rfl) hW
  · refine lv_aload_n hx hb d_P_tick_43 rfl (lv_at hl 0 rfl) ?_
    refine cm_cVr [] kx_P S hW rfl (fun x σ' hc => c_P_nextDue ω hc) q_P_nextDue wd_929 wd_15 wd_927 (by decide) hl.1 rfl rfl (Nat.le_of_ble_eq_true rfl) d_P_tick_44 h (fun x2 r1 H locs cells slots h hW => ?_)
    obtain ⟨hk_x2, h⟩ := gd_s h
    refine lv_astore (lv' := [(5, .ref (b + x2)), (0, .ref (b + 0)), (2, .long v2), (4, .int v4)]) hx hb d_P_tick_47 hl (by decide) rfl (fun ls hl => ?_)
    refine lv_aload hx hb d_P_tick_49 (lv_at hl 0 rfl) ?_
    refine cm_getf kx_E S hW (kE hk_x2) 5 (x2 + 5) rfl wd_358 (by decide) d_P_tick_51 ?_
    refine cm_geti kx_Z S hW (kEZ hk_x2) 2 wd_296 (by decide) d_P_tick_54 h (fun x3 h => ?_)
    refine rb_eq (tgt := 102) hx hb d_P_tick_57 (by decide) h (fun h => ?_) (fun h => ?_)
    · exact t_P_tick_102 S v2 r1 h (lv_sub hl [1, 2] rfl) hW
    · refine lv_aload hx hb d_P_tick_60 (lv_at hl 0 rfl) ?_
      refine cm_getf kx_E S hW (kE hk_x2) 5 (x2 + 5) rfl wd_358 (by decide) d_P_tick_62 ?_
      refine cm_getl kx_Z S hW (kEZ hk_x2) 3 wd_298 (by decide) d_P_tick_65 h (fun x4 h => ?_)
      refine lv_lload_n hx hb d_P_tick_68 rfl (lv_at hl 2 rfl) ?_
      refine W.lcmp hx hb d_P_tick_69 ?_
      refine rb_le (tgt := 76) hx hb d_P_tick_70 (by decide) h (fun h => ?_) (fun h => ?_)
      · refine lv_aload_n hx hb d_P_tick_76 rfl (lv_at hl 1 rfl) ?_
        refine cm_getf kx_P S hW rfl 1 (3) rfl wd_400 (by decide) d_P_tick_77 ?_
        refine lv_aload hx hb d_P_tick_80 (lv_at hl 0 rfl) ?_
        refine cm_getf kx_E S hW (kE hk_x2) 5 (x2 + 5) rfl wd_358 (by decide) d_P_tick_82 ?_
        refine cm_getl kx_Z S hW (kEZ hk_x2) 3 wd_298 (by decide) d_P_tick_85 h (fun x5 h => ?_)
        refine cm_putl kx_C S hW rfl 0 wd_137 (by decide) d_P_tick_88 h (fun r6 H locs h hW => ?_)
        refine lv_aload hx hb d_P_tick_91 (lv_at hl 0 rfl) ?_
        refine cm_cVv [] kx_E S hW (kE hk_x2) (fun σ' hc => c_E_timerDue x2 r6 hc) q_E_timerDue wd_932 wd_933 wd_931 (by decide) hl.1 rfl rfl (Nat.le_of_ble_eq_true rfl) d_P_tick_93 h (fun r7 H locs cells slots h hW => ?_)
        refine rv_iinc (k := 3) (v := 1) (lv' := fun x8 => [(4, .int x8), (5, .ref (b + x2)), (0, .ref (b + 0)), (2, .long v2)]) hx hb d_P_tick_96 hl rfl (by decide) (by decide) (fun _ => rfl) h (fun x8 ls h hl => ?_)
        refine lv_goto (tgt := 35) hx hb d_P_tick_99 (by decide) ?_
        exact hrec35 v2 x8 r7 _ h _ _ _ _ _ (lv_sub hl [2, 3, 0] rfl) hW
      · refine lv_goto (tgt := 102) hx hb d_P_tick_73 (by decide) ?_
        exact t_P_tick_102 S v2 r1 h (lv_sub hl [1, 2] rfl) hW
theorem t_P_tick_35 (S : CC p m c k_P_tick 6 s args cn_P meth (Option.some Jvm.ClassFile.FieldType.long) D tc b z) : ∀ (n : Nat) (v2 : Int64) (v4 : Int32) (ω : CS) (B : (Nat ⊕ Int64) × CS), lq3 (F_P_tick_35) n v2 v4 ω = some B → P_P_tick_35 p l e s m args below meth c D tc b z σ0 v2 v4 ω B := lq3_s (tF_P_tick_35 S)
theorem t_P_tick_11 (S : CC p m c k_P_tick 6 s args cn_P meth (Option.some Jvm.ClassFile.FieldType.long) D tc b z) (hT : TK b s) (hfl : l.flags = flags0) (hex : c.exceptionTable.toList = []) (σ : CS) {B : (Nat ⊕ Int64) × CS} (h : b_P_tick_11  σ = some B) {ls : Array Slot} (hl : lv_has ls 6 []) (hW : CWS D tc b z s σ σ s.heap [] 0 0) : W p l e (CR 13 314 σ) s m args below meth c s.heap [] 0 0 (PQ D tc b z below args s σ (fun x => some (.long x)) B) (F0 m 11 ls []) := by
  have hx := S.1.1
  have hb := S.1.2.1
  unfold b_P_tick_11 at h
  refine xm_new (k := 2) (by decide) S hW d_P_tick_11 h (fun H1 cC kC h hfc hkC hcell => ?_)
  refine lv_dup hx hb d_P_tick_14 rfl ?_
  obtain ⟨q9, hq9⟩ := hT.2.2.2.2.2 (169, "not 1 to 1,000,000 milliseconds") (by decide)
  refine va_ldcS hx hb S.1.2.2.2.1 hq9 d_P_tick_15 ?_
  cases h
  exact xm_end (k := 2) (by decide) S hT hfl hex hfc hkC hcell hl.1 (by decide) (by decide) d_P_tick_17 d_P_tick_20
theorem t_P_tick_0 (S : CC p m c k_P_tick 6 s args cn_P meth (Option.some Jvm.ClassFile.FieldType.long) D tc b z) (hT : TK b s) (hfl : l.flags = flags0) (hex : c.exceptionTable.toList = []) (v1 : Int32) (σ : CS) {B : (Nat ⊕ Int64) × CS} (h : m_P_tick v1 σ = some B) {ls : Array Slot} (hl : lv_has ls 6 [(0, .ref (b + 0)), (1, .int v1)]) (hW : CWS D tc b z s σ σ s.heap [] 0 0) : W p l e (CR 13 314 σ) s m args below meth c s.heap [] 0 0 (PQ D tc b z below args s σ (fun x => some (.long x)) B) (F0 m 0 ls []) := by
  have hx := S.1.1
  have hb := S.1.2.1
  unfold m_P_tick at h
  refine lv_iload_n hx hb d_P_tick_0 rfl (lv_at hl 1 rfl) ?_
  refine lv_iconst (v := 1) hx hb d_P_tick_1 (by decide) ?_
  refine rc_lt (tgt := 11) hx hb d_P_tick_2 (by decide) h (fun h => ?_) (fun h => ?_)
  · exact t_P_tick_11 S hT hfl hex  σ h (lv_sub hl [] rfl) hW
  · refine lv_iload_n hx hb d_P_tick_5 rfl (lv_at hl 1 rfl) ?_
    refine lv_ldc hx hb S.1.2.2.2.1 (S.1.2.2.2.2 _ (gi wd_925 rfl)) d_P_tick_6 ?_
    refine rc_le (tgt := 21) hx hb d_P_tick_8 (by decide) h (fun h => ?_) (fun h => ?_)
    · refine lv_aload_n hx hb d_P_tick_21 rfl (lv_at hl 0 rfl) ?_
      refine cm_getf kx_P S hW rfl 1 (3) rfl wd_400 (by decide) d_P_tick_22 ?_
      refine cm_getl kx_C S hW rfl 0 wd_137 (by decide) d_P_tick_25 h (fun x1 h => ?_)
      refine lv_iload_n hx hb d_P_tick_28 rfl (lv_at hl 1 rfl) ?_
      refine lv_i2l hx hb d_P_tick_29 rfl ?_
      refine lv_ladd hx hb d_P_tick_30 ?_
      refine rv_l h (fun x2 h => ?_)
      refine lv_lstore_n (lv' := [(2, .long x2), (0, .ref (b + 0)), (1, .int v1)]) hx hb d_P_tick_31 rfl hl (by decide) rfl (fun ls hl => ?_)
      refine lv_iconst (v := 0) hx hb d_P_tick_32 (by decide) ?_
      refine lv_istore (lv' := [(4, .int (0 : Int32)), (2, .long x2), (0, .ref (b + 0)), (1, .int v1)]) hx hb d_P_tick_33 hl (by decide) rfl (fun ls hl => ?_)
      exact t_P_tick_35 S fuel x2 (0 : Int32) σ _ h _ _ _ _ _ (lv_sub hl [2, 1, 0] rfl) hW
    · exact t_P_tick_11 S hT hfl hex  σ h (lv_sub hl [] rfl) hW
theorem cx_P_tick (v1 : Int32) (σ : CS) (hfl : l.flags = flags0) {j : Nat} {σ' : CS} (h : m_P_tick v1 σ = some (.inl j, σ')) : XMet l D tc b z y_P_tick k_P_tick 6 (Option.some Jvm.ClassFile.FieldType.long) 13 314 [.ref (b + 0), .int v1] σ j := xm_met (by decide) (Nat.le_of_ble_eq_true rfl) fun p e s m args below meth c S hT hex hW ls hl => t_P_tick_0 S hT hfl hex v1 σ h hl hW
theorem cr_P_tick (v1 : Int32) (σ : CS) (hfl : l.flags = flags0) {x : Int64} {σ' : CS} (h : m_P_tick v1 σ = some (.inr x, σ')) : PMet l D tc b z y_P_tick k_P_tick 6 (Option.some Jvm.ClassFile.FieldType.long) 13 314 [.ref (b + 0), .int v1] σ (some (.long x)) σ' := pm_met (by decide) (Nat.le_of_ble_eq_true rfl) fun p e s m args below meth c S hT hex hW ls hl => t_P_tick_0 S hT hfl hex v1 σ h hl hW
end

/-! StreamPair.deliver (I)I -/
abbrev k_P_deliver : ByteArray := prog_1_method_11_code
abbrev y_P_deliver : MethodName := ⟨cn_P, "deliver", "(I)I"⟩
theorem q_P_deliver : Calee y_P_deliver k_P_deliver 3 (Option.some Jvm.ClassFile.FieldType.int) 1 := ⟨wd_956, wd_78, by decide, by decide +kernel⟩
theorem d_P_deliver_0 : decode k_P_deliver 0 = .ok (.aload_n 0, 1) := by decide +kernel
theorem d_P_deliver_1 : decode k_P_deliver 1 = .ok (.iload_n 1, 1) := by decide +kernel
theorem d_P_deliver_2 : decode k_P_deliver 2 = .ok (.invokevirtual 194, 3) := by decide +kernel
theorem d_P_deliver_5 : decode k_P_deliver 5 = .ok (.astore_n 2, 1) := by decide +kernel
theorem d_P_deliver_6 : decode k_P_deliver 6 = .ok (.aload_n 0, 1) := by decide +kernel
theorem d_P_deliver_7 : decode k_P_deliver 7 = .ok (.getfield 26, 3) := by decide +kernel
theorem d_P_deliver_10 : decode k_P_deliver 10 = .ok (.iload_n 1, 1) := by decide +kernel
theorem d_P_deliver_11 : decode k_P_deliver 11 = .ok (.invokevirtual 198, 3) := by decide +kernel
theorem d_P_deliver_14 : decode k_P_deliver 14 = .ok (.aload_n 2, 1) := by decide +kernel
theorem d_P_deliver_15 : decode k_P_deliver 15 = .ok (.getfield 201, 3) := by decide +kernel
theorem d_P_deliver_18 : decode k_P_deliver 18 = .ok (.ifCond .ne 14, 3) := by decide +kernel
theorem d_P_deliver_21 : decode k_P_deliver 21 = .ok (.aload_n 0, 1) := by decide +kernel
theorem d_P_deliver_22 : decode k_P_deliver 22 = .ok (.getfield 35, 3) := by decide +kernel
theorem d_P_deliver_25 : decode k_P_deliver 25 = .ok (.aload_n 2, 1) := by decide +kernel
theorem d_P_deliver_26 : decode k_P_deliver 26 = .ok (.invokevirtual 206, 3) := by decide +kernel
theorem d_P_deliver_29 : decode k_P_deliver 29 = .ok (.goto 11, 3) := by decide +kernel
theorem d_P_deliver_32 : decode k_P_deliver 32 = .ok (.aload_n 0, 1) := by decide +kernel
theorem d_P_deliver_33 : decode k_P_deliver 33 = .ok (.getfield 39, 3) := by decide +kernel
theorem d_P_deliver_36 : decode k_P_deliver 36 = .ok (.aload_n 2, 1) := by decide +kernel
theorem d_P_deliver_37 : decode k_P_deliver 37 = .ok (.invokevirtual 206, 3) := by decide +kernel
theorem d_P_deliver_40 : decode k_P_deliver 40 = .ok (.aload_n 0, 1) := by decide +kernel
theorem d_P_deliver_41 : decode k_P_deliver 41 = .ok (.getfield 26, 3) := by decide +kernel
theorem d_P_deliver_44 : decode k_P_deliver 44 = .ok (.getfield 210, 3) := by decide +kernel
theorem d_P_deliver_47 : decode k_P_deliver 47 = .ok (.aload_n 2, 1) := by decide +kernel
theorem d_P_deliver_48 : decode k_P_deliver 48 = .ok (.invokevirtual 214, 3) := by decide +kernel
theorem d_P_deliver_51 : decode k_P_deliver 51 = .ok (.pop, 1) := by decide +kernel
theorem d_P_deliver_52 : decode k_P_deliver 52 = .ok (.aload_n 0, 1) := by decide +kernel
theorem d_P_deliver_53 : decode k_P_deliver 53 = .ok (.getfield 26, 3) := by decide +kernel
theorem d_P_deliver_56 : decode k_P_deliver 56 = .ok (.getfield 219, 3) := by decide +kernel
theorem d_P_deliver_59 : decode k_P_deliver 59 = .ok (.invokevirtual 222, 3) := by decide +kernel
theorem d_P_deliver_62 : decode k_P_deliver 62 = .ok (.ireturn, 1) := by decide +kernel
def b_P_deliver_40 (v2 : Nat) (ω : CS) : Option ((Nat ⊕ Int32) × CS) :=
  bc2 (m_A_add_Lo 6 v2 ω) fun x2 r1 => bc2 (m_A_size 5 r1) fun x4 r3 => some (.inr x4, r3)
def m_P_deliver (v1 : Int32) (σ : CS) : Option ((Nat ⊕ Int32) × CS) :=
  bcn (n_P_segmentOf v1 σ) σ fun x1 => bc (m_N_takeOut v1 σ) fun r2 => gd (kd r2 x1 = 11) <| bd (cI r2 x1 2) fun x3 => if x3 = 0 then
  (bc (m_E_comes 7 x1 r2) fun r5 => b_P_deliver_40 x1 r5)
 else
  (bc (m_E_comes 14 x1 r2) fun r4 => b_P_deliver_40 x1 r4)
section
variable {p : Program} {l : Launch} {e : Env} {s : State} {m : MethodId} {args : Array Value} {below : List Frame} {meth : Method} {c : Code} {D : va_G} {tc : Nat → ClassId} {b z : Nat} {σ0 : CS}
theorem t_P_deliver_40 (S : CC p m c k_P_deliver 3 s args cn_P meth (Option.some Jvm.ClassFile.FieldType.int) D tc b z) (v2 : Nat) (ω : CS) {B : (Nat ⊕ Int32) × CS} (h : b_P_deliver_40 v2 ω = some B) {ls : Array Slot} {H : Heap} {locs : List Loc} {cells slots : Nat} (hl : lv_has ls 3 [(0, .ref (b + 0)), (2, .ref (b + v2))]) (hW : CWS D tc b z s σ0 ω H locs cells slots) : W p l e (CR 13 316 σ0) s m args below meth c H locs cells slots (PQ D tc b z below args s σ0 (fun x => some (.int x)) B) (F0 m 40 ls []) := by
  have hx := S.1.1
  have hb := S.1.2.1
  unfold b_P_deliver_40 at h
  refine lv_aload_n hx hb d_P_deliver_40 rfl (lv_at hl 0 rfl) ?_
  refine cm_getf kx_P S hW rfl 2 (4) rfl wd_401 (by decide) d_P_deliver_41 ?_
  refine cm_getf kx_N S hW rfl 1 (6) rfl wd_176 (by decide) d_P_deliver_44 ?_
  refine lv_aload_n hx hb d_P_deliver_47 rfl (lv_at hl 1 rfl) ?_
  refine cm_cVi [.ref (b + v2)] kx_A S hW rfl (fun x σ' hc => c_A_add_Lo 6 v2 ω hc) q_A_add_Lo wd_450 wd_451 wd_1166 (by decide) hl.1 rfl rfl (Nat.le_of_ble_eq_true rfl) d_P_deliver_48 h (fun x2 r1 H locs cells slots h hW => ?_)
  refine lv_pop hx hb d_P_deliver_51 rfl ?_
  refine lv_aload_n hx hb d_P_deliver_52 rfl (lv_at hl 0 rfl) ?_
  refine cm_getf kx_P S hW rfl 2 (4) rfl wd_401 (by decide) d_P_deliver_53 ?_
  refine cm_getf kx_N S hW rfl 0 (5) rfl wd_174 (by decide) d_P_deliver_56 ?_
  refine cm_cVi [] kx_A S hW rfl (fun x σ' hc => c_A_size 5 r1 hc) q_A_size wd_431 wd_432 wd_649 (by decide) hl.1 rfl rfl (Nat.le_of_ble_eq_true rfl) d_P_deliver_59 h (fun x4 r3 H locs cells slots h hW => ?_)
  exact pr_i S hW d_P_deliver_62 h
theorem t_P_deliver_0 (S : CC p m c k_P_deliver 3 s args cn_P meth (Option.some Jvm.ClassFile.FieldType.int) D tc b z) (hT : TK b s) (hfl : l.flags = flags0) (hex : c.exceptionTable.toList = []) (v1 : Int32) (σ : CS) {B : (Nat ⊕ Int32) × CS} (h : m_P_deliver v1 σ = some B) {ls : Array Slot} (hl : lv_has ls 3 [(0, .ref (b + 0)), (1, .int v1)]) (hW : CWS D tc b z s σ σ s.heap [] 0 0) : W p l e (CR 13 316 σ) s m args below meth c s.heap [] 0 0 (PQ D tc b z below args s σ (fun x => some (.int x)) B) (F0 m 0 ls []) := by
  have hx := S.1.1
  have hb := S.1.2.1
  unfold m_P_deliver at h
  refine lv_aload_n hx hb d_P_deliver_0 rfl (lv_at hl 0 rfl) ?_
  refine lv_iload_n hx hb d_P_deliver_1 rfl (lv_at hl 1 rfl) ?_
  refine pm_look (As := [.int v1]) S hT hex hW (fun j hc => cyx_P_segmentOf v1 σ hfl hc) (fun x hc => cyr_P_segmentOf v1 σ hfl hc) q_P_segmentOf wd_959 wd_17 wd_957 (by decide) hl.1 rfl rfl (Nat.le_of_ble_eq_true rfl) d_P_deliver_2 h (fun x1 h => ?_)
  refine lv_astore_n (lv' := [(2, .ref (b + x1)), (0, .ref (b + 0)), (1, .int v1)]) hx hb d_P_deliver_5 rfl hl (by decide) rfl (fun ls hl => ?_)
  refine lv_aload_n hx hb d_P_deliver_6 rfl (lv_at hl 1 rfl) ?_
  refine cm_getf kx_P S hW rfl 2 (4) rfl wd_401 (by decide) d_P_deliver_7 ?_
  refine lv_iload_n hx hb d_P_deliver_10 rfl (lv_at hl 2 rfl) ?_
  refine cm_cVv [.int v1] kx_N S hW rfl (fun σ' hc => c_N_takeOut v1 σ hc) q_N_takeOut wd_965 wd_966 wd_964 (by decide) hl.1 rfl rfl (Nat.le_of_ble_eq_true rfl) d_P_deliver_11 h (fun r2 H locs cells slots h hW => ?_)
  refine lv_aload_n hx hb d_P_deliver_14 rfl (lv_at hl 0 rfl) ?_
  obtain ⟨hg, h⟩ := gd_s h
  refine cm_geti kx_G S hW hg 2 wd_591 (by decide) d_P_deliver_15 h (fun x3 h => ?_)
  refine rb_ne (tgt := 32) hx hb d_P_deliver_18 (by decide) h (fun h => ?_) (fun h => ?_)
  · refine lv_aload_n hx hb d_P_deliver_32 rfl (lv_at hl 1 rfl) ?_
    refine cm_getf kx_P S hW rfl 4 (14) rfl wd_403 (by decide) d_P_deliver_33 ?_
    refine lv_aload_n hx hb d_P_deliver_36 rfl (lv_at hl 0 rfl) ?_
    refine cm_cVv [.ref (b + x1)] kx_E S hW rfl (fun σ' hc => c_E_comes 14 x1 r2 hc) q_E_comes wd_969 wd_970 wd_968 (by decide) hl.1 rfl rfl (Nat.le_of_ble_eq_true rfl) d_P_deliver_37 h (fun r4 H locs cells slots h hW => ?_)
    exact t_P_deliver_40 S x1 r4 h (lv_sub hl [1, 0] rfl) hW
  · refine lv_aload_n hx hb d_P_deliver_21 rfl (lv_at hl 1 rfl) ?_
    refine cm_getf kx_P S hW rfl 3 (7) rfl wd_402 (by decide) d_P_deliver_22 ?_
    refine lv_aload_n hx hb d_P_deliver_25 rfl (lv_at hl 0 rfl) ?_
    refine cm_cVv [.ref (b + x1)] kx_E S hW rfl (fun σ' hc => c_E_comes 7 x1 r2 hc) q_E_comes wd_969 wd_970 wd_968 (by decide) hl.1 rfl rfl (Nat.le_of_ble_eq_true rfl) d_P_deliver_26 h (fun r5 H locs cells slots h hW => ?_)
    refine lv_goto (tgt := 40) hx hb d_P_deliver_29 (by decide) ?_
    exact t_P_deliver_40 S x1 r5 h (lv_sub hl [1, 0] rfl) hW
theorem cx_P_deliver (v1 : Int32) (σ : CS) (hfl : l.flags = flags0) {j : Nat} {σ' : CS} (h : m_P_deliver v1 σ = some (.inl j, σ')) : XMet l D tc b z y_P_deliver k_P_deliver 3 (Option.some Jvm.ClassFile.FieldType.int) 13 316 [.ref (b + 0), .int v1] σ j := xm_met (by decide) (Nat.le_of_ble_eq_true rfl) fun p e s m args below meth c S hT hex hW ls hl => t_P_deliver_0 S hT hfl hex v1 σ h hl hW
theorem cr_P_deliver (v1 : Int32) (σ : CS) (hfl : l.flags = flags0) {x : Int32} {σ' : CS} (h : m_P_deliver v1 σ = some (.inr x, σ')) : PMet l D tc b z y_P_deliver k_P_deliver 3 (Option.some Jvm.ClassFile.FieldType.int) 13 316 [.ref (b + 0), .int v1] σ (some (.int x)) σ' := pm_met (by decide) (Nat.le_of_ble_eq_true rfl) fun p e s m args below meth c S hT hex hW ls hl => t_P_deliver_0 S hT hfl hex v1 σ h hl hW
end

/-! StreamPair.drop (I)I -/
abbrev k_P_drop : ByteArray := prog_1_method_12_code
abbrev y_P_drop : MethodName := ⟨cn_P, "drop", "(I)I"⟩
theorem q_P_drop : Calee y_P_drop k_P_drop 3 (Option.some Jvm.ClassFile.FieldType.int) 1 := ⟨wd_1173, wd_78, by decide, by decide +kernel⟩
theorem d_P_drop_0 : decode k_P_drop 0 = .ok (.aload_n 0, 1) := by decide +kernel
theorem d_P_drop_1 : decode k_P_drop 1 = .ok (.iload_n 1, 1) := by decide +kernel
theorem d_P_drop_2 : decode k_P_drop 2 = .ok (.invokevirtual 194, 3) := by decide +kernel
theorem d_P_drop_5 : decode k_P_drop 5 = .ok (.astore_n 2, 1) := by decide +kernel
theorem d_P_drop_6 : decode k_P_drop 6 = .ok (.aload_n 0, 1) := by decide +kernel
theorem d_P_drop_7 : decode k_P_drop 7 = .ok (.getfield 26, 3) := by decide +kernel
theorem d_P_drop_10 : decode k_P_drop 10 = .ok (.iload_n 1, 1) := by decide +kernel
theorem d_P_drop_11 : decode k_P_drop 11 = .ok (.invokevirtual 198, 3) := by decide +kernel
theorem d_P_drop_14 : decode k_P_drop 14 = .ok (.aload_n 0, 1) := by decide +kernel
theorem d_P_drop_15 : decode k_P_drop 15 = .ok (.getfield 26, 3) := by decide +kernel
theorem d_P_drop_18 : decode k_P_drop 18 = .ok (.getfield 210, 3) := by decide +kernel
theorem d_P_drop_21 : decode k_P_drop 21 = .ok (.aload_n 2, 1) := by decide +kernel
theorem d_P_drop_22 : decode k_P_drop 22 = .ok (.invokevirtual 214, 3) := by decide +kernel
theorem d_P_drop_25 : decode k_P_drop 25 = .ok (.pop, 1) := by decide +kernel
theorem d_P_drop_26 : decode k_P_drop 26 = .ok (.aload_n 0, 1) := by decide +kernel
theorem d_P_drop_27 : decode k_P_drop 27 = .ok (.getfield 26, 3) := by decide +kernel
theorem d_P_drop_30 : decode k_P_drop 30 = .ok (.getfield 219, 3) := by decide +kernel
theorem d_P_drop_33 : decode k_P_drop 33 = .ok (.invokevirtual 222, 3) := by decide +kernel
theorem d_P_drop_36 : decode k_P_drop 36 = .ok (.ireturn, 1) := by decide +kernel
def m_P_drop (v1 : Int32) (σ : CS) : Option ((Nat ⊕ Int32) × CS) :=
  bcn (n_P_segmentOf v1 σ) σ fun x1 => bc (m_N_takeOut v1 σ) fun r2 => bc2 (m_A_add_Lo 6 x1 r2) fun x4 r3 => bc2 (m_A_size 5 r3) fun x6 r5 => some (.inr x6, r5)
section
variable {p : Program} {l : Launch} {e : Env} {s : State} {m : MethodId} {args : Array Value} {below : List Frame} {meth : Method} {c : Code} {D : va_G} {tc : Nat → ClassId} {b z : Nat} {σ0 : CS}
theorem t_P_drop_0 (S : CC p m c k_P_drop 3 s args cn_P meth (Option.some Jvm.ClassFile.FieldType.int) D tc b z) (hT : TK b s) (hfl : l.flags = flags0) (hex : c.exceptionTable.toList = []) (v1 : Int32) (σ : CS) {B : (Nat ⊕ Int32) × CS} (h : m_P_drop v1 σ = some B) {ls : Array Slot} (hl : lv_has ls 3 [(0, .ref (b + 0)), (1, .int v1)]) (hW : CWS D tc b z s σ σ s.heap [] 0 0) : W p l e (CR 7 171 σ) s m args below meth c s.heap [] 0 0 (PQ D tc b z below args s σ (fun x => some (.int x)) B) (F0 m 0 ls []) := by
  have hx := S.1.1
  have hb := S.1.2.1
  unfold m_P_drop at h
  refine lv_aload_n hx hb d_P_drop_0 rfl (lv_at hl 0 rfl) ?_
  refine lv_iload_n hx hb d_P_drop_1 rfl (lv_at hl 1 rfl) ?_
  refine pm_look (As := [.int v1]) S hT hex hW (fun j hc => cyx_P_segmentOf v1 σ hfl hc) (fun x hc => cyr_P_segmentOf v1 σ hfl hc) q_P_segmentOf wd_959 wd_17 wd_957 (by decide) hl.1 rfl rfl (Nat.le_of_ble_eq_true rfl) d_P_drop_2 h (fun x1 h => ?_)
  refine lv_astore_n (lv' := [(2, .ref (b + x1)), (0, .ref (b + 0)), (1, .int v1)]) hx hb d_P_drop_5 rfl hl (by decide) rfl (fun ls hl => ?_)
  refine lv_aload_n hx hb d_P_drop_6 rfl (lv_at hl 1 rfl) ?_
  refine cm_getf kx_P S hW rfl 2 (4) rfl wd_401 (by decide) d_P_drop_7 ?_
  refine lv_iload_n hx hb d_P_drop_10 rfl (lv_at hl 2 rfl) ?_
  refine cm_cVv [.int v1] kx_N S hW rfl (fun σ' hc => c_N_takeOut v1 σ hc) q_N_takeOut wd_965 wd_966 wd_964 (by decide) hl.1 rfl rfl (Nat.le_of_ble_eq_true rfl) d_P_drop_11 h (fun r2 H locs cells slots h hW => ?_)
  refine lv_aload_n hx hb d_P_drop_14 rfl (lv_at hl 1 rfl) ?_
  refine cm_getf kx_P S hW rfl 2 (4) rfl wd_401 (by decide) d_P_drop_15 ?_
  refine cm_getf kx_N S hW rfl 1 (6) rfl wd_176 (by decide) d_P_drop_18 ?_
  refine lv_aload_n hx hb d_P_drop_21 rfl (lv_at hl 0 rfl) ?_
  refine cm_cVi [.ref (b + x1)] kx_A S hW rfl (fun x σ' hc => c_A_add_Lo 6 x1 r2 hc) q_A_add_Lo wd_450 wd_451 wd_1166 (by decide) hl.1 rfl rfl (Nat.le_of_ble_eq_true rfl) d_P_drop_22 h (fun x4 r3 H locs cells slots h hW => ?_)
  refine lv_pop hx hb d_P_drop_25 rfl ?_
  refine lv_aload_n hx hb d_P_drop_26 rfl (lv_at hl 1 rfl) ?_
  refine cm_getf kx_P S hW rfl 2 (4) rfl wd_401 (by decide) d_P_drop_27 ?_
  refine cm_getf kx_N S hW rfl 0 (5) rfl wd_174 (by decide) d_P_drop_30 ?_
  refine cm_cVi [] kx_A S hW rfl (fun x σ' hc => c_A_size 5 r3 hc) q_A_size wd_431 wd_432 wd_649 (by decide) hl.1 rfl rfl (Nat.le_of_ble_eq_true rfl) d_P_drop_33 h (fun x6 r5 H locs cells slots h hW => ?_)
  exact pr_i S hW d_P_drop_36 h
theorem cx_P_drop (v1 : Int32) (σ : CS) (hfl : l.flags = flags0) {j : Nat} {σ' : CS} (h : m_P_drop v1 σ = some (.inl j, σ')) : XMet l D tc b z y_P_drop k_P_drop 3 (Option.some Jvm.ClassFile.FieldType.int) 7 171 [.ref (b + 0), .int v1] σ j := xm_met (by decide) (Nat.le_of_ble_eq_true rfl) fun p e s m args below meth c S hT hex hW ls hl => t_P_drop_0 S hT hfl hex v1 σ h hl hW
theorem cr_P_drop (v1 : Int32) (σ : CS) (hfl : l.flags = flags0) {x : Int32} {σ' : CS} (h : m_P_drop v1 σ = some (.inr x, σ')) : PMet l D tc b z y_P_drop k_P_drop 3 (Option.some Jvm.ClassFile.FieldType.int) 7 171 [.ref (b + 0), .int v1] σ (some (.int x)) σ' := pm_met (by decide) (Nat.le_of_ble_eq_true rfl) fun p e s m args below meth c S hT hex hW ls hl => t_P_drop_0 S hT hfl hex v1 σ h hl hW
end

/-! StreamPair.copy (I)I -/
abbrev k_P_copy : ByteArray := prog_1_method_13_code
abbrev y_P_copy : MethodName := ⟨cn_P, "copy", "(I)I"⟩
theorem q_P_copy : Calee y_P_copy k_P_copy 3 (Option.some Jvm.ClassFile.FieldType.int) 1 := ⟨wd_1180, wd_78, by decide, by decide +kernel⟩
theorem d_P_copy_0 : decode k_P_copy 0 = .ok (.aload_n 0, 1) := by decide +kernel
theorem d_P_copy_1 : decode k_P_copy 1 = .ok (.iload_n 1, 1) := by decide +kernel
theorem d_P_copy_2 : decode k_P_copy 2 = .ok (.invokevirtual 194, 3) := by decide +kernel
theorem d_P_copy_5 : decode k_P_copy 5 = .ok (.astore_n 2, 1) := by decide +kernel
theorem d_P_copy_6 : decode k_P_copy 6 = .ok (.aload_n 0, 1) := by decide +kernel
theorem d_P_copy_7 : decode k_P_copy 7 = .ok (.getfield 26, 3) := by decide +kernel
theorem d_P_copy_10 : decode k_P_copy 10 = .ok (.aload_n 2, 1) := by decide +kernel
theorem d_P_copy_11 : decode k_P_copy 11 = .ok (.getfield 201, 3) := by decide +kernel
theorem d_P_copy_14 : decode k_P_copy 14 = .ok (.aload_n 2, 1) := by decide +kernel
theorem d_P_copy_15 : decode k_P_copy 15 = .ok (.getfield 226, 3) := by decide +kernel
theorem d_P_copy_18 : decode k_P_copy 18 = .ok (.aload_n 2, 1) := by decide +kernel
theorem d_P_copy_19 : decode k_P_copy 19 = .ok (.getfield 227, 3) := by decide +kernel
theorem d_P_copy_22 : decode k_P_copy 22 = .ok (.invokevirtual 228, 3) := by decide +kernel
theorem d_P_copy_25 : decode k_P_copy 25 = .ok (.aload_n 0, 1) := by decide +kernel
theorem d_P_copy_26 : decode k_P_copy 26 = .ok (.getfield 26, 3) := by decide +kernel
theorem d_P_copy_29 : decode k_P_copy 29 = .ok (.getfield 219, 3) := by decide +kernel
theorem d_P_copy_32 : decode k_P_copy 32 = .ok (.invokevirtual 222, 3) := by decide +kernel
theorem d_P_copy_35 : decode k_P_copy 35 = .ok (.ireturn, 1) := by decide +kernel
def m_P_copy (v1 : Int32) (σ : CS) : Option ((Nat ⊕ Int32) × CS) :=
  bcn (n_P_segmentOf v1 σ) σ fun x1 => gd (kd σ x1 = 11) <| bd (cI σ x1 2) fun x2 => gd (kd σ x1 = 11) <| bc (cR σ x1 0) fun a3 => gd (kd σ x1 = 11) <| bd (cI σ x1 1) fun x4 => bc (m_N_placeBytes x2 a3 x4 σ) fun r5 => bc2 (m_A_size 5 r5) fun x7 r6 => some (.inr x7, r6)
section
variable {p : Program} {l : Launch} {e : Env} {s : State} {m : MethodId} {args : Array Value} {below : List Frame} {meth : Method} {c : Code} {D : va_G} {tc : Nat → ClassId} {b z : Nat} {σ0 : CS}
theorem t_P_copy_0 (S : CC p m c k_P_copy 3 s args cn_P meth (Option.some Jvm.ClassFile.FieldType.int) D tc b z) (hT : TK b s) (hfl : l.flags = flags0) (hex : c.exceptionTable.toList = []) (v1 : Int32) (σ : CS) {B : (Nat ⊕ Int32) × CS} (h : m_P_copy v1 σ = some B) {ls : Array Slot} (hl : lv_has ls 3 [(0, .ref (b + 0)), (1, .int v1)]) (hW : CWS D tc b z s σ σ s.heap [] 0 0) : W p l e (CR 9 218 σ) s m args below meth c s.heap [] 0 0 (PQ D tc b z below args s σ (fun x => some (.int x)) B) (F0 m 0 ls []) := by
  have hx := S.1.1
  have hb := S.1.2.1
  unfold m_P_copy at h
  refine lv_aload_n hx hb d_P_copy_0 rfl (lv_at hl 0 rfl) ?_
  refine lv_iload_n hx hb d_P_copy_1 rfl (lv_at hl 1 rfl) ?_
  refine pm_look (As := [.int v1]) S hT hex hW (fun j hc => cyx_P_segmentOf v1 σ hfl hc) (fun x hc => cyr_P_segmentOf v1 σ hfl hc) q_P_segmentOf wd_959 wd_17 wd_957 (by decide) hl.1 rfl rfl (Nat.le_of_ble_eq_true rfl) d_P_copy_2 h (fun x1 h => ?_)
  refine lv_astore_n (lv' := [(2, .ref (b + x1)), (0, .ref (b + 0)), (1, .int v1)]) hx hb d_P_copy_5 rfl hl (by decide) rfl (fun ls hl => ?_)
  refine lv_aload_n hx hb d_P_copy_6 rfl (lv_at hl 1 rfl) ?_
  refine cm_getf kx_P S hW rfl 2 (4) rfl wd_401 (by decide) d_P_copy_7 ?_
  refine lv_aload_n hx hb d_P_copy_10 rfl (lv_at hl 0 rfl) ?_
  obtain ⟨hg, h⟩ := gd_s h
  refine cm_geti kx_G S hW hg 2 wd_591 (by decide) d_P_copy_11 h (fun x2 h => ?_)
  refine lv_aload_n hx hb d_P_copy_14 rfl (lv_at hl 0 rfl) ?_
  obtain ⟨hg, h⟩ := gd_s h
  refine cm_getr kx_G S hW hg 0 wd_586 (by decide) d_P_copy_15 h (fun a3 h => ?_)
  refine lv_aload_n hx hb d_P_copy_18 rfl (lv_at hl 0 rfl) ?_
  obtain ⟨hg, h⟩ := gd_s h
  refine cm_geti kx_G S hW hg 1 wd_589 (by decide) d_P_copy_19 h (fun x4 h => ?_)
  refine cm_cVv [.int x2, .ref (b + a3), .int x4] kx_N S hW rfl (fun σ' hc => c_N_placeBytes x2 a3 x4 σ hc) q_N_placeBytes wd_1182 wd_1183 wd_1181 (by decide) hl.1 rfl rfl (Nat.le_of_ble_eq_true rfl) d_P_copy_22 h (fun r5 H locs cells slots h hW => ?_)
  refine lv_aload_n hx hb d_P_copy_25 rfl (lv_at hl 1 rfl) ?_
  refine cm_getf kx_P S hW rfl 2 (4) rfl wd_401 (by decide) d_P_copy_26 ?_
  refine cm_getf kx_N S hW rfl 0 (5) rfl wd_174 (by decide) d_P_copy_29 ?_
  refine cm_cVi [] kx_A S hW rfl (fun x σ' hc => c_A_size 5 r5 hc) q_A_size wd_431 wd_432 wd_649 (by decide) hl.1 rfl rfl (Nat.le_of_ble_eq_true rfl) d_P_copy_32 h (fun x7 r6 H locs cells slots h hW => ?_)
  exact pr_i S hW d_P_copy_35 h
theorem cx_P_copy (v1 : Int32) (σ : CS) (hfl : l.flags = flags0) {j : Nat} {σ' : CS} (h : m_P_copy v1 σ = some (.inl j, σ')) : XMet l D tc b z y_P_copy k_P_copy 3 (Option.some Jvm.ClassFile.FieldType.int) 9 218 [.ref (b + 0), .int v1] σ j := xm_met (by decide) (Nat.le_of_ble_eq_true rfl) fun p e s m args below meth c S hT hex hW ls hl => t_P_copy_0 S hT hfl hex v1 σ h hl hW
theorem cr_P_copy (v1 : Int32) (σ : CS) (hfl : l.flags = flags0) {x : Int32} {σ' : CS} (h : m_P_copy v1 σ = some (.inr x, σ')) : PMet l D tc b z y_P_copy k_P_copy 3 (Option.some Jvm.ClassFile.FieldType.int) 9 218 [.ref (b + 0), .int v1] σ (some (.int x)) σ' := pm_met (by decide) (Nat.le_of_ble_eq_true rfl) fun p e s m args below meth c S hT hex hW ls hl => t_P_copy_0 S hT hfl hex v1 σ h hl hW
end

/-! StreamPair.flip (IIIZ)I -/
abbrev k_P_flip : ByteArray := prog_1_method_14_code
abbrev y_P_flip : MethodName := ⟨cn_P, "flip", "(IIIZ)I"⟩
theorem q_P_flip : Calee y_P_flip k_P_flip 6 (Option.some Jvm.ClassFile.FieldType.int) 4 := ⟨wd_1194, wd_78, by decide, by decide +kernel⟩
theorem d_P_flip_0 : decode k_P_flip 0 = .ok (.aload_n 0, 1) := by decide +kernel
theorem d_P_flip_1 : decode k_P_flip 1 = .ok (.iload_n 1, 1) := by decide +kernel
theorem d_P_flip_2 : decode k_P_flip 2 = .ok (.invokevirtual 194, 3) := by decide +kernel
theorem d_P_flip_5 : decode k_P_flip 5 = .ok (.astore 5, 2) := by decide +kernel
theorem d_P_flip_7 : decode k_P_flip 7 = .ok (.iload_n 2, 1) := by decide +kernel
theorem d_P_flip_8 : decode k_P_flip 8 = .ok (.ifCond .lt 12, 3) := by decide +kernel
theorem d_P_flip_11 : decode k_P_flip 11 = .ok (.iload_n 2, 1) := by decide +kernel
theorem d_P_flip_12 : decode k_P_flip 12 = .ok (.aload 5, 2) := by decide +kernel
theorem d_P_flip_14 : decode k_P_flip 14 = .ok (.getfield 227, 3) := by decide +kernel
theorem d_P_flip_17 : decode k_P_flip 17 = .ok (.if_icmp .lt 13, 3) := by decide +kernel
theorem d_P_flip_20 : decode k_P_flip 20 = .ok (.new 232, 3) := by decide +kernel
theorem d_P_flip_23 : decode k_P_flip 23 = .ok (.dup, 1) := by decide +kernel
theorem d_P_flip_24 : decode k_P_flip 24 = .ok (.ldc 234, 2) := by decide +kernel
theorem d_P_flip_26 : decode k_P_flip 26 = .ok (.invokespecial 236, 3) := by decide +kernel
theorem d_P_flip_29 : decode k_P_flip 29 = .ok (.athrow, 1) := by decide +kernel
theorem d_P_flip_30 : decode k_P_flip 30 = .ok (.aload 5, 2) := by decide +kernel
theorem d_P_flip_32 : decode k_P_flip 32 = .ok (.getfield 226, 3) := by decide +kernel
theorem d_P_flip_35 : decode k_P_flip 35 = .ok (.iload_n 2, 1) := by decide +kernel
theorem d_P_flip_36 : decode k_P_flip 36 = .ok (.aload 5, 2) := by decide +kernel
theorem d_P_flip_38 : decode k_P_flip 38 = .ok (.getfield 226, 3) := by decide +kernel
theorem d_P_flip_41 : decode k_P_flip 41 = .ok (.iload_n 2, 1) := by decide +kernel
theorem d_P_flip_42 : decode k_P_flip 42 = .ok (.baload, 1) := by decide +kernel
theorem d_P_flip_43 : decode k_P_flip 43 = .ok (.iload_n 3, 1) := by decide +kernel
theorem d_P_flip_44 : decode k_P_flip 44 = .ok (.ixor, 1) := by decide +kernel
theorem d_P_flip_45 : decode k_P_flip 45 = .ok (.i2b, 1) := by decide +kernel
theorem d_P_flip_46 : decode k_P_flip 46 = .ok (.bastore, 1) := by decide +kernel
theorem d_P_flip_47 : decode k_P_flip 47 = .ok (.aload 5, 2) := by decide +kernel
theorem d_P_flip_49 : decode k_P_flip 49 = .ok (.getfield 227, 3) := by decide +kernel
theorem d_P_flip_52 : decode k_P_flip 52 = .ok (.bipush 18, 2) := by decide +kernel
theorem d_P_flip_54 : decode k_P_flip 54 = .ok (.if_icmp .ge 5, 3) := by decide +kernel
theorem d_P_flip_57 : decode k_P_flip 57 = .ok (.iconst (-1), 1) := by decide +kernel
theorem d_P_flip_58 : decode k_P_flip 58 = .ok (.ireturn, 1) := by decide +kernel
theorem d_P_flip_59 : decode k_P_flip 59 = .ok (.iload 4, 2) := by decide +kernel
theorem d_P_flip_61 : decode k_P_flip 61 = .ok (.ifCond .eq 8, 3) := by decide +kernel
theorem d_P_flip_64 : decode k_P_flip 64 = .ok (.aload 5, 2) := by decide +kernel
theorem d_P_flip_66 : decode k_P_flip 66 = .ok (.invokevirtual 237, 3) := by decide +kernel
theorem d_P_flip_69 : decode k_P_flip 69 = .ok (.aload 5, 2) := by decide +kernel
theorem d_P_flip_71 : decode k_P_flip 71 = .ok (.bipush 16, 2) := by decide +kernel
theorem d_P_flip_73 : decode k_P_flip 73 = .ok (.iconst 2, 1) := by decide +kernel
theorem d_P_flip_74 : decode k_P_flip 74 = .ok (.invokevirtual 240, 3) := by decide +kernel
theorem d_P_flip_77 : decode k_P_flip 77 = .ok (.ireturn, 1) := by decide +kernel
def b_P_flip_69 (v5 : Nat) (ω : CS) : Option ((Nat ⊕ Int32) × CS) :=
  gd (kd ω v5 = 11) <| bc2 (m_G_number v5 (16 : Int32) (2 : Int32) ω) fun x2 r1 => some (.inr x2, r1)
def b_P_flip_20 (σ : CS) : Option ((Nat ⊕ Int32) × CS) :=
  gd (cX σ + 1 ≤ 601024 ∧ cU σ + 6 ≤ 7293034) <| some (.inl 5, wa σ 0 0 6)
def m_P_flip (v1 : Int32) (v2 : Int32) (v3 : Int32) (v4 : Int32) (σ : CS) : Option ((Nat ⊕ Int32) × CS) :=
  bcn (n_P_segmentOf v1 σ) σ fun x1 => if v2 < 0 then
  (b_P_flip_20  σ)
 else
  (gd (kd σ x1 = 11) <| bd (cI σ x1 1) fun x2 => if v2 < x2 then
  (gd (kd σ x1 = 11) <| bc (cR σ x1 0) fun a3 => gd (kd σ x1 = 11) <| bc (cR σ x1 0) fun a4 => gd (kd σ a4 = 21 ∧ inb v2 (cN σ a4)) <| bd (cI σ a4 v2.toNatClampNeg) fun x5 => gd (kd σ a3 = 21 ∧ inb v2 (cN σ a3)) <| bd (wi σ a3 v2.toNatClampNeg (vp_nar .byte ((x5 ^^^ v3).toInt8.toInt32))) fun r6 => gd (kd r6 x1 = 11) <| bd (cI r6 x1 1) fun x7 => if (18 : Int32) ≤ x7 then
  (if v4 = 0 then
  (b_P_flip_69 x1 r6)
 else
  (gd (kd r6 x1 = 11) <| bc (m_G_mendChecksum x1 r6) fun r8 => b_P_flip_69 x1 r8))
 else
  (some (.inr (-1 : Int32), r6)))
 else
  (b_P_flip_20  σ))
section
variable {p : Program} {l : Launch} {e : Env} {s : State} {m : MethodId} {args : Array Value} {below : List Frame} {meth : Method} {c : Code} {D : va_G} {tc : Nat → ClassId} {b z : Nat} {σ0 : CS}
theorem t_P_flip_69 (S : CC p m c k_P_flip 6 s args cn_P meth (Option.some Jvm.ClassFile.FieldType.int) D tc b z) (v5 : Nat) (ω : CS) {B : (Nat ⊕ Int32) × CS} (h : b_P_flip_69 v5 ω = some B) {ls : Array Slot} {H : Heap} {locs : List Loc} {cells slots : Nat} (hl : lv_has ls 6 [(5, .ref (b + v5))]) (hW : CWS D tc b z s σ0 ω H locs cells slots) : W p l e (CR 7 104 σ0) s m args below meth c H locs cells slots (PQ D tc b z below args s σ0 (fun x => some (.int x)) B) (F0 m 69 ls []) := by
  have hx := S.1.1
  have hb := S.1.2.1
  unfold b_P_flip_69 at h
  refine lv_aload hx hb d_P_flip_69 (lv_at hl 0 rfl) ?_
  refine lv_bipush (v := 16) hx hb d_P_flip_71 (by decide) ?_
  refine lv_iconst (v := 2) hx hb d_P_flip_73 (by decide) ?_
  obtain ⟨hg, h⟩ := gd_s h
  refine cm_cVi [.int (16 : Int32), .int (2 : Int32)] kx_G S hW hg (fun x σ' hc => c_G_number v5 (16 : Int32) (2 : Int32) ω hc) q_G_number wd_985 wd_986 wd_1212 (by decide) hl.1 rfl rfl (Nat.le_of_ble_eq_true rfl) d_P_flip_74 h (fun x2 r1 H locs cells slots h hW => ?_)
  exact pr_i S hW d_P_flip_77 h
theorem t_P_flip_20 (S : CC p m c k_P_flip 6 s args cn_P meth (Option.some Jvm.ClassFile.FieldType.int) D tc b z) (hT : TK b s) (hfl : l.flags = flags0) (hex : c.exceptionTable.toList = []) (σ : CS) {B : (Nat ⊕ Int32) × CS} (h : b_P_flip_20  σ = some B) {ls : Array Slot} (hl : lv_has ls 6 []) (hW : CWS D tc b z s σ σ s.heap [] 0 0) : W p l e (CR 7 104 σ) s m args below meth c s.heap [] 0 0 (PQ D tc b z below args s σ (fun x => some (.int x)) B) (F0 m 20 ls []) := by
  have hx := S.1.1
  have hb := S.1.2.1
  unfold b_P_flip_20 at h
  refine xm_new (k := 5) (by decide) S hW d_P_flip_20 h (fun H1 cC kC h hfc hkC hcell => ?_)
  refine lv_dup hx hb d_P_flip_23 rfl ?_
  obtain ⟨q9, hq9⟩ := hT.2.2.2.2.2 (234, "no such place") (by decide)
  refine va_ldcS hx hb S.1.2.2.2.1 hq9 d_P_flip_24 ?_
  cases h
  exact xm_end (k := 5) (by decide) S hT hfl hex hfc hkC hcell hl.1 (by decide) (by decide) d_P_flip_26 d_P_flip_29
theorem t_P_flip_0 (S : CC p m c k_P_flip 6 s args cn_P meth (Option.some Jvm.ClassFile.FieldType.int) D tc b z) (hT : TK b s) (hfl : l.flags = flags0) (hex : c.exceptionTable.toList = []) (v1 : Int32) (v2 : Int32) (v3 : Int32) (v4 : Int32) (σ : CS) {B : (Nat ⊕ Int32) × CS} (h : m_P_flip v1 v2 v3 v4 σ = some B) {ls : Array Slot} (hl : lv_has ls 6 [(0, .ref (b + 0)), (1, .int v1), (2, .int v2), (3, .int v3), (4, .int v4)]) (hW : CWS D tc b z s σ σ s.heap [] 0 0) : W p l e (CR 7 104 σ) s m args below meth c s.heap [] 0 0 (PQ D tc b z below args s σ (fun x => some (.int x)) B) (F0 m 0 ls []) := by
  have hx := S.1.1
  have hb := S.1.2.1
  unfold m_P_flip at h
  refine lv_aload_n hx hb d_P_flip_0 rfl (lv_at hl 0 rfl) ?_
  refine lv_iload_n hx hb d_P_flip_1 rfl (lv_at hl 1 rfl) ?_
  refine pm_look (As := [.int v1]) S hT hex hW (fun j hc => cyx_P_segmentOf v1 σ hfl hc) (fun x hc => cyr_P_segmentOf v1 σ hfl hc) q_P_segmentOf wd_959 wd_17 wd_957 (by decide) hl.1 rfl rfl (Nat.le_of_ble_eq_true rfl) d_P_flip_2 h (fun x1 h => ?_)
  refine lv_astore (lv' := [(5, .ref (b + x1)), (0, .ref (b + 0)), (1, .int v1), (2, .int v2), (3, .int v3), (4, .int v4)]) hx hb d_P_flip_5 hl (by decide) rfl (fun ls hl => ?_)
  refine lv_iload_n hx hb d_P_flip_7 rfl (lv_at hl 3 rfl) ?_
  refine rb_lt (tgt := 20) hx hb d_P_flip_8 (by decide) h (fun h => ?_) (fun h => ?_)
  · exact t_P_flip_20 S hT hfl hex  σ h (lv_sub hl [] rfl) hW
  · refine lv_iload_n hx hb d_P_flip_11 rfl (lv_at hl 3 rfl) ?_
    refine lv_aload hx hb d_P_flip_12 (lv_at hl 0 rfl) ?_
    obtain ⟨hg, h⟩ := gd_s h
    refine cm_geti kx_G S hW hg 1 wd_589 (by decide) d_P_flip_14 h (fun x2 h => ?_)
    refine rc_lt (tgt := 30) hx hb d_P_flip_17 (by decide) h (fun h => ?_) (fun h => ?_)
    · refine lv_aload hx hb d_P_flip_30 (lv_at hl 0 rfl) ?_
      obtain ⟨hg, h⟩ := gd_s h
      refine cm_getr kx_G S hW hg 0 wd_586 (by decide) d_P_flip_32 h (fun a3 h => ?_)
      refine lv_iload_n hx hb d_P_flip_35 rfl (lv_at hl 3 rfl) ?_
      refine lv_aload hx hb d_P_flip_36 (lv_at hl 0 rfl) ?_
      obtain ⟨hg, h⟩ := gd_s h
      refine cm_getr kx_G S hW hg 0 wd_586 (by decide) d_P_flip_38 h (fun a4 h => ?_)
      refine lv_iload_n hx hb d_P_flip_41 rfl (lv_at hl 3 rfl) ?_
      refine cm_bald S hW d_P_flip_42 h (fun x5 h => ?_)
      refine lv_iload_n hx hb d_P_flip_43 rfl (lv_at hl 4 rfl) ?_
      refine lv_ixor hx hb d_P_flip_44 ?_
      refine lv_i2b hx hb d_P_flip_45 rfl ?_
      refine cm_bast S hW d_P_flip_46 h (fun r6 H locs h hW => ?_)
      refine lv_aload hx hb d_P_flip_47 (lv_at hl 0 rfl) ?_
      obtain ⟨hg, h⟩ := gd_s h
      refine cm_geti kx_G S hW hg 1 wd_589 (by decide) d_P_flip_49 h (fun x7 h => ?_)
      refine lv_bipush (v := 18) hx hb d_P_flip_52 (by decide) ?_
      refine rc_ge (tgt := 59) hx hb d_P_flip_54 (by decide) h (fun h => ?_) (fun h => ?_)
      · refine lv_iload hx hb d_P_flip_59 (lv_at hl 5 rfl) ?_
        refine rb_eq (tgt := 69) hx hb d_P_flip_61 (by decide) h (fun h => ?_) (fun h => ?_)
        · exact t_P_flip_69 S x1 r6 h (lv_sub hl [0] rfl) hW
        · refine lv_aload hx hb d_P_flip_64 (lv_at hl 0 rfl) ?_
          obtain ⟨hg, h⟩ := gd_s h
          refine cm_cVv [] kx_G S hW hg (fun σ' hc => c_G_mendChecksum x1 r6 hc) q_G_mendChecksum wd_623 wd_624 wd_1211 (by decide) hl.1 rfl rfl (Nat.le_of_ble_eq_true rfl) d_P_flip_66 h (fun r8 H locs cells slots h hW => ?_)
          exact t_P_flip_69 S x1 r8 h (lv_sub hl [0] rfl) hW
      · refine lv_iconst (v := -1) hx hb d_P_flip_57 (by decide) ?_
        exact pr_i S hW d_P_flip_58 h
    · exact t_P_flip_20 S hT hfl hex  σ h (lv_sub hl [] rfl) hW
theorem cx_P_flip (v1 : Int32) (v2 : Int32) (v3 : Int32) (v4 : Int32) (σ : CS) (hfl : l.flags = flags0) {j : Nat} {σ' : CS} (h : m_P_flip v1 v2 v3 v4 σ = some (.inl j, σ')) : XMet l D tc b z y_P_flip k_P_flip 6 (Option.some Jvm.ClassFile.FieldType.int) 7 104 [.ref (b + 0), .int v1, .int v2, .int v3, .int v4] σ j := xm_met (by decide) (Nat.le_of_ble_eq_true rfl) fun p e s m args below meth c S hT hex hW ls hl => t_P_flip_0 S hT hfl hex v1 v2 v3 v4 σ h hl hW
theorem cr_P_flip (v1 : Int32) (v2 : Int32) (v3 : Int32) (v4 : Int32) (σ : CS) (hfl : l.flags = flags0) {x : Int32} {σ' : CS} (h : m_P_flip v1 v2 v3 v4 σ = some (.inr x, σ')) : PMet l D tc b z y_P_flip k_P_flip 6 (Option.some Jvm.ClassFile.FieldType.int) 7 104 [.ref (b + 0), .int v1, .int v2, .int v3, .int v4] σ (some (.int x)) σ' := pm_met (by decide) (Nat.le_of_ble_eq_true rfl) fun p e s m args below meth c S hT hex hW ls hl => t_P_flip_0 S hT hfl hex v1 v2 v3 v4 σ h hl hW
end

/-! StreamPair.inject (I)I -/
abbrev k_P_inject : ByteArray := prog_1_method_15_code
abbrev y_P_inject : MethodName := ⟨cn_P, "inject", "(I)I"⟩
theorem q_P_inject : Calee y_P_inject k_P_inject 3 (Option.some Jvm.ClassFile.FieldType.int) 1 := ⟨wd_1219, wd_78, by decide, by decide +kernel⟩
theorem d_P_inject_0 : decode k_P_inject 0 = .ok (.aload_n 0, 1) := by decide +kernel
theorem d_P_inject_1 : decode k_P_inject 1 = .ok (.iload_n 1, 1) := by decide +kernel
theorem d_P_inject_2 : decode k_P_inject 2 = .ok (.invokevirtual 83, 3) := by decide +kernel
theorem d_P_inject_5 : decode k_P_inject 5 = .ok (.astore_n 2, 1) := by decide +kernel
theorem d_P_inject_6 : decode k_P_inject 6 = .ok (.aload_n 0, 1) := by decide +kernel
theorem d_P_inject_7 : decode k_P_inject 7 = .ok (.getfield 10, 3) := by decide +kernel
theorem d_P_inject_10 : decode k_P_inject 10 = .ok (.getfield 42, 3) := by decide +kernel
theorem d_P_inject_13 : decode k_P_inject 13 = .ok (.sipush 1484, 3) := by decide +kernel
theorem d_P_inject_16 : decode k_P_inject 16 = .ok (.if_icmp .le 13, 3) := by decide +kernel
theorem d_P_inject_19 : decode k_P_inject 19 = .ok (.new 58, 3) := by decide +kernel
theorem d_P_inject_22 : decode k_P_inject 22 = .ok (.dup, 1) := by decide +kernel
theorem d_P_inject_23 : decode k_P_inject 23 = .ok (.ldc 243, 2) := by decide +kernel
theorem d_P_inject_25 : decode k_P_inject 25 = .ok (.invokespecial 62, 3) := by decide +kernel
theorem d_P_inject_28 : decode k_P_inject 28 = .ok (.athrow, 1) := by decide +kernel
theorem d_P_inject_29 : decode k_P_inject 29 = .ok (.aload_n 0, 1) := by decide +kernel
theorem d_P_inject_30 : decode k_P_inject 30 = .ok (.getfield 26, 3) := by decide +kernel
theorem d_P_inject_33 : decode k_P_inject 33 = .ok (.aload_n 2, 1) := by decide +kernel
theorem d_P_inject_34 : decode k_P_inject 34 = .ok (.getfield 245, 3) := by decide +kernel
theorem d_P_inject_37 : decode k_P_inject 37 = .ok (.aload_n 0, 1) := by decide +kernel
theorem d_P_inject_38 : decode k_P_inject 38 = .ok (.getfield 10, 3) := by decide +kernel
theorem d_P_inject_41 : decode k_P_inject 41 = .ok (.getfield 122, 3) := by decide +kernel
theorem d_P_inject_44 : decode k_P_inject 44 = .ok (.aload_n 0, 1) := by decide +kernel
theorem d_P_inject_45 : decode k_P_inject 45 = .ok (.getfield 10, 3) := by decide +kernel
theorem d_P_inject_48 : decode k_P_inject 48 = .ok (.getfield 42, 3) := by decide +kernel
theorem d_P_inject_51 : decode k_P_inject 51 = .ok (.invokevirtual 228, 3) := by decide +kernel
theorem d_P_inject_54 : decode k_P_inject 54 = .ok (.aload_n 0, 1) := by decide +kernel
theorem d_P_inject_55 : decode k_P_inject 55 = .ok (.getfield 10, 3) := by decide +kernel
theorem d_P_inject_58 : decode k_P_inject 58 = .ok (.iconst 0, 1) := by decide +kernel
theorem d_P_inject_59 : decode k_P_inject 59 = .ok (.putfield 42, 3) := by decide +kernel
theorem d_P_inject_62 : decode k_P_inject 62 = .ok (.aload_n 0, 1) := by decide +kernel
theorem d_P_inject_63 : decode k_P_inject 63 = .ok (.getfield 26, 3) := by decide +kernel
theorem d_P_inject_66 : decode k_P_inject 66 = .ok (.getfield 219, 3) := by decide +kernel
theorem d_P_inject_69 : decode k_P_inject 69 = .ok (.invokevirtual 222, 3) := by decide +kernel
theorem d_P_inject_72 : decode k_P_inject 72 = .ok (.ireturn, 1) := by decide +kernel
def m_P_inject (v1 : Int32) (σ : CS) : Option ((Nat ⊕ Int32) × CS) :=
  bcn (n_P_sideOf v1 σ) σ fun x1 => gd (x1 = 7 ∨ x1 = 14) <| bd (cI σ 1 1) fun x2 => if x2 ≤ (1484 : Int32) then
  (bd (cI σ x1 0) fun x3 => bc (cR σ 1 0) fun a4 => bd (cI σ 1 1) fun x5 => bc (m_N_placeBytes x3 a4 x5 σ) fun r6 => bd (wi r6 1 1 (0 : Int32)) fun r7 => bc2 (m_A_size 5 r7) fun x9 r8 => some (.inr x9, r8))
 else
  (gd (cX σ + 1 ≤ 601024 ∧ cU σ + 6 ≤ 7293034) <| some (.inl 2, wa σ 0 0 6))
section
variable {p : Program} {l : Launch} {e : Env} {s : State} {m : MethodId} {args : Array Value} {below : List Frame} {meth : Method} {c : Code} {D : va_G} {tc : Nat → ClassId} {b z : Nat} {σ0 : CS}
theorem t_P_inject_0 (S : CC p m c k_P_inject 3 s args cn_P meth (Option.some Jvm.ClassFile.FieldType.int) D tc b z) (hT : TK b s) (hfl : l.flags = flags0) (hex : c.exceptionTable.toList = []) (v1 : Int32) (σ : CS) {B : (Nat ⊕ Int32) × CS} (h : m_P_inject v1 σ = some B) {ls : Array Slot} (hl : lv_has ls 3 [(0, .ref (b + 0)), (1, .int v1)]) (hW : CWS D tc b z s σ σ s.heap [] 0 0) : W p l e (CR 9 218 σ) s m args below meth c s.heap [] 0 0 (PQ D tc b z below args s σ (fun x => some (.int x)) B) (F0 m 0 ls []) := by
  have hx := S.1.1
  have hb := S.1.2.1
  unfold m_P_inject at h
  refine lv_aload_n hx hb d_P_inject_0 rfl (lv_at hl 0 rfl) ?_
  refine lv_iload_n hx hb d_P_inject_1 rfl (lv_at hl 1 rfl) ?_
  refine pm_look (As := [.int v1]) S hT hex hW (fun j hc => cyx_P_sideOf v1 σ hfl hc) (fun x hc => cyr_P_sideOf v1 σ hfl hc) q_P_sideOf wd_776 wd_8 wd_774 (by decide) hl.1 rfl rfl (Nat.le_of_ble_eq_true rfl) d_P_inject_2 h (fun x1 h => ?_)
  obtain ⟨hk_x1, h⟩ := gd_s h
  refine lv_astore_n (lv' := [(2, .ref (b + x1)), (0, .ref (b + 0)), (1, .int v1)]) hx hb d_P_inject_5 rfl hl (by decide) rfl (fun ls hl => ?_)
  refine lv_aload_n hx hb d_P_inject_6 rfl (lv_at hl 1 rfl) ?_
  refine cm_getf kx_P S hW rfl 0 (1) rfl wd_399 (by decide) d_P_inject_7 ?_
  refine cm_geti kx_T S hW rfl 1 wd_123 (by decide) d_P_inject_10 h (fun x2 h => ?_)
  refine lv_sipush (v := 1484) hx hb d_P_inject_13 (by decide) ?_
  refine rc_le (tgt := 29) hx hb d_P_inject_16 (by decide) h (fun h => ?_) (fun h => ?_)
  · refine lv_aload_n hx hb d_P_inject_29 rfl (lv_at hl 1 rfl) ?_
    refine cm_getf kx_P S hW rfl 2 (4) rfl wd_401 (by decide) d_P_inject_30 ?_
    refine lv_aload_n hx hb d_P_inject_33 rfl (lv_at hl 0 rfl) ?_
    refine cm_geti kx_E S hW (kE hk_x1) 0 wd_350 (by decide) d_P_inject_34 h (fun x3 h => ?_)
    refine lv_aload_n hx hb d_P_inject_37 rfl (lv_at hl 1 rfl) ?_
    refine cm_getf kx_P S hW rfl 0 (1) rfl wd_399 (by decide) d_P_inject_38 ?_
    refine cm_getr kx_T S hW rfl 0 wd_121 (by decide) d_P_inject_41 h (fun a4 h => ?_)
    refine lv_aload_n hx hb d_P_inject_44 rfl (lv_at hl 1 rfl) ?_
    refine cm_getf kx_P S hW rfl 0 (1) rfl wd_399 (by decide) d_P_inject_45 ?_
    refine cm_geti kx_T S hW rfl 1 wd_123 (by decide) d_P_inject_48 h (fun x5 h => ?_)
    refine cm_cVv [.int x3, .ref (b + a4), .int x5] kx_N S hW rfl (fun σ' hc => c_N_placeBytes x3 a4 x5 σ hc) q_N_placeBytes wd_1182 wd_1183 wd_1181 (by decide) hl.1 rfl rfl (Nat.le_of_ble_eq_true rfl) d_P_inject_51 h (fun r6 H locs cells slots h hW => ?_)
    refine lv_aload_n hx hb d_P_inject_54 rfl (lv_at hl 1 rfl) ?_
    refine cm_getf kx_P S hW rfl 0 (1) rfl wd_399 (by decide) d_P_inject_55 ?_
    refine lv_iconst (v := 0) hx hb d_P_inject_58 (by decide) ?_
    refine cm_puti kx_T S hW rfl 1 wd_123 (by decide) d_P_inject_59 h (fun r7 H locs h hW => ?_)
    refine lv_aload_n hx hb d_P_inject_62 rfl (lv_at hl 1 rfl) ?_
    refine cm_getf kx_P S hW rfl 2 (4) rfl wd_401 (by decide) d_P_inject_63 ?_
    refine cm_getf kx_N S hW rfl 0 (5) rfl wd_174 (by decide) d_P_inject_66 ?_
    refine cm_cVi [] kx_A S hW rfl (fun x σ' hc => c_A_size 5 r7 hc) q_A_size wd_431 wd_432 wd_649 (by decide) hl.1 rfl rfl (Nat.le_of_ble_eq_true rfl) d_P_inject_69 h (fun x9 r8 H locs cells slots h hW => ?_)
    exact pr_i S hW d_P_inject_72 h
  · refine xm_new (k := 2) (by decide) S hW d_P_inject_19 h (fun H1 cC kC h hfc hkC hcell => ?_)
    refine lv_dup hx hb d_P_inject_22 rfl ?_
    obtain ⟨q9, hq9⟩ := hT.2.2.2.2.2 (243, "too long for a segment") (by decide)
    refine va_ldcS hx hb S.1.2.2.2.1 hq9 d_P_inject_23 ?_
    cases h
    exact xm_end (k := 2) (by decide) S hT hfl hex hfc hkC hcell hl.1 (by decide) (by decide) d_P_inject_25 d_P_inject_28
theorem cx_P_inject (v1 : Int32) (σ : CS) (hfl : l.flags = flags0) {j : Nat} {σ' : CS} (h : m_P_inject v1 σ = some (.inl j, σ')) : XMet l D tc b z y_P_inject k_P_inject 3 (Option.some Jvm.ClassFile.FieldType.int) 9 218 [.ref (b + 0), .int v1] σ j := xm_met (by decide) (Nat.le_of_ble_eq_true rfl) fun p e s m args below meth c S hT hex hW ls hl => t_P_inject_0 S hT hfl hex v1 σ h hl hW
theorem cr_P_inject (v1 : Int32) (σ : CS) (hfl : l.flags = flags0) {x : Int32} {σ' : CS} (h : m_P_inject v1 σ = some (.inr x, σ')) : PMet l D tc b z y_P_inject k_P_inject 3 (Option.some Jvm.ClassFile.FieldType.int) 9 218 [.ref (b + 0), .int v1] σ (some (.int x)) σ' := pm_met (by decide) (Nat.le_of_ble_eq_true rfl) fun p e s m args below meth c S hT hex hW ls hl => t_P_inject_0 S hT hfl hex v1 σ h hl hW
end

/-! StreamPair.seen (II)I -/
abbrev k_P_seen : ByteArray := prog_1_method_16_code
abbrev y_P_seen : MethodName := ⟨cn_P, "seen", "(II)I"⟩
theorem q_P_seen : Calee y_P_seen k_P_seen 4 (Option.some Jvm.ClassFile.FieldType.int) 2 := ⟨wd_1227, wd_78, by decide, by decide +kernel⟩
theorem d_P_seen_0 : decode k_P_seen 0 = .ok (.aload_n 0, 1) := by decide +kernel
theorem d_P_seen_1 : decode k_P_seen 1 = .ok (.iload_n 1, 1) := by decide +kernel
theorem d_P_seen_2 : decode k_P_seen 2 = .ok (.invokevirtual 194, 3) := by decide +kernel
theorem d_P_seen_5 : decode k_P_seen 5 = .ok (.astore_n 3, 1) := by decide +kernel
theorem d_P_seen_6 : decode k_P_seen 6 = .ok (.iload_n 2, 1) := by decide +kernel
theorem d_P_seen_7 : decode k_P_seen 7 = .ok (.iconst (-1), 1) := by decide +kernel
theorem d_P_seen_8 : decode k_P_seen 8 = .ok (.if_icmp .ne 8, 3) := by decide +kernel
theorem d_P_seen_11 : decode k_P_seen 11 = .ok (.aload_n 3, 1) := by decide +kernel
theorem d_P_seen_12 : decode k_P_seen 12 = .ok (.getfield 227, 3) := by decide +kernel
theorem d_P_seen_15 : decode k_P_seen 15 = .ok (.ireturn, 1) := by decide +kernel
theorem d_P_seen_16 : decode k_P_seen 16 = .ok (.iload_n 2, 1) := by decide +kernel
theorem d_P_seen_17 : decode k_P_seen 17 = .ok (.bipush (-2), 2) := by decide +kernel
theorem d_P_seen_19 : decode k_P_seen 19 = .ok (.if_icmp .ne 8, 3) := by decide +kernel
theorem d_P_seen_22 : decode k_P_seen 22 = .ok (.aload_n 3, 1) := by decide +kernel
theorem d_P_seen_23 : decode k_P_seen 23 = .ok (.getfield 201, 3) := by decide +kernel
theorem d_P_seen_26 : decode k_P_seen 26 = .ok (.ireturn, 1) := by decide +kernel
theorem d_P_seen_27 : decode k_P_seen 27 = .ok (.iload_n 2, 1) := by decide +kernel
theorem d_P_seen_28 : decode k_P_seen 28 = .ok (.ifCond .lt 11, 3) := by decide +kernel
theorem d_P_seen_31 : decode k_P_seen 31 = .ok (.iload_n 2, 1) := by decide +kernel
theorem d_P_seen_32 : decode k_P_seen 32 = .ok (.aload_n 3, 1) := by decide +kernel
theorem d_P_seen_33 : decode k_P_seen 33 = .ok (.getfield 227, 3) := by decide +kernel
theorem d_P_seen_36 : decode k_P_seen 36 = .ok (.if_icmp .lt 13, 3) := by decide +kernel
theorem d_P_seen_39 : decode k_P_seen 39 = .ok (.new 232, 3) := by decide +kernel
theorem d_P_seen_42 : decode k_P_seen 42 = .ok (.dup, 1) := by decide +kernel
theorem d_P_seen_43 : decode k_P_seen 43 = .ok (.ldc 234, 2) := by decide +kernel
theorem d_P_seen_45 : decode k_P_seen 45 = .ok (.invokespecial 236, 3) := by decide +kernel
theorem d_P_seen_48 : decode k_P_seen 48 = .ok (.athrow, 1) := by decide +kernel
theorem d_P_seen_49 : decode k_P_seen 49 = .ok (.aload_n 3, 1) := by decide +kernel
theorem d_P_seen_50 : decode k_P_seen 50 = .ok (.iload_n 2, 1) := by decide +kernel
theorem d_P_seen_51 : decode k_P_seen 51 = .ok (.iconst 1, 1) := by decide +kernel
theorem d_P_seen_52 : decode k_P_seen 52 = .ok (.invokevirtual 240, 3) := by decide +kernel
theorem d_P_seen_55 : decode k_P_seen 55 = .ok (.ireturn, 1) := by decide +kernel
def b_P_seen_39 (σ : CS) : Option ((Nat ⊕ Int32) × CS) :=
  gd (cX σ + 1 ≤ 601024 ∧ cU σ + 6 ≤ 7293034) <| some (.inl 5, wa σ 0 0 6)
def m_P_seen (v1 : Int32) (v2 : Int32) (σ : CS) : Option ((Nat ⊕ Int32) × CS) :=
  bcn (n_P_segmentOf v1 σ) σ fun x1 => if v2 = (-1 : Int32) then
  (gd (kd σ x1 = 11) <| bd (cI σ x1 1) fun x6 => some (.inr x6, σ))
 else
  (if v2 = (-2 : Int32) then
  (gd (kd σ x1 = 11) <| bd (cI σ x1 2) fun x5 => some (.inr x5, σ))
 else
  (if v2 < 0 then
  (b_P_seen_39  σ)
 else
  (gd (kd σ x1 = 11) <| bd (cI σ x1 1) fun x2 => if v2 < x2 then
  (gd (kd σ x1 = 11) <| bc2 (m_G_number x1 v2 (1 : Int32) σ) fun x4 r3 => some (.inr x4, r3))
 else
  (b_P_seen_39  σ))))
section
variable {p : Program} {l : Launch} {e : Env} {s : State} {m : MethodId} {args : Array Value} {below : List Frame} {meth : Method} {c : Code} {D : va_G} {tc : Nat → ClassId} {b z : Nat} {σ0 : CS}
theorem t_P_seen_39 (S : CC p m c k_P_seen 4 s args cn_P meth (Option.some Jvm.ClassFile.FieldType.int) D tc b z) (hT : TK b s) (hfl : l.flags = flags0) (hex : c.exceptionTable.toList = []) (σ : CS) {B : (Nat ⊕ Int32) × CS} (h : b_P_seen_39  σ = some B) {ls : Array Slot} (hl : lv_has ls 4 []) (hW : CWS D tc b z s σ σ s.heap [] 0 0) : W p l e (CR 7 104 σ) s m args below meth c s.heap [] 0 0 (PQ D tc b z below args s σ (fun x => some (.int x)) B) (F0 m 39 ls []) := by
  have hx := S.1.1
  have hb := S.1.2.1
  unfold b_P_seen_39 at h
  refine xm_new (k := 5) (by decide) S hW d_P_seen_39 h (fun H1 cC kC h hfc hkC hcell => ?_)
  refine lv_dup hx hb d_P_seen_42 rfl ?_
  obtain ⟨q9, hq9⟩ := hT.2.2.2.2.2 (234, "no such place") (by decide)
  refine va_ldcS hx hb S.1.2.2.2.1 hq9 d_P_seen_43 ?_
  cases h
  exact xm_end (k := 5) (by decide) S hT hfl hex hfc hkC hcell hl.1 (by decide) (by decide) d_P_seen_45 d_P_seen_48
theorem t_P_seen_0 (S : CC p m c k_P_seen 4 s args cn_P meth (Option.some Jvm.ClassFile.FieldType.int) D tc b z) (hT : TK b s) (hfl : l.flags = flags0) (hex : c.exceptionTable.toList = []) (v1 : Int32) (v2 : Int32) (σ : CS) {B : (Nat ⊕ Int32) × CS} (h : m_P_seen v1 v2 σ = some B) {ls : Array Slot} (hl : lv_has ls 4 [(0, .ref (b + 0)), (1, .int v1), (2, .int v2)]) (hW : CWS D tc b z s σ σ s.heap [] 0 0) : W p l e (CR 7 104 σ) s m args below meth c s.heap [] 0 0 (PQ D tc b z below args s σ (fun x => some (.int x)) B) (F0 m 0 ls []) := by
  have hx := S.1.1
  have hb := S.1.2.1
  unfold m_P_seen at h
  refine lv_aload_n hx hb d_P_seen_0 rfl (lv_at hl 0 rfl) ?_
  refine lv_iload_n hx hb d_P_seen_1 rfl (lv_at hl 1 rfl) ?_
  refine pm_look (As := [.int v1]) S hT hex hW (fun j hc => cyx_P_segmentOf v1 σ hfl hc) (fun x hc => cyr_P_segmentOf v1 σ hfl hc) q_P_segmentOf wd_959 wd_17 wd_957 (by decide) hl.1 rfl rfl (Nat.le_of_ble_eq_true rfl) d_P_seen_2 h (fun x1 h => ?_)
  refine lv_astore_n (lv' := [(3, .ref (b + x1)), (0, .ref (b + 0)), (1, .int v1), (2, .int v2)]) hx hb d_P_seen_5 rfl hl (by decide) rfl (fun ls hl => ?_)
  refine lv_iload_n hx hb d_P_seen_6 rfl (lv_at hl 3 rfl) ?_
  refine lv_iconst (v := -1) hx hb d_P_seen_7 (by decide) ?_
  refine rc_ne (tgt := 16) hx hb d_P_seen_8 (by decide) h (fun h => ?_) (fun h => ?_)
  · refine lv_iload_n hx hb d_P_seen_16 rfl (lv_at hl 3 rfl) ?_
    refine lv_bipush (v := -2) hx hb d_P_seen_17 (by decide) ?_
    refine rc_ne (tgt := 27) hx hb d_P_seen_19 (by decide) h (fun h => ?_) (fun h => ?_)
    · refine lv_iload_n hx hb d_P_seen_27 rfl (lv_at hl 3 rfl) ?_
      refine rb_lt (tgt := 39) hx hb d_P_seen_28 (by decide) h (fun h => ?_) (fun h => ?_)
      · exact t_P_seen_39 S hT hfl hex  σ h (lv_sub hl [] rfl) hW
      · refine lv_iload_n hx hb d_P_seen_31 rfl (lv_at hl 3 rfl) ?_
        refine lv_aload_n hx hb d_P_seen_32 rfl (lv_at hl 0 rfl) ?_
        obtain ⟨hg, h⟩ := gd_s h
        refine cm_geti kx_G S hW hg 1 wd_589 (by decide) d_P_seen_33 h (fun x2 h => ?_)
        refine rc_lt (tgt := 49) hx hb d_P_seen_36 (by decide) h (fun h => ?_) (fun h => ?_)
        · refine lv_aload_n hx hb d_P_seen_49 rfl (lv_at hl 0 rfl) ?_
          refine lv_iload_n hx hb d_P_seen_50 rfl (lv_at hl 3 rfl) ?_
          refine lv_iconst (v := 1) hx hb d_P_seen_51 (by decide) ?_
          obtain ⟨hg, h⟩ := gd_s h
          refine cm_cVi [.int v2, .int (1 : Int32)] kx_G S hW hg (fun x σ' hc => c_G_number x1 v2 (1 : Int32) σ hc) q_G_number wd_985 wd_986 wd_1212 (by decide) hl.1 rfl rfl (Nat.le_of_ble_eq_true rfl) d_P_seen_52 h (fun x4 r3 H locs cells slots h hW => ?_)
          exact pr_i S hW d_P_seen_55 h
        · exact t_P_seen_39 S hT hfl hex  σ h (lv_sub hl [] rfl) hW
    · refine lv_aload_n hx hb d_P_seen_22 rfl (lv_at hl 0 rfl) ?_
      obtain ⟨hg, h⟩ := gd_s h
      refine cm_geti kx_G S hW hg 2 wd_591 (by decide) d_P_seen_23 h (fun x5 h => ?_)
      exact pr_i S hW d_P_seen_26 h
  · refine lv_aload_n hx hb d_P_seen_11 rfl (lv_at hl 0 rfl) ?_
    obtain ⟨hg, h⟩ := gd_s h
    refine cm_geti kx_G S hW hg 1 wd_589 (by decide) d_P_seen_12 h (fun x6 h => ?_)
    exact pr_i S hW d_P_seen_15 h
theorem cx_P_seen (v1 : Int32) (v2 : Int32) (σ : CS) (hfl : l.flags = flags0) {j : Nat} {σ' : CS} (h : m_P_seen v1 v2 σ = some (.inl j, σ')) : XMet l D tc b z y_P_seen k_P_seen 4 (Option.some Jvm.ClassFile.FieldType.int) 7 104 [.ref (b + 0), .int v1, .int v2] σ j := xm_met (by decide) (Nat.le_of_ble_eq_true rfl) fun p e s m args below meth c S hT hex hW ls hl => t_P_seen_0 S hT hfl hex v1 v2 σ h hl hW
theorem cr_P_seen (v1 : Int32) (v2 : Int32) (σ : CS) (hfl : l.flags = flags0) {x : Int32} {σ' : CS} (h : m_P_seen v1 v2 σ = some (.inr x, σ')) : PMet l D tc b z y_P_seen k_P_seen 4 (Option.some Jvm.ClassFile.FieldType.int) 7 104 [.ref (b + 0), .int v1, .int v2] σ (some (.int x)) σ' := pm_met (by decide) (Nat.le_of_ble_eq_true rfl) fun p e s m args below meth c S hT hex hW ls hl => t_P_seen_0 S hT hfl hex v1 v2 σ h hl hW
end

/-! StreamPair.about (II)I -/
abbrev k_P_about : ByteArray := prog_1_method_17_code
abbrev y_P_about : MethodName := ⟨cn_P, "about", "(II)I"⟩
theorem q_P_about : Calee y_P_about k_P_about 4 (Option.some Jvm.ClassFile.FieldType.int) 2 := ⟨wd_1234, wd_78, by decide, by decide +kernel⟩
theorem d_P_about_0 : decode k_P_about 0 = .ok (.aload_n 0, 1) := by decide +kernel
theorem d_P_about_1 : decode k_P_about 1 = .ok (.iload_n 1, 1) := by decide +kernel
theorem d_P_about_2 : decode k_P_about 2 = .ok (.invokevirtual 83, 3) := by decide +kernel
theorem d_P_about_5 : decode k_P_about 5 = .ok (.astore_n 3, 1) := by decide +kernel
theorem d_P_about_6 : decode k_P_about 6 = .ok (.iload_n 2, 1) := by decide +kernel
theorem d_P_about_7 : decode k_P_about 7 = .ok (.ifCond .lt 9, 3) := by decide +kernel
theorem d_P_about_10 : decode k_P_about 10 = .ok (.iload_n 2, 1) := by decide +kernel
theorem d_P_about_11 : decode k_P_about 11 = .ok (.bipush 16, 2) := by decide +kernel
theorem d_P_about_13 : decode k_P_about 13 = .ok (.if_icmp .le 13, 3) := by decide +kernel
theorem d_P_about_16 : decode k_P_about 16 = .ok (.new 58, 3) := by decide +kernel
theorem d_P_about_19 : decode k_P_about 19 = .ok (.dup, 1) := by decide +kernel
theorem d_P_about_20 : decode k_P_about 20 = .ok (.ldc 248, 2) := by decide +kernel
theorem d_P_about_22 : decode k_P_about 22 = .ok (.invokespecial 62, 3) := by decide +kernel
theorem d_P_about_25 : decode k_P_about 25 = .ok (.athrow, 1) := by decide +kernel
theorem d_P_about_26 : decode k_P_about 26 = .ok (.aload_n 3, 1) := by decide +kernel
theorem d_P_about_27 : decode k_P_about 27 = .ok (.iload_n 2, 1) := by decide +kernel
theorem d_P_about_28 : decode k_P_about 28 = .ok (.invokevirtual 250, 3) := by decide +kernel
theorem d_P_about_31 : decode k_P_about 31 = .ok (.ireturn, 1) := by decide +kernel
def b_P_about_16 (σ : CS) : Option ((Nat ⊕ Int32) × CS) :=
  gd (cX σ + 1 ≤ 601024 ∧ cU σ + 6 ≤ 7293034) <| some (.inl 2, wa σ 0 0 6)
def m_P_about (v1 : Int32) (v2 : Int32) (σ : CS) : Option ((Nat ⊕ Int32) × CS) :=
  bcn (n_P_sideOf v1 σ) σ fun x1 => gd (x1 = 7 ∨ x1 = 14) <| if v2 < 0 then
  (b_P_about_16  σ)
 else
  (if v2 ≤ (16 : Int32) then
  (bc2 (m_E_fact x1 v2 σ) fun x3 r2 => some (.inr x3, r2))
 else
  (b_P_about_16  σ))
section
variable {p : Program} {l : Launch} {e : Env} {s : State} {m : MethodId} {args : Array Value} {below : List Frame} {meth : Method} {c : Code} {D : va_G} {tc : Nat → ClassId} {b z : Nat} {σ0 : CS}
theorem t_P_about_16 (S : CC p m c k_P_about 4 s args cn_P meth (Option.some Jvm.ClassFile.FieldType.int) D tc b z) (hT : TK b s) (hfl : l.flags = flags0) (hex : c.exceptionTable.toList = []) (σ : CS) {B : (Nat ⊕ Int32) × CS} (h : b_P_about_16  σ = some B) {ls : Array Slot} (hl : lv_has ls 4 []) (hW : CWS D tc b z s σ σ s.heap [] 0 0) : W p l e (CR 7 104 σ) s m args below meth c s.heap [] 0 0 (PQ D tc b z below args s σ (fun x => some (.int x)) B) (F0 m 16 ls []) := by
  have hx := S.1.1
  have hb := S.1.2.1
  unfold b_P_about_16 at h
  refine xm_new (k := 2) (by decide) S hW d_P_about_16 h (fun H1 cC kC h hfc hkC hcell => ?_)
  refine lv_dup hx hb d_P_about_19 rfl ?_
  obtain ⟨q9, hq9⟩ := hT.2.2.2.2.2 (248, "no such fact") (by decide)
  refine va_ldcS hx hb S.1.2.2.2.1 hq9 d_P_about_20 ?_
  cases h
  exact xm_end (k := 2) (by decide) S hT hfl hex hfc hkC hcell hl.1 (by decide) (by decide) d_P_about_22 d_P_about_25
theorem t_P_about_0 (S : CC p m c k_P_about 4 s args cn_P meth (Option.some Jvm.ClassFile.FieldType.int) D tc b z) (hT : TK b s) (hfl : l.flags = flags0) (hex : c.exceptionTable.toList = []) (v1 : Int32) (v2 : Int32) (σ : CS) {B : (Nat ⊕ Int32) × CS} (h : m_P_about v1 v2 σ = some B) {ls : Array Slot} (hl : lv_has ls 4 [(0, .ref (b + 0)), (1, .int v1), (2, .int v2)]) (hW : CWS D tc b z s σ σ s.heap [] 0 0) : W p l e (CR 7 104 σ) s m args below meth c s.heap [] 0 0 (PQ D tc b z below args s σ (fun x => some (.int x)) B) (F0 m 0 ls []) := by
  have hx := S.1.1
  have hb := S.1.2.1
  unfold m_P_about at h
  refine lv_aload_n hx hb d_P_about_0 rfl (lv_at hl 0 rfl) ?_
  refine lv_iload_n hx hb d_P_about_1 rfl (lv_at hl 1 rfl) ?_
  refine pm_look (As := [.int v1]) S hT hex hW (fun j hc => cyx_P_sideOf v1 σ hfl hc) (fun x hc => cyr_P_sideOf v1 σ hfl hc) q_P_sideOf wd_776 wd_8 wd_774 (by decide) hl.1 rfl rfl (Nat.le_of_ble_eq_true rfl) d_P_about_2 h (fun x1 h => ?_)
  obtain ⟨hk_x1, h⟩ := gd_s h
  refine lv_astore_n (lv' := [(3, .ref (b + x1)), (0, .ref (b + 0)), (1, .int v1), (2, .int v2)]) hx hb d_P_about_5 rfl hl (by decide) rfl (fun ls hl => ?_)
  refine lv_iload_n hx hb d_P_about_6 rfl (lv_at hl 3 rfl) ?_
  refine rb_lt (tgt := 16) hx hb d_P_about_7 (by decide) h (fun h => ?_) (fun h => ?_)
  · exact t_P_about_16 S hT hfl hex  σ h (lv_sub hl [] rfl) hW
  · refine lv_iload_n hx hb d_P_about_10 rfl (lv_at hl 3 rfl) ?_
    refine lv_bipush (v := 16) hx hb d_P_about_11 (by decide) ?_
    refine rc_le (tgt := 26) hx hb d_P_about_13 (by decide) h (fun h => ?_) (fun h => ?_)
    · refine lv_aload_n hx hb d_P_about_26 rfl (lv_at hl 0 rfl) ?_
      refine lv_iload_n hx hb d_P_about_27 rfl (lv_at hl 3 rfl) ?_
      refine cm_cVi [.int v2] kx_E S hW (kE hk_x1) (fun x σ' hc => c_E_fact x1 v2 σ hc) q_E_fact wd_1237 wd_1238 wd_1236 (by decide) hl.1 rfl rfl (Nat.le_of_ble_eq_true rfl) d_P_about_28 h (fun x3 r2 H locs cells slots h hW => ?_)
      exact pr_i S hW d_P_about_31 h
    · exact t_P_about_16 S hT hfl hex  σ h (lv_sub hl [] rfl) hW
theorem cx_P_about (v1 : Int32) (v2 : Int32) (σ : CS) (hfl : l.flags = flags0) {j : Nat} {σ' : CS} (h : m_P_about v1 v2 σ = some (.inl j, σ')) : XMet l D tc b z y_P_about k_P_about 4 (Option.some Jvm.ClassFile.FieldType.int) 7 104 [.ref (b + 0), .int v1, .int v2] σ j := xm_met (by decide) (Nat.le_of_ble_eq_true rfl) fun p e s m args below meth c S hT hex hW ls hl => t_P_about_0 S hT hfl hex v1 v2 σ h hl hW
theorem cr_P_about (v1 : Int32) (v2 : Int32) (σ : CS) (hfl : l.flags = flags0) {x : Int32} {σ' : CS} (h : m_P_about v1 v2 σ = some (.inr x, σ')) : PMet l D tc b z y_P_about k_P_about 4 (Option.some Jvm.ClassFile.FieldType.int) 7 104 [.ref (b + 0), .int v1, .int v2] σ (some (.int x)) σ' := pm_met (by decide) (Nat.le_of_ble_eq_true rfl) fun p e s m args below meth c S hT hex hW ls hl => t_P_about_0 S hT hfl hex v1 v2 σ h hl hW
end
