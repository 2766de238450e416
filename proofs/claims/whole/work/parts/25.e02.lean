/-! StreamPair$End.output ()Z -/
abbrev k_E_output : ByteArray := prog_5_method_14_code
abbrev y_E_output : MethodName := ⟨cn_E, "output", "()Z"⟩
theorem q_E_output : Calee y_E_output k_E_output 4 (Option.some Jvm.ClassFile.FieldType.boolean) 0 := ⟨wd_834, wd_85, by decide, by decide +kernel⟩
theorem d_E_output_0 : decode k_E_output 0 = .ok (.aload_n 0, 1) := by decide +kernel
theorem d_E_output_1 : decode k_E_output 1 = .ok (.invokevirtual 175, 3) := by decide +kernel
theorem d_E_output_4 : decode k_E_output 4 = .ok (.ifCond .ne 5, 3) := by decide +kernel
theorem d_E_output_7 : decode k_E_output 7 = .ok (.iconst 0, 1) := by decide +kernel
theorem d_E_output_8 : decode k_E_output 8 = .ok (.ireturn, 1) := by decide +kernel
theorem d_E_output_9 : decode k_E_output 9 = .ok (.aload_n 0, 1) := by decide +kernel
theorem d_E_output_10 : decode k_E_output 10 = .ok (.getfield 68, 3) := by decide +kernel
theorem d_E_output_13 : decode k_E_output 13 = .ok (.istore_n 1, 1) := by decide +kernel
theorem d_E_output_14 : decode k_E_output 14 = .ok (.iconst 0, 1) := by decide +kernel
theorem d_E_output_15 : decode k_E_output 15 = .ok (.istore_n 2, 1) := by decide +kernel
theorem d_E_output_16 : decode k_E_output 16 = .ok (.iload_n 2, 1) := by decide +kernel
theorem d_E_output_17 : decode k_E_output 17 = .ok (.sipush 10000, 3) := by decide +kernel
theorem d_E_output_20 : decode k_E_output 20 = .ok (.if_icmp .ge 45, 3) := by decide +kernel
theorem d_E_output_23 : decode k_E_output 23 = .ok (.aload_n 0, 1) := by decide +kernel
theorem d_E_output_24 : decode k_E_output 24 = .ok (.invokevirtual 178, 3) := by decide +kernel
theorem d_E_output_27 : decode k_E_output 27 = .ok (.istore_n 3, 1) := by decide +kernel
theorem d_E_output_28 : decode k_E_output 28 = .ok (.iload_n 3, 1) := by decide +kernel
theorem d_E_output_29 : decode k_E_output 29 = .ok (.ifCond .ne 16, 3) := by decide +kernel
theorem d_E_output_32 : decode k_E_output 32 = .ok (.aload_n 0, 1) := by decide +kernel
theorem d_E_output_33 : decode k_E_output 33 = .ok (.getfield 12, 3) := by decide +kernel
theorem d_E_output_36 : decode k_E_output 36 = .ok (.invokevirtual 181, 3) := by decide +kernel
theorem d_E_output_39 : decode k_E_output 39 = .ok (.ifCond .ne 6, 3) := by decide +kernel
theorem d_E_output_42 : decode k_E_output 42 = .ok (.goto 23, 3) := by decide +kernel
theorem d_E_output_45 : decode k_E_output 45 = .ok (.aload_n 0, 1) := by decide +kernel
theorem d_E_output_46 : decode k_E_output 46 = .ok (.iload_n 3, 1) := by decide +kernel
theorem d_E_output_47 : decode k_E_output 47 = .ok (.ifCond .le 7, 3) := by decide +kernel
theorem d_E_output_50 : decode k_E_output 50 = .ok (.iconst 0, 1) := by decide +kernel
theorem d_E_output_51 : decode k_E_output 51 = .ok (.goto 4, 3) := by decide +kernel
theorem d_E_output_54 : decode k_E_output 54 = .ok (.iconst 1, 1) := by decide +kernel
theorem d_E_output_55 : decode k_E_output 55 = .ok (.iload_n 3, 1) := by decide +kernel
theorem d_E_output_56 : decode k_E_output 56 = .ok (.invokevirtual 117, 3) := by decide +kernel
theorem d_E_output_59 : decode k_E_output 59 = .ok (.iinc 2 1, 3) := by decide +kernel
theorem d_E_output_62 : decode k_E_output 62 = .ok (.goto (-46), 3) := by decide +kernel
theorem d_E_output_65 : decode k_E_output 65 = .ok (.aload_n 0, 1) := by decide +kernel
theorem d_E_output_66 : decode k_E_output 66 = .ok (.getfield 28, 3) := by decide +kernel
theorem d_E_output_69 : decode k_E_output 69 = .ok (.getfield 98, 3) := by decide +kernel
theorem d_E_output_72 : decode k_E_output 72 = .ok (.ifCond .ne 44, 3) := by decide +kernel
theorem d_E_output_75 : decode k_E_output 75 = .ok (.aload_n 0, 1) := by decide +kernel
theorem d_E_output_76 : decode k_E_output 76 = .ok (.getfield 12, 3) := by decide +kernel
theorem d_E_output_79 : decode k_E_output 79 = .ok (.invokevirtual 184, 3) := by decide +kernel
theorem d_E_output_82 : decode k_E_output 82 = .ok (.ifCond .ne 13, 3) := by decide +kernel
theorem d_E_output_85 : decode k_E_output 85 = .ok (.aload_n 0, 1) := by decide +kernel
theorem d_E_output_86 : decode k_E_output 86 = .ok (.getfield 12, 3) := by decide +kernel
theorem d_E_output_89 : decode k_E_output 89 = .ok (.invokevirtual 187, 3) := by decide +kernel
theorem d_E_output_92 : decode k_E_output 92 = .ok (.ifCond .le 24, 3) := by decide +kernel
theorem d_E_output_95 : decode k_E_output 95 = .ok (.aload_n 0, 1) := by decide +kernel
theorem d_E_output_96 : decode k_E_output 96 = .ok (.getfield 28, 3) := by decide +kernel
theorem d_E_output_99 : decode k_E_output 99 = .ok (.aload_n 0, 1) := by decide +kernel
theorem d_E_output_100 : decode k_E_output 100 = .ok (.getfield 46, 3) := by decide +kernel
theorem d_E_output_103 : decode k_E_output 103 = .ok (.getfield 121, 3) := by decide +kernel
theorem d_E_output_106 : decode k_E_output 106 = .ok (.aload_n 0, 1) := by decide +kernel
theorem d_E_output_107 : decode k_E_output 107 = .ok (.getfield 28, 3) := by decide +kernel
theorem d_E_output_110 : decode k_E_output 110 = .ok (.getfield 127, 3) := by decide +kernel
theorem d_E_output_113 : decode k_E_output 113 = .ok (.invokevirtual 130, 3) := by decide +kernel
theorem d_E_output_116 : decode k_E_output 116 = .ok (.aload_n 0, 1) := by decide +kernel
theorem d_E_output_117 : decode k_E_output 117 = .ok (.getfield 68, 3) := by decide +kernel
theorem d_E_output_120 : decode k_E_output 120 = .ok (.iload_n 1, 1) := by decide +kernel
theorem d_E_output_121 : decode k_E_output 121 = .ok (.if_icmp .eq 7, 3) := by decide +kernel
theorem d_E_output_124 : decode k_E_output 124 = .ok (.iconst 1, 1) := by decide +kernel
theorem d_E_output_125 : decode k_E_output 125 = .ok (.goto 4, 3) := by decide +kernel
theorem d_E_output_128 : decode k_E_output 128 = .ok (.iconst 0, 1) := by decide +kernel
theorem d_E_output_129 : decode k_E_output 129 = .ok (.ireturn, 1) := by decide +kernel
def b_E_output_129 (q : Nat) (w0 : Int32) (σ : CS) : Option (Int32 × CS) :=
  gd (w0 = 0 ∨ w0 = 1) (some (w0, σ))
def b_E_output_116 (q : Nat) (v1 : Int32) (σ : CS) : Option (Int32 × CS) :=
  bd (cI σ q 10) fun x1 => if x1 = v1 then
  (b_E_output_129 q (0 : Int32) σ)
 else
  (b_E_output_129 q (1 : Int32) σ)
def b_E_output_95 (q : Nat) (v1 : Int32) (σ : CS) : Option (Int32 × CS) :=
  bd (cJ σ 3 0) fun x1 => bd (cI σ (q + 5) 0) fun x2 => bc (m_Z_startTimer (q + 5) x1 x2 σ) fun r3 => b_E_output_116 q v1 r3
def b_E_output_65 (q : Nat) (v1 : Int32) (σ : CS) : Option (Int32 × CS) :=
  bd (cI σ (q + 5) 2) fun x1 => if x1 = 0 then
  (bc2 (m_U_flight (q + 1) σ) fun x3 r2 => if x3 = 0 then
  (bc2 (m_U_unsent (q + 1) r2) fun x5 r4 => if x5 ≤ 0 then
  (b_E_output_116 q v1 r4)
 else
  (b_E_output_95 q v1 r4))
 else
  (b_E_output_95 q v1 r2))
 else
  (b_E_output_116 q v1 σ)
def b_E_output_55 (q : Nat) (rec16 : Int32 → Int32 → CS → Option (Int32 × CS)) (v1 : Int32) (v2 : Int32) (v3 : Int32) (w1 : Int32) (σ : CS) : Option (Int32 × CS) :=
  bc (m_E_sendNext q w1 v3 σ) fun r1 => bd (v2 + (1 : Int32)) fun x2 => rec16 v1 x2 r1
def b_E_output_45 (q : Nat) (rec16 : Int32 → Int32 → CS → Option (Int32 × CS)) (v1 : Int32) (v2 : Int32) (v3 : Int32) (σ : CS) : Option (Int32 × CS) :=
  if v3 ≤ 0 then
  (b_E_output_55 q rec16 v1 v2 v3 (1 : Int32) σ)
 else
  (b_E_output_55 q rec16 v1 v2 v3 (0 : Int32) σ)
def F_E_output_16 (q : Nat) (rec16 : Int32 → Int32 → CS → Option (Int32 × CS)) (v1 : Int32) (v2 : Int32) (σ : CS) : Option (Int32 × CS) :=
  if (10000 : Int32) ≤ v2 then
  (b_E_output_65 q v1 σ)
 else
  (bc2 (m_E_bytesToSend q σ) fun x2 r1 => if x2 = 0 then
  (bc2 (m_U_finIsDue (q + 1) r1) fun x4 r3 => if x4 = 0 then
  (b_E_output_65 q v1 r3)
 else
  (b_E_output_45 q rec16 v1 v2 x2 r3))
 else
  (b_E_output_45 q rec16 v1 v2 x2 r1))
def m_E_output (q : Nat) (σ : CS) : Option (Int32 × CS) :=
  gd (q = 7 ∨ q = 14) <| bc2 (m_E_maySend q σ) fun x2 r1 => if x2 = 0 then
  (gd ((0 : Int32) = 0 ∨ (0 : Int32) = 1) (some ((0 : Int32), r1)))
 else
  (bd (cI r1 q 10) fun x3 => lq3 (F_E_output_16 q) fuel x3 (0 : Int32) r1)
def P_E_output_16 (q : Nat) (p : Program) (l : Launch) (e : Env) (s : State) (m : MethodId) (args : Array Value) (below : List Frame) (meth : Method) (c : Code) (D : va_G) (tc : Nat → ClassId) (b z : Nat) (σ0 : CS) (v1 : Int32) (v2 : Int32) (σ : CS) (B : Int32 × CS) : Prop := ∀ (ls : Array Slot) (H : Heap) (locs : List Loc) (cells slots : Nat), lv_has ls 4 [(0, .ref (b + q)), (1, .int v1), (2, .int v2)] → CWS D tc b z s σ0 σ H locs cells slots → W p l e (CR 11 271 σ0) s m args below meth c H locs cells slots (CE D tc b z below args s σ0 (some (.int B.1)) B.2) (F0 m 16 ls [])
section
variable {p : Program} {l : Launch} {e : Env} {s : State} {m : MethodId} {args : Array Value} {below : List Frame} {meth : Method} {c : Code} {D : va_G} {tc : Nat → ClassId} {b z : Nat} {σ0 : CS}
theorem t_E_output_129 {q : Nat} (S : CC p m c k_E_output 4 s args cn_E meth (Option.some Jvm.ClassFile.FieldType.boolean) D tc b z) (hq : q = 7 ∨ q = 14) (w0 : Int32) (σ : CS) {B : Int32 × CS} (h : b_E_output_129 q w0 σ = some B) {ls : Array Slot} {H : Heap} {locs : List Loc} {cells slots : Nat} (hl : lv_has ls 4 []) (hW : CWS D tc b z s σ0 σ H locs cells slots) : W p l e (CR 11 271 σ0) s m args below meth c H locs cells slots (CE D tc b z below args s σ0 (some (.int B.1)) B.2) (F0 m 129 ls [.int w0]) := by
  have hx := S.1.1
  have hb := S.1.2.1
  unfold b_E_output_129 at h
  exact cm_zret S hW d_E_output_129 h
theorem t_E_output_116 {q : Nat} (S : CC p m c k_E_output 4 s args cn_E meth (Option.some Jvm.ClassFile.FieldType.boolean) D tc b z) (hq : q = 7 ∨ q = 14) (v1 : Int32) (σ : CS) {B : Int32 × CS} (h : b_E_output_116 q v1 σ = some B) {ls : Array Slot} {H : Heap} {locs : List Loc} {cells slots : Nat} (hl : lv_has ls 4 [(0, .ref (b + q)), (1, .int v1)]) (hW : CWS D tc b z s σ0 σ H locs cells slots) : W p l e (CR 11 271 σ0) s m args below meth c H locs cells slots (CE D tc b z below args s σ0 (some (.int B.1)) B.2) (F0 m 116 ls []) := by
  have hx := S.1.1
  have hb := S.1.2.1
  unfold b_E_output_116 at h
  refine lv_aload_n hx hb d_E_output_116 rfl (lv_at hl 0 rfl) ?_
  refine cm_geti kx_E S hW (kE hq) 10 wd_366 (by decide) d_E_output_117 h (fun x1 h => ?_)
  refine lv_iload_n hx hb d_E_output_120 rfl (lv_at hl 1 rfl) ?_
  refine rc_eq (tgt := 128) hx hb d_E_output_121 (by decide) h (fun h => ?_) (fun h => ?_)
  · refine lv_iconst (v := 0) hx hb d_E_output_128 (by decide) ?_
    exact t_E_output_129 S hq (0 : Int32) σ h (lv_sub hl [] rfl) hW
  · refine lv_iconst (v := 1) hx hb d_E_output_124 (by decide) ?_
    refine lv_goto (tgt := 129) hx hb d_E_output_125 (by decide) ?_
    exact t_E_output_129 S hq (1 : Int32) σ h (lv_sub hl [] rfl) hW
theorem t_E_output_95 {q : Nat} (S : CC p m c k_E_output 4 s args cn_E meth (Option.some Jvm.ClassFile.FieldType.boolean) D tc b z) (hq : q = 7 ∨ q = 14) (v1 : Int32) (σ : CS) {B : Int32 × CS} (h : b_E_output_95 q v1 σ = some B) {ls : Array Slot} {H : Heap} {locs : List Loc} {cells slots : Nat} (hl : lv_has ls 4 [(0, .ref (b + q)), (1, .int v1)]) (hW : CWS D tc b z s σ0 σ H locs cells slots) : W p l e (CR 11 271 σ0) s m args below meth c H locs cells slots (CE D tc b z below args s σ0 (some (.int B.1)) B.2) (F0 m 95 ls []) := by
  have hx := S.1.1
  have hb := S.1.2.1
  unfold b_E_output_95 at h
  refine lv_aload_n hx hb d_E_output_95 rfl (lv_at hl 0 rfl) ?_
  refine cm_getf kx_E S hW (kE hq) 5 (q + 5) rfl wd_357 (by decide) d_E_output_96 ?_
  refine lv_aload_n hx hb d_E_output_99 rfl (lv_at hl 0 rfl) ?_
  refine cm_getf kx_E S hW (kE hq) 1 (3) rfl wd_351 (by decide) d_E_output_100 ?_
  refine cm_getl kx_C S hW rfl 0 wd_136 (by decide) d_E_output_103 h (fun x1 h => ?_)
  refine lv_aload_n hx hb d_E_output_106 rfl (lv_at hl 0 rfl) ?_
  refine cm_getf kx_E S hW (kE hq) 5 (q + 5) rfl wd_357 (by decide) d_E_output_107 ?_
  refine cm_geti kx_Z S hW (kEZ hq) 0 wd_291 (by decide) d_E_output_110 h (fun x2 h => ?_)
  refine cm_cVv [.long x1, .int x2] kx_Z S hW (kEZ hq) (fun σ' hc => c_Z_startTimer (q + 5) x1 x2 σ hc) q_Z_startTimer wd_641 wd_642 wd_640 (by decide) hl.1 rfl rfl (Nat.le_of_ble_eq_true rfl) d_E_output_113 h (fun r3 H locs cells slots h hW => ?_)
  exact t_E_output_116 S hq v1 r3 h (lv_sub hl [0, 1] rfl) hW
theorem t_E_output_65 {q : Nat} (S : CC p m c k_E_output 4 s args cn_E meth (Option.some Jvm.ClassFile.FieldType.boolean) D tc b z) (hq : q = 7 ∨ q = 14) (v1 : Int32) (σ : CS) {B : Int32 × CS} (h : b_E_output_65 q v1 σ = some B) {ls : Array Slot} {H : Heap} {locs : List Loc} {cells slots : Nat} (hl : lv_has ls 4 [(0, .ref (b + q)), (1, .int v1)]) (hW : CWS D tc b z s σ0 σ H locs cells slots) : W p l e (CR 11 271 σ0) s m args below meth c H locs cells slots (CE D tc b z below args s σ0 (some (.int B.1)) B.2) (F0 m 65 ls []) := by
  have hx := S.1.1
  have hb := S.1.2.1
  unfold b_E_output_65 at h
  refine lv_aload_n hx hb d_E_output_65 rfl (lv_at hl 0 rfl) ?_
  refine cm_getf kx_E S hW (kE hq) 5 (q + 5) rfl wd_357 (by decide) d_E_output_66 ?_
  refine cm_geti kx_Z S hW (kEZ hq) 2 wd_295 (by decide) d_E_output_69 h (fun x1 h => ?_)
  refine rb_ne (tgt := 116) hx hb d_E_output_72 (by decide) h (fun h => ?_) (fun h => ?_)
  · exact t_E_output_116 S hq v1 σ h (lv_sub hl [0, 1] rfl) hW
  · refine lv_aload_n hx hb d_E_output_75 rfl (lv_at hl 0 rfl) ?_
    refine cm_getf kx_E S hW (kE hq) 3 (q + 1) rfl wd_353 (by decide) d_E_output_76 ?_
    refine cm_cVi [] kx_U S hW (kEU hq) (fun x σ' hc => c_U_flight (q + 1) σ hc) q_U_flight wd_849 wd_850 wd_848 (by decide) hl.1 rfl rfl (Nat.le_of_ble_eq_true rfl) d_E_output_79 h (fun x3 r2 H locs cells slots h hW => ?_)
    refine rb_ne (tgt := 95) hx hb d_E_output_82 (by decide) h (fun h => ?_) (fun h => ?_)
    · exact t_E_output_95 S hq v1 r2 h (lv_sub hl [0, 1] rfl) hW
    · refine lv_aload_n hx hb d_E_output_85 rfl (lv_at hl 0 rfl) ?_
      refine cm_getf kx_E S hW (kE hq) 3 (q + 1) rfl wd_353 (by decide) d_E_output_86 ?_
      refine cm_cVi [] kx_U S hW (kEU hq) (fun x σ' hc => c_U_unsent (q + 1) r2 hc) q_U_unsent wd_844 wd_845 wd_843 (by decide) hl.1 rfl rfl (Nat.le_of_ble_eq_true rfl) d_E_output_89 h (fun x5 r4 H locs cells slots h hW => ?_)
      refine rb_le (tgt := 116) hx hb d_E_output_92 (by decide) h (fun h => ?_) (fun h => ?_)
      · exact t_E_output_116 S hq v1 r4 h (lv_sub hl [0, 1] rfl) hW
      · exact t_E_output_95 S hq v1 r4 h (lv_sub hl [0, 1] rfl) hW
theorem t_E_output_55 {q : Nat} (S : CC p m c k_E_output 4 s args cn_E meth (Option.some Jvm.ClassFile.FieldType.boolean) D tc b z) (hq : q = 7 ∨ q = 14) {rec16 : Int32 → Int32 → CS → Option (Int32 × CS)} (hrec16 : ∀ (v1 : Int32) (v2 : Int32) (σ : CS) (B : Int32 × CS), rec16 v1 v2 σ = some B → P_E_output_16 q p l e s m args below meth c D tc b z σ0 v1 v2 σ B) (v1 : Int32) (v2 : Int32) (v3 : Int32) (w1 : Int32) (σ : CS) {B : Int32 × CS} (h : b_E_output_55 q rec16 v1 v2 v3 w1 σ = some B) {ls : Array Slot} {H : Heap} {locs : List Loc} {cells slots : Nat} (hl : lv_has ls 4 [(0, .ref (b + q)), (1, .int v1), (2, .int v2), (3, .int v3)]) (hW : CWS D tc b z s σ0 σ H locs cells slots) : W p l e (CR 11 271 σ0) s m args below meth c H locs cells slots (CE D tc b z below args s σ0 (some (.int B.1)) B.2) (F0 m 55 ls [.int w1, .ref (b + q)]) := by
  have hx := S.1.1
  have hb := S.1.2.1
  unfold b_E_output_55 at h
  refine lv_iload_n hx hb d_E_output_55 rfl (lv_at hl 3 rfl) ?_
  refine cm_cVv [.int w1, .int v3] kx_E S hW (kE hq) (fun σ' hc => c_E_sendNext q w1 v3 σ hc) q_E_sendNext wd_546 wd_3 wd_544 (by decide) hl.1 rfl rfl (Nat.le_of_ble_eq_true rfl) d_E_output_56 h (fun r1 H locs cells slots h hW => ?_)
  refine rv_iinc (k := 2) (v := 1) (lv' := fun x2 => [(2, .int x2), (0, .ref (b + q)), (1, .int v1), (3, .int v3)]) hx hb d_E_output_59 hl rfl (by decide) (by decide) (fun _ => rfl) h (fun x2 ls h hl => ?_)
  refine lv_goto (tgt := 16) hx hb d_E_output_62 (by decide) ?_
  exact hrec16 v1 x2 r1 _ h _ _ _ _ _ (lv_sub hl [1, 2, 0] rfl) hW
theorem t_E_output_45 {q : Nat} (S : CC p m c k_E_output 4 s args cn_E meth (Option.some Jvm.ClassFile.FieldType.boolean) D tc b z) (hq : q = 7 ∨ q = 14) {rec16 : Int32 → Int32 → CS → Option (Int32 × CS)} (hrec16 : ∀ (v1 : Int32) (v2 : Int32) (σ : CS) (B : Int32 × CS), rec16 v1 v2 σ = some B → P_E_output_16 q p l e s m args below meth c D tc b z σ0 v1 v2 σ B) (v1 : Int32) (v2 : Int32) (v3 : Int32) (σ : CS) {B : Int32 × CS} (h : b_E_output_45 q rec16 v1 v2 v3 σ = some B) {ls : Array Slot} {H : Heap} {locs : List Loc} {cells slots : Nat} (hl : lv_has ls 4 [(0, .ref (b + q)), (1, .int v1), (2, .int v2), (3, .int v3)]) (hW : CWS D tc b z s σ0 σ H locs cells slots) : W p l e (CR 11 271 σ0) s m args below meth c H locs cells slots (CE D tc b z below args s σ0 (some (.int B.1)) B.2) (F0 m 45 ls []) := by
  have hx := S.1.1
  have hb := S.1.2.1
  unfold b_E_output_45 at h
  refine lv_aload_n hx hb d_E_output_45 rfl (lv_at hl 0 rfl) ?_
  refine lv_iload_n hx hb d_E_output_46 rfl (lv_at hl 3 rfl) ?_
  refine rb_le (tgt := 54) hx hb d_E_output_47 (by decide) h (fun h => ?_) (fun h => ?_)
  · refine lv_iconst (v := 1) hx hb d_E_output_54 (by decide) ?_
    exact t_E_output_55 S hq hrec16 v1 v2 v3 (1 : Int32) σ h (lv_sub hl [0, 1, 2, 3] rfl) hW
  · refine lv_iconst (v := 0) hx hb d_E_output_50 (by decide) ?_
    refine lv_goto (tgt := 55) hx hb d_E_output_51 (by decide) ?_
    exact t_E_output_55 S hq hrec16 v1 v2 v3 (0 : Int32) σ h (lv_sub hl [0, 1, 2, 3] rfl) hW
theorem tF_E_output_16 {q : Nat} (S : CC p m c k_E_output 4 s args cn_E meth (Option.some Jvm.ClassFile.FieldType.boolean) D tc b z) (hq : q = 7 ∨ q = 14) : ∀ (rec16 : Int32 → Int32 → CS → Option (Int32 × CS)), (∀ (v1 : Int32) (v2 : Int32) (σ : CS) (B : Int32 × CS), rec16 v1 v2 σ = some B → P_E_output_16 q p l e s m args below meth c D tc b z σ0 v1 v2 σ B) → ∀ (v1 : Int32) (v2 : Int32) (σ : CS) (B : Int32 × CS), F_E_output_16 q rec16 v1 v2 σ = some B → P_E_output_16 q p l e s m args below meth c D tc b z σ0 v1 v2 σ B := by
  intro rec16 hrec16 v1 v2 σ B h ls H locs cells slots hl hW
  have hx := S.1.1
  have hb := S.1.2.1
  unfold F_E_output_16 at h
  refine lv_iload_n hx hb d_E_output_16 rfl (lv_at hl 2 rfl) ?_
  refine lv_sipush (v := 10000) hx hb d_E_output_17 (by decide) ?_
  refine rc_ge (tgt := 65) hx hb d_E_output_20 (by decide) h (fun h => ?_) (fun h => ?_)
  · exact t_E_output_65 S hq v1 σ h (lv_sub hl [0, 1] rfl) hW
  · refine lv_aload_n hx hb d_E_output_23 rfl (lv_at hl 0 rfl) ?_
    refine cm_cVi [] kx_E S hW (kE hq) (fun x σ' hc => c_E_bytesToSend q σ hc) q_E_bytesToSend wd_841 wd_11 wd_839 (by decide) hl.1 rfl rfl (Nat.le_of_ble_eq_true rfl) d_E_output_24 h (fun x2 r1 H locs cells slots h hW => ?_)
    refine lv_istore_n (lv' := [(3, .int x2), (0, .ref (b + q)), (1, .int v1), (2, .int v2)]) hx hb d_E_output_27 rfl hl (by decide) rfl (fun ls hl => ?_)
    refine lv_iload_n hx hb d_E_output_28 rfl (lv_at hl 0 rfl) ?_
    refine rb_ne (tgt := 45) hx hb d_E_output_29 (by decide) h (fun h => ?_) (fun h => ?_)
    · exact t_E_output_45 S hq hrec16 v1 v2 x2 r1 h (lv_sub hl [1, 2, 3, 0] rfl) hW
    · refine lv_aload_n hx hb d_E_output_32 rfl (lv_at hl 1 rfl) ?_
      refine cm_getf kx_E S hW (kE hq) 3 (q + 1) rfl wd_353 (by decide) d_E_output_33 ?_
      refine cm_cVi [] kx_U S hW (kEU hq) (fun x σ' hc => c_U_finIsDue (q + 1) r1 hc) q_U_finIsDue wd_853 wd_854 wd_852 (by decide) hl.1 rfl rfl (Nat.le_of_ble_eq_true rfl) d_E_output_36 h (fun x4 r3 H locs cells slots h hW => ?_)
      refine rb_ne (tgt := 45) hx hb d_E_output_39 (by decide) h (fun h => ?_) (fun h => ?_)
      · exact t_E_output_45 S hq hrec16 v1 v2 x2 r3 h (lv_sub hl [1, 2, 3, 0] rfl) hW
      · refine lv_goto (tgt := 65) hx hb d_E_output_42 (by decide) ?_
        exact t_E_output_65 S hq v1 r3 h (lv_sub hl [1, 2] rfl) hW
theorem t_E_output_16 {q : Nat} (S : CC p m c k_E_output 4 s args cn_E meth (Option.some Jvm.ClassFile.FieldType.boolean) D tc b z) (hq : q = 7 ∨ q = 14) : ∀ (n : Nat) (v1 : Int32) (v2 : Int32) (σ : CS) (B : Int32 × CS), lq3 (F_E_output_16 q) n v1 v2 σ = some B → P_E_output_16 q p l e s m args below meth c D tc b z σ0 v1 v2 σ B := lq3_s (tF_E_output_16 S hq)
theorem t_E_output_0 (S : CC p m c k_E_output 4 s args cn_E meth (Option.some Jvm.ClassFile.FieldType.boolean) D tc b z) (q : Nat) (σ : CS) {B : Int32 × CS} (h : m_E_output q σ = some B) {ls : Array Slot} {H : Heap} {locs : List Loc} {cells slots : Nat} (hl : lv_has ls 4 [(0, .ref (b + q))]) (hW : CWS D tc b z s σ0 σ H locs cells slots) : W p l e (CR 11 271 σ0) s m args below meth c H locs cells slots (CE D tc b z below args s σ0 (some (.int B.1)) B.2) (F0 m 0 ls []) := by
  have hx := S.1.1
  have hb := S.1.2.1
  unfold m_E_output at h
  obtain ⟨hq, h⟩ := gd_s h
  refine lv_aload_n hx hb d_E_output_0 rfl (lv_at hl 0 rfl) ?_
  refine cm_cVi [] kx_E S hW (kE hq) (fun x σ' hc => c_E_maySend q σ hc) q_E_maySend wd_837 wd_10 wd_835 (by decide) hl.1 rfl rfl (Nat.le_of_ble_eq_true rfl) d_E_output_1 h (fun x2 r1 H locs cells slots h hW => ?_)
  refine rb_ne (tgt := 9) hx hb d_E_output_4 (by decide) h (fun h => ?_) (fun h => ?_)
  · refine lv_aload_n hx hb d_E_output_9 rfl (lv_at hl 0 rfl) ?_
    refine cm_geti kx_E S hW (kE hq) 10 wd_366 (by decide) d_E_output_10 h (fun x3 h => ?_)
    refine lv_istore_n (lv' := [(1, .int x3), (0, .ref (b + q))]) hx hb d_E_output_13 rfl hl (by decide) rfl (fun ls hl => ?_)
    refine lv_iconst (v := 0) hx hb d_E_output_14 (by decide) ?_
    refine lv_istore_n (lv' := [(2, .int (0 : Int32)), (1, .int x3), (0, .ref (b + q))]) hx hb d_E_output_15 rfl hl (by decide) rfl (fun ls hl => ?_)
    exact t_E_output_16 S hq fuel x3 (0 : Int32) r1 _ h _ _ _ _ _ (lv_sub hl [2, 1, 0] rfl) hW
  · refine lv_iconst (v := 0) hx hb d_E_output_7 (by decide) ?_
    exact cm_zret S hW d_E_output_8 h
theorem c_E_output (q : Nat) (σ : CS) {x : Int32} {σ' : CS} (h : m_E_output q σ = some (x, σ')) : CMet l D tc b z y_E_output k_E_output 4 (Option.some Jvm.ClassFile.FieldType.boolean) 11 271 [.ref (b + q)] σ (some (.int x)) σ' := cm_met (by decide) (Nat.le_of_ble_eq_true rfl) fun p e s m args below meth c S hW ls hl => t_E_output_0 S q σ h hl hW
end

/-! StreamPair$End.closes ()V -/
abbrev k_E_closes : ByteArray := prog_5_method_4_code
abbrev y_E_closes : MethodName := ⟨cn_E, "closes", "()V"⟩
theorem q_E_closes : Calee y_E_closes k_E_closes 1 none 0 := ⟨wd_901, wd_85, by decide, by decide +kernel⟩
theorem d_E_closes_0 : decode k_E_closes 0 = .ok (.aload_n 0, 1) := by decide +kernel
theorem d_E_closes_1 : decode k_E_closes 1 = .ok (.getfield 54, 3) := by decide +kernel
theorem d_E_closes_4 : decode k_E_closes 4 = .ok (.iconst 1, 1) := by decide +kernel
theorem d_E_closes_5 : decode k_E_closes 5 = .ok (.if_icmp .eq 11, 3) := by decide +kernel
theorem d_E_closes_8 : decode k_E_closes 8 = .ok (.aload_n 0, 1) := by decide +kernel
theorem d_E_closes_9 : decode k_E_closes 9 = .ok (.getfield 54, 3) := by decide +kernel
theorem d_E_closes_12 : decode k_E_closes 12 = .ok (.iconst 2, 1) := by decide +kernel
theorem d_E_closes_13 : decode k_E_closes 13 = .ok (.if_icmp .ne 9, 3) := by decide +kernel
theorem d_E_closes_16 : decode k_E_closes 16 = .ok (.aload_n 0, 1) := by decide +kernel
theorem d_E_closes_17 : decode k_E_closes 17 = .ok (.iconst 0, 1) := by decide +kernel
theorem d_E_closes_18 : decode k_E_closes 18 = .ok (.invokevirtual 80, 3) := by decide +kernel
theorem d_E_closes_21 : decode k_E_closes 21 = .ok (.return_, 1) := by decide +kernel
theorem d_E_closes_22 : decode k_E_closes 22 = .ok (.aload_n 0, 1) := by decide +kernel
theorem d_E_closes_23 : decode k_E_closes 23 = .ok (.aload_n 0, 1) := by decide +kernel
theorem d_E_closes_24 : decode k_E_closes 24 = .ok (.getfield 54, 3) := by decide +kernel
theorem d_E_closes_27 : decode k_E_closes 27 = .ok (.iconst 4, 1) := by decide +kernel
theorem d_E_closes_28 : decode k_E_closes 28 = .ok (.if_icmp .ne 7, 3) := by decide +kernel
theorem d_E_closes_31 : decode k_E_closes 31 = .ok (.iconst 5, 1) := by decide +kernel
theorem d_E_closes_32 : decode k_E_closes 32 = .ok (.goto 5, 3) := by decide +kernel
theorem d_E_closes_35 : decode k_E_closes 35 = .ok (.bipush 9, 2) := by decide +kernel
theorem d_E_closes_37 : decode k_E_closes 37 = .ok (.putfield 54, 3) := by decide +kernel
theorem d_E_closes_40 : decode k_E_closes 40 = .ok (.aload_n 0, 1) := by decide +kernel
theorem d_E_closes_41 : decode k_E_closes 41 = .ok (.getfield 12, 3) := by decide +kernel
theorem d_E_closes_44 : decode k_E_closes 44 = .ok (.iconst 1, 1) := by decide +kernel
theorem d_E_closes_45 : decode k_E_closes 45 = .ok (.putfield 83, 3) := by decide +kernel
theorem d_E_closes_48 : decode k_E_closes 48 = .ok (.aload_n 0, 1) := by decide +kernel
theorem d_E_closes_49 : decode k_E_closes 49 = .ok (.invokevirtual 87, 3) := by decide +kernel
theorem d_E_closes_52 : decode k_E_closes 52 = .ok (.pop, 1) := by decide +kernel
theorem d_E_closes_53 : decode k_E_closes 53 = .ok (.return_, 1) := by decide +kernel
def b_E_closes_37 (q : Nat) (w1 : Int32) (σ : CS) : Option (CS) :=
  bd (wi σ q 8 w1) fun r1 => gd ((1 : Int32) = 0 ∨ (1 : Int32) = 1) <| bd (wi r1 (q + 1) 8 (1 : Int32)) fun r2 => bc2 (m_E_output q r2) fun x4 r3 => some r3
def b_E_closes_16 (q : Nat) (σ : CS) : Option (CS) :=
  bc (m_E_shut q (0 : Int32) σ) fun r1 => some r1
def m_E_closes (q : Nat) (σ : CS) : Option (CS) :=
  gd (q = 7 ∨ q = 14) <| bd (cI σ q 8) fun x1 => if x1 = (1 : Int32) then
  (b_E_closes_16 q  σ)
 else
  (bd (cI σ q 8) fun x2 => if x2 = (2 : Int32) then
  (b_E_closes_16 q  σ)
 else
  (bd (cI σ q 8) fun x3 => if x3 = (4 : Int32) then
  (b_E_closes_37 q (5 : Int32) σ)
 else
  (b_E_closes_37 q (9 : Int32) σ)))
section
variable {p : Program} {l : Launch} {e : Env} {s : State} {m : MethodId} {args : Array Value} {below : List Frame} {meth : Method} {c : Code} {D : va_G} {tc : Nat → ClassId} {b z : Nat} {σ0 : CS}
theorem t_E_closes_37 {q : Nat} (S : CC p m c k_E_closes 1 s args cn_E meth none D tc b z) (hq : q = 7 ∨ q = 14) (w1 : Int32) (σ : CS) {B : CS} (h : b_E_closes_37 q w1 σ = some B) {ls : Array Slot} {H : Heap} {locs : List Loc} {cells slots : Nat} (hl : lv_has ls 1 [(0, .ref (b + q))]) (hW : CWS D tc b z s σ0 σ H locs cells slots) : W p l e (CR 12 294 σ0) s m args below meth c H locs cells slots (CE D tc b z below args s σ0 none B) (F0 m 37 ls [.int w1, .ref (b + q)]) := by
  have hx := S.1.1
  have hb := S.1.2.1
  unfold b_E_closes_37 at h
  refine cm_puti kx_E S hW (kE hq) 8 wd_362 (by decide) d_E_closes_37 h (fun r1 H locs h hW => ?_)
  refine lv_aload_n hx hb d_E_closes_40 rfl (lv_at hl 0 rfl) ?_
  refine cm_getf kx_E S hW (kE hq) 3 (q + 1) rfl wd_353 (by decide) d_E_closes_41 ?_
  refine lv_iconst (v := 1) hx hb d_E_closes_44 (by decide) ?_
  refine cm_putz kx_U S hW (kEU hq) 8 wd_214 (by decide) d_E_closes_45 h (fun r2 H locs h hW => ?_)
  refine lv_aload_n hx hb d_E_closes_48 rfl (lv_at hl 0 rfl) ?_
  refine cm_cVi [] kx_E S hW (kE hq) (fun x σ' hc => c_E_output q r2 hc) q_E_output wd_832 wd_833 wd_906 (by decide) hl.1 rfl rfl (Nat.le_of_ble_eq_true rfl) d_E_closes_49 h (fun x4 r3 H locs cells slots h hW => ?_)
  refine lv_pop hx hb d_E_closes_52 rfl ?_
  exact cm_vret S hW d_E_closes_53 h
theorem t_E_closes_16 {q : Nat} (S : CC p m c k_E_closes 1 s args cn_E meth none D tc b z) (hq : q = 7 ∨ q = 14) (σ : CS) {B : CS} (h : b_E_closes_16 q  σ = some B) {ls : Array Slot} {H : Heap} {locs : List Loc} {cells slots : Nat} (hl : lv_has ls 1 [(0, .ref (b + q))]) (hW : CWS D tc b z s σ0 σ H locs cells slots) : W p l e (CR 12 294 σ0) s m args below meth c H locs cells slots (CE D tc b z below args s σ0 none B) (F0 m 16 ls []) := by
  have hx := S.1.1
  have hb := S.1.2.1
  unfold b_E_closes_16 at h
  refine lv_aload_n hx hb d_E_closes_16 rfl (lv_at hl 0 rfl) ?_
  refine lv_iconst (v := 0) hx hb d_E_closes_17 (by decide) ?_
  refine cm_cVv [.int (0 : Int32)] kx_E S hW (kE hq) (fun σ' hc => c_E_shut q (0 : Int32) σ hc) q_E_shut wd_904 wd_14 wd_902 (by decide) hl.1 rfl rfl (Nat.le_of_ble_eq_true rfl) d_E_closes_18 h (fun r1 H locs cells slots h hW => ?_)
  exact cm_vret S hW d_E_closes_21 h
theorem t_E_closes_0 (S : CC p m c k_E_closes 1 s args cn_E meth none D tc b z) (q : Nat) (σ : CS) {B : CS} (h : m_E_closes q σ = some B) {ls : Array Slot} {H : Heap} {locs : List Loc} {cells slots : Nat} (hl : lv_has ls 1 [(0, .ref (b + q))]) (hW : CWS D tc b z s σ0 σ H locs cells slots) : W p l e (CR 12 294 σ0) s m args below meth c H locs cells slots (CE D tc b z below args s σ0 none B) (F0 m 0 ls []) := by
  have hx := S.1.1
  have hb := S.1.2.1
  unfold m_E_closes at h
  obtain ⟨hq, h⟩ := gd_s h
  refine lv_aload_n hx hb d_E_closes_0 rfl (lv_at hl 0 rfl) ?_
  refine cm_geti kx_E S hW (kE hq) 8 wd_362 (by decide) d_E_closes_1 h (fun x1 h => ?_)
  refine lv_iconst (v := 1) hx hb d_E_closes_4 (by decide) ?_
  refine rc_eq (tgt := 16) hx hb d_E_closes_5 (by decide) h (fun h => ?_) (fun h => ?_)
  · exact t_E_closes_16 S hq  σ h (lv_sub hl [0] rfl) hW
  · refine lv_aload_n hx hb d_E_closes_8 rfl (lv_at hl 0 rfl) ?_
    refine cm_geti kx_E S hW (kE hq) 8 wd_362 (by decide) d_E_closes_9 h (fun x2 h => ?_)
    refine lv_iconst (v := 2) hx hb d_E_closes_12 (by decide) ?_
    refine rc_ne (tgt := 22) hx hb d_E_closes_13 (by decide) h (fun h => ?_) (fun h => ?_)
    · refine lv_aload_n hx hb d_E_closes_22 rfl (lv_at hl 0 rfl) ?_
      refine lv_aload_n hx hb d_E_closes_23 rfl (lv_at hl 0 rfl) ?_
      refine cm_geti kx_E S hW (kE hq) 8 wd_362 (by decide) d_E_closes_24 h (fun x3 h => ?_)
      refine lv_iconst (v := 4) hx hb d_E_closes_27 (by decide) ?_
      refine rc_ne (tgt := 35) hx hb d_E_closes_28 (by decide) h (fun h => ?_) (fun h => ?_)
      · refine lv_bipush (v := 9) hx hb d_E_closes_35 (by decide) ?_
        exact t_E_closes_37 S hq (9 : Int32) σ h (lv_sub hl [0] rfl) hW
      · refine lv_iconst (v := 5) hx hb d_E_closes_31 (by decide) ?_
        refine lv_goto (tgt := 37) hx hb d_E_closes_32 (by decide) ?_
        exact t_E_closes_37 S hq (5 : Int32) σ h (lv_sub hl [0] rfl) hW
    · exact t_E_closes_16 S hq  σ h (lv_sub hl [0] rfl) hW
theorem c_E_closes (q : Nat) (σ : CS) {B : CS} (h : m_E_closes q σ = some B) : CMet l D tc b z y_E_closes k_E_closes 1 none 12 294 [.ref (b + q)] σ none B := cm_met (by decide) (Nat.le_of_ble_eq_true rfl) fun p e s m args below meth c S hW ls hl => t_E_closes_0 S q σ h hl hW
end

/-! StreamPair$End.breaksOff ()V -/
abbrev k_E_breaksOff : ByteArray := prog_5_method_5_code
abbrev y_E_breaksOff : MethodName := ⟨cn_E, "breaksOff", "()V"⟩
theorem q_E_breaksOff : Calee y_E_breaksOff k_E_breaksOff 1 none 0 := ⟨wd_917, wd_85, by decide, by decide +kernel⟩
theorem d_E_breaksOff_0 : decode k_E_breaksOff 0 = .ok (.aload_n 0, 1) := by decide +kernel
theorem d_E_breaksOff_1 : decode k_E_breaksOff 1 = .ok (.getfield 54, 3) := by decide +kernel
theorem d_E_breaksOff_4 : decode k_E_breaksOff 4 = .ok (.ifCond .ne 4, 3) := by decide +kernel
theorem d_E_breaksOff_7 : decode k_E_breaksOff 7 = .ok (.return_, 1) := by decide +kernel
theorem d_E_breaksOff_8 : decode k_E_breaksOff 8 = .ok (.aload_n 0, 1) := by decide +kernel
theorem d_E_breaksOff_9 : decode k_E_breaksOff 9 = .ok (.getfield 54, 3) := by decide +kernel
theorem d_E_breaksOff_12 : decode k_E_breaksOff 12 = .ok (.iconst 3, 1) := by decide +kernel
theorem d_E_breaksOff_13 : decode k_E_breaksOff 13 = .ok (.if_icmp .lt 25, 3) := by decide +kernel
theorem d_E_breaksOff_16 : decode k_E_breaksOff 16 = .ok (.aload_n 0, 1) := by decide +kernel
theorem d_E_breaksOff_17 : decode k_E_breaksOff 17 = .ok (.getfield 54, 3) := by decide +kernel
theorem d_E_breaksOff_20 : decode k_E_breaksOff 20 = .ok (.bipush 8, 2) := by decide +kernel
theorem d_E_breaksOff_22 : decode k_E_breaksOff 22 = .ok (.if_icmp .gt 16, 3) := by decide +kernel
theorem d_E_breaksOff_25 : decode k_E_breaksOff 25 = .ok (.aload_n 0, 1) := by decide +kernel
theorem d_E_breaksOff_26 : decode k_E_breaksOff 26 = .ok (.iconst 4, 1) := by decide +kernel
theorem d_E_breaksOff_27 : decode k_E_breaksOff 27 = .ok (.aload_n 0, 1) := by decide +kernel
theorem d_E_breaksOff_28 : decode k_E_breaksOff 28 = .ok (.getfield 12, 3) := by decide +kernel
theorem d_E_breaksOff_31 : decode k_E_breaksOff 31 = .ok (.getfield 91, 3) := by decide +kernel
theorem d_E_breaksOff_34 : decode k_E_breaksOff 34 = .ok (.iconst 0, 1) := by decide +kernel
theorem d_E_breaksOff_35 : decode k_E_breaksOff 35 = .ok (.invokevirtual 94, 3) := by decide +kernel
theorem d_E_breaksOff_38 : decode k_E_breaksOff 38 = .ok (.aload_n 0, 1) := by decide +kernel
theorem d_E_breaksOff_39 : decode k_E_breaksOff 39 = .ok (.iconst 1, 1) := by decide +kernel
theorem d_E_breaksOff_40 : decode k_E_breaksOff 40 = .ok (.invokevirtual 80, 3) := by decide +kernel
theorem d_E_breaksOff_43 : decode k_E_breaksOff 43 = .ok (.return_, 1) := by decide +kernel
def b_E_breaksOff_38 (q : Nat) (σ : CS) : Option (CS) :=
  bc (m_E_shut q (1 : Int32) σ) fun r1 => some r1
def m_E_breaksOff (q : Nat) (σ : CS) : Option (CS) :=
  gd (q = 7 ∨ q = 14) <| bd (cI σ q 8) fun x1 => if x1 = 0 then
  (some σ)
 else
  (bd (cI σ q 8) fun x2 => if x2 < (3 : Int32) then
  (b_E_breaksOff_38 q  σ)
 else
  (bd (cI σ q 8) fun x3 => if (8 : Int32) < x3 then
  (b_E_breaksOff_38 q  σ)
 else
  (bd (cI σ (q + 1) 5) fun x4 => bc (m_E_send q (4 : Int32) x4 (0 : Int32) σ) fun r5 => b_E_breaksOff_38 q  r5)))
section
variable {p : Program} {l : Launch} {e : Env} {s : State} {m : MethodId} {args : Array Value} {below : List Frame} {meth : Method} {c : Code} {D : va_G} {tc : Nat → ClassId} {b z : Nat} {σ0 : CS}
theorem t_E_breaksOff_38 {q : Nat} (S : CC p m c k_E_breaksOff 1 s args cn_E meth none D tc b z) (hq : q = 7 ∨ q = 14) (σ : CS) {B : CS} (h : b_E_breaksOff_38 q  σ = some B) {ls : Array Slot} {H : Heap} {locs : List Loc} {cells slots : Nat} (hl : lv_has ls 1 [(0, .ref (b + q))]) (hW : CWS D tc b z s σ0 σ H locs cells slots) : W p l e (CR 10 247 σ0) s m args below meth c H locs cells slots (CE D tc b z below args s σ0 none B) (F0 m 38 ls []) := by
  have hx := S.1.1
  have hb := S.1.2.1
  unfold b_E_breaksOff_38 at h
  refine lv_aload_n hx hb d_E_breaksOff_38 rfl (lv_at hl 0 rfl) ?_
  refine lv_iconst (v := 1) hx hb d_E_breaksOff_39 (by decide) ?_
  refine cm_cVv [.int (1 : Int32)] kx_E S hW (kE hq) (fun σ' hc => c_E_shut q (1 : Int32) σ hc) q_E_shut wd_904 wd_14 wd_902 (by decide) hl.1 rfl rfl (Nat.le_of_ble_eq_true rfl) d_E_breaksOff_40 h (fun r1 H locs cells slots h hW => ?_)
  exact cm_vret S hW d_E_breaksOff_43 h
theorem t_E_breaksOff_0 (S : CC p m c k_E_breaksOff 1 s args cn_E meth none D tc b z) (q : Nat) (σ : CS) {B : CS} (h : m_E_breaksOff q σ = some B) {ls : Array Slot} {H : Heap} {locs : List Loc} {cells slots : Nat} (hl : lv_has ls 1 [(0, .ref (b + q))]) (hW : CWS D tc b z s σ0 σ H locs cells slots) : W p l e (CR 10 247 σ0) s m args below meth c H locs cells slots (CE D tc b z below args s σ0 none B) (F0 m 0 ls []) := by
  have hx := S.1.1
  have hb := S.1.2.1
  unfold m_E_breaksOff at h
  obtain ⟨hq, h⟩ := gd_s h
  refine lv_aload_n hx hb d_E_breaksOff_0 rfl (lv_at hl 0 rfl) ?_
  refine cm_geti kx_E S hW (kE hq) 8 wd_362 (by decide) d_E_breaksOff_1 h (fun x1 h => ?_)
  refine rb_ne (tgt := 8) hx hb d_E_breaksOff_4 (by decide) h (fun h => ?_) (fun h => ?_)
  · refine lv_aload_n hx hb d_E_breaksOff_8 rfl (lv_at hl 0 rfl) ?_
    refine cm_geti kx_E S hW (kE hq) 8 wd_362 (by decide) d_E_breaksOff_9 h (fun x2 h => ?_)
    refine lv_iconst (v := 3) hx hb d_E_breaksOff_12 (by decide) ?_
    refine rc_lt (tgt := 38) hx hb d_E_breaksOff_13 (by decide) h (fun h => ?_) (fun h => ?_)
    · exact t_E_breaksOff_38 S hq  σ h (lv_sub hl [0] rfl) hW
    · refine lv_aload_n hx hb d_E_breaksOff_16 rfl (lv_at hl 0 rfl) ?_
      refine cm_geti kx_E S hW (kE hq) 8 wd_362 (by decide) d_E_breaksOff_17 h (fun x3 h => ?_)
      refine lv_bipush (v := 8) hx hb d_E_breaksOff_20 (by decide) ?_
      refine rc_gt (tgt := 38) hx hb d_E_breaksOff_22 (by decide) h (fun h => ?_) (fun h => ?_)
      · exact t_E_breaksOff_38 S hq  σ h (lv_sub hl [0] rfl) hW
      · refine lv_aload_n hx hb d_E_breaksOff_25 rfl (lv_at hl 0 rfl) ?_
        refine lv_iconst (v := 4) hx hb d_E_breaksOff_26 (by decide) ?_
        refine lv_aload_n hx hb d_E_breaksOff_27 rfl (lv_at hl 0 rfl) ?_
        refine cm_getf kx_E S hW (kE hq) 3 (q + 1) rfl wd_353 (by decide) d_E_breaksOff_28 ?_
        refine cm_geti kx_U S hW (kEU hq) 5 wd_208 (by decide) d_E_breaksOff_31 h (fun x4 h => ?_)
        refine lv_iconst (v := 0) hx hb d_E_breaksOff_34 (by decide) ?_
        refine cm_cVv [.int (4 : Int32), .int x4, .int (0 : Int32)] kx_E S hW (kE hq) (fun σ' hc => c_E_send q (4 : Int32) x4 (0 : Int32) σ hc) q_E_send wd_550 wd_4 wd_548 (by decide) hl.1 rfl rfl (Nat.le_of_ble_eq_true rfl) d_E_breaksOff_35 h (fun r5 H locs cells slots h hW => ?_)
        exact t_E_breaksOff_38 S hq  r5 h (lv_sub hl [0] rfl) hW
  · exact cm_vret S hW d_E_breaksOff_7 h
theorem c_E_breaksOff (q : Nat) (σ : CS) {B : CS} (h : m_E_breaksOff q σ = some B) : CMet l D tc b z y_E_breaksOff k_E_breaksOff 1 none 10 247 [.ref (b + q)] σ none B := cm_met (by decide) (Nat.le_of_ble_eq_true rfl) fun p e s m args below meth c S hW ls hl => t_E_breaksOff_0 S q σ h hl hW
end

/-! StreamPair$End.takesData ()Z -/
abbrev k_E_takesData : ByteArray := prog_5_method_8_code
abbrev y_E_takesData : MethodName := ⟨cn_E, "takesData", "()Z"⟩
theorem q_E_takesData : Calee y_E_takesData k_E_takesData 1 (Option.some Jvm.ClassFile.FieldType.boolean) 0 := ⟨wd_880, wd_85, by decide, by decide +kernel⟩
theorem d_E_takesData_0 : decode k_E_takesData 0 = .ok (.aload_n 0, 1) := by decide +kernel
theorem d_E_takesData_1 : decode k_E_takesData 1 = .ok (.getfield 54, 3) := by decide +kernel
theorem d_E_takesData_4 : decode k_E_takesData 4 = .ok (.iconst 4, 1) := by decide +kernel
theorem d_E_takesData_5 : decode k_E_takesData 5 = .ok (.if_icmp .eq 20, 3) := by decide +kernel
theorem d_E_takesData_8 : decode k_E_takesData 8 = .ok (.aload_n 0, 1) := by decide +kernel
theorem d_E_takesData_9 : decode k_E_takesData 9 = .ok (.getfield 54, 3) := by decide +kernel
theorem d_E_takesData_12 : decode k_E_takesData 12 = .ok (.iconst 5, 1) := by decide +kernel
theorem d_E_takesData_13 : decode k_E_takesData 13 = .ok (.if_icmp .eq 12, 3) := by decide +kernel
theorem d_E_takesData_16 : decode k_E_takesData 16 = .ok (.aload_n 0, 1) := by decide +kernel
theorem d_E_takesData_17 : decode k_E_takesData 17 = .ok (.getfield 54, 3) := by decide +kernel
theorem d_E_takesData_20 : decode k_E_takesData 20 = .ok (.bipush 6, 2) := by decide +kernel
theorem d_E_takesData_22 : decode k_E_takesData 22 = .ok (.if_icmp .ne 7, 3) := by decide +kernel
theorem d_E_takesData_25 : decode k_E_takesData 25 = .ok (.iconst 1, 1) := by decide +kernel
theorem d_E_takesData_26 : decode k_E_takesData 26 = .ok (.goto 4, 3) := by decide +kernel
theorem d_E_takesData_29 : decode k_E_takesData 29 = .ok (.iconst 0, 1) := by decide +kernel
theorem d_E_takesData_30 : decode k_E_takesData 30 = .ok (.ireturn, 1) := by decide +kernel
def b_E_takesData_30 (q : Nat) (w0 : Int32) (σ : CS) : Option (Int32 × CS) :=
  gd (w0 = 0 ∨ w0 = 1) (some (w0, σ))
def b_E_takesData_25 (q : Nat) (σ : CS) : Option (Int32 × CS) :=
  b_E_takesData_30 q (1 : Int32) σ
def m_E_takesData (q : Nat) (σ : CS) : Option (Int32 × CS) :=
  gd (q = 7 ∨ q = 14) <| bd (cI σ q 8) fun x1 => if x1 = (4 : Int32) then
  (b_E_takesData_25 q  σ)
 else
  (bd (cI σ q 8) fun x2 => if x2 = (5 : Int32) then
  (b_E_takesData_25 q  σ)
 else
  (bd (cI σ q 8) fun x3 => if x3 = (6 : Int32) then
  (b_E_takesData_25 q  σ)
 else
  (b_E_takesData_30 q (0 : Int32) σ)))
section
variable {p : Program} {l : Launch} {e : Env} {s : State} {m : MethodId} {args : Array Value} {below : List Frame} {meth : Method} {c : Code} {D : va_G} {tc : Nat → ClassId} {b z : Nat} {σ0 : CS}
theorem t_E_takesData_30 {q : Nat} (S : CC p m c k_E_takesData 1 s args cn_E meth (Option.some Jvm.ClassFile.FieldType.boolean) D tc b z) (hq : q = 7 ∨ q = 14) (w0 : Int32) (σ : CS) {B : Int32 × CS} (h : b_E_takesData_30 q w0 σ = some B) {ls : Array Slot} {H : Heap} {locs : List Loc} {cells slots : Nat} (hl : lv_has ls 1 []) (hW : CWS D tc b z s σ0 σ H locs cells slots) : W p l e (CR 0 0 σ0) s m args below meth c H locs cells slots (CE D tc b z below args s σ0 (some (.int B.1)) B.2) (F0 m 30 ls [.int w0]) := by
  have hx := S.1.1
  have hb := S.1.2.1
  unfold b_E_takesData_30 at h
  exact cm_zret S hW d_E_takesData_30 h
theorem t_E_takesData_25 {q : Nat} (S : CC p m c k_E_takesData 1 s args cn_E meth (Option.some Jvm.ClassFile.FieldType.boolean) D tc b z) (hq : q = 7 ∨ q = 14) (σ : CS) {B : Int32 × CS} (h : b_E_takesData_25 q  σ = some B) {ls : Array Slot} {H : Heap} {locs : List Loc} {cells slots : Nat} (hl : lv_has ls 1 []) (hW : CWS D tc b z s σ0 σ H locs cells slots) : W p l e (CR 0 0 σ0) s m args below meth c H locs cells slots (CE D tc b z below args s σ0 (some (.int B.1)) B.2) (F0 m 25 ls []) := by
  have hx := S.1.1
  have hb := S.1.2.1
  unfold b_E_takesData_25 at h
  refine lv_iconst (v := 1) hx hb d_E_takesData_25 (by decide) ?_
  refine lv_goto (tgt := 30) hx hb d_E_takesData_26 (by decide) ?_
  exact t_E_takesData_30 S hq (1 : Int32) σ h (lv_sub hl [] rfl) hW
theorem t_E_takesData_0 (S : CC p m c k_E_takesData 1 s args cn_E meth (Option.some Jvm.ClassFile.FieldType.boolean) D tc b z) (q : Nat) (σ : CS) {B : Int32 × CS} (h : m_E_takesData q σ = some B) {ls : Array Slot} {H : Heap} {locs : List Loc} {cells slots : Nat} (hl : lv_has ls 1 [(0, .ref (b + q))]) (hW : CWS D tc b z s σ0 σ H locs cells slots) : W p l e (CR 0 0 σ0) s m args below meth c H locs cells slots (CE D tc b z below args s σ0 (some (.int B.1)) B.2) (F0 m 0 ls []) := by
  have hx := S.1.1
  have hb := S.1.2.1
  unfold m_E_takesData at h
  obtain ⟨hq, h⟩ := gd_s h
  refine lv_aload_n hx hb d_E_takesData_0 rfl (lv_at hl 0 rfl) ?_
  refine cm_geti kx_E S hW (kE hq) 8 wd_362 (by decide) d_E_takesData_1 h (fun x1 h => ?_)
  refine lv_iconst (v := 4) hx hb d_E_takesData_4 (by decide) ?_
  refine rc_eq (tgt := 25) hx hb d_E_takesData_5 (by decide) h (fun h => ?_) (fun h => ?_)
  · exact t_E_takesData_25 S hq  σ h (lv_sub hl [] rfl) hW
  · refine lv_aload_n hx hb d_E_takesData_8 rfl (lv_at hl 0 rfl) ?_
    refine cm_geti kx_E S hW (kE hq) 8 wd_362 (by decide) d_E_takesData_9 h (fun x2 h => ?_)
    refine lv_iconst (v := 5) hx hb d_E_takesData_12 (by decide) ?_
    refine rc_eq (tgt := 25) hx hb d_E_takesData_13 (by decide) h (fun h => ?_) (fun h => ?_)
    · exact t_E_takesData_25 S hq  σ h (lv_sub hl [] rfl) hW
    · refine lv_aload_n hx hb d_E_takesData_16 rfl (lv_at hl 0 rfl) ?_
      refine cm_geti kx_E S hW (kE hq) 8 wd_362 (by decide) d_E_takesData_17 h (fun x3 h => ?_)
      refine lv_bipush (v := 6) hx hb d_E_takesData_20 (by decide) ?_
      refine rc_ne (tgt := 29) hx hb d_E_takesData_22 (by decide) h (fun h => ?_) (fun h => ?_)
      · refine lv_iconst (v := 0) hx hb d_E_takesData_29 (by decide) ?_
        exact t_E_takesData_30 S hq (0 : Int32) σ h (lv_sub hl [] rfl) hW
      · exact t_E_takesData_25 S hq  σ h (lv_sub hl [] rfl) hW
theorem c_E_takesData (q : Nat) (σ : CS) {x : Int32} {σ' : CS} (h : m_E_takesData q σ = some (x, σ')) : CMet l D tc b z y_E_takesData k_E_takesData 1 (Option.some Jvm.ClassFile.FieldType.boolean) 0 0 [.ref (b + q)] σ (some (.int x)) σ' := cm_met (by decide) (Nat.le_of_ble_eq_true rfl) fun p e s m args below meth c S hW ls hl => t_E_takesData_0 S q σ h hl hW
end

/-! StreamPair$End.tellOpenedWindow ()V -/
abbrev k_E_tellOpenedWindow : ByteArray := prog_5_method_7_code
abbrev y_E_tellOpenedWindow : MethodName := ⟨cn_E, "tellOpenedWindow", "()V"⟩
theorem q_E_tellOpenedWindow : Calee y_E_tellOpenedWindow k_E_tellOpenedWindow 2 none 0 := ⟨wd_875, wd_85, by decide, by decide +kernel⟩
theorem d_E_tellOpenedWindow_0 : decode k_E_tellOpenedWindow 0 = .ok (.aload_n 0, 1) := by decide +kernel
theorem d_E_tellOpenedWindow_1 : decode k_E_tellOpenedWindow 1 = .ok (.getfield 21, 3) := by decide +kernel
theorem d_E_tellOpenedWindow_4 : decode k_E_tellOpenedWindow 4 = .ok (.invokevirtual 101, 3) := by decide +kernel
theorem d_E_tellOpenedWindow_7 : decode k_E_tellOpenedWindow 7 = .ok (.istore_n 1, 1) := by decide +kernel
theorem d_E_tellOpenedWindow_8 : decode k_E_tellOpenedWindow 8 = .ok (.aload_n 0, 1) := by decide +kernel
theorem d_E_tellOpenedWindow_9 : decode k_E_tellOpenedWindow 9 = .ok (.invokevirtual 105, 3) := by decide +kernel
theorem d_E_tellOpenedWindow_12 : decode k_E_tellOpenedWindow 12 = .ok (.ifCond .eq 37, 3) := by decide +kernel
theorem d_E_tellOpenedWindow_15 : decode k_E_tellOpenedWindow 15 = .ok (.iload_n 1, 1) := by decide +kernel
theorem d_E_tellOpenedWindow_16 : decode k_E_tellOpenedWindow 16 = .ok (.aload_n 0, 1) := by decide +kernel
theorem d_E_tellOpenedWindow_17 : decode k_E_tellOpenedWindow 17 = .ok (.getfield 35, 3) := by decide +kernel
theorem d_E_tellOpenedWindow_20 : decode k_E_tellOpenedWindow 20 = .ok (.getfield 108, 3) := by decide +kernel
theorem d_E_tellOpenedWindow_23 : decode k_E_tellOpenedWindow 23 = .ok (.if_icmp .ge 26, 3) := by decide +kernel
theorem d_E_tellOpenedWindow_26 : decode k_E_tellOpenedWindow 26 = .ok (.aload_n 0, 1) := by decide +kernel
theorem d_E_tellOpenedWindow_27 : decode k_E_tellOpenedWindow 27 = .ok (.getfield 21, 3) := by decide +kernel
theorem d_E_tellOpenedWindow_30 : decode k_E_tellOpenedWindow 30 = .ok (.invokevirtual 111, 3) := by decide +kernel
theorem d_E_tellOpenedWindow_33 : decode k_E_tellOpenedWindow 33 = .ok (.iload_n 1, 1) := by decide +kernel
theorem d_E_tellOpenedWindow_34 : decode k_E_tellOpenedWindow 34 = .ok (.isub, 1) := by decide +kernel
theorem d_E_tellOpenedWindow_35 : decode k_E_tellOpenedWindow 35 = .ok (.aload_n 0, 1) := by decide +kernel
theorem d_E_tellOpenedWindow_36 : decode k_E_tellOpenedWindow 36 = .ok (.getfield 35, 3) := by decide +kernel
theorem d_E_tellOpenedWindow_39 : decode k_E_tellOpenedWindow 39 = .ok (.getfield 108, 3) := by decide +kernel
theorem d_E_tellOpenedWindow_42 : decode k_E_tellOpenedWindow 42 = .ok (.if_icmp .lt 7, 3) := by decide +kernel
theorem d_E_tellOpenedWindow_45 : decode k_E_tellOpenedWindow 45 = .ok (.aload_n 0, 1) := by decide +kernel
theorem d_E_tellOpenedWindow_46 : decode k_E_tellOpenedWindow 46 = .ok (.invokevirtual 114, 3) := by decide +kernel
theorem d_E_tellOpenedWindow_49 : decode k_E_tellOpenedWindow 49 = .ok (.return_, 1) := by decide +kernel
def b_E_tellOpenedWindow_49 (q : Nat) (σ : CS) : Option (CS) :=
  some σ
def m_E_tellOpenedWindow (q : Nat) (σ : CS) : Option (CS) :=
  gd (q = 7 ∨ q = 14) <| bc2 (m_V_window (q + 3) σ) fun x2 r1 => bc2 (m_E_takesData q r1) fun x4 r3 => if x4 = 0 then
  (b_E_tellOpenedWindow_49 q  r3)
 else
  (bd (cI r3 (q + 6) 0) fun x5 => if x5 ≤ x2 then
  (b_E_tellOpenedWindow_49 q  r3)
 else
  (bc2 (m_V_free (q + 3) r3) fun x7 r6 => bd (cI r6 (q + 6) 0) fun x8 => if (x7 - x2) < x8 then
  (b_E_tellOpenedWindow_49 q  r6)
 else
  (bc (m_E_sendAck q r6) fun r9 => b_E_tellOpenedWindow_49 q  r9)))
section
variable {p : Program} {l : Launch} {e : Env} {s : State} {m : MethodId} {args : Array Value} {below : List Frame} {meth : Method} {c : Code} {D : va_G} {tc : Nat → ClassId} {b z : Nat} {σ0 : CS}
theorem t_E_tellOpenedWindow_49 {q : Nat} (S : CC p m c k_E_tellOpenedWindow 2 s args cn_E meth none D tc b z) (hq : q = 7 ∨ q = 14) (σ : CS) {B : CS} (h : b_E_tellOpenedWindow_49 q  σ = some B) {ls : Array Slot} {H : Heap} {locs : List Loc} {cells slots : Nat} (hl : lv_has ls 2 []) (hW : CWS D tc b z s σ0 σ H locs cells slots) : W p l e (CR 11 267 σ0) s m args below meth c H locs cells slots (CE D tc b z below args s σ0 none B) (F0 m 49 ls []) := by
  have hx := S.1.1
  have hb := S.1.2.1
  unfold b_E_tellOpenedWindow_49 at h
  exact cm_vret S hW d_E_tellOpenedWindow_49 h
theorem t_E_tellOpenedWindow_0 (S : CC p m c k_E_tellOpenedWindow 2 s args cn_E meth none D tc b z) (q : Nat) (σ : CS) {B : CS} (h : m_E_tellOpenedWindow q σ = some B) {ls : Array Slot} {H : Heap} {locs : List Loc} {cells slots : Nat} (hl : lv_has ls 2 [(0, .ref (b + q))]) (hW : CWS D tc b z s σ0 σ H locs cells slots) : W p l e (CR 11 267 σ0) s m args below meth c H locs cells slots (CE D tc b z below args s σ0 none B) (F0 m 0 ls []) := by
  have hx := S.1.1
  have hb := S.1.2.1
  unfold m_E_tellOpenedWindow at h
  obtain ⟨hq, h⟩ := gd_s h
  refine lv_aload_n hx hb d_E_tellOpenedWindow_0 rfl (lv_at hl 0 rfl) ?_
  refine cm_getf kx_E S hW (kE hq) 4 (q + 3) rfl wd_355 (by decide) d_E_tellOpenedWindow_1 ?_
  refine cm_cVi [] kx_V S hW (kEV hq) (fun x σ' hc => c_V_window (q + 3) σ hc) q_V_window wd_562 wd_563 wd_876 (by decide) hl.1 rfl rfl (Nat.le_of_ble_eq_true rfl) d_E_tellOpenedWindow_4 h (fun x2 r1 H locs cells slots h hW => ?_)
  refine lv_istore_n (lv' := [(1, .int x2), (0, .ref (b + q))]) hx hb d_E_tellOpenedWindow_7 rfl hl (by decide) rfl (fun ls hl => ?_)
  refine lv_aload_n hx hb d_E_tellOpenedWindow_8 rfl (lv_at hl 1 rfl) ?_
  refine cm_cVi [] kx_E S hW (kE hq) (fun x σ' hc => c_E_takesData q r1 hc) q_E_takesData wd_879 wd_12 wd_877 (by decide) hl.1 rfl rfl (Nat.le_of_ble_eq_true rfl) d_E_tellOpenedWindow_9 h (fun x4 r3 H locs cells slots h hW => ?_)
  refine rb_eq (tgt := 49) hx hb d_E_tellOpenedWindow_12 (by decide) h (fun h => ?_) (fun h => ?_)
  · exact t_E_tellOpenedWindow_49 S hq  r3 h (lv_sub hl [] rfl) hW
  · refine lv_iload_n hx hb d_E_tellOpenedWindow_15 rfl (lv_at hl 0 rfl) ?_
    refine lv_aload_n hx hb d_E_tellOpenedWindow_16 rfl (lv_at hl 1 rfl) ?_
    refine cm_getf kx_E S hW (kE hq) 6 (q + 6) rfl wd_359 (by decide) d_E_tellOpenedWindow_17 ?_
    refine cm_geti kx_O S hW (kEO hq) 0 wd_333 (by decide) d_E_tellOpenedWindow_20 h (fun x5 h => ?_)
    refine rc_ge (tgt := 49) hx hb d_E_tellOpenedWindow_23 (by decide) h (fun h => ?_) (fun h => ?_)
    · exact t_E_tellOpenedWindow_49 S hq  r3 h (lv_sub hl [] rfl) hW
    · refine lv_aload_n hx hb d_E_tellOpenedWindow_26 rfl (lv_at hl 1 rfl) ?_
      refine cm_getf kx_E S hW (kE hq) 4 (q + 3) rfl wd_355 (by decide) d_E_tellOpenedWindow_27 ?_
      refine cm_cVi [] kx_V S hW (kEV hq) (fun x σ' hc => c_V_free (q + 3) r3 hc) q_V_free wd_557 wd_558 wd_881 (by decide) hl.1 rfl rfl (Nat.le_of_ble_eq_true rfl) d_E_tellOpenedWindow_30 h (fun x7 r6 H locs cells slots h hW => ?_)
      refine lv_iload_n hx hb d_E_tellOpenedWindow_33 rfl (lv_at hl 0 rfl) ?_
      refine lv_isub hx hb d_E_tellOpenedWindow_34 ?_
      refine lv_aload_n hx hb d_E_tellOpenedWindow_35 rfl (lv_at hl 1 rfl) ?_
      refine cm_getf kx_E S hW (kE hq) 6 (q + 6) rfl wd_359 (by decide) d_E_tellOpenedWindow_36 ?_
      refine cm_geti kx_O S hW (kEO hq) 0 wd_333 (by decide) d_E_tellOpenedWindow_39 h (fun x8 h => ?_)
      refine rc_lt (tgt := 49) hx hb d_E_tellOpenedWindow_42 (by decide) h (fun h => ?_) (fun h => ?_)
      · exact t_E_tellOpenedWindow_49 S hq  r6 h (lv_sub hl [] rfl) hW
      · refine lv_aload_n hx hb d_E_tellOpenedWindow_45 rfl (lv_at hl 1 rfl) ?_
        refine cm_cVv [] kx_E S hW (kE hq) (fun σ' hc => c_E_sendAck q r6 hc) q_E_sendAck wd_884 wd_13 wd_882 (by decide) hl.1 rfl rfl (Nat.le_of_ble_eq_true rfl) d_E_tellOpenedWindow_46 h (fun r9 H locs cells slots h hW => ?_)
        exact t_E_tellOpenedWindow_49 S hq  r9 h (lv_sub hl [] rfl) hW
theorem c_E_tellOpenedWindow (q : Nat) (σ : CS) {B : CS} (h : m_E_tellOpenedWindow q σ = some B) : CMet l D tc b z y_E_tellOpenedWindow k_E_tellOpenedWindow 2 none 11 267 [.ref (b + q)] σ none B := cm_met (by decide) (Nat.le_of_ble_eq_true rfl) fun p e s m args below meth c S hW ls hl => t_E_tellOpenedWindow_0 S q σ h hl hW
end

/-! StreamPair$End.timerDue ()V -/
abbrev k_E_timerDue : ByteArray := prog_5_method_17_code
abbrev y_E_timerDue : MethodName := ⟨cn_E, "timerDue", "()V"⟩
theorem q_E_timerDue : Calee y_E_timerDue k_E_timerDue 1 none 0 := ⟨wd_934, wd_85, by decide, by decide +kernel⟩
theorem d_E_timerDue_0 : decode k_E_timerDue 0 = .ok (.aload_n 0, 1) := by decide +kernel
theorem d_E_timerDue_1 : decode k_E_timerDue 1 = .ok (.getfield 28, 3) := by decide +kernel
theorem d_E_timerDue_4 : decode k_E_timerDue 4 = .ok (.iconst 0, 1) := by decide +kernel
theorem d_E_timerDue_5 : decode k_E_timerDue 5 = .ok (.putfield 98, 3) := by decide +kernel
theorem d_E_timerDue_8 : decode k_E_timerDue 8 = .ok (.aload_n 0, 1) := by decide +kernel
theorem d_E_timerDue_9 : decode k_E_timerDue 9 = .ok (.getfield 54, 3) := by decide +kernel
theorem d_E_timerDue_12 : decode k_E_timerDue 12 = .ok (.bipush 10, 2) := by decide +kernel
theorem d_E_timerDue_14 : decode k_E_timerDue 14 = .ok (.if_icmp .ne 9, 3) := by decide +kernel
theorem d_E_timerDue_17 : decode k_E_timerDue 17 = .ok (.aload_n 0, 1) := by decide +kernel
theorem d_E_timerDue_18 : decode k_E_timerDue 18 = .ok (.iconst 0, 1) := by decide +kernel
theorem d_E_timerDue_19 : decode k_E_timerDue 19 = .ok (.invokevirtual 80, 3) := by decide +kernel
theorem d_E_timerDue_22 : decode k_E_timerDue 22 = .ok (.return_, 1) := by decide +kernel
theorem d_E_timerDue_23 : decode k_E_timerDue 23 = .ok (.aload_n 0, 1) := by decide +kernel
theorem d_E_timerDue_24 : decode k_E_timerDue 24 = .ok (.getfield 28, 3) := by decide +kernel
theorem d_E_timerDue_27 : decode k_E_timerDue 27 = .ok (.getfield 202, 3) := by decide +kernel
theorem d_E_timerDue_30 : decode k_E_timerDue 30 = .ok (.bipush 8, 2) := by decide +kernel
theorem d_E_timerDue_32 : decode k_E_timerDue 32 = .ok (.if_icmp .lt 9, 3) := by decide +kernel
theorem d_E_timerDue_35 : decode k_E_timerDue 35 = .ok (.aload_n 0, 1) := by decide +kernel
theorem d_E_timerDue_36 : decode k_E_timerDue 36 = .ok (.iconst 2, 1) := by decide +kernel
theorem d_E_timerDue_37 : decode k_E_timerDue 37 = .ok (.invokevirtual 80, 3) := by decide +kernel
theorem d_E_timerDue_40 : decode k_E_timerDue 40 = .ok (.return_, 1) := by decide +kernel
theorem d_E_timerDue_41 : decode k_E_timerDue 41 = .ok (.aload_n 0, 1) := by decide +kernel
theorem d_E_timerDue_42 : decode k_E_timerDue 42 = .ok (.getfield 28, 3) := by decide +kernel
theorem d_E_timerDue_45 : decode k_E_timerDue 45 = .ok (.invokevirtual 205, 3) := by decide +kernel
theorem d_E_timerDue_48 : decode k_E_timerDue 48 = .ok (.aload_n 0, 1) := by decide +kernel
theorem d_E_timerDue_49 : decode k_E_timerDue 49 = .ok (.getfield 54, 3) := by decide +kernel
theorem d_E_timerDue_52 : decode k_E_timerDue 52 = .ok (.iconst 2, 1) := by decide +kernel
theorem d_E_timerDue_53 : decode k_E_timerDue 53 = .ok (.if_icmp .eq 11, 3) := by decide +kernel
theorem d_E_timerDue_56 : decode k_E_timerDue 56 = .ok (.aload_n 0, 1) := by decide +kernel
theorem d_E_timerDue_57 : decode k_E_timerDue 57 = .ok (.getfield 54, 3) := by decide +kernel
theorem d_E_timerDue_60 : decode k_E_timerDue 60 = .ok (.iconst 3, 1) := by decide +kernel
theorem d_E_timerDue_61 : decode k_E_timerDue 61 = .ok (.if_icmp .ne 26, 3) := by decide +kernel
theorem d_E_timerDue_64 : decode k_E_timerDue 64 = .ok (.aload_n 0, 1) := by decide +kernel
theorem d_E_timerDue_65 : decode k_E_timerDue 65 = .ok (.getfield 12, 3) := by decide +kernel
theorem d_E_timerDue_68 : decode k_E_timerDue 68 = .ok (.aload_n 0, 1) := by decide +kernel
theorem d_E_timerDue_69 : decode k_E_timerDue 69 = .ok (.getfield 12, 3) := by decide +kernel
theorem d_E_timerDue_72 : decode k_E_timerDue 72 = .ok (.getfield 208, 3) := by decide +kernel
theorem d_E_timerDue_75 : decode k_E_timerDue 75 = .ok (.putfield 91, 3) := by decide +kernel
theorem d_E_timerDue_78 : decode k_E_timerDue 78 = .ok (.aload_n 0, 1) := by decide +kernel
theorem d_E_timerDue_79 : decode k_E_timerDue 79 = .ok (.iconst 2, 1) := by decide +kernel
theorem d_E_timerDue_80 : decode k_E_timerDue 80 = .ok (.iconst 0, 1) := by decide +kernel
theorem d_E_timerDue_81 : decode k_E_timerDue 81 = .ok (.invokevirtual 117, 3) := by decide +kernel
theorem d_E_timerDue_84 : decode k_E_timerDue 84 = .ok (.goto 54, 3) := by decide +kernel
theorem d_E_timerDue_87 : decode k_E_timerDue 87 = .ok (.aload_n 0, 1) := by decide +kernel
theorem d_E_timerDue_88 : decode k_E_timerDue 88 = .ok (.getfield 35, 3) := by decide +kernel
theorem d_E_timerDue_91 : decode k_E_timerDue 91 = .ok (.aload_n 0, 1) := by decide +kernel
theorem d_E_timerDue_92 : decode k_E_timerDue 92 = .ok (.getfield 12, 3) := by decide +kernel
theorem d_E_timerDue_95 : decode k_E_timerDue 95 = .ok (.invokevirtual 184, 3) := by decide +kernel
theorem d_E_timerDue_98 : decode k_E_timerDue 98 = .ok (.invokevirtual 211, 3) := by decide +kernel
theorem d_E_timerDue_101 : decode k_E_timerDue 101 = .ok (.aload_n 0, 1) := by decide +kernel
theorem d_E_timerDue_102 : decode k_E_timerDue 102 = .ok (.getfield 12, 3) := by decide +kernel
theorem d_E_timerDue_105 : decode k_E_timerDue 105 = .ok (.aload_n 0, 1) := by decide +kernel
theorem d_E_timerDue_106 : decode k_E_timerDue 106 = .ok (.getfield 12, 3) := by decide +kernel
theorem d_E_timerDue_109 : decode k_E_timerDue 109 = .ok (.getfield 214, 3) := by decide +kernel
theorem d_E_timerDue_112 : decode k_E_timerDue 112 = .ok (.putfield 91, 3) := by decide +kernel
theorem d_E_timerDue_115 : decode k_E_timerDue 115 = .ok (.aload_n 0, 1) := by decide +kernel
theorem d_E_timerDue_116 : decode k_E_timerDue 116 = .ok (.invokevirtual 87, 3) := by decide +kernel
theorem d_E_timerDue_119 : decode k_E_timerDue 119 = .ok (.ifCond .ne 19, 3) := by decide +kernel
theorem d_E_timerDue_122 : decode k_E_timerDue 122 = .ok (.aload_n 0, 1) := by decide +kernel
theorem d_E_timerDue_123 : decode k_E_timerDue 123 = .ok (.getfield 12, 3) := by decide +kernel
theorem d_E_timerDue_126 : decode k_E_timerDue 126 = .ok (.invokevirtual 187, 3) := by decide +kernel
theorem d_E_timerDue_129 : decode k_E_timerDue 129 = .ok (.ifCond .le 9, 3) := by decide +kernel
theorem d_E_timerDue_132 : decode k_E_timerDue 132 = .ok (.aload_n 0, 1) := by decide +kernel
theorem d_E_timerDue_133 : decode k_E_timerDue 133 = .ok (.iconst 0, 1) := by decide +kernel
theorem d_E_timerDue_134 : decode k_E_timerDue 134 = .ok (.iconst 1, 1) := by decide +kernel
theorem d_E_timerDue_135 : decode k_E_timerDue 135 = .ok (.invokevirtual 117, 3) := by decide +kernel
theorem d_E_timerDue_138 : decode k_E_timerDue 138 = .ok (.aload_n 0, 1) := by decide +kernel
theorem d_E_timerDue_139 : decode k_E_timerDue 139 = .ok (.getfield 28, 3) := by decide +kernel
theorem d_E_timerDue_142 : decode k_E_timerDue 142 = .ok (.aload_n 0, 1) := by decide +kernel
theorem d_E_timerDue_143 : decode k_E_timerDue 143 = .ok (.getfield 46, 3) := by decide +kernel
theorem d_E_timerDue_146 : decode k_E_timerDue 146 = .ok (.getfield 121, 3) := by decide +kernel
theorem d_E_timerDue_149 : decode k_E_timerDue 149 = .ok (.aload_n 0, 1) := by decide +kernel
theorem d_E_timerDue_150 : decode k_E_timerDue 150 = .ok (.getfield 28, 3) := by decide +kernel
theorem d_E_timerDue_153 : decode k_E_timerDue 153 = .ok (.getfield 127, 3) := by decide +kernel
theorem d_E_timerDue_156 : decode k_E_timerDue 156 = .ok (.invokevirtual 130, 3) := by decide +kernel
theorem d_E_timerDue_159 : decode k_E_timerDue 159 = .ok (.return_, 1) := by decide +kernel
def b_E_timerDue_138 (q : Nat) (σ : CS) : Option (CS) :=
  bd (cJ σ 3 0) fun x1 => bd (cI σ (q + 5) 0) fun x2 => bc (m_Z_startTimer (q + 5) x1 x2 σ) fun r3 => some r3
def b_E_timerDue_64 (q : Nat) (σ : CS) : Option (CS) :=
  bd (cI σ (q + 1) 3) fun x1 => bd (wi σ (q + 1) 5 x1) fun r2 => bc (m_E_sendNext q (2 : Int32) (0 : Int32) r2) fun r3 => b_E_timerDue_138 q  r3
def m_E_timerDue (q : Nat) (σ : CS) : Option (CS) :=
  gd (q = 7 ∨ q = 14) <| gd ((0 : Int32) = 0 ∨ (0 : Int32) = 1) <| bd (wi σ (q + 5) 2 (0 : Int32)) fun r1 => bd (cI r1 q 8) fun x2 => if x2 = (10 : Int32) then
  (bc (m_E_shut q (0 : Int32) r1) fun r18 => some r18)
 else
  (bd (cI r1 (q + 5) 1) fun x3 => if x3 < (8 : Int32) then
  (bc (m_Z_backOff (q + 5) r1) fun r4 => bd (cI r4 q 8) fun x5 => if x5 = (2 : Int32) then
  (b_E_timerDue_64 q  r4)
 else
  (bd (cI r4 q 8) fun x6 => if x6 = (3 : Int32) then
  (b_E_timerDue_64 q  r4)
 else
  (bc2 (m_U_flight (q + 1) r4) fun x8 r7 => bc (m_O_collapse (q + 6) x8 r7) fun r9 => bd (cI r9 (q + 1) 4) fun x10 => bd (wi r9 (q + 1) 5 x10) fun r11 => bc2 (m_E_output q r11) fun x13 r12 => if x13 = 0 then
  (bc2 (m_U_unsent (q + 1) r12) fun x15 r14 => if x15 ≤ 0 then
  (b_E_timerDue_138 q  r14)
 else
  (bc (m_E_sendNext q (0 : Int32) (1 : Int32) r14) fun r16 => b_E_timerDue_138 q  r16))
 else
  (b_E_timerDue_138 q  r12))))
 else
  (bc (m_E_shut q (2 : Int32) r1) fun r17 => some r17))
section
variable {p : Program} {l : Launch} {e : Env} {s : State} {m : MethodId} {args : Array Value} {below : List Frame} {meth : Method} {c : Code} {D : va_G} {tc : Nat → ClassId} {b z : Nat} {σ0 : CS}
theorem t_E_timerDue_138 {q : Nat} (S : CC p m c k_E_timerDue 1 s args cn_E meth none D tc b z) (hq : q = 7 ∨ q = 14) (σ : CS) {B : CS} (h : b_E_timerDue_138 q  σ = some B) {ls : Array Slot} {H : Heap} {locs : List Loc} {cells slots : Nat} (hl : lv_has ls 1 [(0, .ref (b + q))]) (hW : CWS D tc b z s σ0 σ H locs cells slots) : W p l e (CR 12 294 σ0) s m args below meth c H locs cells slots (CE D tc b z below args s σ0 none B) (F0 m 138 ls []) := by
  have hx := S.1.1
  have hb := S.1.2.1
  unfold b_E_timerDue_138 at h
  refine lv_aload_n hx hb d_E_timerDue_138 rfl (lv_at hl 0 rfl) ?_
  refine cm_getf kx_E S hW (kE hq) 5 (q + 5) rfl wd_357 (by decide) d_E_timerDue_139 ?_
  refine lv_aload_n hx hb d_E_timerDue_142 rfl (lv_at hl 0 rfl) ?_
  refine cm_getf kx_E S hW (kE hq) 1 (3) rfl wd_351 (by decide) d_E_timerDue_143 ?_
  refine cm_getl kx_C S hW rfl 0 wd_136 (by decide) d_E_timerDue_146 h (fun x1 h => ?_)
  refine lv_aload_n hx hb d_E_timerDue_149 rfl (lv_at hl 0 rfl) ?_
  refine cm_getf kx_E S hW (kE hq) 5 (q + 5) rfl wd_357 (by decide) d_E_timerDue_150 ?_
  refine cm_geti kx_Z S hW (kEZ hq) 0 wd_291 (by decide) d_E_timerDue_153 h (fun x2 h => ?_)
  refine cm_cVv [.long x1, .int x2] kx_Z S hW (kEZ hq) (fun σ' hc => c_Z_startTimer (q + 5) x1 x2 σ hc) q_Z_startTimer wd_641 wd_642 wd_640 (by decide) hl.1 rfl rfl (Nat.le_of_ble_eq_true rfl) d_E_timerDue_156 h (fun r3 H locs cells slots h hW => ?_)
  exact cm_vret S hW d_E_timerDue_159 h
theorem t_E_timerDue_64 {q : Nat} (S : CC p m c k_E_timerDue 1 s args cn_E meth none D tc b z) (hq : q = 7 ∨ q = 14) (σ : CS) {B : CS} (h : b_E_timerDue_64 q  σ = some B) {ls : Array Slot} {H : Heap} {locs : List Loc} {cells slots : Nat} (hl : lv_has ls 1 [(0, .ref (b + q))]) (hW : CWS D tc b z s σ0 σ H locs cells slots) : W p l e (CR 12 294 σ0) s m args below meth c H locs cells slots (CE D tc b z below args s σ0 none B) (F0 m 64 ls []) := by
  have hx := S.1.1
  have hb := S.1.2.1
  unfold b_E_timerDue_64 at h
  refine lv_aload_n hx hb d_E_timerDue_64 rfl (lv_at hl 0 rfl) ?_
  refine cm_getf kx_E S hW (kE hq) 3 (q + 1) rfl wd_353 (by decide) d_E_timerDue_65 ?_
  refine lv_aload_n hx hb d_E_timerDue_68 rfl (lv_at hl 0 rfl) ?_
  refine cm_getf kx_E S hW (kE hq) 3 (q + 1) rfl wd_353 (by decide) d_E_timerDue_69 ?_
  refine cm_geti kx_U S hW (kEU hq) 3 wd_204 (by decide) d_E_timerDue_72 h (fun x1 h => ?_)
  refine cm_puti kx_U S hW (kEU hq) 5 wd_208 (by decide) d_E_timerDue_75 h (fun r2 H locs h hW => ?_)
  refine lv_aload_n hx hb d_E_timerDue_78 rfl (lv_at hl 0 rfl) ?_
  refine lv_iconst (v := 2) hx hb d_E_timerDue_79 (by decide) ?_
  refine lv_iconst (v := 0) hx hb d_E_timerDue_80 (by decide) ?_
  refine cm_cVv [.int (2 : Int32), .int (0 : Int32)] kx_E S hW (kE hq) (fun σ' hc => c_E_sendNext q (2 : Int32) (0 : Int32) r2 hc) q_E_sendNext wd_546 wd_3 wd_544 (by decide) hl.1 rfl rfl (Nat.le_of_ble_eq_true rfl) d_E_timerDue_81 h (fun r3 H locs cells slots h hW => ?_)
  refine lv_goto (tgt := 138) hx hb d_E_timerDue_84 (by decide) ?_
  exact t_E_timerDue_138 S hq  r3 h (lv_sub hl [0] rfl) hW
theorem t_E_timerDue_0 (S : CC p m c k_E_timerDue 1 s args cn_E meth none D tc b z) (q : Nat) (σ : CS) {B : CS} (h : m_E_timerDue q σ = some B) {ls : Array Slot} {H : Heap} {locs : List Loc} {cells slots : Nat} (hl : lv_has ls 1 [(0, .ref (b + q))]) (hW : CWS D tc b z s σ0 σ H locs cells slots) : W p l e (CR 12 294 σ0) s m args below meth c H locs cells slots (CE D tc b z below args s σ0 none B) (F0 m 0 ls []) := by
  have hx := S.1.1
  have hb := S.1.2.1
  unfold m_E_timerDue at h
  obtain ⟨hq, h⟩ := gd_s h
  refine lv_aload_n hx hb d_E_timerDue_0 rfl (lv_at hl 0 rfl) ?_
  refine cm_getf kx_E S hW (kE hq) 5 (q + 5) rfl wd_357 (by decide) d_E_timerDue_1 ?_
  refine lv_iconst (v := 0) hx hb d_E_timerDue_4 (by decide) ?_
  refine cm_putz kx_Z S hW (kEZ hq) 2 wd_295 (by decide) d_E_timerDue_5 h (fun r1 H locs h hW => ?_)
  refine lv_aload_n hx hb d_E_timerDue_8 rfl (lv_at hl 0 rfl) ?_
  refine cm_geti kx_E S hW (kE hq) 8 wd_362 (by decide) d_E_timerDue_9 h (fun x2 h => ?_)
  refine lv_bipush (v := 10) hx hb d_E_timerDue_12 (by decide) ?_
  refine rc_ne (tgt := 23) hx hb d_E_timerDue_14 (by decide) h (fun h => ?_) (fun h => ?_)
  · refine lv_aload_n hx hb d_E_timerDue_23 rfl (lv_at hl 0 rfl) ?_
    refine cm_getf kx_E S hW (kE hq) 5 (q + 5) rfl wd_357 (by decide) d_E_timerDue_24 ?_
    refine cm_geti kx_Z S hW (kEZ hq) 1 wd_293 (by decide) d_E_timerDue_27 h (fun x3 h => ?_)
    refine lv_bipush (v := 8) hx hb d_E_timerDue_30 (by decide) ?_
    refine rc_lt (tgt := 41) hx hb d_E_timerDue_32 (by decide) h (fun h => ?_) (fun h => ?_)
    · refine lv_aload_n hx hb d_E_timerDue_41 rfl (lv_at hl 0 rfl) ?_
      refine cm_getf kx_E S hW (kE hq) 5 (q + 5) rfl wd_357 (by decide) d_E_timerDue_42 ?_
      refine cm_cVv [] kx_Z S hW (kEZ hq) (fun σ' hc => c_Z_backOff (q + 5) r1 hc) q_Z_backOff wd_936 wd_937 wd_935 (by decide) hl.1 rfl rfl (Nat.le_of_ble_eq_true rfl) d_E_timerDue_45 h (fun r4 H locs cells slots h hW => ?_)
      refine lv_aload_n hx hb d_E_timerDue_48 rfl (lv_at hl 0 rfl) ?_
      refine cm_geti kx_E S hW (kE hq) 8 wd_362 (by decide) d_E_timerDue_49 h (fun x5 h => ?_)
      refine lv_iconst (v := 2) hx hb d_E_timerDue_52 (by decide) ?_
      refine rc_eq (tgt := 64) hx hb d_E_timerDue_53 (by decide) h (fun h => ?_) (fun h => ?_)
      · exact t_E_timerDue_64 S hq  r4 h (lv_sub hl [0] rfl) hW
      · refine lv_aload_n hx hb d_E_timerDue_56 rfl (lv_at hl 0 rfl) ?_
        refine cm_geti kx_E S hW (kE hq) 8 wd_362 (by decide) d_E_timerDue_57 h (fun x6 h => ?_)
        refine lv_iconst (v := 3) hx hb d_E_timerDue_60 (by decide) ?_
        refine rc_ne (tgt := 87) hx hb d_E_timerDue_61 (by decide) h (fun h => ?_) (fun h => ?_)
        · refine lv_aload_n hx hb d_E_timerDue_87 rfl (lv_at hl 0 rfl) ?_
          refine cm_getf kx_E S hW (kE hq) 6 (q + 6) rfl wd_359 (by decide) d_E_timerDue_88 ?_
          refine lv_aload_n hx hb d_E_timerDue_91 rfl (lv_at hl 0 rfl) ?_
          refine cm_getf kx_E S hW (kE hq) 3 (q + 1) rfl wd_353 (by decide) d_E_timerDue_92 ?_
          refine cm_cVi [] kx_U S hW (kEU hq) (fun x σ' hc => c_U_flight (q + 1) r4 hc) q_U_flight wd_849 wd_850 wd_848 (by decide) hl.1 rfl rfl (Nat.le_of_ble_eq_true rfl) d_E_timerDue_95 h (fun x8 r7 H locs cells slots h hW => ?_)
          refine cm_cVv [.int x8] kx_O S hW (kEO hq) (fun σ' hc => c_O_collapse (q + 6) x8 r7 hc) q_O_collapse wd_942 wd_943 wd_941 (by decide) hl.1 rfl rfl (Nat.le_of_ble_eq_true rfl) d_E_timerDue_98 h (fun r9 H locs cells slots h hW => ?_)
          refine lv_aload_n hx hb d_E_timerDue_101 rfl (lv_at hl 0 rfl) ?_
          refine cm_getf kx_E S hW (kE hq) 3 (q + 1) rfl wd_353 (by decide) d_E_timerDue_102 ?_
          refine lv_aload_n hx hb d_E_timerDue_105 rfl (lv_at hl 0 rfl) ?_
          refine cm_getf kx_E S hW (kE hq) 3 (q + 1) rfl wd_353 (by decide) d_E_timerDue_106 ?_
          refine cm_geti kx_U S hW (kEU hq) 4 wd_206 (by decide) d_E_timerDue_109 h (fun x10 h => ?_)
          refine cm_puti kx_U S hW (kEU hq) 5 wd_208 (by decide) d_E_timerDue_112 h (fun r11 H locs h hW => ?_)
          refine lv_aload_n hx hb d_E_timerDue_115 rfl (lv_at hl 0 rfl) ?_
          refine cm_cVi [] kx_E S hW (kE hq) (fun x σ' hc => c_E_output q r11 hc) q_E_output wd_832 wd_833 wd_906 (by decide) hl.1 rfl rfl (Nat.le_of_ble_eq_true rfl) d_E_timerDue_116 h (fun x13 r12 H locs cells slots h hW => ?_)
          refine rb_ne (tgt := 138) hx hb d_E_timerDue_119 (by decide) h (fun h => ?_) (fun h => ?_)
          · exact t_E_timerDue_138 S hq  r12 h (lv_sub hl [0] rfl) hW
          · refine lv_aload_n hx hb d_E_timerDue_122 rfl (lv_at hl 0 rfl) ?_
            refine cm_getf kx_E S hW (kE hq) 3 (q + 1) rfl wd_353 (by decide) d_E_timerDue_123 ?_
            refine cm_cVi [] kx_U S hW (kEU hq) (fun x σ' hc => c_U_unsent (q + 1) r12 hc) q_U_unsent wd_844 wd_845 wd_843 (by decide) hl.1 rfl rfl (Nat.le_of_ble_eq_true rfl) d_E_timerDue_126 h (fun x15 r14 H locs cells slots h hW => ?_)
            refine rb_le (tgt := 138) hx hb d_E_timerDue_129 (by decide) h (fun h => ?_) (fun h => ?_)
            · exact t_E_timerDue_138 S hq  r14 h (lv_sub hl [0] rfl) hW
            · refine lv_aload_n hx hb d_E_timerDue_132 rfl (lv_at hl 0 rfl) ?_
              refine lv_iconst (v := 0) hx hb d_E_timerDue_133 (by decide) ?_
              refine lv_iconst (v := 1) hx hb d_E_timerDue_134 (by decide) ?_
              refine cm_cVv [.int (0 : Int32), .int (1 : Int32)] kx_E S hW (kE hq) (fun σ' hc => c_E_sendNext q (0 : Int32) (1 : Int32) r14 hc) q_E_sendNext wd_546 wd_3 wd_544 (by decide) hl.1 rfl rfl (Nat.le_of_ble_eq_true rfl) d_E_timerDue_135 h (fun r16 H locs cells slots h hW => ?_)
              exact t_E_timerDue_138 S hq  r16 h (lv_sub hl [0] rfl) hW
        · exact t_E_timerDue_64 S hq  r4 h (lv_sub hl [0] rfl) hW
    · refine lv_aload_n hx hb d_E_timerDue_35 rfl (lv_at hl 0 rfl) ?_
      refine lv_iconst (v := 2) hx hb d_E_timerDue_36 (by decide) ?_
      refine cm_cVv [.int (2 : Int32)] kx_E S hW (kE hq) (fun σ' hc => c_E_shut q (2 : Int32) r1 hc) q_E_shut wd_904 wd_14 wd_902 (by decide) hl.1 rfl rfl (Nat.le_of_ble_eq_true rfl) d_E_timerDue_37 h (fun r17 H locs cells slots h hW => ?_)
      exact cm_vret S hW d_E_timerDue_40 h
  · refine lv_aload_n hx hb d_E_timerDue_17 rfl (lv_at hl 0 rfl) ?_
    refine lv_iconst (v := 0) hx hb d_E_timerDue_18 (by decide) ?_
    refine cm_cVv [.int (0 : Int32)] kx_E S hW (kE hq) (fun σ' hc => c_E_shut q (0 : Int32) r1 hc) q_E_shut wd_904 wd_14 wd_902 (by decide) hl.1 rfl rfl (Nat.le_of_ble_eq_true rfl) d_E_timerDue_19 h (fun r18 H locs cells slots h hW => ?_)
    exact cm_vret S hW d_E_timerDue_22 h
theorem c_E_timerDue (q : Nat) (σ : CS) {B : CS} (h : m_E_timerDue q σ = some B) : CMet l D tc b z y_E_timerDue k_E_timerDue 1 none 12 294 [.ref (b + q)] σ none B := cm_met (by decide) (Nat.le_of_ble_eq_true rfl) fun p e s m args below meth c S hW ls hl => t_E_timerDue_0 S q σ h hl hW
end

/-! StreamPair$End.isOfThisConnection (LStreamPair$Segment;)Z -/
abbrev k_E_isOfThisConnection : ByteArray := prog_5_method_19_code
abbrev y_E_isOfThisConnection : MethodName := ⟨cn_E, "isOfThisConnection", "(LStreamPair$Segment;)Z"⟩
theorem q_E_isOfThisConnection : Calee y_E_isOfThisConnection k_E_isOfThisConnection 2 (Option.some Jvm.ClassFile.FieldType.boolean) 1 := ⟨wd_975, wd_85, by decide, by decide +kernel⟩
theorem d_E_isOfThisConnection_0 : decode k_E_isOfThisConnection 0 = .ok (.aload_n 0, 1) := by decide +kernel
theorem d_E_isOfThisConnection_1 : decode k_E_isOfThisConnection 1 = .ok (.getfield 74, 3) := by decide +kernel
theorem d_E_isOfThisConnection_4 : decode k_E_isOfThisConnection 4 = .ok (.ifCond .eq 40, 3) := by decide +kernel
theorem d_E_isOfThisConnection_7 : decode k_E_isOfThisConnection 7 = .ok (.aload_n 1, 1) := by decide +kernel
theorem d_E_isOfThisConnection_8 : decode k_E_isOfThisConnection 8 = .ok (.invokevirtual 238, 3) := by decide +kernel
theorem d_E_isOfThisConnection_11 : decode k_E_isOfThisConnection 11 = .ok (.ifCond .eq 33, 3) := by decide +kernel
theorem d_E_isOfThisConnection_14 : decode k_E_isOfThisConnection 14 = .ok (.aload_n 1, 1) := by decide +kernel
theorem d_E_isOfThisConnection_15 : decode k_E_isOfThisConnection 15 = .ok (.iconst 0, 1) := by decide +kernel
theorem d_E_isOfThisConnection_16 : decode k_E_isOfThisConnection 16 = .ok (.iconst 2, 1) := by decide +kernel
theorem d_E_isOfThisConnection_17 : decode k_E_isOfThisConnection 17 = .ok (.invokevirtual 241, 3) := by decide +kernel
theorem d_E_isOfThisConnection_20 : decode k_E_isOfThisConnection 20 = .ok (.aload_n 0, 1) := by decide +kernel
theorem d_E_isOfThisConnection_21 : decode k_E_isOfThisConnection 21 = .ok (.getfield 77, 3) := by decide +kernel
theorem d_E_isOfThisConnection_24 : decode k_E_isOfThisConnection 24 = .ok (.if_icmp .ne 20, 3) := by decide +kernel
theorem d_E_isOfThisConnection_27 : decode k_E_isOfThisConnection 27 = .ok (.aload_n 1, 1) := by decide +kernel
theorem d_E_isOfThisConnection_28 : decode k_E_isOfThisConnection 28 = .ok (.iconst 2, 1) := by decide +kernel
theorem d_E_isOfThisConnection_29 : decode k_E_isOfThisConnection 29 = .ok (.iconst 2, 1) := by decide +kernel
theorem d_E_isOfThisConnection_30 : decode k_E_isOfThisConnection 30 = .ok (.invokevirtual 241, 3) := by decide +kernel
theorem d_E_isOfThisConnection_33 : decode k_E_isOfThisConnection 33 = .ok (.aload_n 0, 1) := by decide +kernel
theorem d_E_isOfThisConnection_34 : decode k_E_isOfThisConnection 34 = .ok (.getfield 74, 3) := by decide +kernel
theorem d_E_isOfThisConnection_37 : decode k_E_isOfThisConnection 37 = .ok (.if_icmp .ne 7, 3) := by decide +kernel
theorem d_E_isOfThisConnection_40 : decode k_E_isOfThisConnection 40 = .ok (.iconst 1, 1) := by decide +kernel
theorem d_E_isOfThisConnection_41 : decode k_E_isOfThisConnection 41 = .ok (.goto 4, 3) := by decide +kernel
theorem d_E_isOfThisConnection_44 : decode k_E_isOfThisConnection 44 = .ok (.iconst 0, 1) := by decide +kernel
theorem d_E_isOfThisConnection_45 : decode k_E_isOfThisConnection 45 = .ok (.ireturn, 1) := by decide +kernel
def b_E_isOfThisConnection_45 (q : Nat) (w0 : Int32) (σ : CS) : Option (Int32 × CS) :=
  gd (w0 = 0 ∨ w0 = 1) (some (w0, σ))
def b_E_isOfThisConnection_44 (q : Nat) (σ : CS) : Option (Int32 × CS) :=
  b_E_isOfThisConnection_45 q (0 : Int32) σ
def m_E_isOfThisConnection (q : Nat) (v1 : Nat) (σ : CS) : Option (Int32 × CS) :=
  gd (q = 7 ∨ q = 14) <| bd (cI σ q 12) fun x1 => if x1 = 0 then
  (b_E_isOfThisConnection_44 q  σ)
 else
  (gd (kd σ v1 = 11) <| bc2 (m_G_isWellFormed v1 σ) fun x3 r2 => if x3 = 0 then
  (b_E_isOfThisConnection_44 q  r2)
 else
  (gd (kd r2 v1 = 11) <| bc2 (m_G_number v1 (0 : Int32) (2 : Int32) r2) fun x5 r4 => bd (cI r4 q 13) fun x6 => if x5 = x6 then
  (gd (kd r4 v1 = 11) <| bc2 (m_G_number v1 (2 : Int32) (2 : Int32) r4) fun x8 r7 => bd (cI r7 q 12) fun x9 => if x8 = x9 then
  (b_E_isOfThisConnection_45 q (1 : Int32) r7)
 else
  (b_E_isOfThisConnection_44 q  r7))
 else
  (b_E_isOfThisConnection_44 q  r4)))
section
variable {p : Program} {l : Launch} {e : Env} {s : State} {m : MethodId} {args : Array Value} {below : List Frame} {meth : Method} {c : Code} {D : va_G} {tc : Nat → ClassId} {b z : Nat} {σ0 : CS}
theorem t_E_isOfThisConnection_45 {q : Nat} (S : CC p m c k_E_isOfThisConnection 2 s args cn_E meth (Option.some Jvm.ClassFile.FieldType.boolean) D tc b z) (hq : q = 7 ∨ q = 14) (w0 : Int32) (σ : CS) {B : Int32 × CS} (h : b_E_isOfThisConnection_45 q w0 σ = some B) {ls : Array Slot} {H : Heap} {locs : List Loc} {cells slots : Nat} (hl : lv_has ls 2 []) (hW : CWS D tc b z s σ0 σ H locs cells slots) : W p l e (CR 3 64 σ0) s m args below meth c H locs cells slots (CE D tc b z below args s σ0 (some (.int B.1)) B.2) (F0 m 45 ls [.int w0]) := by
  have hx := S.1.1
  have hb := S.1.2.1
  unfold b_E_isOfThisConnection_45 at h
  exact cm_zret S hW d_E_isOfThisConnection_45 h
theorem t_E_isOfThisConnection_44 {q : Nat} (S : CC p m c k_E_isOfThisConnection 2 s args cn_E meth (Option.some Jvm.ClassFile.FieldType.boolean) D tc b z) (hq : q = 7 ∨ q = 14) (σ : CS) {B : Int32 × CS} (h : b_E_isOfThisConnection_44 q  σ = some B) {ls : Array Slot} {H : Heap} {locs : List Loc} {cells slots : Nat} (hl : lv_has ls 2 []) (hW : CWS D tc b z s σ0 σ H locs cells slots) : W p l e (CR 3 64 σ0) s m args below meth c H locs cells slots (CE D tc b z below args s σ0 (some (.int B.1)) B.2) (F0 m 44 ls []) := by
  have hx := S.1.1
  have hb := S.1.2.1
  unfold b_E_isOfThisConnection_44 at h
  refine lv_iconst (v := 0) hx hb d_E_isOfThisConnection_44 (by decide) ?_
  exact t_E_isOfThisConnection_45 S hq (0 : Int32) σ h (lv_sub hl [] rfl) hW
theorem t_E_isOfThisConnection_0 (S : CC p m c k_E_isOfThisConnection 2 s args cn_E meth (Option.some Jvm.ClassFile.FieldType.boolean) D tc b z) (q : Nat) (v1 : Nat) (σ : CS) {B : Int32 × CS} (h : m_E_isOfThisConnection q v1 σ = some B) {ls : Array Slot} {H : Heap} {locs : List Loc} {cells slots : Nat} (hl : lv_has ls 2 [(0, .ref (b + q)), (1, .ref (b + v1))]) (hW : CWS D tc b z s σ0 σ H locs cells slots) : W p l e (CR 3 64 σ0) s m args below meth c H locs cells slots (CE D tc b z below args s σ0 (some (.int B.1)) B.2) (F0 m 0 ls []) := by
  have hx := S.1.1
  have hb := S.1.2.1
  unfold m_E_isOfThisConnection at h
  obtain ⟨hq, h⟩ := gd_s h
  refine lv_aload_n hx hb d_E_isOfThisConnection_0 rfl (lv_at hl 0 rfl) ?_
  refine cm_geti kx_E S hW (kE hq) 12 wd_368 (by decide) d_E_isOfThisConnection_1 h (fun x1 h => ?_)
  refine rb_eq (tgt := 44) hx hb d_E_isOfThisConnection_4 (by decide) h (fun h => ?_) (fun h => ?_)
  · exact t_E_isOfThisConnection_44 S hq  σ h (lv_sub hl [] rfl) hW
  · refine lv_aload_n hx hb d_E_isOfThisConnection_7 rfl (lv_at hl 1 rfl) ?_
    obtain ⟨hg, h⟩ := gd_s h
    refine cm_cVi [] kx_G S hW hg (fun x σ' hc => c_G_isWellFormed v1 σ hc) q_G_isWellFormed wd_977 wd_978 wd_976 (by decide) hl.1 rfl rfl (Nat.le_of_ble_eq_true rfl) d_E_isOfThisConnection_8 h (fun x3 r2 H locs cells slots h hW => ?_)
    refine rb_eq (tgt := 44) hx hb d_E_isOfThisConnection_11 (by decide) h (fun h => ?_) (fun h => ?_)
    · exact t_E_isOfThisConnection_44 S hq  r2 h (lv_sub hl [] rfl) hW
    · refine lv_aload_n hx hb d_E_isOfThisConnection_14 rfl (lv_at hl 1 rfl) ?_
      refine lv_iconst (v := 0) hx hb d_E_isOfThisConnection_15 (by decide) ?_
      refine lv_iconst (v := 2) hx hb d_E_isOfThisConnection_16 (by decide) ?_
      obtain ⟨hg, h⟩ := gd_s h
      refine cm_cVi [.int (0 : Int32), .int (2 : Int32)] kx_G S hW hg (fun x σ' hc => c_G_number v1 (0 : Int32) (2 : Int32) r2 hc) q_G_number wd_985 wd_986 wd_988 (by decide) hl.1 rfl rfl (Nat.le_of_ble_eq_true rfl) d_E_isOfThisConnection_17 h (fun x5 r4 H locs cells slots h hW => ?_)
      refine lv_aload_n hx hb d_E_isOfThisConnection_20 rfl (lv_at hl 0 rfl) ?_
      refine cm_geti kx_E S hW (kE hq) 13 wd_369 (by decide) d_E_isOfThisConnection_21 h (fun x6 h => ?_)
      refine rc_ne (tgt := 44) hx hb d_E_isOfThisConnection_24 (by decide) h (fun h => ?_) (fun h => ?_)
      · exact t_E_isOfThisConnection_44 S hq  r4 h (lv_sub hl [] rfl) hW
      · refine lv_aload_n hx hb d_E_isOfThisConnection_27 rfl (lv_at hl 1 rfl) ?_
        refine lv_iconst (v := 2) hx hb d_E_isOfThisConnection_28 (by decide) ?_
        refine lv_iconst (v := 2) hx hb d_E_isOfThisConnection_29 (by decide) ?_
        obtain ⟨hg, h⟩ := gd_s h
        refine cm_cVi [.int (2 : Int32), .int (2 : Int32)] kx_G S hW hg (fun x σ' hc => c_G_number v1 (2 : Int32) (2 : Int32) r4 hc) q_G_number wd_985 wd_986 wd_988 (by decide) hl.1 rfl rfl (Nat.le_of_ble_eq_true rfl) d_E_isOfThisConnection_30 h (fun x8 r7 H locs cells slots h hW => ?_)
        refine lv_aload_n hx hb d_E_isOfThisConnection_33 rfl (lv_at hl 0 rfl) ?_
        refine cm_geti kx_E S hW (kE hq) 12 wd_368 (by decide) d_E_isOfThisConnection_34 h (fun x9 h => ?_)
        refine rc_ne (tgt := 44) hx hb d_E_isOfThisConnection_37 (by decide) h (fun h => ?_) (fun h => ?_)
        · exact t_E_isOfThisConnection_44 S hq  r7 h (lv_sub hl [] rfl) hW
        · refine lv_iconst (v := 1) hx hb d_E_isOfThisConnection_40 (by decide) ?_
          refine lv_goto (tgt := 45) hx hb d_E_isOfThisConnection_41 (by decide) ?_
          exact t_E_isOfThisConnection_45 S hq (1 : Int32) r7 h (lv_sub hl [] rfl) hW
theorem c_E_isOfThisConnection (q : Nat) (v1 : Nat) (σ : CS) {x : Int32} {σ' : CS} (h : m_E_isOfThisConnection q v1 σ = some (x, σ')) : CMet l D tc b z y_E_isOfThisConnection k_E_isOfThisConnection 2 (Option.some Jvm.ClassFile.FieldType.boolean) 3 64 [.ref (b + q), .ref (b + v1)] σ (some (.int x)) σ' := cm_met (by decide) (Nat.le_of_ble_eq_true rfl) fun p e s m args below meth c S hW ls hl => t_E_isOfThisConnection_0 S q v1 σ h hl hW
end

/-! StreamPair$End.answer (LStreamPair$Segment;)V -/
abbrev k_E_answer : ByteArray := prog_5_method_20_code
abbrev y_E_answer : MethodName := ⟨cn_E, "answer", "(LStreamPair$Segment;)V"⟩
theorem q_E_answer : Calee y_E_answer k_E_answer 2 none 1 := ⟨wd_1164, wd_85, by decide, by decide +kernel⟩
theorem d_E_answer_0 : decode k_E_answer 0 = .ok (.aload_n 1, 1) := by decide +kernel
theorem d_E_answer_1 : decode k_E_answer 1 = .ok (.iconst 4, 1) := by decide +kernel
theorem d_E_answer_2 : decode k_E_answer 2 = .ok (.invokevirtual 244, 3) := by decide +kernel
theorem d_E_answer_5 : decode k_E_answer 5 = .ok (.ifCond .eq 4, 3) := by decide +kernel
theorem d_E_answer_8 : decode k_E_answer 8 = .ok (.return_, 1) := by decide +kernel
theorem d_E_answer_9 : decode k_E_answer 9 = .ok (.aload_n 1, 1) := by decide +kernel
theorem d_E_answer_10 : decode k_E_answer 10 = .ok (.bipush 16, 2) := by decide +kernel
theorem d_E_answer_12 : decode k_E_answer 12 = .ok (.invokevirtual 244, 3) := by decide +kernel
theorem d_E_answer_15 : decode k_E_answer 15 = .ok (.ifCond .eq 18, 3) := by decide +kernel
theorem d_E_answer_18 : decode k_E_answer 18 = .ok (.aload_n 0, 1) := by decide +kernel
theorem d_E_answer_19 : decode k_E_answer 19 = .ok (.iconst 4, 1) := by decide +kernel
theorem d_E_answer_20 : decode k_E_answer 20 = .ok (.aload_n 1, 1) := by decide +kernel
theorem d_E_answer_21 : decode k_E_answer 21 = .ok (.invokevirtual 248, 3) := by decide +kernel
theorem d_E_answer_24 : decode k_E_answer 24 = .ok (.iconst 0, 1) := by decide +kernel
theorem d_E_answer_25 : decode k_E_answer 25 = .ok (.iconst 0, 1) := by decide +kernel
theorem d_E_answer_26 : decode k_E_answer 26 = .ok (.iconst 0, 1) := by decide +kernel
theorem d_E_answer_27 : decode k_E_answer 27 = .ok (.invokevirtual 146, 3) := by decide +kernel
theorem d_E_answer_30 : decode k_E_answer 30 = .ok (.goto 21, 3) := by decide +kernel
theorem d_E_answer_33 : decode k_E_answer 33 = .ok (.aload_n 0, 1) := by decide +kernel
theorem d_E_answer_34 : decode k_E_answer 34 = .ok (.bipush 20, 2) := by decide +kernel
theorem d_E_answer_36 : decode k_E_answer 36 = .ok (.iconst 0, 1) := by decide +kernel
theorem d_E_answer_37 : decode k_E_answer 37 = .ok (.aload_n 1, 1) := by decide +kernel
theorem d_E_answer_38 : decode k_E_answer 38 = .ok (.invokevirtual 251, 3) := by decide +kernel
theorem d_E_answer_41 : decode k_E_answer 41 = .ok (.aload_n 1, 1) := by decide +kernel
theorem d_E_answer_42 : decode k_E_answer 42 = .ok (.invokevirtual 254, 3) := by decide +kernel
theorem d_E_answer_45 : decode k_E_answer 45 = .ok (.iadd, 1) := by decide +kernel
theorem d_E_answer_46 : decode k_E_answer 46 = .ok (.iconst 0, 1) := by decide +kernel
theorem d_E_answer_47 : decode k_E_answer 47 = .ok (.iconst 0, 1) := by decide +kernel
theorem d_E_answer_48 : decode k_E_answer 48 = .ok (.invokevirtual 146, 3) := by decide +kernel
theorem d_E_answer_51 : decode k_E_answer 51 = .ok (.return_, 1) := by decide +kernel
def b_E_answer_51 (q : Nat) (σ : CS) : Option (CS) :=
  some σ
def m_E_answer (q : Nat) (v1 : Nat) (σ : CS) : Option (CS) :=
  gd (q = 7 ∨ q = 14) <| gd (kd σ v1 = 11) <| bc2 (m_G_has v1 (4 : Int32) σ) fun x2 r1 => if x2 = 0 then
  (gd (kd r1 v1 = 11) <| bc2 (m_G_has v1 (16 : Int32) r1) fun x4 r3 => if x4 = 0 then
  (gd (kd r3 v1 = 11) <| bc2 (m_G_seq v1 r3) fun x6 r5 => gd (kd r5 v1 = 11) <| bc2 (m_G_span v1 r5) fun x8 r7 => bc (m_E_emit q (20 : Int32) (0 : Int32) (x6 + x8) (0 : Int32) (0 : Int32) r7) fun r9 => b_E_answer_51 q  r9)
 else
  (gd (kd r3 v1 = 11) <| bc2 (m_G_ack v1 r3) fun x11 r10 => bc (m_E_emit q (4 : Int32) x11 (0 : Int32) (0 : Int32) (0 : Int32) r10) fun r12 => b_E_answer_51 q  r12))
 else
  (some r1)
section
variable {p : Program} {l : Launch} {e : Env} {s : State} {m : MethodId} {args : Array Value} {below : List Frame} {meth : Method} {c : Code} {D : va_G} {tc : Nat → ClassId} {b z : Nat} {σ0 : CS}
theorem t_E_answer_51 {q : Nat} (S : CC p m c k_E_answer 2 s args cn_E meth none D tc b z) (hq : q = 7 ∨ q = 14) (σ : CS) {B : CS} (h : b_E_answer_51 q  σ = some B) {ls : Array Slot} {H : Heap} {locs : List Loc} {cells slots : Nat} (hl : lv_has ls 2 []) (hW : CWS D tc b z s σ0 σ H locs cells slots) : W p l e (CR 9 222 σ0) s m args below meth c H locs cells slots (CE D tc b z below args s σ0 none B) (F0 m 51 ls []) := by
  have hx := S.1.1
  have hb := S.1.2.1
  unfold b_E_answer_51 at h
  exact cm_vret S hW d_E_answer_51 h
theorem t_E_answer_0 (S : CC p m c k_E_answer 2 s args cn_E meth none D tc b z) (q : Nat) (v1 : Nat) (σ : CS) {B : CS} (h : m_E_answer q v1 σ = some B) {ls : Array Slot} {H : Heap} {locs : List Loc} {cells slots : Nat} (hl : lv_has ls 2 [(0, .ref (b + q)), (1, .ref (b + v1))]) (hW : CWS D tc b z s σ0 σ H locs cells slots) : W p l e (CR 9 222 σ0) s m args below meth c H locs cells slots (CE D tc b z below args s σ0 none B) (F0 m 0 ls []) := by
  have hx := S.1.1
  have hb := S.1.2.1
  unfold m_E_answer at h
  obtain ⟨hq, h⟩ := gd_s h
  refine lv_aload_n hx hb d_E_answer_0 rfl (lv_at hl 1 rfl) ?_
  refine lv_iconst (v := 4) hx hb d_E_answer_1 (by decide) ?_
  obtain ⟨hg, h⟩ := gd_s h
  refine cm_cVi [.int (4 : Int32)] kx_G S hW hg (fun x σ' hc => c_G_has v1 (4 : Int32) σ hc) q_G_has wd_994 wd_995 wd_993 (by decide) hl.1 rfl rfl (Nat.le_of_ble_eq_true rfl) d_E_answer_2 h (fun x2 r1 H locs cells slots h hW => ?_)
  refine rb_eq (tgt := 9) hx hb d_E_answer_5 (by decide) h (fun h => ?_) (fun h => ?_)
  · refine lv_aload_n hx hb d_E_answer_9 rfl (lv_at hl 1 rfl) ?_
    refine lv_bipush (v := 16) hx hb d_E_answer_10 (by decide) ?_
    obtain ⟨hg, h⟩ := gd_s h
    refine cm_cVi [.int (16 : Int32)] kx_G S hW hg (fun x σ' hc => c_G_has v1 (16 : Int32) r1 hc) q_G_has wd_994 wd_995 wd_993 (by decide) hl.1 rfl rfl (Nat.le_of_ble_eq_true rfl) d_E_answer_12 h (fun x4 r3 H locs cells slots h hW => ?_)
    refine rb_eq (tgt := 33) hx hb d_E_answer_15 (by decide) h (fun h => ?_) (fun h => ?_)
    · refine lv_aload_n hx hb d_E_answer_33 rfl (lv_at hl 0 rfl) ?_
      refine lv_bipush (v := 20) hx hb d_E_answer_34 (by decide) ?_
      refine lv_iconst (v := 0) hx hb d_E_answer_36 (by decide) ?_
      refine lv_aload_n hx hb d_E_answer_37 rfl (lv_at hl 1 rfl) ?_
      obtain ⟨hg, h⟩ := gd_s h
      refine cm_cVi [] kx_G S hW hg (fun x σ' hc => c_G_seq v1 r3 hc) q_G_seq wd_1002 wd_1003 wd_1001 (by decide) hl.1 rfl rfl (Nat.le_of_ble_eq_true rfl) d_E_answer_38 h (fun x6 r5 H locs cells slots h hW => ?_)
      refine lv_aload_n hx hb d_E_answer_41 rfl (lv_at hl 1 rfl) ?_
      obtain ⟨hg, h⟩ := gd_s h
      refine cm_cVi [] kx_G S hW hg (fun x σ' hc => c_G_span v1 r5 hc) q_G_span wd_1075 wd_1076 wd_1074 (by decide) hl.1 rfl rfl (Nat.le_of_ble_eq_true rfl) d_E_answer_42 h (fun x8 r7 H locs cells slots h hW => ?_)
      refine lv_iadd hx hb d_E_answer_45 ?_
      refine lv_iconst (v := 0) hx hb d_E_answer_46 (by decide) ?_
      refine lv_iconst (v := 0) hx hb d_E_answer_47 (by decide) ?_
      refine cm_cVv [.int (20 : Int32), .int (0 : Int32), .int (x6 + x8), .int (0 : Int32), .int (0 : Int32)] kx_E S hW (kE hq) (fun σ' hc => c_E_emit q (20 : Int32) (0 : Int32) (x6 + x8) (0 : Int32) (0 : Int32) r7 hc) q_E_emit wd_567 wd_5 wd_565 (by decide) hl.1 rfl rfl (Nat.le_of_ble_eq_true rfl) d_E_answer_48 h (fun r9 H locs cells slots h hW => ?_)
      exact t_E_answer_51 S hq  r9 h (lv_sub hl [] rfl) hW
    · refine lv_aload_n hx hb d_E_answer_18 rfl (lv_at hl 0 rfl) ?_
      refine lv_iconst (v := 4) hx hb d_E_answer_19 (by decide) ?_
      refine lv_aload_n hx hb d_E_answer_20 rfl (lv_at hl 1 rfl) ?_
      obtain ⟨hg, h⟩ := gd_s h
      refine cm_cVi [] kx_G S hW hg (fun x σ' hc => c_G_ack v1 r3 hc) q_G_ack wd_1019 wd_1020 wd_1036 (by decide) hl.1 rfl rfl (Nat.le_of_ble_eq_true rfl) d_E_answer_21 h (fun x11 r10 H locs cells slots h hW => ?_)
      refine lv_iconst (v := 0) hx hb d_E_answer_24 (by decide) ?_
      refine lv_iconst (v := 0) hx hb d_E_answer_25 (by decide) ?_
      refine lv_iconst (v := 0) hx hb d_E_answer_26 (by decide) ?_
      refine cm_cVv [.int (4 : Int32), .int x11, .int (0 : Int32), .int (0 : Int32), .int (0 : Int32)] kx_E S hW (kE hq) (fun σ' hc => c_E_emit q (4 : Int32) x11 (0 : Int32) (0 : Int32) (0 : Int32) r10 hc) q_E_emit wd_567 wd_5 wd_565 (by decide) hl.1 rfl rfl (Nat.le_of_ble_eq_true rfl) d_E_answer_27 h (fun r12 H locs cells slots h hW => ?_)
      refine lv_goto (tgt := 51) hx hb d_E_answer_30 (by decide) ?_
      exact t_E_answer_51 S hq  r12 h (lv_sub hl [] rfl) hW
  · exact cm_vret S hW d_E_answer_8 h
theorem c_E_answer (q : Nat) (v1 : Nat) (σ : CS) {B : CS} (h : m_E_answer q v1 σ = some B) : CMet l D tc b z y_E_answer k_E_answer 2 none 9 222 [.ref (b + q), .ref (b + v1)] σ none B := cm_met (by decide) (Nat.le_of_ble_eq_true rfl) fun p e s m args below meth c S hW ls hl => t_E_answer_0 S q v1 σ h hl hW
end

/-! StreamPair$End.heedSyn (LStreamPair$Segment;)V -/
abbrev k_E_heedSyn : ByteArray := prog_5_method_22_code
abbrev y_E_heedSyn : MethodName := ⟨cn_E, "heedSyn", "(LStreamPair$Segment;)V"⟩
theorem q_E_heedSyn : Calee y_E_heedSyn k_E_heedSyn 2 none 1 := ⟨wd_1000, wd_85, by decide, by decide +kernel⟩
theorem d_E_heedSyn_0 : decode k_E_heedSyn 0 = .ok (.aload_n 0, 1) := by decide +kernel
theorem d_E_heedSyn_1 : decode k_E_heedSyn 1 = .ok (.getfield 21, 3) := by decide +kernel
theorem d_E_heedSyn_4 : decode k_E_heedSyn 4 = .ok (.aload_n 1, 1) := by decide +kernel
theorem d_E_heedSyn_5 : decode k_E_heedSyn 5 = .ok (.invokevirtual 251, 3) := by decide +kernel
theorem d_E_heedSyn_8 : decode k_E_heedSyn 8 = .ok (.invokevirtual 260, 3) := by decide +kernel
theorem d_E_heedSyn_11 : decode k_E_heedSyn 11 = .ok (.aload_n 0, 1) := by decide +kernel
theorem d_E_heedSyn_12 : decode k_E_heedSyn 12 = .ok (.getfield 12, 3) := by decide +kernel
theorem d_E_heedSyn_15 : decode k_E_heedSyn 15 = .ok (.aload_n 1, 1) := by decide +kernel
theorem d_E_heedSyn_16 : decode k_E_heedSyn 16 = .ok (.invokevirtual 262, 3) := by decide +kernel
theorem d_E_heedSyn_19 : decode k_E_heedSyn 19 = .ok (.aload_n 0, 1) := by decide +kernel
theorem d_E_heedSyn_20 : decode k_E_heedSyn 20 = .ok (.getfield 35, 3) := by decide +kernel
theorem d_E_heedSyn_23 : decode k_E_heedSyn 23 = .ok (.aload_n 0, 1) := by decide +kernel
theorem d_E_heedSyn_24 : decode k_E_heedSyn 24 = .ok (.getfield 39, 3) := by decide +kernel
theorem d_E_heedSyn_27 : decode k_E_heedSyn 27 = .ok (.aload_n 1, 1) := by decide +kernel
theorem d_E_heedSyn_28 : decode k_E_heedSyn 28 = .ok (.invokevirtual 265, 3) := by decide +kernel
theorem d_E_heedSyn_31 : decode k_E_heedSyn 31 = .ok (.invokevirtual 268, 3) := by decide +kernel
theorem d_E_heedSyn_34 : decode k_E_heedSyn 34 = .ok (.return_, 1) := by decide +kernel
def m_E_heedSyn (q : Nat) (v1 : Nat) (σ : CS) : Option (CS) :=
  gd (q = 7 ∨ q = 14) <| gd (kd σ v1 = 11) <| bc2 (m_G_seq v1 σ) fun x2 r1 => bc (m_V_heedSyn (q + 3) x2 r1) fun r3 => bc (m_U_heedWindow (q + 1) v1 r3) fun r4 => bd (cI r4 q 7) fun x5 => gd (kd r4 v1 = 11) <| bc2 (m_G_toldMss v1 r4) fun x7 r6 => bc (m_O_heedMss (q + 6) x5 x7 r6) fun r8 => some r8
section
variable {p : Program} {l : Launch} {e : Env} {s : State} {m : MethodId} {args : Array Value} {below : List Frame} {meth : Method} {c : Code} {D : va_G} {tc : Nat → ClassId} {b z : Nat} {σ0 : CS}
theorem t_E_heedSyn_0 (S : CC p m c k_E_heedSyn 2 s args cn_E meth none D tc b z) (q : Nat) (v1 : Nat) (σ : CS) {B : CS} (h : m_E_heedSyn q v1 σ = some B) {ls : Array Slot} {H : Heap} {locs : List Loc} {cells slots : Nat} (hl : lv_has ls 2 [(0, .ref (b + q)), (1, .ref (b + v1))]) (hW : CWS D tc b z s σ0 σ H locs cells slots) : W p l e (CR 3 69 σ0) s m args below meth c H locs cells slots (CE D tc b z below args s σ0 none B) (F0 m 0 ls []) := by
  have hx := S.1.1
  have hb := S.1.2.1
  unfold m_E_heedSyn at h
  obtain ⟨hq, h⟩ := gd_s h
  refine lv_aload_n hx hb d_E_heedSyn_0 rfl (lv_at hl 0 rfl) ?_
  refine cm_getf kx_E S hW (kE hq) 4 (q + 3) rfl wd_355 (by decide) d_E_heedSyn_1 ?_
  refine lv_aload_n hx hb d_E_heedSyn_4 rfl (lv_at hl 1 rfl) ?_
  obtain ⟨hg, h⟩ := gd_s h
  refine cm_cVi [] kx_G S hW hg (fun x σ' hc => c_G_seq v1 σ hc) q_G_seq wd_1002 wd_1003 wd_1001 (by decide) hl.1 rfl rfl (Nat.le_of_ble_eq_true rfl) d_E_heedSyn_5 h (fun x2 r1 H locs cells slots h hW => ?_)
  refine cm_cVv [.int x2] kx_V S hW (kEV hq) (fun σ' hc => c_V_heedSyn (q + 3) x2 r1 hc) q_V_heedSyn wd_1006 wd_1007 wd_1005 (by decide) hl.1 rfl rfl (Nat.le_of_ble_eq_true rfl) d_E_heedSyn_8 h (fun r3 H locs cells slots h hW => ?_)
  refine lv_aload_n hx hb d_E_heedSyn_11 rfl (lv_at hl 0 rfl) ?_
  refine cm_getf kx_E S hW (kE hq) 3 (q + 1) rfl wd_353 (by decide) d_E_heedSyn_12 ?_
  refine lv_aload_n hx hb d_E_heedSyn_15 rfl (lv_at hl 1 rfl) ?_
  refine cm_cVv [.ref (b + v1)] kx_U S hW (kEU hq) (fun σ' hc => c_U_heedWindow (q + 1) v1 r3 hc) q_U_heedWindow wd_1010 wd_1011 wd_1009 (by decide) hl.1 rfl rfl (Nat.le_of_ble_eq_true rfl) d_E_heedSyn_16 h (fun r4 H locs cells slots h hW => ?_)
  refine lv_aload_n hx hb d_E_heedSyn_19 rfl (lv_at hl 0 rfl) ?_
  refine cm_getf kx_E S hW (kE hq) 6 (q + 6) rfl wd_359 (by decide) d_E_heedSyn_20 ?_
  refine lv_aload_n hx hb d_E_heedSyn_23 rfl (lv_at hl 0 rfl) ?_
  refine cm_geti kx_E S hW (kE hq) 7 wd_360 (by decide) d_E_heedSyn_24 h (fun x5 h => ?_)
  refine lv_aload_n hx hb d_E_heedSyn_27 rfl (lv_at hl 1 rfl) ?_
  obtain ⟨hg, h⟩ := gd_s h
  refine cm_cVi [] kx_G S hW hg (fun x σ' hc => c_G_toldMss v1 r4 hc) q_G_toldMss wd_1023 wd_1024 wd_1022 (by decide) hl.1 rfl rfl (Nat.le_of_ble_eq_true rfl) d_E_heedSyn_28 h (fun x7 r6 H locs cells slots h hW => ?_)
  refine cm_cVv [.int x5, .int x7] kx_O S hW (kEO hq) (fun σ' hc => c_O_heedMss (q + 6) x5 x7 r6 hc) q_O_heedMss wd_1028 wd_1029 wd_1027 (by decide) hl.1 rfl rfl (Nat.le_of_ble_eq_true rfl) d_E_heedSyn_31 h (fun r8 H locs cells slots h hW => ?_)
  exact cm_vret S hW d_E_heedSyn_34 h
theorem c_E_heedSyn (q : Nat) (v1 : Nat) (σ : CS) {B : CS} (h : m_E_heedSyn q v1 σ = some B) : CMet l D tc b z y_E_heedSyn k_E_heedSyn 2 none 3 69 [.ref (b + q), .ref (b + v1)] σ none B := cm_met (by decide) (Nat.le_of_ble_eq_true rfl) fun p e s m args below meth c S hW ls hl => t_E_heedSyn_0 S q v1 σ h hl hW
end

