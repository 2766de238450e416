/-! StreamPair$Segment.<init> ()V -/
abbrev k_G_init : ByteArray := prog_8_method_1_code
abbrev y_G_init : MethodName := ⟨cn_G, "<init>", "()V"⟩
theorem q_G_init : Calee y_G_init k_G_init 1 none 0 := ⟨wd_580, wd_102, by decide, by decide +kernel⟩
theorem d_G_init_0 : decode k_G_init 0 = .ok (.aload_n 0, 1) := by decide +kernel
theorem d_G_init_1 : decode k_G_init 1 = .ok (.invokespecial 3, 3) := by decide +kernel
theorem d_G_init_4 : decode k_G_init 4 = .ok (.aload_n 0, 1) := by decide +kernel
theorem d_G_init_5 : decode k_G_init 5 = .ok (.bipush 64, 2) := by decide +kernel
theorem d_G_init_7 : decode k_G_init 7 = .ok (.newarray .byte, 2) := by decide +kernel
theorem d_G_init_9 : decode k_G_init 9 = .ok (.putfield 9, 3) := by decide +kernel
theorem d_G_init_12 : decode k_G_init 12 = .ok (.return_, 1) := by decide +kernel
def m_G_init (q : Nat) (σ : CS) : Option (CS) :=
  gd (¬ (64 : Int32) < 0 ∧ cX σ + 1 ≤ 601024 ∧ cU σ + (64 : Int32).toNatClampNeg ≤ 7293034) <| bd2 (cX σ) (wa σ 21 (64 : Int32).toNatClampNeg (64 : Int32).toNatClampNeg) fun a1 r2 => gd (kd r2 q = 11) <| bd (wr r2 q 0 (some a1)) fun r3 => some r3
section
variable {p : Program} {l : Launch} {e : Env} {s : State} {m : MethodId} {args : Array Value} {below : List Frame} {meth : Method} {c : Code} {D : va_G} {tc : Nat → ClassId} {b z : Nat} {σ0 : CS}
theorem t_G_init_0 (S : CC p m c k_G_init 1 s args cn_G meth none D tc b z) (q : Nat) (σ : CS) {B : CS} (h : m_G_init q σ = some B) {ls : Array Slot} {H : Heap} {locs : List Loc} {cells slots : Nat} (hl : lv_has ls 1 [(0, .ref (b + q))]) (hW : CWS D tc b z s σ0 σ H locs cells slots) : W p l e (CR 1 12 σ0) s m args below meth c H locs cells slots (CE D tc b z below args s σ0 none B) (F0 m 0 ls []) := by
  have hx := S.1.1
  have hb := S.1.2.1
  unfold m_G_init at h
  refine lv_aload_n hx hb d_G_init_0 rfl (lv_at hl 0 rfl) ?_
  refine cm_objI S wd_581 wd_112 wd_113 hl.1 (by decide) (by decide) d_G_init_1 ?_
  refine lv_aload_n hx hb d_G_init_4 rfl (lv_at hl 0 rfl) ?_
  refine lv_bipush (v := 64) hx hb d_G_init_5 (by decide) ?_
  refine cm_newb S hW d_G_init_7 wd_129 h (fun a1 r2 H cells slots h hW => ?_)
  obtain ⟨hg, h⟩ := gd_s h
  refine cm_putr kx_G S hW hg 0 (t := .array .byte) wd_582 (by decide) rfl (fun _ => rfl) (fun _ => rfl) d_G_init_9 h (fun r3 H locs h hW => ?_)
  exact cm_vret S hW d_G_init_12 h
theorem c_G_init (q : Nat) (σ : CS) {B : CS} (h : m_G_init q σ = some B) : CMet l D tc b z y_G_init k_G_init 1 none 1 12 [.ref (b + q)] σ none B := cm_met (by decide) (Nat.le_of_ble_eq_true rfl) fun p e s m args below meth c S hW ls hl => t_G_init_0 S q σ h hl hW
end

/-! StreamPair$Segment.begin (II)V -/
abbrev k_G_begin : ByteArray := prog_8_method_2_code
abbrev y_G_begin : MethodName := ⟨cn_G, "begin", "(II)V"⟩
theorem q_G_begin : Calee y_G_begin k_G_begin 3 none 2 := ⟨wd_611, wd_102, by decide, by decide +kernel⟩
theorem d_G_begin_0 : decode k_G_begin 0 = .ok (.iload_n 2, 1) := by decide +kernel
theorem d_G_begin_1 : decode k_G_begin 1 = .ok (.aload_n 0, 1) := by decide +kernel
theorem d_G_begin_2 : decode k_G_begin 2 = .ok (.getfield 9, 3) := by decide +kernel
theorem d_G_begin_5 : decode k_G_begin 5 = .ok (.arraylength, 1) := by decide +kernel
theorem d_G_begin_6 : decode k_G_begin 6 = .ok (.if_icmp .le 12, 3) := by decide +kernel
theorem d_G_begin_9 : decode k_G_begin 9 = .ok (.aload_n 0, 1) := by decide +kernel
theorem d_G_begin_10 : decode k_G_begin 10 = .ok (.sipush 1484, 3) := by decide +kernel
theorem d_G_begin_13 : decode k_G_begin 13 = .ok (.newarray .byte, 2) := by decide +kernel
theorem d_G_begin_15 : decode k_G_begin 15 = .ok (.putfield 9, 3) := by decide +kernel
theorem d_G_begin_18 : decode k_G_begin 18 = .ok (.aload_n 0, 1) := by decide +kernel
theorem d_G_begin_19 : decode k_G_begin 19 = .ok (.iload_n 1, 1) := by decide +kernel
theorem d_G_begin_20 : decode k_G_begin 20 = .ok (.putfield 15, 3) := by decide +kernel
theorem d_G_begin_23 : decode k_G_begin 23 = .ok (.aload_n 0, 1) := by decide +kernel
theorem d_G_begin_24 : decode k_G_begin 24 = .ok (.iload_n 2, 1) := by decide +kernel
theorem d_G_begin_25 : decode k_G_begin 25 = .ok (.putfield 19, 3) := by decide +kernel
theorem d_G_begin_28 : decode k_G_begin 28 = .ok (.return_, 1) := by decide +kernel
def b_G_begin_18 (q : Nat) (v1 : Int32) (v2 : Int32) (σ : CS) : Option (CS) :=
  gd (kd σ q = 11) <| bd (wi σ q 2 v1) fun r1 => gd (kd r1 q = 11) <| bd (wi r1 q 1 v2) fun r2 => some r2
def m_G_begin (q : Nat) (v1 : Int32) (v2 : Int32) (σ : CS) : Option (CS) :=
  gd (kd σ q = 11) <| bc (cR σ q 0) fun a1 => gd (kd σ a1 = 21 ∨ kd σ a1 = 24 ∨ kd σ a1 = 25) <| bd (nI (cN σ a1)) fun x2 => if v2 ≤ x2 then
  (b_G_begin_18 q v1 v2 σ)
 else
  (gd (¬ (1484 : Int32) < 0 ∧ cX σ + 1 ≤ 601024 ∧ cU σ + (1484 : Int32).toNatClampNeg ≤ 7293034) <| bd2 (cX σ) (wa σ 21 (1484 : Int32).toNatClampNeg (1484 : Int32).toNatClampNeg) fun a3 r4 => gd (kd r4 q = 11) <| bd (wr r4 q 0 (some a3)) fun r5 => b_G_begin_18 q v1 v2 r5)
section
variable {p : Program} {l : Launch} {e : Env} {s : State} {m : MethodId} {args : Array Value} {below : List Frame} {meth : Method} {c : Code} {D : va_G} {tc : Nat → ClassId} {b z : Nat} {σ0 : CS}
theorem t_G_begin_18 {q : Nat} (S : CC p m c k_G_begin 3 s args cn_G meth none D tc b z) (v1 : Int32) (v2 : Int32) (σ : CS) {B : CS} (h : b_G_begin_18 q v1 v2 σ = some B) {ls : Array Slot} {H : Heap} {locs : List Loc} {cells slots : Nat} (hl : lv_has ls 3 [(0, .ref (b + q)), (1, .int v1), (2, .int v2)]) (hW : CWS D tc b z s σ0 σ H locs cells slots) : W p l e (CR 0 0 σ0) s m args below meth c H locs cells slots (CE D tc b z below args s σ0 none B) (F0 m 18 ls []) := by
  have hx := S.1.1
  have hb := S.1.2.1
  unfold b_G_begin_18 at h
  refine lv_aload_n hx hb d_G_begin_18 rfl (lv_at hl 0 rfl) ?_
  refine lv_iload_n hx hb d_G_begin_19 rfl (lv_at hl 1 rfl) ?_
  obtain ⟨hg, h⟩ := gd_s h
  refine cm_puti kx_G S hW hg 2 wd_590 (by decide) d_G_begin_20 h (fun r1 H locs h hW => ?_)
  refine lv_aload_n hx hb d_G_begin_23 rfl (lv_at hl 0 rfl) ?_
  refine lv_iload_n hx hb d_G_begin_24 rfl (lv_at hl 2 rfl) ?_
  obtain ⟨hg, h⟩ := gd_s h
  refine cm_puti kx_G S hW hg 1 wd_587 (by decide) d_G_begin_25 h (fun r2 H locs h hW => ?_)
  exact cm_vret S hW d_G_begin_28 h
theorem t_G_begin_0 (S : CC p m c k_G_begin 3 s args cn_G meth none D tc b z) (q : Nat) (v1 : Int32) (v2 : Int32) (σ : CS) {B : CS} (h : m_G_begin q v1 v2 σ = some B) {ls : Array Slot} {H : Heap} {locs : List Loc} {cells slots : Nat} (hl : lv_has ls 3 [(0, .ref (b + q)), (1, .int v1), (2, .int v2)]) (hW : CWS D tc b z s σ0 σ H locs cells slots) : W p l e (CR 0 0 σ0) s m args below meth c H locs cells slots (CE D tc b z below args s σ0 none B) (F0 m 0 ls []) := by
  have hx := S.1.1
  have hb := S.1.2.1
  unfold m_G_begin at h
  refine lv_iload_n hx hb d_G_begin_0 rfl (lv_at hl 2 rfl) ?_
  refine lv_aload_n hx hb d_G_begin_1 rfl (lv_at hl 0 rfl) ?_
  obtain ⟨hg, h⟩ := gd_s h
  refine cm_getr kx_G S hW hg 0 wd_582 (by decide) d_G_begin_2 h (fun a1 h => ?_)
  refine cm_alen S hW d_G_begin_5 h (fun x2 h => ?_)
  refine rc_le (tgt := 18) hx hb d_G_begin_6 (by decide) h (fun h => ?_) (fun h => ?_)
  · exact t_G_begin_18 S v1 v2 σ h (lv_sub hl [0, 1, 2] rfl) hW
  · refine lv_aload_n hx hb d_G_begin_9 rfl (lv_at hl 0 rfl) ?_
    refine lv_sipush (v := 1484) hx hb d_G_begin_10 (by decide) ?_
    refine cm_newb S hW d_G_begin_13 wd_129 h (fun a3 r4 H cells slots h hW => ?_)
    obtain ⟨hg, h⟩ := gd_s h
    refine cm_putr kx_G S hW hg 0 (t := .array .byte) wd_582 (by decide) rfl (fun _ => rfl) (fun _ => rfl) d_G_begin_15 h (fun r5 H locs h hW => ?_)
    exact t_G_begin_18 S v1 v2 r5 h (lv_sub hl [0, 1, 2] rfl) hW
theorem c_G_begin (q : Nat) (v1 : Int32) (v2 : Int32) (σ : CS) {B : CS} (h : m_G_begin q v1 v2 σ = some B) : CMet l D tc b z y_G_begin k_G_begin 3 none 0 0 [.ref (b + q), .int v1, .int v2] σ none B := cm_met (by decide) (Nat.le_of_ble_eq_true rfl) fun p e s m args below meth c S hW ls hl => t_G_begin_0 S q v1 v2 σ h hl hW
end

/-! StreamPair$Segment.put (III)V -/
abbrev k_G_put : ByteArray := prog_8_method_3_code
abbrev y_G_put : MethodName := ⟨cn_G, "put", "(III)V"⟩
theorem q_G_put : Calee y_G_put k_G_put 5 none 3 := ⟨wd_615, wd_102, by decide, by decide +kernel⟩
theorem d_G_put_0 : decode k_G_put 0 = .ok (.iload_n 1, 1) := by decide +kernel
theorem d_G_put_1 : decode k_G_put 1 = .ok (.ifCond .lt 13, 3) := by decide +kernel
theorem d_G_put_4 : decode k_G_put 4 = .ok (.iload_n 1, 1) := by decide +kernel
theorem d_G_put_5 : decode k_G_put 5 = .ok (.iload_n 2, 1) := by decide +kernel
theorem d_G_put_6 : decode k_G_put 6 = .ok (.iadd, 1) := by decide +kernel
theorem d_G_put_7 : decode k_G_put 7 = .ok (.aload_n 0, 1) := by decide +kernel
theorem d_G_put_8 : decode k_G_put 8 = .ok (.getfield 19, 3) := by decide +kernel
theorem d_G_put_11 : decode k_G_put 11 = .ok (.if_icmp .le 4, 3) := by decide +kernel
theorem d_G_put_14 : decode k_G_put 14 = .ok (.return_, 1) := by decide +kernel
theorem d_G_put_15 : decode k_G_put 15 = .ok (.iconst 0, 1) := by decide +kernel
theorem d_G_put_16 : decode k_G_put 16 = .ok (.istore 4, 2) := by decide +kernel
theorem d_G_put_18 : decode k_G_put 18 = .ok (.iload 4, 2) := by decide +kernel
theorem d_G_put_20 : decode k_G_put 20 = .ok (.iload_n 2, 1) := by decide +kernel
theorem d_G_put_21 : decode k_G_put 21 = .ok (.if_icmp .ge 30, 3) := by decide +kernel
theorem d_G_put_24 : decode k_G_put 24 = .ok (.aload_n 0, 1) := by decide +kernel
theorem d_G_put_25 : decode k_G_put 25 = .ok (.getfield 9, 3) := by decide +kernel
theorem d_G_put_28 : decode k_G_put 28 = .ok (.iload_n 1, 1) := by decide +kernel
theorem d_G_put_29 : decode k_G_put 29 = .ok (.iload 4, 2) := by decide +kernel
theorem d_G_put_31 : decode k_G_put 31 = .ok (.iadd, 1) := by decide +kernel
theorem d_G_put_32 : decode k_G_put 32 = .ok (.iload_n 3, 1) := by decide +kernel
theorem d_G_put_33 : decode k_G_put 33 = .ok (.bipush 8, 2) := by decide +kernel
theorem d_G_put_35 : decode k_G_put 35 = .ok (.iload_n 2, 1) := by decide +kernel
theorem d_G_put_36 : decode k_G_put 36 = .ok (.iconst 1, 1) := by decide +kernel
theorem d_G_put_37 : decode k_G_put 37 = .ok (.isub, 1) := by decide +kernel
theorem d_G_put_38 : decode k_G_put 38 = .ok (.iload 4, 2) := by decide +kernel
theorem d_G_put_40 : decode k_G_put 40 = .ok (.isub, 1) := by decide +kernel
theorem d_G_put_41 : decode k_G_put 41 = .ok (.imul, 1) := by decide +kernel
theorem d_G_put_42 : decode k_G_put 42 = .ok (.iushr, 1) := by decide +kernel
theorem d_G_put_43 : decode k_G_put 43 = .ok (.i2b, 1) := by decide +kernel
theorem d_G_put_44 : decode k_G_put 44 = .ok (.bastore, 1) := by decide +kernel
theorem d_G_put_45 : decode k_G_put 45 = .ok (.iinc 4 1, 3) := by decide +kernel
theorem d_G_put_48 : decode k_G_put 48 = .ok (.goto (-30), 3) := by decide +kernel
theorem d_G_put_51 : decode k_G_put 51 = .ok (.return_, 1) := by decide +kernel
def F_G_put_18 (q : Nat) (rec18 : Int32 → Int32 → Int32 → Int32 → CS → Option (CS)) (v1 : Int32) (v2 : Int32) (v3 : Int32) (v4 : Int32) (σ : CS) : Option (CS) :=
  if v2 ≤ v4 then
  (some σ)
 else
  (gd (kd σ q = 11) <| bc (cR σ q 0) fun a1 => gd (kd σ a1 = 21 ∧ inb (v1 + v4) (cN σ a1)) <| bd (wi σ a1 (v1 + v4).toNatClampNeg (vp_nar .byte (((v3.toUInt32 >>> (((8 : Int32) * ((v2 - (1 : Int32)) - v4)).toUInt32 &&& Int32.toUInt32 31)).toInt32).toInt8.toInt32))) fun r2 => bd (v4 + (1 : Int32)) fun x3 => rec18 v1 v2 v3 x3 r2)
def b_G_put_14 (q : Nat) (σ : CS) : Option (CS) :=
  some σ
def m_G_put (q : Nat) (v1 : Int32) (v2 : Int32) (v3 : Int32) (σ : CS) : Option (CS) :=
  if v1 < 0 then
  (b_G_put_14 q  σ)
 else
  (gd (kd σ q = 11) <| bd (cI σ q 1) fun x1 => if (v1 + v2) ≤ x1 then
  (lq5 (F_G_put_18 q) fuel v1 v2 v3 (0 : Int32) σ)
 else
  (b_G_put_14 q  σ))
def P_G_put_18 (q : Nat) (p : Program) (l : Launch) (e : Env) (s : State) (m : MethodId) (args : Array Value) (below : List Frame) (meth : Method) (c : Code) (D : va_G) (tc : Nat → ClassId) (b z : Nat) (σ0 : CS) (v1 : Int32) (v2 : Int32) (v3 : Int32) (v4 : Int32) (σ : CS) (B : CS) : Prop := ∀ (ls : Array Slot) (H : Heap) (locs : List Loc) (cells slots : Nat), lv_has ls 5 [(0, .ref (b + q)), (1, .int v1), (2, .int v2), (3, .int v3), (4, .int v4)] → CWS D tc b z s σ0 σ H locs cells slots → W p l e (CR 0 0 σ0) s m args below meth c H locs cells slots (CE D tc b z below args s σ0 none B) (F0 m 18 ls [])
section
variable {p : Program} {l : Launch} {e : Env} {s : State} {m : MethodId} {args : Array Value} {below : List Frame} {meth : Method} {c : Code} {D : va_G} {tc : Nat → ClassId} {b z : Nat} {σ0 : CS}
theorem tF_G_put_18 {q : Nat} (S : CC p m c k_G_put 5 s args cn_G meth none D tc b z) : ∀ (rec18 : Int32 → Int32 → Int32 → Int32 → CS → Option (CS)), (∀ (v1 : Int32) (v2 : Int32) (v3 : Int32) (v4 : Int32) (σ : CS) (B : CS), rec18 v1 v2 v3 v4 σ = some B → P_G_put_18 q p l e s m args below meth c D tc b z σ0 v1 v2 v3 v4 σ B) → ∀ (v1 : Int32) (v2 : Int32) (v3 : Int32) (v4 : Int32) (σ : CS) (B : CS), F_G_put_18 q rec18 v1 v2 v3 v4 σ = some B → P_G_put_18 q p l e s m args below meth c D tc b z σ0 v1 v2 v3 v4 σ B := by
  intro rec18 hrec18 v1 v2 v3 v4 σ B h ls H locs cells slots hl hW
  have hx := S.1.1
  have hb := S.1.2.1
  unfold F_G_put_18 at h
  refine lv_iload hx hb d_G_put_18 (lv_at hl 4 rfl) ?_
  refine lv_iload_n hx hb d_G_put_20 rfl (lv_at hl 2 rfl) ?_
  refine rc_ge (tgt := 51) hx hb d_G_put_21 (by decide) h (fun h => ?_) (fun h => ?_)
  · exact cm_vret S hW d_G_put_51 h
  · refine lv_aload_n hx hb d_G_put_24 rfl (lv_at hl 0 rfl) ?_
    obtain ⟨hg, h⟩ := gd_s h
    refine cm_getr kx_G S hW hg 0 wd_582 (by decide) d_G_put_25 h (fun a1 h => ?_)
    refine lv_iload_n hx hb d_G_put_28 rfl (lv_at hl 1 rfl) ?_
    refine lv_iload hx hb d_G_put_29 (lv_at hl 4 rfl) ?_
    refine lv_iadd hx hb d_G_put_31 ?_
    refine lv_iload_n hx hb d_G_put_32 rfl (lv_at hl 3 rfl) ?_
    refine lv_bipush (v := 8) hx hb d_G_put_33 (by decide) ?_
    refine lv_iload_n hx hb d_G_put_35 rfl (lv_at hl 2 rfl) ?_
    refine lv_iconst (v := 1) hx hb d_G_put_36 (by decide) ?_
    refine lv_isub hx hb d_G_put_37 ?_
    refine lv_iload hx hb d_G_put_38 (lv_at hl 4 rfl) ?_
    refine lv_isub hx hb d_G_put_40 ?_
    refine lv_imul hx hb d_G_put_41 ?_
    refine lv_iushr hx hb d_G_put_42 rfl ?_
    refine lv_i2b hx hb d_G_put_43 rfl ?_
    refine cm_bast S hW d_G_put_44 h (fun r2 H locs h hW => ?_)
    refine rv_iinc (k := 4) (v := 1) (lv' := fun x3 => [(4, .int x3), (0, .ref (b + q)), (1, .int v1), (2, .int v2), (3, .int v3)]) hx hb d_G_put_45 hl rfl (by decide) (by decide) (fun _ => rfl) h (fun x3 ls h hl => ?_)
    refine lv_goto (tgt := 18) hx hb d_G_put_48 (by decide) ?_
    exact hrec18 v1 v2 v3 x3 r2 _ h _ _ _ _ _ (lv_sub hl [1, 2, 3, 4, 0] rfl) hW
theorem t_G_put_18 {q : Nat} (S : CC p m c k_G_put 5 s args cn_G meth none D tc b z) : ∀ (n : Nat) (v1 : Int32) (v2 : Int32) (v3 : Int32) (v4 : Int32) (σ : CS) (B : CS), lq5 (F_G_put_18 q) n v1 v2 v3 v4 σ = some B → P_G_put_18 q p l e s m args below meth c D tc b z σ0 v1 v2 v3 v4 σ B := lq5_s (tF_G_put_18 S)
theorem t_G_put_14 {q : Nat} (S : CC p m c k_G_put 5 s args cn_G meth none D tc b z) (σ : CS) {B : CS} (h : b_G_put_14 q  σ = some B) {ls : Array Slot} {H : Heap} {locs : List Loc} {cells slots : Nat} (hl : lv_has ls 5 []) (hW : CWS D tc b z s σ0 σ H locs cells slots) : W p l e (CR 0 0 σ0) s m args below meth c H locs cells slots (CE D tc b z below args s σ0 none B) (F0 m 14 ls []) := by
  have hx := S.1.1
  have hb := S.1.2.1
  unfold b_G_put_14 at h
  exact cm_vret S hW d_G_put_14 h
theorem t_G_put_0 (S : CC p m c k_G_put 5 s args cn_G meth none D tc b z) (q : Nat) (v1 : Int32) (v2 : Int32) (v3 : Int32) (σ : CS) {B : CS} (h : m_G_put q v1 v2 v3 σ = some B) {ls : Array Slot} {H : Heap} {locs : List Loc} {cells slots : Nat} (hl : lv_has ls 5 [(0, .ref (b + q)), (1, .int v1), (2, .int v2), (3, .int v3)]) (hW : CWS D tc b z s σ0 σ H locs cells slots) : W p l e (CR 0 0 σ0) s m args below meth c H locs cells slots (CE D tc b z below args s σ0 none B) (F0 m 0 ls []) := by
  have hx := S.1.1
  have hb := S.1.2.1
  unfold m_G_put at h
  refine lv_iload_n hx hb d_G_put_0 rfl (lv_at hl 1 rfl) ?_
  refine rb_lt (tgt := 14) hx hb d_G_put_1 (by decide) h (fun h => ?_) (fun h => ?_)
  · exact t_G_put_14 S  σ h (lv_sub hl [] rfl) hW
  · refine lv_iload_n hx hb d_G_put_4 rfl (lv_at hl 1 rfl) ?_
    refine lv_iload_n hx hb d_G_put_5 rfl (lv_at hl 2 rfl) ?_
    refine lv_iadd hx hb d_G_put_6 ?_
    refine lv_aload_n hx hb d_G_put_7 rfl (lv_at hl 0 rfl) ?_
    obtain ⟨hg, h⟩ := gd_s h
    refine cm_geti kx_G S hW hg 1 wd_587 (by decide) d_G_put_8 h (fun x1 h => ?_)
    refine rc_le (tgt := 15) hx hb d_G_put_11 (by decide) h (fun h => ?_) (fun h => ?_)
    · refine lv_iconst (v := 0) hx hb d_G_put_15 (by decide) ?_
      refine lv_istore (lv' := [(4, .int (0 : Int32)), (0, .ref (b + q)), (1, .int v1), (2, .int v2), (3, .int v3)]) hx hb d_G_put_16 hl (by decide) rfl (fun ls hl => ?_)
      exact t_G_put_18 S fuel v1 v2 v3 (0 : Int32) σ _ h _ _ _ _ _ (lv_sub hl [1, 2, 3, 4, 0] rfl) hW
    · exact t_G_put_14 S  σ h (lv_sub hl [] rfl) hW
theorem c_G_put (q : Nat) (v1 : Int32) (v2 : Int32) (v3 : Int32) (σ : CS) {B : CS} (h : m_G_put q v1 v2 v3 σ = some B) : CMet l D tc b z y_G_put k_G_put 5 none 0 0 [.ref (b + q), .int v1, .int v2, .int v3] σ none B := cm_met (by decide) (Nat.le_of_ble_eq_true rfl) fun p e s m args below meth c S hW ls hl => t_G_put_0 S q v1 v2 v3 σ h hl hW
end

/-! StreamPair$Segment.number (II)I -/
abbrev k_G_number : ByteArray := prog_8_method_4_code
abbrev y_G_number : MethodName := ⟨cn_G, "number", "(II)I"⟩
theorem q_G_number : Calee y_G_number k_G_number 5 (Option.some Jvm.ClassFile.FieldType.int) 2 := ⟨wd_987, wd_102, by decide, by decide +kernel⟩
theorem d_G_number_0 : decode k_G_number 0 = .ok (.iload_n 1, 1) := by decide +kernel
theorem d_G_number_1 : decode k_G_number 1 = .ok (.ifCond .lt 13, 3) := by decide +kernel
theorem d_G_number_4 : decode k_G_number 4 = .ok (.iload_n 1, 1) := by decide +kernel
theorem d_G_number_5 : decode k_G_number 5 = .ok (.iload_n 2, 1) := by decide +kernel
theorem d_G_number_6 : decode k_G_number 6 = .ok (.iadd, 1) := by decide +kernel
theorem d_G_number_7 : decode k_G_number 7 = .ok (.aload_n 0, 1) := by decide +kernel
theorem d_G_number_8 : decode k_G_number 8 = .ok (.getfield 19, 3) := by decide +kernel
theorem d_G_number_11 : decode k_G_number 11 = .ok (.if_icmp .le 5, 3) := by decide +kernel
theorem d_G_number_14 : decode k_G_number 14 = .ok (.iconst 0, 1) := by decide +kernel
theorem d_G_number_15 : decode k_G_number 15 = .ok (.ireturn, 1) := by decide +kernel
theorem d_G_number_16 : decode k_G_number 16 = .ok (.iconst 0, 1) := by decide +kernel
theorem d_G_number_17 : decode k_G_number 17 = .ok (.istore_n 3, 1) := by decide +kernel
theorem d_G_number_18 : decode k_G_number 18 = .ok (.iconst 0, 1) := by decide +kernel
theorem d_G_number_19 : decode k_G_number 19 = .ok (.istore 4, 2) := by decide +kernel
theorem d_G_number_21 : decode k_G_number 21 = .ok (.iload 4, 2) := by decide +kernel
theorem d_G_number_23 : decode k_G_number 23 = .ok (.iload_n 2, 1) := by decide +kernel
theorem d_G_number_24 : decode k_G_number 24 = .ok (.if_icmp .ge 28, 3) := by decide +kernel
theorem d_G_number_27 : decode k_G_number 27 = .ok (.iload_n 3, 1) := by decide +kernel
theorem d_G_number_28 : decode k_G_number 28 = .ok (.bipush 8, 2) := by decide +kernel
theorem d_G_number_30 : decode k_G_number 30 = .ok (.ishl, 1) := by decide +kernel
theorem d_G_number_31 : decode k_G_number 31 = .ok (.aload_n 0, 1) := by decide +kernel
theorem d_G_number_32 : decode k_G_number 32 = .ok (.getfield 9, 3) := by decide +kernel
theorem d_G_number_35 : decode k_G_number 35 = .ok (.iload_n 1, 1) := by decide +kernel
theorem d_G_number_36 : decode k_G_number 36 = .ok (.iload 4, 2) := by decide +kernel
theorem d_G_number_38 : decode k_G_number 38 = .ok (.iadd, 1) := by decide +kernel
theorem d_G_number_39 : decode k_G_number 39 = .ok (.baload, 1) := by decide +kernel
theorem d_G_number_40 : decode k_G_number 40 = .ok (.sipush 255, 3) := by decide +kernel
theorem d_G_number_43 : decode k_G_number 43 = .ok (.iand, 1) := by decide +kernel
theorem d_G_number_44 : decode k_G_number 44 = .ok (.ior, 1) := by decide +kernel
theorem d_G_number_45 : decode k_G_number 45 = .ok (.istore_n 3, 1) := by decide +kernel
theorem d_G_number_46 : decode k_G_number 46 = .ok (.iinc 4 1, 3) := by decide +kernel
theorem d_G_number_49 : decode k_G_number 49 = .ok (.goto (-28), 3) := by decide +kernel
theorem d_G_number_52 : decode k_G_number 52 = .ok (.iload_n 3, 1) := by decide +kernel
theorem d_G_number_53 : decode k_G_number 53 = .ok (.ireturn, 1) := by decide +kernel
def F_G_number_21 (q : Nat) (rec21 : Int32 → Int32 → Int32 → Int32 → CS → Option (Int32 × CS)) (v1 : Int32) (v2 : Int32) (v3 : Int32) (v4 : Int32) (σ : CS) : Option (Int32 × CS) :=
  if v2 ≤ v4 then
  (some (v3, σ))
 else
  (gd (kd σ q = 11) <| bc (cR σ q 0) fun a1 => gd (kd σ a1 = 21 ∧ inb (v1 + v4) (cN σ a1)) <| bd (cI σ a1 (v1 + v4).toNatClampNeg) fun x2 => bd ((v3 <<< ((8 : Int32) &&& 31)) ||| (x2 &&& (255 : Int32))) fun x3 => bd (v4 + (1 : Int32)) fun x4 => rec21 v1 v2 x3 x4 σ)
def b_G_number_14 (q : Nat) (σ : CS) : Option (Int32 × CS) :=
  some ((0 : Int32), σ)
def m_G_number (q : Nat) (v1 : Int32) (v2 : Int32) (σ : CS) : Option (Int32 × CS) :=
  if v1 < 0 then
  (b_G_number_14 q  σ)
 else
  (gd (kd σ q = 11) <| bd (cI σ q 1) fun x1 => if (v1 + v2) ≤ x1 then
  (lq5 (F_G_number_21 q) fuel v1 v2 (0 : Int32) (0 : Int32) σ)
 else
  (b_G_number_14 q  σ))
def P_G_number_21 (q : Nat) (p : Program) (l : Launch) (e : Env) (s : State) (m : MethodId) (args : Array Value) (below : List Frame) (meth : Method) (c : Code) (D : va_G) (tc : Nat → ClassId) (b z : Nat) (σ0 : CS) (v1 : Int32) (v2 : Int32) (v3 : Int32) (v4 : Int32) (σ : CS) (B : Int32 × CS) : Prop := ∀ (ls : Array Slot) (H : Heap) (locs : List Loc) (cells slots : Nat), lv_has ls 5 [(0, .ref (b + q)), (1, .int v1), (2, .int v2), (3, .int v3), (4, .int v4)] → CWS D tc b z s σ0 σ H locs cells slots → W p l e (CR 0 0 σ0) s m args below meth c H locs cells slots (CE D tc b z below args s σ0 (some (.int B.1)) B.2) (F0 m 21 ls [])
section
variable {p : Program} {l : Launch} {e : Env} {s : State} {m : MethodId} {args : Array Value} {below : List Frame} {meth : Method} {c : Code} {D : va_G} {tc : Nat → ClassId} {b z : Nat} {σ0 : CS}
theorem tF_G_number_21 {q : Nat} (S : CC p m c k_G_number 5 s args cn_G meth (Option.some Jvm.ClassFile.FieldType.int) D tc b z) : ∀ (rec21 : Int32 → Int32 → Int32 → Int32 → CS → Option (Int32 × CS)), (∀ (v1 : Int32) (v2 : Int32) (v3 : Int32) (v4 : Int32) (σ : CS) (B : Int32 × CS), rec21 v1 v2 v3 v4 σ = some B → P_G_number_21 q p l e s m args below meth c D tc b z σ0 v1 v2 v3 v4 σ B) → ∀ (v1 : Int32) (v2 : Int32) (v3 : Int32) (v4 : Int32) (σ : CS) (B : Int32 × CS), F_G_number_21 q rec21 v1 v2 v3 v4 σ = some B → P_G_number_21 q p l e s m args below meth c D tc b z σ0 v1 v2 v3 v4 σ B := by
  intro rec21 hrec21 v1 v2 v3 v4 σ B h ls H locs cells slots hl hW
  have hx := S.1.1
  have hb := S.1.2.1
  unfold F_G_number_21 at h
  refine lv_iload hx hb d_G_number_21 (lv_at hl 4 rfl) ?_
  refine lv_iload_n hx hb d_G_number_23 rfl (lv_at hl 2 rfl) ?_
  refine rc_ge (tgt := 52) hx hb d_G_number_24 (by decide) h (fun h => ?_) (fun h => ?_)
  · refine lv_iload_n hx hb d_G_number_52 rfl (lv_at hl 3 rfl) ?_
    exact cm_iret S hW d_G_number_53 h
  · refine lv_iload_n hx hb d_G_number_27 rfl (lv_at hl 3 rfl) ?_
    refine lv_bipush (v := 8) hx hb d_G_number_28 (by decide) ?_
    refine lv_ishl hx hb d_G_number_30 ?_
    refine lv_aload_n hx hb d_G_number_31 rfl (lv_at hl 0 rfl) ?_
    obtain ⟨hg, h⟩ := gd_s h
    refine cm_getr kx_G S hW hg 0 wd_582 (by decide) d_G_number_32 h (fun a1 h => ?_)
    refine lv_iload_n hx hb d_G_number_35 rfl (lv_at hl 1 rfl) ?_
    refine lv_iload hx hb d_G_number_36 (lv_at hl 4 rfl) ?_
    refine lv_iadd hx hb d_G_number_38 ?_
    refine cm_bald S hW d_G_number_39 h (fun x2 h => ?_)
    refine lv_sipush (v := 255) hx hb d_G_number_40 (by decide) ?_
    refine lv_iand hx hb d_G_number_43 ?_
    refine lv_ior hx hb d_G_number_44 ?_
    refine rv_i h (fun x3 h => ?_)
    refine lv_istore_n (lv' := [(3, .int x3), (0, .ref (b + q)), (1, .int v1), (2, .int v2), (4, .int v4)]) hx hb d_G_number_45 rfl hl (by decide) rfl (fun ls hl => ?_)
    refine rv_iinc (k := 4) (v := 1) (lv' := fun x4 => [(4, .int x4), (3, .int x3), (0, .ref (b + q)), (1, .int v1), (2, .int v2)]) hx hb d_G_number_46 hl rfl (by decide) (by decide) (fun _ => rfl) h (fun x4 ls h hl => ?_)
    refine lv_goto (tgt := 21) hx hb d_G_number_49 (by decide) ?_
    exact hrec21 v1 v2 x3 x4 σ _ h _ _ _ _ _ (lv_sub hl [2, 3, 4, 1, 0] rfl) hW
theorem t_G_number_21 {q : Nat} (S : CC p m c k_G_number 5 s args cn_G meth (Option.some Jvm.ClassFile.FieldType.int) D tc b z) : ∀ (n : Nat) (v1 : Int32) (v2 : Int32) (v3 : Int32) (v4 : Int32) (σ : CS) (B : Int32 × CS), lq5 (F_G_number_21 q) n v1 v2 v3 v4 σ = some B → P_G_number_21 q p l e s m args below meth c D tc b z σ0 v1 v2 v3 v4 σ B := lq5_s (tF_G_number_21 S)
theorem t_G_number_14 {q : Nat} (S : CC p m c k_G_number 5 s args cn_G meth (Option.some Jvm.ClassFile.FieldType.int) D tc b z) (σ : CS) {B : Int32 × CS} (h : b_G_number_14 q  σ = some B) {ls : Array Slot} {H : Heap} {locs : List Loc} {cells slots : Nat} (hl : lv_has ls 5 []) (hW : CWS D tc b z s σ0 σ H locs cells slots) : W p l e (CR 0 0 σ0) s m args below meth c H locs cells slots (CE D tc b z below args s σ0 (some (.int B.1)) B.2) (F0 m 14 ls []) := by
  have hx := S.1.1
  have hb := S.1.2.1
  unfold b_G_number_14 at h
  refine lv_iconst (v := 0) hx hb d_G_number_14 (by decide) ?_
  exact cm_iret S hW d_G_number_15 h
theorem t_G_number_0 (S : CC p m c k_G_number 5 s args cn_G meth (Option.some Jvm.ClassFile.FieldType.int) D tc b z) (q : Nat) (v1 : Int32) (v2 : Int32) (σ : CS) {B : Int32 × CS} (h : m_G_number q v1 v2 σ = some B) {ls : Array Slot} {H : Heap} {locs : List Loc} {cells slots : Nat} (hl : lv_has ls 5 [(0, .ref (b + q)), (1, .int v1), (2, .int v2)]) (hW : CWS D tc b z s σ0 σ H locs cells slots) : W p l e (CR 0 0 σ0) s m args below meth c H locs cells slots (CE D tc b z below args s σ0 (some (.int B.1)) B.2) (F0 m 0 ls []) := by
  have hx := S.1.1
  have hb := S.1.2.1
  unfold m_G_number at h
  refine lv_iload_n hx hb d_G_number_0 rfl (lv_at hl 1 rfl) ?_
  refine rb_lt (tgt := 14) hx hb d_G_number_1 (by decide) h (fun h => ?_) (fun h => ?_)
  · exact t_G_number_14 S  σ h (lv_sub hl [] rfl) hW
  · refine lv_iload_n hx hb d_G_number_4 rfl (lv_at hl 1 rfl) ?_
    refine lv_iload_n hx hb d_G_number_5 rfl (lv_at hl 2 rfl) ?_
    refine lv_iadd hx hb d_G_number_6 ?_
    refine lv_aload_n hx hb d_G_number_7 rfl (lv_at hl 0 rfl) ?_
    obtain ⟨hg, h⟩ := gd_s h
    refine cm_geti kx_G S hW hg 1 wd_587 (by decide) d_G_number_8 h (fun x1 h => ?_)
    refine rc_le (tgt := 16) hx hb d_G_number_11 (by decide) h (fun h => ?_) (fun h => ?_)
    · refine lv_iconst (v := 0) hx hb d_G_number_16 (by decide) ?_
      refine lv_istore_n (lv' := [(3, .int (0 : Int32)), (0, .ref (b + q)), (1, .int v1), (2, .int v2)]) hx hb d_G_number_17 rfl hl (by decide) rfl (fun ls hl => ?_)
      refine lv_iconst (v := 0) hx hb d_G_number_18 (by decide) ?_
      refine lv_istore (lv' := [(4, .int (0 : Int32)), (3, .int (0 : Int32)), (0, .ref (b + q)), (1, .int v1), (2, .int v2)]) hx hb d_G_number_19 hl (by decide) rfl (fun ls hl => ?_)
      exact t_G_number_21 S fuel v1 v2 (0 : Int32) (0 : Int32) σ _ h _ _ _ _ _ (lv_sub hl [2, 3, 4, 1, 0] rfl) hW
    · exact t_G_number_14 S  σ h (lv_sub hl [] rfl) hW
theorem c_G_number (q : Nat) (v1 : Int32) (v2 : Int32) (σ : CS) {x : Int32} {σ' : CS} (h : m_G_number q v1 v2 σ = some (x, σ')) : CMet l D tc b z y_G_number k_G_number 5 (Option.some Jvm.ClassFile.FieldType.int) 0 0 [.ref (b + q), .int v1, .int v2] σ (some (.int x)) σ' := cm_met (by decide) (Nat.le_of_ble_eq_true rfl) fun p e s m args below meth c S hW ls hl => t_G_number_0 S q v1 v2 σ h hl hW
end

/-! StreamPair$Segment.seq ()I -/
abbrev k_G_seq : ByteArray := prog_8_method_5_code
abbrev y_G_seq : MethodName := ⟨cn_G, "seq", "()I"⟩
theorem q_G_seq : Calee y_G_seq k_G_seq 1 (Option.some Jvm.ClassFile.FieldType.int) 0 := ⟨wd_1004, wd_102, by decide, by decide +kernel⟩
theorem d_G_seq_0 : decode k_G_seq 0 = .ok (.aload_n 0, 1) := by decide +kernel
theorem d_G_seq_1 : decode k_G_seq 1 = .ok (.iconst 4, 1) := by decide +kernel
theorem d_G_seq_2 : decode k_G_seq 2 = .ok (.iconst 4, 1) := by decide +kernel
theorem d_G_seq_3 : decode k_G_seq 3 = .ok (.invokevirtual 22, 3) := by decide +kernel
theorem d_G_seq_6 : decode k_G_seq 6 = .ok (.ireturn, 1) := by decide +kernel
def m_G_seq (q : Nat) (σ : CS) : Option (Int32 × CS) :=
  gd (kd σ q = 11) <| bc2 (m_G_number q (4 : Int32) (4 : Int32) σ) fun x2 r1 => some (x2, r1)
section
variable {p : Program} {l : Launch} {e : Env} {s : State} {m : MethodId} {args : Array Value} {below : List Frame} {meth : Method} {c : Code} {D : va_G} {tc : Nat → ClassId} {b z : Nat} {σ0 : CS}
theorem t_G_seq_0 (S : CC p m c k_G_seq 1 s args cn_G meth (Option.some Jvm.ClassFile.FieldType.int) D tc b z) (q : Nat) (σ : CS) {B : Int32 × CS} (h : m_G_seq q σ = some B) {ls : Array Slot} {H : Heap} {locs : List Loc} {cells slots : Nat} (hl : lv_has ls 1 [(0, .ref (b + q))]) (hW : CWS D tc b z s σ0 σ H locs cells slots) : W p l e (CR 1 24 σ0) s m args below meth c H locs cells slots (CE D tc b z below args s σ0 (some (.int B.1)) B.2) (F0 m 0 ls []) := by
  have hx := S.1.1
  have hb := S.1.2.1
  unfold m_G_seq at h
  refine lv_aload_n hx hb d_G_seq_0 rfl (lv_at hl 0 rfl) ?_
  refine lv_iconst (v := 4) hx hb d_G_seq_1 (by decide) ?_
  refine lv_iconst (v := 4) hx hb d_G_seq_2 (by decide) ?_
  obtain ⟨hg, h⟩ := gd_s h
  refine cm_cVi [.int (4 : Int32), .int (4 : Int32)] kx_G S hW hg (fun x σ' hc => c_G_number q (4 : Int32) (4 : Int32) σ hc) q_G_number wd_985 wd_986 wd_984 (by decide) hl.1 rfl rfl (Nat.le_of_ble_eq_true rfl) d_G_seq_3 h (fun x2 r1 H locs cells slots h hW => ?_)
  exact cm_iret S hW d_G_seq_6 h
theorem c_G_seq (q : Nat) (σ : CS) {x : Int32} {σ' : CS} (h : m_G_seq q σ = some (x, σ')) : CMet l D tc b z y_G_seq k_G_seq 1 (Option.some Jvm.ClassFile.FieldType.int) 1 24 [.ref (b + q)] σ (some (.int x)) σ' := cm_met (by decide) (Nat.le_of_ble_eq_true rfl) fun p e s m args below meth c S hW ls hl => t_G_seq_0 S q σ h hl hW
end

/-! StreamPair$Segment.ack ()I -/
abbrev k_G_ack : ByteArray := prog_8_method_6_code
abbrev y_G_ack : MethodName := ⟨cn_G, "ack", "()I"⟩
theorem q_G_ack : Calee y_G_ack k_G_ack 1 (Option.some Jvm.ClassFile.FieldType.int) 0 := ⟨wd_1021, wd_102, by decide, by decide +kernel⟩
theorem d_G_ack_0 : decode k_G_ack 0 = .ok (.aload_n 0, 1) := by decide +kernel
theorem d_G_ack_1 : decode k_G_ack 1 = .ok (.bipush 8, 2) := by decide +kernel
theorem d_G_ack_3 : decode k_G_ack 3 = .ok (.iconst 4, 1) := by decide +kernel
theorem d_G_ack_4 : decode k_G_ack 4 = .ok (.invokevirtual 22, 3) := by decide +kernel
theorem d_G_ack_7 : decode k_G_ack 7 = .ok (.ireturn, 1) := by decide +kernel
def m_G_ack (q : Nat) (σ : CS) : Option (Int32 × CS) :=
  gd (kd σ q = 11) <| bc2 (m_G_number q (8 : Int32) (4 : Int32) σ) fun x2 r1 => some (x2, r1)
section
variable {p : Program} {l : Launch} {e : Env} {s : State} {m : MethodId} {args : Array Value} {below : List Frame} {meth : Method} {c : Code} {D : va_G} {tc : Nat → ClassId} {b z : Nat} {σ0 : CS}
theorem t_G_ack_0 (S : CC p m c k_G_ack 1 s args cn_G meth (Option.some Jvm.ClassFile.FieldType.int) D tc b z) (q : Nat) (σ : CS) {B : Int32 × CS} (h : m_G_ack q σ = some B) {ls : Array Slot} {H : Heap} {locs : List Loc} {cells slots : Nat} (hl : lv_has ls 1 [(0, .ref (b + q))]) (hW : CWS D tc b z s σ0 σ H locs cells slots) : W p l e (CR 1 24 σ0) s m args below meth c H locs cells slots (CE D tc b z below args s σ0 (some (.int B.1)) B.2) (F0 m 0 ls []) := by
  have hx := S.1.1
  have hb := S.1.2.1
  unfold m_G_ack at h
  refine lv_aload_n hx hb d_G_ack_0 rfl (lv_at hl 0 rfl) ?_
  refine lv_bipush (v := 8) hx hb d_G_ack_1 (by decide) ?_
  refine lv_iconst (v := 4) hx hb d_G_ack_3 (by decide) ?_
  obtain ⟨hg, h⟩ := gd_s h
  refine cm_cVi [.int (8 : Int32), .int (4 : Int32)] kx_G S hW hg (fun x σ' hc => c_G_number q (8 : Int32) (4 : Int32) σ hc) q_G_number wd_985 wd_986 wd_984 (by decide) hl.1 rfl rfl (Nat.le_of_ble_eq_true rfl) d_G_ack_4 h (fun x2 r1 H locs cells slots h hW => ?_)
  exact cm_iret S hW d_G_ack_7 h
theorem c_G_ack (q : Nat) (σ : CS) {x : Int32} {σ' : CS} (h : m_G_ack q σ = some (x, σ')) : CMet l D tc b z y_G_ack k_G_ack 1 (Option.some Jvm.ClassFile.FieldType.int) 1 24 [.ref (b + q)] σ (some (.int x)) σ' := cm_met (by decide) (Nat.le_of_ble_eq_true rfl) fun p e s m args below meth c S hW ls hl => t_G_ack_0 S q σ h hl hW
end

/-! StreamPair$Segment.window ()I -/
abbrev k_G_window : ByteArray := prog_8_method_7_code
abbrev y_G_window : MethodName := ⟨cn_G, "window", "()I"⟩
theorem q_G_window : Calee y_G_window k_G_window 1 (Option.some Jvm.ClassFile.FieldType.int) 0 := ⟨wd_1016, wd_102, by decide, by decide +kernel⟩
theorem d_G_window_0 : decode k_G_window 0 = .ok (.aload_n 0, 1) := by decide +kernel
theorem d_G_window_1 : decode k_G_window 1 = .ok (.bipush 14, 2) := by decide +kernel
theorem d_G_window_3 : decode k_G_window 3 = .ok (.iconst 2, 1) := by decide +kernel
theorem d_G_window_4 : decode k_G_window 4 = .ok (.invokevirtual 22, 3) := by decide +kernel
theorem d_G_window_7 : decode k_G_window 7 = .ok (.ireturn, 1) := by decide +kernel
def m_G_window (q : Nat) (σ : CS) : Option (Int32 × CS) :=
  gd (kd σ q = 11) <| bc2 (m_G_number q (14 : Int32) (2 : Int32) σ) fun x2 r1 => some (x2, r1)
section
variable {p : Program} {l : Launch} {e : Env} {s : State} {m : MethodId} {args : Array Value} {below : List Frame} {meth : Method} {c : Code} {D : va_G} {tc : Nat → ClassId} {b z : Nat} {σ0 : CS}
theorem t_G_window_0 (S : CC p m c k_G_window 1 s args cn_G meth (Option.some Jvm.ClassFile.FieldType.int) D tc b z) (q : Nat) (σ : CS) {B : Int32 × CS} (h : m_G_window q σ = some B) {ls : Array Slot} {H : Heap} {locs : List Loc} {cells slots : Nat} (hl : lv_has ls 1 [(0, .ref (b + q))]) (hW : CWS D tc b z s σ0 σ H locs cells slots) : W p l e (CR 1 24 σ0) s m args below meth c H locs cells slots (CE D tc b z below args s σ0 (some (.int B.1)) B.2) (F0 m 0 ls []) := by
  have hx := S.1.1
  have hb := S.1.2.1
  unfold m_G_window at h
  refine lv_aload_n hx hb d_G_window_0 rfl (lv_at hl 0 rfl) ?_
  refine lv_bipush (v := 14) hx hb d_G_window_1 (by decide) ?_
  refine lv_iconst (v := 2) hx hb d_G_window_3 (by decide) ?_
  obtain ⟨hg, h⟩ := gd_s h
  refine cm_cVi [.int (14 : Int32), .int (2 : Int32)] kx_G S hW hg (fun x σ' hc => c_G_number q (14 : Int32) (2 : Int32) σ hc) q_G_number wd_985 wd_986 wd_984 (by decide) hl.1 rfl rfl (Nat.le_of_ble_eq_true rfl) d_G_window_4 h (fun x2 r1 H locs cells slots h hW => ?_)
  exact cm_iret S hW d_G_window_7 h
theorem c_G_window (q : Nat) (σ : CS) {x : Int32} {σ' : CS} (h : m_G_window q σ = some (x, σ')) : CMet l D tc b z y_G_window k_G_window 1 (Option.some Jvm.ClassFile.FieldType.int) 1 24 [.ref (b + q)] σ (some (.int x)) σ' := cm_met (by decide) (Nat.le_of_ble_eq_true rfl) fun p e s m args below meth c S hW ls hl => t_G_window_0 S q σ h hl hW
end

/-! StreamPair$Segment.has (I)Z -/
abbrev k_G_has : ByteArray := prog_8_method_8_code
abbrev y_G_has : MethodName := ⟨cn_G, "has", "(I)Z"⟩
theorem q_G_has : Calee y_G_has k_G_has 2 (Option.some Jvm.ClassFile.FieldType.boolean) 1 := ⟨wd_996, wd_102, by decide, by decide +kernel⟩
theorem d_G_has_0 : decode k_G_has 0 = .ok (.aload_n 0, 1) := by decide +kernel
theorem d_G_has_1 : decode k_G_has 1 = .ok (.bipush 13, 2) := by decide +kernel
theorem d_G_has_3 : decode k_G_has 3 = .ok (.iconst 1, 1) := by decide +kernel
theorem d_G_has_4 : decode k_G_has 4 = .ok (.invokevirtual 22, 3) := by decide +kernel
theorem d_G_has_7 : decode k_G_has 7 = .ok (.iload_n 1, 1) := by decide +kernel
theorem d_G_has_8 : decode k_G_has 8 = .ok (.iand, 1) := by decide +kernel
theorem d_G_has_9 : decode k_G_has 9 = .ok (.ifCond .eq 7, 3) := by decide +kernel
theorem d_G_has_12 : decode k_G_has 12 = .ok (.iconst 1, 1) := by decide +kernel
theorem d_G_has_13 : decode k_G_has 13 = .ok (.goto 4, 3) := by decide +kernel
theorem d_G_has_16 : decode k_G_has 16 = .ok (.iconst 0, 1) := by decide +kernel
theorem d_G_has_17 : decode k_G_has 17 = .ok (.ireturn, 1) := by decide +kernel
def b_G_has_17 (q : Nat) (w0 : Int32) (σ : CS) : Option (Int32 × CS) :=
  gd (w0 = 0 ∨ w0 = 1) (some (w0, σ))
def m_G_has (q : Nat) (v1 : Int32) (σ : CS) : Option (Int32 × CS) :=
  gd (kd σ q = 11) <| bc2 (m_G_number q (13 : Int32) (1 : Int32) σ) fun x2 r1 => if (x2 &&& v1) = 0 then
  (b_G_has_17 q (0 : Int32) r1)
 else
  (b_G_has_17 q (1 : Int32) r1)
section
variable {p : Program} {l : Launch} {e : Env} {s : State} {m : MethodId} {args : Array Value} {below : List Frame} {meth : Method} {c : Code} {D : va_G} {tc : Nat → ClassId} {b z : Nat} {σ0 : CS}
theorem t_G_has_17 {q : Nat} (S : CC p m c k_G_has 2 s args cn_G meth (Option.some Jvm.ClassFile.FieldType.boolean) D tc b z) (w0 : Int32) (σ : CS) {B : Int32 × CS} (h : b_G_has_17 q w0 σ = some B) {ls : Array Slot} {H : Heap} {locs : List Loc} {cells slots : Nat} (hl : lv_has ls 2 []) (hW : CWS D tc b z s σ0 σ H locs cells slots) : W p l e (CR 1 24 σ0) s m args below meth c H locs cells slots (CE D tc b z below args s σ0 (some (.int B.1)) B.2) (F0 m 17 ls [.int w0]) := by
  have hx := S.1.1
  have hb := S.1.2.1
  unfold b_G_has_17 at h
  exact cm_zret S hW d_G_has_17 h
theorem t_G_has_0 (S : CC p m c k_G_has 2 s args cn_G meth (Option.some Jvm.ClassFile.FieldType.boolean) D tc b z) (q : Nat) (v1 : Int32) (σ : CS) {B : Int32 × CS} (h : m_G_has q v1 σ = some B) {ls : Array Slot} {H : Heap} {locs : List Loc} {cells slots : Nat} (hl : lv_has ls 2 [(0, .ref (b + q)), (1, .int v1)]) (hW : CWS D tc b z s σ0 σ H locs cells slots) : W p l e (CR 1 24 σ0) s m args below meth c H locs cells slots (CE D tc b z below args s σ0 (some (.int B.1)) B.2) (F0 m 0 ls []) := by
  have hx := S.1.1
  have hb := S.1.2.1
  unfold m_G_has at h
  refine lv_aload_n hx hb d_G_has_0 rfl (lv_at hl 0 rfl) ?_
  refine lv_bipush (v := 13) hx hb d_G_has_1 (by decide) ?_
  refine lv_iconst (v := 1) hx hb d_G_has_3 (by decide) ?_
  obtain ⟨hg, h⟩ := gd_s h
  refine cm_cVi [.int (13 : Int32), .int (1 : Int32)] kx_G S hW hg (fun x σ' hc => c_G_number q (13 : Int32) (1 : Int32) σ hc) q_G_number wd_985 wd_986 wd_984 (by decide) hl.1 rfl rfl (Nat.le_of_ble_eq_true rfl) d_G_has_4 h (fun x2 r1 H locs cells slots h hW => ?_)
  refine lv_iload_n hx hb d_G_has_7 rfl (lv_at hl 1 rfl) ?_
  refine lv_iand hx hb d_G_has_8 ?_
  refine rb_eq (tgt := 16) hx hb d_G_has_9 (by decide) h (fun h => ?_) (fun h => ?_)
  · refine lv_iconst (v := 0) hx hb d_G_has_16 (by decide) ?_
    exact t_G_has_17 S (0 : Int32) r1 h (lv_sub hl [] rfl) hW
  · refine lv_iconst (v := 1) hx hb d_G_has_12 (by decide) ?_
    refine lv_goto (tgt := 17) hx hb d_G_has_13 (by decide) ?_
    exact t_G_has_17 S (1 : Int32) r1 h (lv_sub hl [] rfl) hW
theorem c_G_has (q : Nat) (v1 : Int32) (σ : CS) {x : Int32} {σ' : CS} (h : m_G_has q v1 σ = some (x, σ')) : CMet l D tc b z y_G_has k_G_has 2 (Option.some Jvm.ClassFile.FieldType.boolean) 1 24 [.ref (b + q), .int v1] σ (some (.int x)) σ' := cm_met (by decide) (Nat.le_of_ble_eq_true rfl) fun p e s m args below meth c S hW ls hl => t_G_has_0 S q v1 σ h hl hW
end

/-! StreamPair$Segment.headerLength ()I -/
abbrev k_G_headerLength : ByteArray := prog_8_method_9_code
abbrev y_G_headerLength : MethodName := ⟨cn_G, "headerLength", "()I"⟩
theorem q_G_headerLength : Calee y_G_headerLength k_G_headerLength 1 (Option.some Jvm.ClassFile.FieldType.int) 0 := ⟨wd_983, wd_102, by decide, by decide +kernel⟩
theorem d_G_headerLength_0 : decode k_G_headerLength 0 = .ok (.aload_n 0, 1) := by decide +kernel
theorem d_G_headerLength_1 : decode k_G_headerLength 1 = .ok (.bipush 12, 2) := by decide +kernel
theorem d_G_headerLength_3 : decode k_G_headerLength 3 = .ok (.iconst 1, 1) := by decide +kernel
theorem d_G_headerLength_4 : decode k_G_headerLength 4 = .ok (.invokevirtual 22, 3) := by decide +kernel
theorem d_G_headerLength_7 : decode k_G_headerLength 7 = .ok (.iconst 4, 1) := by decide +kernel
theorem d_G_headerLength_8 : decode k_G_headerLength 8 = .ok (.iushr, 1) := by decide +kernel
theorem d_G_headerLength_9 : decode k_G_headerLength 9 = .ok (.iconst 4, 1) := by decide +kernel
theorem d_G_headerLength_10 : decode k_G_headerLength 10 = .ok (.imul, 1) := by decide +kernel
theorem d_G_headerLength_11 : decode k_G_headerLength 11 = .ok (.ireturn, 1) := by decide +kernel
def m_G_headerLength (q : Nat) (σ : CS) : Option (Int32 × CS) :=
  gd (kd σ q = 11) <| bc2 (m_G_number q (12 : Int32) (1 : Int32) σ) fun x2 r1 => some (((x2.toUInt32 >>> ((4 : Int32).toUInt32 &&& Int32.toUInt32 31)).toInt32) * (4 : Int32), r1)
section
variable {p : Program} {l : Launch} {e : Env} {s : State} {m : MethodId} {args : Array Value} {below : List Frame} {meth : Method} {c : Code} {D : va_G} {tc : Nat → ClassId} {b z : Nat} {σ0 : CS}
theorem t_G_headerLength_0 (S : CC p m c k_G_headerLength 1 s args cn_G meth (Option.some Jvm.ClassFile.FieldType.int) D tc b z) (q : Nat) (σ : CS) {B : Int32 × CS} (h : m_G_headerLength q σ = some B) {ls : Array Slot} {H : Heap} {locs : List Loc} {cells slots : Nat} (hl : lv_has ls 1 [(0, .ref (b + q))]) (hW : CWS D tc b z s σ0 σ H locs cells slots) : W p l e (CR 1 24 σ0) s m args below meth c H locs cells slots (CE D tc b z below args s σ0 (some (.int B.1)) B.2) (F0 m 0 ls []) := by
  have hx := S.1.1
  have hb := S.1.2.1
  unfold m_G_headerLength at h
  refine lv_aload_n hx hb d_G_headerLength_0 rfl (lv_at hl 0 rfl) ?_
  refine lv_bipush (v := 12) hx hb d_G_headerLength_1 (by decide) ?_
  refine lv_iconst (v := 1) hx hb d_G_headerLength_3 (by decide) ?_
  obtain ⟨hg, h⟩ := gd_s h
  refine cm_cVi [.int (12 : Int32), .int (1 : Int32)] kx_G S hW hg (fun x σ' hc => c_G_number q (12 : Int32) (1 : Int32) σ hc) q_G_number wd_985 wd_986 wd_984 (by decide) hl.1 rfl rfl (Nat.le_of_ble_eq_true rfl) d_G_headerLength_4 h (fun x2 r1 H locs cells slots h hW => ?_)
  refine lv_iconst (v := 4) hx hb d_G_headerLength_7 (by decide) ?_
  refine lv_iushr hx hb d_G_headerLength_8 rfl ?_
  refine lv_iconst (v := 4) hx hb d_G_headerLength_9 (by decide) ?_
  refine lv_imul hx hb d_G_headerLength_10 ?_
  exact cm_iret S hW d_G_headerLength_11 h
theorem c_G_headerLength (q : Nat) (σ : CS) {x : Int32} {σ' : CS} (h : m_G_headerLength q σ = some (x, σ')) : CMet l D tc b z y_G_headerLength k_G_headerLength 1 (Option.some Jvm.ClassFile.FieldType.int) 1 24 [.ref (b + q)] σ (some (.int x)) σ' := cm_met (by decide) (Nat.le_of_ble_eq_true rfl) fun p e s m args below meth c S hW ls hl => t_G_headerLength_0 S q σ h hl hW
end

/-! StreamPair$Segment.dataLength ()I -/
abbrev k_G_dataLength : ByteArray := prog_8_method_10_code
abbrev y_G_dataLength : MethodName := ⟨cn_G, "dataLength", "()I"⟩
theorem q_G_dataLength : Calee y_G_dataLength k_G_dataLength 1 (Option.some Jvm.ClassFile.FieldType.int) 0 := ⟨wd_1081, wd_102, by decide, by decide +kernel⟩
theorem d_G_dataLength_0 : decode k_G_dataLength 0 = .ok (.aload_n 0, 1) := by decide +kernel
theorem d_G_dataLength_1 : decode k_G_dataLength 1 = .ok (.getfield 19, 3) := by decide +kernel
theorem d_G_dataLength_4 : decode k_G_dataLength 4 = .ok (.aload_n 0, 1) := by decide +kernel
theorem d_G_dataLength_5 : decode k_G_dataLength 5 = .ok (.invokevirtual 26, 3) := by decide +kernel
theorem d_G_dataLength_8 : decode k_G_dataLength 8 = .ok (.isub, 1) := by decide +kernel
theorem d_G_dataLength_9 : decode k_G_dataLength 9 = .ok (.ireturn, 1) := by decide +kernel
def m_G_dataLength (q : Nat) (σ : CS) : Option (Int32 × CS) :=
  gd (kd σ q = 11) <| bd (cI σ q 1) fun x1 => gd (kd σ q = 11) <| bc2 (m_G_headerLength q σ) fun x3 r2 => some (x1 - x3, r2)
section
variable {p : Program} {l : Launch} {e : Env} {s : State} {m : MethodId} {args : Array Value} {below : List Frame} {meth : Method} {c : Code} {D : va_G} {tc : Nat → ClassId} {b z : Nat} {σ0 : CS}
theorem t_G_dataLength_0 (S : CC p m c k_G_dataLength 1 s args cn_G meth (Option.some Jvm.ClassFile.FieldType.int) D tc b z) (q : Nat) (σ : CS) {B : Int32 × CS} (h : m_G_dataLength q σ = some B) {ls : Array Slot} {H : Heap} {locs : List Loc} {cells slots : Nat} (hl : lv_has ls 1 [(0, .ref (b + q))]) (hW : CWS D tc b z s σ0 σ H locs cells slots) : W p l e (CR 2 44 σ0) s m args below meth c H locs cells slots (CE D tc b z below args s σ0 (some (.int B.1)) B.2) (F0 m 0 ls []) := by
  have hx := S.1.1
  have hb := S.1.2.1
  unfold m_G_dataLength at h
  refine lv_aload_n hx hb d_G_dataLength_0 rfl (lv_at hl 0 rfl) ?_
  obtain ⟨hg, h⟩ := gd_s h
  refine cm_geti kx_G S hW hg 1 wd_587 (by decide) d_G_dataLength_1 h (fun x1 h => ?_)
  refine lv_aload_n hx hb d_G_dataLength_4 rfl (lv_at hl 0 rfl) ?_
  obtain ⟨hg, h⟩ := gd_s h
  refine cm_cVi [] kx_G S hW hg (fun x σ' hc => c_G_headerLength q σ hc) q_G_headerLength wd_981 wd_982 wd_980 (by decide) hl.1 rfl rfl (Nat.le_of_ble_eq_true rfl) d_G_dataLength_5 h (fun x3 r2 H locs cells slots h hW => ?_)
  refine lv_isub hx hb d_G_dataLength_8 ?_
  exact cm_iret S hW d_G_dataLength_9 h
theorem c_G_dataLength (q : Nat) (σ : CS) {x : Int32} {σ' : CS} (h : m_G_dataLength q σ = some (x, σ')) : CMet l D tc b z y_G_dataLength k_G_dataLength 1 (Option.some Jvm.ClassFile.FieldType.int) 2 44 [.ref (b + q)] σ (some (.int x)) σ' := cm_met (by decide) (Nat.le_of_ble_eq_true rfl) fun p e s m args below meth c S hW ls hl => t_G_dataLength_0 S q σ h hl hW
end

/-! StreamPair$Segment.span ()I -/
abbrev k_G_span : ByteArray := prog_8_method_11_code
abbrev y_G_span : MethodName := ⟨cn_G, "span", "()I"⟩
theorem q_G_span : Calee y_G_span k_G_span 1 (Option.some Jvm.ClassFile.FieldType.int) 0 := ⟨wd_1077, wd_102, by decide, by decide +kernel⟩
theorem d_G_span_0 : decode k_G_span 0 = .ok (.aload_n 0, 1) := by decide +kernel
theorem d_G_span_1 : decode k_G_span 1 = .ok (.invokevirtual 30, 3) := by decide +kernel
theorem d_G_span_4 : decode k_G_span 4 = .ok (.aload_n 0, 1) := by decide +kernel
theorem d_G_span_5 : decode k_G_span 5 = .ok (.iconst 2, 1) := by decide +kernel
theorem d_G_span_6 : decode k_G_span 6 = .ok (.invokevirtual 33, 3) := by decide +kernel
theorem d_G_span_9 : decode k_G_span 9 = .ok (.ifCond .eq 7, 3) := by decide +kernel
theorem d_G_span_12 : decode k_G_span 12 = .ok (.iconst 1, 1) := by decide +kernel
theorem d_G_span_13 : decode k_G_span 13 = .ok (.goto 4, 3) := by decide +kernel
theorem d_G_span_16 : decode k_G_span 16 = .ok (.iconst 0, 1) := by decide +kernel
theorem d_G_span_17 : decode k_G_span 17 = .ok (.iadd, 1) := by decide +kernel
theorem d_G_span_18 : decode k_G_span 18 = .ok (.aload_n 0, 1) := by decide +kernel
theorem d_G_span_19 : decode k_G_span 19 = .ok (.iconst 1, 1) := by decide +kernel
theorem d_G_span_20 : decode k_G_span 20 = .ok (.invokevirtual 33, 3) := by decide +kernel
theorem d_G_span_23 : decode k_G_span 23 = .ok (.ifCond .eq 7, 3) := by decide +kernel
theorem d_G_span_26 : decode k_G_span 26 = .ok (.iconst 1, 1) := by decide +kernel
theorem d_G_span_27 : decode k_G_span 27 = .ok (.goto 4, 3) := by decide +kernel
theorem d_G_span_30 : decode k_G_span 30 = .ok (.iconst 0, 1) := by decide +kernel
theorem d_G_span_31 : decode k_G_span 31 = .ok (.iadd, 1) := by decide +kernel
theorem d_G_span_32 : decode k_G_span 32 = .ok (.ireturn, 1) := by decide +kernel
def b_G_span_31 (q : Nat) (w0 : Int32) (w1 : Int32) (σ : CS) : Option (Int32 × CS) :=
  some (w0 + w1, σ)
def b_G_span_17 (q : Nat) (w0 : Int32) (w1 : Int32) (σ : CS) : Option (Int32 × CS) :=
  gd (kd σ q = 11) <| bc2 (m_G_has q (1 : Int32) σ) fun x2 r1 => if x2 = 0 then
  (b_G_span_31 q (w0 + w1) (0 : Int32) r1)
 else
  (b_G_span_31 q (w0 + w1) (1 : Int32) r1)
def m_G_span (q : Nat) (σ : CS) : Option (Int32 × CS) :=
  gd (kd σ q = 11) <| bc2 (m_G_dataLength q σ) fun x2 r1 => gd (kd r1 q = 11) <| bc2 (m_G_has q (2 : Int32) r1) fun x4 r3 => if x4 = 0 then
  (b_G_span_17 q x2 (0 : Int32) r3)
 else
  (b_G_span_17 q x2 (1 : Int32) r3)
section
variable {p : Program} {l : Launch} {e : Env} {s : State} {m : MethodId} {args : Array Value} {below : List Frame} {meth : Method} {c : Code} {D : va_G} {tc : Nat → ClassId} {b z : Nat} {σ0 : CS}
theorem t_G_span_31 {q : Nat} (S : CC p m c k_G_span 1 s args cn_G meth (Option.some Jvm.ClassFile.FieldType.int) D tc b z) (w0 : Int32) (w1 : Int32) (σ : CS) {B : Int32 × CS} (h : b_G_span_31 q w0 w1 σ = some B) {ls : Array Slot} {H : Heap} {locs : List Loc} {cells slots : Nat} (hl : lv_has ls 1 []) (hW : CWS D tc b z s σ0 σ H locs cells slots) : W p l e (CR 3 64 σ0) s m args below meth c H locs cells slots (CE D tc b z below args s σ0 (some (.int B.1)) B.2) (F0 m 31 ls [.int w1, .int w0]) := by
  have hx := S.1.1
  have hb := S.1.2.1
  unfold b_G_span_31 at h
  refine lv_iadd hx hb d_G_span_31 ?_
  exact cm_iret S hW d_G_span_32 h
theorem t_G_span_17 {q : Nat} (S : CC p m c k_G_span 1 s args cn_G meth (Option.some Jvm.ClassFile.FieldType.int) D tc b z) (w0 : Int32) (w1 : Int32) (σ : CS) {B : Int32 × CS} (h : b_G_span_17 q w0 w1 σ = some B) {ls : Array Slot} {H : Heap} {locs : List Loc} {cells slots : Nat} (hl : lv_has ls 1 [(0, .ref (b + q))]) (hW : CWS D tc b z s σ0 σ H locs cells slots) : W p l e (CR 3 64 σ0) s m args below meth c H locs cells slots (CE D tc b z below args s σ0 (some (.int B.1)) B.2) (F0 m 17 ls [.int w1, .int w0]) := by
  have hx := S.1.1
  have hb := S.1.2.1
  unfold b_G_span_17 at h
  refine lv_iadd hx hb d_G_span_17 ?_
  refine lv_aload_n hx hb d_G_span_18 rfl (lv_at hl 0 rfl) ?_
  refine lv_iconst (v := 1) hx hb d_G_span_19 (by decide) ?_
  obtain ⟨hg, h⟩ := gd_s h
  refine cm_cVi [.int (1 : Int32)] kx_G S hW hg (fun x σ' hc => c_G_has q (1 : Int32) σ hc) q_G_has wd_994 wd_995 wd_1082 (by decide) hl.1 rfl rfl (Nat.le_of_ble_eq_true rfl) d_G_span_20 h (fun x2 r1 H locs cells slots h hW => ?_)
  refine rb_eq (tgt := 30) hx hb d_G_span_23 (by decide) h (fun h => ?_) (fun h => ?_)
  · refine lv_iconst (v := 0) hx hb d_G_span_30 (by decide) ?_
    exact t_G_span_31 S (w0 + w1) (0 : Int32) r1 h (lv_sub hl [] rfl) hW
  · refine lv_iconst (v := 1) hx hb d_G_span_26 (by decide) ?_
    refine lv_goto (tgt := 31) hx hb d_G_span_27 (by decide) ?_
    exact t_G_span_31 S (w0 + w1) (1 : Int32) r1 h (lv_sub hl [] rfl) hW
theorem t_G_span_0 (S : CC p m c k_G_span 1 s args cn_G meth (Option.some Jvm.ClassFile.FieldType.int) D tc b z) (q : Nat) (σ : CS) {B : Int32 × CS} (h : m_G_span q σ = some B) {ls : Array Slot} {H : Heap} {locs : List Loc} {cells slots : Nat} (hl : lv_has ls 1 [(0, .ref (b + q))]) (hW : CWS D tc b z s σ0 σ H locs cells slots) : W p l e (CR 3 64 σ0) s m args below meth c H locs cells slots (CE D tc b z below args s σ0 (some (.int B.1)) B.2) (F0 m 0 ls []) := by
  have hx := S.1.1
  have hb := S.1.2.1
  unfold m_G_span at h
  refine lv_aload_n hx hb d_G_span_0 rfl (lv_at hl 0 rfl) ?_
  obtain ⟨hg, h⟩ := gd_s h
  refine cm_cVi [] kx_G S hW hg (fun x σ' hc => c_G_dataLength q σ hc) q_G_dataLength wd_1079 wd_1080 wd_1078 (by decide) hl.1 rfl rfl (Nat.le_of_ble_eq_true rfl) d_G_span_1 h (fun x2 r1 H locs cells slots h hW => ?_)
  refine lv_aload_n hx hb d_G_span_4 rfl (lv_at hl 0 rfl) ?_
  refine lv_iconst (v := 2) hx hb d_G_span_5 (by decide) ?_
  obtain ⟨hg, h⟩ := gd_s h
  refine cm_cVi [.int (2 : Int32)] kx_G S hW hg (fun x σ' hc => c_G_has q (2 : Int32) r1 hc) q_G_has wd_994 wd_995 wd_1082 (by decide) hl.1 rfl rfl (Nat.le_of_ble_eq_true rfl) d_G_span_6 h (fun x4 r3 H locs cells slots h hW => ?_)
  refine rb_eq (tgt := 16) hx hb d_G_span_9 (by decide) h (fun h => ?_) (fun h => ?_)
  · refine lv_iconst (v := 0) hx hb d_G_span_16 (by decide) ?_
    exact t_G_span_17 S x2 (0 : Int32) r3 h (lv_sub hl [0] rfl) hW
  · refine lv_iconst (v := 1) hx hb d_G_span_12 (by decide) ?_
    refine lv_goto (tgt := 17) hx hb d_G_span_13 (by decide) ?_
    exact t_G_span_17 S x2 (1 : Int32) r3 h (lv_sub hl [0] rfl) hW
theorem c_G_span (q : Nat) (σ : CS) {x : Int32} {σ' : CS} (h : m_G_span q σ = some (x, σ')) : CMet l D tc b z y_G_span k_G_span 1 (Option.some Jvm.ClassFile.FieldType.int) 3 64 [.ref (b + q)] σ (some (.int x)) σ' := cm_met (by decide) (Nat.le_of_ble_eq_true rfl) fun p e s m args below meth c S hW ls hl => t_G_span_0 S q σ h hl hW
end

/-! StreamPair$Segment.wordSum ()I -/
abbrev k_G_wordSum : ByteArray := prog_8_method_13_code
abbrev y_G_wordSum : MethodName := ⟨cn_G, "wordSum", "()I"⟩
theorem q_G_wordSum : Calee y_G_wordSum k_G_wordSum 4 (Option.some Jvm.ClassFile.FieldType.int) 0 := ⟨wd_630, wd_102, by decide, by decide +kernel⟩
theorem d_G_wordSum_0 : decode k_G_wordSum 0 = .ok (.sipush 5129, 3) := by decide +kernel
theorem d_G_wordSum_3 : decode k_G_wordSum 3 = .ok (.aload_n 0, 1) := by decide +kernel
theorem d_G_wordSum_4 : decode k_G_wordSum 4 = .ok (.getfield 19, 3) := by decide +kernel
theorem d_G_wordSum_7 : decode k_G_wordSum 7 = .ok (.iadd, 1) := by decide +kernel
theorem d_G_wordSum_8 : decode k_G_wordSum 8 = .ok (.istore_n 1, 1) := by decide +kernel
theorem d_G_wordSum_9 : decode k_G_wordSum 9 = .ok (.iconst 0, 1) := by decide +kernel
theorem d_G_wordSum_10 : decode k_G_wordSum 10 = .ok (.istore_n 2, 1) := by decide +kernel
theorem d_G_wordSum_11 : decode k_G_wordSum 11 = .ok (.iload_n 2, 1) := by decide +kernel
theorem d_G_wordSum_12 : decode k_G_wordSum 12 = .ok (.aload_n 0, 1) := by decide +kernel
theorem d_G_wordSum_13 : decode k_G_wordSum 13 = .ok (.getfield 19, 3) := by decide +kernel
theorem d_G_wordSum_16 : decode k_G_wordSum 16 = .ok (.if_icmp .ge 37, 3) := by decide +kernel
theorem d_G_wordSum_19 : decode k_G_wordSum 19 = .ok (.aload_n 0, 1) := by decide +kernel
theorem d_G_wordSum_20 : decode k_G_wordSum 20 = .ok (.getfield 9, 3) := by decide +kernel
theorem d_G_wordSum_23 : decode k_G_wordSum 23 = .ok (.iload_n 2, 1) := by decide +kernel
theorem d_G_wordSum_24 : decode k_G_wordSum 24 = .ok (.baload, 1) := by decide +kernel
theorem d_G_wordSum_25 : decode k_G_wordSum 25 = .ok (.sipush 255, 3) := by decide +kernel
theorem d_G_wordSum_28 : decode k_G_wordSum 28 = .ok (.iand, 1) := by decide +kernel
theorem d_G_wordSum_29 : decode k_G_wordSum 29 = .ok (.istore_n 3, 1) := by decide +kernel
theorem d_G_wordSum_30 : decode k_G_wordSum 30 = .ok (.iload_n 1, 1) := by decide +kernel
theorem d_G_wordSum_31 : decode k_G_wordSum 31 = .ok (.iload_n 2, 1) := by decide +kernel
theorem d_G_wordSum_32 : decode k_G_wordSum 32 = .ok (.iconst 2, 1) := by decide +kernel
theorem d_G_wordSum_33 : decode k_G_wordSum 33 = .ok (.irem, 1) := by decide +kernel
theorem d_G_wordSum_34 : decode k_G_wordSum 34 = .ok (.ifCond .ne 10, 3) := by decide +kernel
theorem d_G_wordSum_37 : decode k_G_wordSum 37 = .ok (.iload_n 3, 1) := by decide +kernel
theorem d_G_wordSum_38 : decode k_G_wordSum 38 = .ok (.bipush 8, 2) := by decide +kernel
theorem d_G_wordSum_40 : decode k_G_wordSum 40 = .ok (.ishl, 1) := by decide +kernel
theorem d_G_wordSum_41 : decode k_G_wordSum 41 = .ok (.goto 4, 3) := by decide +kernel
theorem d_G_wordSum_44 : decode k_G_wordSum 44 = .ok (.iload_n 3, 1) := by decide +kernel
theorem d_G_wordSum_45 : decode k_G_wordSum 45 = .ok (.iadd, 1) := by decide +kernel
theorem d_G_wordSum_46 : decode k_G_wordSum 46 = .ok (.istore_n 1, 1) := by decide +kernel
theorem d_G_wordSum_47 : decode k_G_wordSum 47 = .ok (.iinc 2 1, 3) := by decide +kernel
theorem d_G_wordSum_50 : decode k_G_wordSum 50 = .ok (.goto (-39), 3) := by decide +kernel
theorem d_G_wordSum_53 : decode k_G_wordSum 53 = .ok (.iload_n 1, 1) := by decide +kernel
theorem d_G_wordSum_54 : decode k_G_wordSum 54 = .ok (.ldc 40, 2) := by decide +kernel
theorem d_G_wordSum_56 : decode k_G_wordSum 56 = .ok (.iand, 1) := by decide +kernel
theorem d_G_wordSum_57 : decode k_G_wordSum 57 = .ok (.iload_n 1, 1) := by decide +kernel
theorem d_G_wordSum_58 : decode k_G_wordSum 58 = .ok (.bipush 16, 2) := by decide +kernel
theorem d_G_wordSum_60 : decode k_G_wordSum 60 = .ok (.iushr, 1) := by decide +kernel
theorem d_G_wordSum_61 : decode k_G_wordSum 61 = .ok (.iadd, 1) := by decide +kernel
theorem d_G_wordSum_62 : decode k_G_wordSum 62 = .ok (.istore_n 1, 1) := by decide +kernel
theorem d_G_wordSum_63 : decode k_G_wordSum 63 = .ok (.iload_n 1, 1) := by decide +kernel
theorem d_G_wordSum_64 : decode k_G_wordSum 64 = .ok (.ldc 40, 2) := by decide +kernel
theorem d_G_wordSum_66 : decode k_G_wordSum 66 = .ok (.iand, 1) := by decide +kernel
theorem d_G_wordSum_67 : decode k_G_wordSum 67 = .ok (.iload_n 1, 1) := by decide +kernel
theorem d_G_wordSum_68 : decode k_G_wordSum 68 = .ok (.bipush 16, 2) := by decide +kernel
theorem d_G_wordSum_70 : decode k_G_wordSum 70 = .ok (.iushr, 1) := by decide +kernel
theorem d_G_wordSum_71 : decode k_G_wordSum 71 = .ok (.iadd, 1) := by decide +kernel
theorem d_G_wordSum_72 : decode k_G_wordSum 72 = .ok (.ireturn, 1) := by decide +kernel
def b_G_wordSum_45 (q : Nat) (rec11 : Int32 → Int32 → CS → Option (Int32 × CS)) (v2 : Int32) (w0 : Int32) (w1 : Int32) (σ : CS) : Option (Int32 × CS) :=
  bd (w0 + w1) fun x1 => bd (v2 + (1 : Int32)) fun x2 => rec11 x1 x2 σ
def F_G_wordSum_11 (q : Nat) (rec11 : Int32 → Int32 → CS → Option (Int32 × CS)) (v1 : Int32) (v2 : Int32) (σ : CS) : Option (Int32 × CS) :=
  gd (kd σ q = 11) <| bd (cI σ q 1) fun x1 => if x1 ≤ v2 then
  (bd ((v1 &&& (65535 : Int32)) + ((v1.toUInt32 >>> ((16 : Int32).toUInt32 &&& Int32.toUInt32 31)).toInt32)) fun x2 => some ((x2 &&& (65535 : Int32)) + ((x2.toUInt32 >>> ((16 : Int32).toUInt32 &&& Int32.toUInt32 31)).toInt32), σ))
 else
  (gd (kd σ q = 11) <| bc (cR σ q 0) fun a3 => gd (kd σ a3 = 21 ∧ inb v2 (cN σ a3)) <| bd (cI σ a3 v2.toNatClampNeg) fun x4 => bd (x4 &&& (255 : Int32)) fun x5 => gd (¬ (2 : Int32) = 0) <| if (v2 - v2 / (2 : Int32) * (2 : Int32)) = 0 then
  (b_G_wordSum_45 q rec11 v2 v1 (x5 <<< ((8 : Int32) &&& 31)) σ)
 else
  (b_G_wordSum_45 q rec11 v2 v1 x5 σ))
def m_G_wordSum (q : Nat) (σ : CS) : Option (Int32 × CS) :=
  gd (kd σ q = 11) <| bd (cI σ q 1) fun x1 => bd ((5129 : Int32) + x1) fun x2 => lq3 (F_G_wordSum_11 q) fuel x2 (0 : Int32) σ
def P_G_wordSum_11 (q : Nat) (p : Program) (l : Launch) (e : Env) (s : State) (m : MethodId) (args : Array Value) (below : List Frame) (meth : Method) (c : Code) (D : va_G) (tc : Nat → ClassId) (b z : Nat) (σ0 : CS) (v1 : Int32) (v2 : Int32) (σ : CS) (B : Int32 × CS) : Prop := ∀ (ls : Array Slot) (H : Heap) (locs : List Loc) (cells slots : Nat), lv_has ls 4 [(0, .ref (b + q)), (1, .int v1), (2, .int v2)] → CWS D tc b z s σ0 σ H locs cells slots → W p l e (CR 0 0 σ0) s m args below meth c H locs cells slots (CE D tc b z below args s σ0 (some (.int B.1)) B.2) (F0 m 11 ls [])
section
variable {p : Program} {l : Launch} {e : Env} {s : State} {m : MethodId} {args : Array Value} {below : List Frame} {meth : Method} {c : Code} {D : va_G} {tc : Nat → ClassId} {b z : Nat} {σ0 : CS}
theorem t_G_wordSum_45 {q : Nat} (S : CC p m c k_G_wordSum 4 s args cn_G meth (Option.some Jvm.ClassFile.FieldType.int) D tc b z) {rec11 : Int32 → Int32 → CS → Option (Int32 × CS)} (hrec11 : ∀ (v1 : Int32) (v2 : Int32) (σ : CS) (B : Int32 × CS), rec11 v1 v2 σ = some B → P_G_wordSum_11 q p l e s m args below meth c D tc b z σ0 v1 v2 σ B) (v2 : Int32) (w0 : Int32) (w1 : Int32) (σ : CS) {B : Int32 × CS} (h : b_G_wordSum_45 q rec11 v2 w0 w1 σ = some B) {ls : Array Slot} {H : Heap} {locs : List Loc} {cells slots : Nat} (hl : lv_has ls 4 [(0, .ref (b + q)), (2, .int v2)]) (hW : CWS D tc b z s σ0 σ H locs cells slots) : W p l e (CR 0 0 σ0) s m args below meth c H locs cells slots (CE D tc b z below args s σ0 (some (.int B.1)) B.2) (F0 m 45 ls [.int w1, .int w0]) := by
  have hx := S.1.1
  have hb := S.1.2.1
  unfold b_G_wordSum_45 at h
  refine lv_iadd hx hb d_G_wordSum_45 ?_
  refine rv_i h (fun x1 h => ?_)
  refine lv_istore_n (lv' := [(1, .int x1), (0, .ref (b + q)), (2, .int v2)]) hx hb d_G_wordSum_46 rfl hl (by decide) rfl (fun ls hl => ?_)
  refine rv_iinc (k := 2) (v := 1) (lv' := fun x2 => [(2, .int x2), (1, .int x1), (0, .ref (b + q))]) hx hb d_G_wordSum_47 hl rfl (by decide) (by decide) (fun _ => rfl) h (fun x2 ls h hl => ?_)
  refine lv_goto (tgt := 11) hx hb d_G_wordSum_50 (by decide) ?_
  exact hrec11 x1 x2 σ _ h _ _ _ _ _ (lv_sub hl [2, 1, 0] rfl) hW
theorem tF_G_wordSum_11 {q : Nat} (S : CC p m c k_G_wordSum 4 s args cn_G meth (Option.some Jvm.ClassFile.FieldType.int) D tc b z) : ∀ (rec11 : Int32 → Int32 → CS → Option (Int32 × CS)), (∀ (v1 : Int32) (v2 : Int32) (σ : CS) (B : Int32 × CS), rec11 v1 v2 σ = some B → P_G_wordSum_11 q p l e s m args below meth c D tc b z σ0 v1 v2 σ B) → ∀ (v1 : Int32) (v2 : Int32) (σ : CS) (B : Int32 × CS), F_G_wordSum_11 q rec11 v1 v2 σ = some B → P_G_wordSum_11 q p l e s m args below meth c D tc b z σ0 v1 v2 σ B := by
  intro rec11 hrec11 v1 v2 σ B h ls H locs cells slots hl hW
  have hx := S.1.1
  have hb := S.1.2.1
  unfold F_G_wordSum_11 at h
  refine lv_iload_n hx hb d_G_wordSum_11 rfl (lv_at hl 2 rfl) ?_
  refine lv_aload_n hx hb d_G_wordSum_12 rfl (lv_at hl 0 rfl) ?_
  obtain ⟨hg, h⟩ := gd_s h
  refine cm_geti kx_G S hW hg 1 wd_587 (by decide) d_G_wordSum_13 h (fun x1 h => ?_)
  refine rc_ge (tgt := 53) hx hb d_G_wordSum_16 (by decide) h (fun h => ?_) (fun h => ?_)
  · refine lv_iload_n hx hb d_G_wordSum_53 rfl (lv_at hl 1 rfl) ?_
    refine lv_ldc hx hb S.1.2.2.2.1 (S.1.2.2.2.2 _ (gi wd_631 rfl)) d_G_wordSum_54 ?_
    refine lv_iand hx hb d_G_wordSum_56 ?_
    refine lv_iload_n hx hb d_G_wordSum_57 rfl (lv_at hl 1 rfl) ?_
    refine lv_bipush (v := 16) hx hb d_G_wordSum_58 (by decide) ?_
    refine lv_iushr hx hb d_G_wordSum_60 rfl ?_
    refine lv_iadd hx hb d_G_wordSum_61 ?_
    refine rv_i h (fun x2 h => ?_)
    refine lv_istore_n (lv' := [(1, .int x2), (0, .ref (b + q)), (2, .int v2)]) hx hb d_G_wordSum_62 rfl hl (by decide) rfl (fun ls hl => ?_)
    refine lv_iload_n hx hb d_G_wordSum_63 rfl (lv_at hl 0 rfl) ?_
    refine lv_ldc hx hb S.1.2.2.2.1 (S.1.2.2.2.2 _ (gi wd_631 rfl)) d_G_wordSum_64 ?_
    refine lv_iand hx hb d_G_wordSum_66 ?_
    refine lv_iload_n hx hb d_G_wordSum_67 rfl (lv_at hl 0 rfl) ?_
    refine lv_bipush (v := 16) hx hb d_G_wordSum_68 (by decide) ?_
    refine lv_iushr hx hb d_G_wordSum_70 rfl ?_
    refine lv_iadd hx hb d_G_wordSum_71 ?_
    exact cm_iret S hW d_G_wordSum_72 h
  · refine lv_aload_n hx hb d_G_wordSum_19 rfl (lv_at hl 0 rfl) ?_
    obtain ⟨hg, h⟩ := gd_s h
    refine cm_getr kx_G S hW hg 0 wd_582 (by decide) d_G_wordSum_20 h (fun a3 h => ?_)
    refine lv_iload_n hx hb d_G_wordSum_23 rfl (lv_at hl 2 rfl) ?_
    refine cm_bald S hW d_G_wordSum_24 h (fun x4 h => ?_)
    refine lv_sipush (v := 255) hx hb d_G_wordSum_25 (by decide) ?_
    refine lv_iand hx hb d_G_wordSum_28 ?_
    refine rv_i h (fun x5 h => ?_)
    refine lv_istore_n (lv' := [(3, .int x5), (0, .ref (b + q)), (1, .int v1), (2, .int v2)]) hx hb d_G_wordSum_29 rfl hl (by decide) rfl (fun ls hl => ?_)
    refine lv_iload_n hx hb d_G_wordSum_30 rfl (lv_at hl 2 rfl) ?_
    refine lv_iload_n hx hb d_G_wordSum_31 rfl (lv_at hl 3 rfl) ?_
    refine lv_iconst (v := 2) hx hb d_G_wordSum_32 (by decide) ?_
    refine rv_irem hx hb d_G_wordSum_33 h (fun h => ?_)
    refine rb_ne (tgt := 44) hx hb d_G_wordSum_34 (by decide) h (fun h => ?_) (fun h => ?_)
    · refine lv_iload_n hx hb d_G_wordSum_44 rfl (lv_at hl 0 rfl) ?_
      exact t_G_wordSum_45 S hrec11 v2 v1 x5 σ h (lv_sub hl [1, 3] rfl) hW
    · refine lv_iload_n hx hb d_G_wordSum_37 rfl (lv_at hl 0 rfl) ?_
      refine lv_bipush (v := 8) hx hb d_G_wordSum_38 (by decide) ?_
      refine lv_ishl hx hb d_G_wordSum_40 ?_
      refine lv_goto (tgt := 45) hx hb d_G_wordSum_41 (by decide) ?_
      exact t_G_wordSum_45 S hrec11 v2 v1 (x5 <<< ((8 : Int32) &&& 31)) σ h (lv_sub hl [1, 3] rfl) hW
theorem t_G_wordSum_11 {q : Nat} (S : CC p m c k_G_wordSum 4 s args cn_G meth (Option.some Jvm.ClassFile.FieldType.int) D tc b z) : ∀ (n : Nat) (v1 : Int32) (v2 : Int32) (σ : CS) (B : Int32 × CS), lq3 (F_G_wordSum_11 q) n v1 v2 σ = some B → P_G_wordSum_11 q p l e s m args below meth c D tc b z σ0 v1 v2 σ B := lq3_s (tF_G_wordSum_11 S)
theorem t_G_wordSum_0 (S : CC p m c k_G_wordSum 4 s args cn_G meth (Option.some Jvm.ClassFile.FieldType.int) D tc b z) (q : Nat) (σ : CS) {B : Int32 × CS} (h : m_G_wordSum q σ = some B) {ls : Array Slot} {H : Heap} {locs : List Loc} {cells slots : Nat} (hl : lv_has ls 4 [(0, .ref (b + q))]) (hW : CWS D tc b z s σ0 σ H locs cells slots) : W p l e (CR 0 0 σ0) s m args below meth c H locs cells slots (CE D tc b z below args s σ0 (some (.int B.1)) B.2) (F0 m 0 ls []) := by
  have hx := S.1.1
  have hb := S.1.2.1
  unfold m_G_wordSum at h
  refine lv_sipush (v := 5129) hx hb d_G_wordSum_0 (by decide) ?_
  refine lv_aload_n hx hb d_G_wordSum_3 rfl (lv_at hl 0 rfl) ?_
  obtain ⟨hg, h⟩ := gd_s h
  refine cm_geti kx_G S hW hg 1 wd_587 (by decide) d_G_wordSum_4 h (fun x1 h => ?_)
  refine lv_iadd hx hb d_G_wordSum_7 ?_
  refine rv_i h (fun x2 h => ?_)
  refine lv_istore_n (lv' := [(1, .int x2), (0, .ref (b + q))]) hx hb d_G_wordSum_8 rfl hl (by decide) rfl (fun ls hl => ?_)
  refine lv_iconst (v := 0) hx hb d_G_wordSum_9 (by decide) ?_
  refine lv_istore_n (lv' := [(2, .int (0 : Int32)), (1, .int x2), (0, .ref (b + q))]) hx hb d_G_wordSum_10 rfl hl (by decide) rfl (fun ls hl => ?_)
  exact t_G_wordSum_11 S fuel x2 (0 : Int32) σ _ h _ _ _ _ _ (lv_sub hl [2, 1, 0] rfl) hW
theorem c_G_wordSum (q : Nat) (σ : CS) {x : Int32} {σ' : CS} (h : m_G_wordSum q σ = some (x, σ')) : CMet l D tc b z y_G_wordSum k_G_wordSum 4 (Option.some Jvm.ClassFile.FieldType.int) 0 0 [.ref (b + q)] σ (some (.int x)) σ' := cm_met (by decide) (Nat.le_of_ble_eq_true rfl) fun p e s m args below meth c S hW ls hl => t_G_wordSum_0 S q σ h hl hW
end

/-! StreamPair$Segment.isWellFormed ()Z -/
abbrev k_G_isWellFormed : ByteArray := prog_8_method_12_code
abbrev y_G_isWellFormed : MethodName := ⟨cn_G, "isWellFormed", "()Z"⟩
theorem q_G_isWellFormed : Calee y_G_isWellFormed k_G_isWellFormed 1 (Option.some Jvm.ClassFile.FieldType.boolean) 0 := ⟨wd_979, wd_102, by decide, by decide +kernel⟩
theorem d_G_isWellFormed_0 : decode k_G_isWellFormed 0 = .ok (.aload_n 0, 1) := by decide +kernel
theorem d_G_isWellFormed_1 : decode k_G_isWellFormed 1 = .ok (.getfield 19, 3) := by decide +kernel
theorem d_G_isWellFormed_4 : decode k_G_isWellFormed 4 = .ok (.bipush 20, 2) := by decide +kernel
theorem d_G_isWellFormed_6 : decode k_G_isWellFormed 6 = .ok (.if_icmp .lt 36, 3) := by decide +kernel
theorem d_G_isWellFormed_9 : decode k_G_isWellFormed 9 = .ok (.aload_n 0, 1) := by decide +kernel
theorem d_G_isWellFormed_10 : decode k_G_isWellFormed 10 = .ok (.invokevirtual 26, 3) := by decide +kernel
theorem d_G_isWellFormed_13 : decode k_G_isWellFormed 13 = .ok (.bipush 20, 2) := by decide +kernel
theorem d_G_isWellFormed_15 : decode k_G_isWellFormed 15 = .ok (.if_icmp .lt 27, 3) := by decide +kernel
theorem d_G_isWellFormed_18 : decode k_G_isWellFormed 18 = .ok (.aload_n 0, 1) := by decide +kernel
theorem d_G_isWellFormed_19 : decode k_G_isWellFormed 19 = .ok (.invokevirtual 26, 3) := by decide +kernel
theorem d_G_isWellFormed_22 : decode k_G_isWellFormed 22 = .ok (.aload_n 0, 1) := by decide +kernel
theorem d_G_isWellFormed_23 : decode k_G_isWellFormed 23 = .ok (.getfield 19, 3) := by decide +kernel
theorem d_G_isWellFormed_26 : decode k_G_isWellFormed 26 = .ok (.if_icmp .gt 16, 3) := by decide +kernel
theorem d_G_isWellFormed_29 : decode k_G_isWellFormed 29 = .ok (.aload_n 0, 1) := by decide +kernel
theorem d_G_isWellFormed_30 : decode k_G_isWellFormed 30 = .ok (.invokevirtual 37, 3) := by decide +kernel
theorem d_G_isWellFormed_33 : decode k_G_isWellFormed 33 = .ok (.ldc 40, 2) := by decide +kernel
theorem d_G_isWellFormed_35 : decode k_G_isWellFormed 35 = .ok (.if_icmp .ne 7, 3) := by decide +kernel
theorem d_G_isWellFormed_38 : decode k_G_isWellFormed 38 = .ok (.iconst 1, 1) := by decide +kernel
theorem d_G_isWellFormed_39 : decode k_G_isWellFormed 39 = .ok (.goto 4, 3) := by decide +kernel
theorem d_G_isWellFormed_42 : decode k_G_isWellFormed 42 = .ok (.iconst 0, 1) := by decide +kernel
theorem d_G_isWellFormed_43 : decode k_G_isWellFormed 43 = .ok (.ireturn, 1) := by decide +kernel
def b_G_isWellFormed_43 (q : Nat) (w0 : Int32) (σ : CS) : Option (Int32 × CS) :=
  gd (w0 = 0 ∨ w0 = 1) (some (w0, σ))
def b_G_isWellFormed_42 (q : Nat) (σ : CS) : Option (Int32 × CS) :=
  b_G_isWellFormed_43 q (0 : Int32) σ
def m_G_isWellFormed (q : Nat) (σ : CS) : Option (Int32 × CS) :=
  gd (kd σ q = 11) <| bd (cI σ q 1) fun x1 => if x1 < (20 : Int32) then
  (b_G_isWellFormed_42 q  σ)
 else
  (gd (kd σ q = 11) <| bc2 (m_G_headerLength q σ) fun x3 r2 => if x3 < (20 : Int32) then
  (b_G_isWellFormed_42 q  r2)
 else
  (gd (kd r2 q = 11) <| bc2 (m_G_headerLength q r2) fun x5 r4 => gd (kd r4 q = 11) <| bd (cI r4 q 1) fun x6 => if x6 < x5 then
  (b_G_isWellFormed_42 q  r4)
 else
  (gd (kd r4 q = 11) <| bc2 (m_G_wordSum q r4) fun x8 r7 => if x8 = (65535 : Int32) then
  (b_G_isWellFormed_43 q (1 : Int32) r7)
 else
  (b_G_isWellFormed_42 q  r7))))
section
variable {p : Program} {l : Launch} {e : Env} {s : State} {m : MethodId} {args : Array Value} {below : List Frame} {meth : Method} {c : Code} {D : va_G} {tc : Nat → ClassId} {b z : Nat} {σ0 : CS}
theorem t_G_isWellFormed_43 {q : Nat} (S : CC p m c k_G_isWellFormed 1 s args cn_G meth (Option.some Jvm.ClassFile.FieldType.boolean) D tc b z) (w0 : Int32) (σ : CS) {B : Int32 × CS} (h : b_G_isWellFormed_43 q w0 σ = some B) {ls : Array Slot} {H : Heap} {locs : List Loc} {cells slots : Nat} (hl : lv_has ls 1 []) (hW : CWS D tc b z s σ0 σ H locs cells slots) : W p l e (CR 2 44 σ0) s m args below meth c H locs cells slots (CE D tc b z below args s σ0 (some (.int B.1)) B.2) (F0 m 43 ls [.int w0]) := by
  have hx := S.1.1
  have hb := S.1.2.1
  unfold b_G_isWellFormed_43 at h
  exact cm_zret S hW d_G_isWellFormed_43 h
theorem t_G_isWellFormed_42 {q : Nat} (S : CC p m c k_G_isWellFormed 1 s args cn_G meth (Option.some Jvm.ClassFile.FieldType.boolean) D tc b z) (σ : CS) {B : Int32 × CS} (h : b_G_isWellFormed_42 q  σ = some B) {ls : Array Slot} {H : Heap} {locs : List Loc} {cells slots : Nat} (hl : lv_has ls 1 []) (hW : CWS D tc b z s σ0 σ H locs cells slots) : W p l e (CR 2 44 σ0) s m args below meth c H locs cells slots (CE D tc b z below args s σ0 (some (.int B.1)) B.2) (F0 m 42 ls []) := by
  have hx := S.1.1
  have hb := S.1.2.1
  unfold b_G_isWellFormed_42 at h
  refine lv_iconst (v := 0) hx hb d_G_isWellFormed_42 (by decide) ?_
  exact t_G_isWellFormed_43 S (0 : Int32) σ h (lv_sub hl [] rfl) hW
theorem t_G_isWellFormed_0 (S : CC p m c k_G_isWellFormed 1 s args cn_G meth (Option.some Jvm.ClassFile.FieldType.boolean) D tc b z) (q : Nat) (σ : CS) {B : Int32 × CS} (h : m_G_isWellFormed q σ = some B) {ls : Array Slot} {H : Heap} {locs : List Loc} {cells slots : Nat} (hl : lv_has ls 1 [(0, .ref (b + q))]) (hW : CWS D tc b z s σ0 σ H locs cells slots) : W p l e (CR 2 44 σ0) s m args below meth c H locs cells slots (CE D tc b z below args s σ0 (some (.int B.1)) B.2) (F0 m 0 ls []) := by
  have hx := S.1.1
  have hb := S.1.2.1
  unfold m_G_isWellFormed at h
  refine lv_aload_n hx hb d_G_isWellFormed_0 rfl (lv_at hl 0 rfl) ?_
  obtain ⟨hg, h⟩ := gd_s h
  refine cm_geti kx_G S hW hg 1 wd_587 (by decide) d_G_isWellFormed_1 h (fun x1 h => ?_)
  refine lv_bipush (v := 20) hx hb d_G_isWellFormed_4 (by decide) ?_
  refine rc_lt (tgt := 42) hx hb d_G_isWellFormed_6 (by decide) h (fun h => ?_) (fun h => ?_)
  · exact t_G_isWellFormed_42 S  σ h (lv_sub hl [] rfl) hW
  · refine lv_aload_n hx hb d_G_isWellFormed_9 rfl (lv_at hl 0 rfl) ?_
    obtain ⟨hg, h⟩ := gd_s h
    refine cm_cVi [] kx_G S hW hg (fun x σ' hc => c_G_headerLength q σ hc) q_G_headerLength wd_981 wd_982 wd_980 (by decide) hl.1 rfl rfl (Nat.le_of_ble_eq_true rfl) d_G_isWellFormed_10 h (fun x3 r2 H locs cells slots h hW => ?_)
    refine lv_bipush (v := 20) hx hb d_G_isWellFormed_13 (by decide) ?_
    refine rc_lt (tgt := 42) hx hb d_G_isWellFormed_15 (by decide) h (fun h => ?_) (fun h => ?_)
    · exact t_G_isWellFormed_42 S  r2 h (lv_sub hl [] rfl) hW
    · refine lv_aload_n hx hb d_G_isWellFormed_18 rfl (lv_at hl 0 rfl) ?_
      obtain ⟨hg, h⟩ := gd_s h
      refine cm_cVi [] kx_G S hW hg (fun x σ' hc => c_G_headerLength q r2 hc) q_G_headerLength wd_981 wd_982 wd_980 (by decide) hl.1 rfl rfl (Nat.le_of_ble_eq_true rfl) d_G_isWellFormed_19 h (fun x5 r4 H locs cells slots h hW => ?_)
      refine lv_aload_n hx hb d_G_isWellFormed_22 rfl (lv_at hl 0 rfl) ?_
      obtain ⟨hg, h⟩ := gd_s h
      refine cm_geti kx_G S hW hg 1 wd_587 (by decide) d_G_isWellFormed_23 h (fun x6 h => ?_)
      refine rc_gt (tgt := 42) hx hb d_G_isWellFormed_26 (by decide) h (fun h => ?_) (fun h => ?_)
      · exact t_G_isWellFormed_42 S  r4 h (lv_sub hl [] rfl) hW
      · refine lv_aload_n hx hb d_G_isWellFormed_29 rfl (lv_at hl 0 rfl) ?_
        obtain ⟨hg, h⟩ := gd_s h
        refine cm_cVi [] kx_G S hW hg (fun x σ' hc => c_G_wordSum q r4 hc) q_G_wordSum wd_628 wd_629 wd_627 (by decide) hl.1 rfl rfl (Nat.le_of_ble_eq_true rfl) d_G_isWellFormed_30 h (fun x8 r7 H locs cells slots h hW => ?_)
        refine lv_ldc hx hb S.1.2.2.2.1 (S.1.2.2.2.2 _ (gi wd_631 rfl)) d_G_isWellFormed_33 ?_
        refine rc_ne (tgt := 42) hx hb d_G_isWellFormed_35 (by decide) h (fun h => ?_) (fun h => ?_)
        · exact t_G_isWellFormed_42 S  r7 h (lv_sub hl [] rfl) hW
        · refine lv_iconst (v := 1) hx hb d_G_isWellFormed_38 (by decide) ?_
          refine lv_goto (tgt := 43) hx hb d_G_isWellFormed_39 (by decide) ?_
          exact t_G_isWellFormed_43 S (1 : Int32) r7 h (lv_sub hl [] rfl) hW
theorem c_G_isWellFormed (q : Nat) (σ : CS) {x : Int32} {σ' : CS} (h : m_G_isWellFormed q σ = some (x, σ')) : CMet l D tc b z y_G_isWellFormed k_G_isWellFormed 1 (Option.some Jvm.ClassFile.FieldType.boolean) 2 44 [.ref (b + q)] σ (some (.int x)) σ' := cm_met (by decide) (Nat.le_of_ble_eq_true rfl) fun p e s m args below meth c S hW ls hl => t_G_isWellFormed_0 S q σ h hl hW
end

/-! StreamPair$Segment.mendChecksum ()V -/
abbrev k_G_mendChecksum : ByteArray := prog_8_method_14_code
abbrev y_G_mendChecksum : MethodName := ⟨cn_G, "mendChecksum", "()V"⟩
theorem q_G_mendChecksum : Calee y_G_mendChecksum k_G_mendChecksum 1 none 0 := ⟨wd_625, wd_102, by decide, by decide +kernel⟩
theorem d_G_mendChecksum_0 : decode k_G_mendChecksum 0 = .ok (.aload_n 0, 1) := by decide +kernel
theorem d_G_mendChecksum_1 : decode k_G_mendChecksum 1 = .ok (.bipush 16, 2) := by decide +kernel
theorem d_G_mendChecksum_3 : decode k_G_mendChecksum 3 = .ok (.iconst 2, 1) := by decide +kernel
theorem d_G_mendChecksum_4 : decode k_G_mendChecksum 4 = .ok (.iconst 0, 1) := by decide +kernel
theorem d_G_mendChecksum_5 : decode k_G_mendChecksum 5 = .ok (.invokevirtual 41, 3) := by decide +kernel
theorem d_G_mendChecksum_8 : decode k_G_mendChecksum 8 = .ok (.aload_n 0, 1) := by decide +kernel
theorem d_G_mendChecksum_9 : decode k_G_mendChecksum 9 = .ok (.bipush 16, 2) := by decide +kernel
theorem d_G_mendChecksum_11 : decode k_G_mendChecksum 11 = .ok (.iconst 2, 1) := by decide +kernel
theorem d_G_mendChecksum_12 : decode k_G_mendChecksum 12 = .ok (.aload_n 0, 1) := by decide +kernel
theorem d_G_mendChecksum_13 : decode k_G_mendChecksum 13 = .ok (.invokevirtual 37, 3) := by decide +kernel
theorem d_G_mendChecksum_16 : decode k_G_mendChecksum 16 = .ok (.iconst (-1), 1) := by decide +kernel
theorem d_G_mendChecksum_17 : decode k_G_mendChecksum 17 = .ok (.ixor, 1) := by decide +kernel
theorem d_G_mendChecksum_18 : decode k_G_mendChecksum 18 = .ok (.invokevirtual 41, 3) := by decide +kernel
theorem d_G_mendChecksum_21 : decode k_G_mendChecksum 21 = .ok (.return_, 1) := by decide +kernel
def m_G_mendChecksum (q : Nat) (σ : CS) : Option (CS) :=
  gd (kd σ q = 11) <| bc (m_G_put q (16 : Int32) (2 : Int32) (0 : Int32) σ) fun r1 => gd (kd r1 q = 11) <| bc2 (m_G_wordSum q r1) fun x3 r2 => gd (kd r2 q = 11) <| bc (m_G_put q (16 : Int32) (2 : Int32) (x3 ^^^ (-1 : Int32)) r2) fun r4 => some r4
section
variable {p : Program} {l : Launch} {e : Env} {s : State} {m : MethodId} {args : Array Value} {below : List Frame} {meth : Method} {c : Code} {D : va_G} {tc : Nat → ClassId} {b z : Nat} {σ0 : CS}
theorem t_G_mendChecksum_0 (S : CC p m c k_G_mendChecksum 1 s args cn_G meth none D tc b z) (q : Nat) (σ : CS) {B : CS} (h : m_G_mendChecksum q σ = some B) {ls : Array Slot} {H : Heap} {locs : List Loc} {cells slots : Nat} (hl : lv_has ls 1 [(0, .ref (b + q))]) (hW : CWS D tc b z s σ0 σ H locs cells slots) : W p l e (CR 1 24 σ0) s m args below meth c H locs cells slots (CE D tc b z below args s σ0 none B) (F0 m 0 ls []) := by
  have hx := S.1.1
  have hb := S.1.2.1
  unfold m_G_mendChecksum at h
  refine lv_aload_n hx hb d_G_mendChecksum_0 rfl (lv_at hl 0 rfl) ?_
  refine lv_bipush (v := 16) hx hb d_G_mendChecksum_1 (by decide) ?_
  refine lv_iconst (v := 2) hx hb d_G_mendChecksum_3 (by decide) ?_
  refine lv_iconst (v := 0) hx hb d_G_mendChecksum_4 (by decide) ?_
  obtain ⟨hg, h⟩ := gd_s h
  refine cm_cVv [.int (16 : Int32), .int (2 : Int32), .int (0 : Int32)] kx_G S hW hg (fun σ' hc => c_G_put q (16 : Int32) (2 : Int32) (0 : Int32) σ hc) q_G_put wd_613 wd_614 wd_626 (by decide) hl.1 rfl rfl (Nat.le_of_ble_eq_true rfl) d_G_mendChecksum_5 h (fun r1 H locs cells slots h hW => ?_)
  refine lv_aload_n hx hb d_G_mendChecksum_8 rfl (lv_at hl 0 rfl) ?_
  refine lv_bipush (v := 16) hx hb d_G_mendChecksum_9 (by decide) ?_
  refine lv_iconst (v := 2) hx hb d_G_mendChecksum_11 (by decide) ?_
  refine lv_aload_n hx hb d_G_mendChecksum_12 rfl (lv_at hl 0 rfl) ?_
  obtain ⟨hg, h⟩ := gd_s h
  refine cm_cVi [] kx_G S hW hg (fun x σ' hc => c_G_wordSum q r1 hc) q_G_wordSum wd_628 wd_629 wd_627 (by decide) hl.1 rfl rfl (Nat.le_of_ble_eq_true rfl) d_G_mendChecksum_13 h (fun x3 r2 H locs cells slots h hW => ?_)
  refine lv_iconst (v := -1) hx hb d_G_mendChecksum_16 (by decide) ?_
  refine lv_ixor hx hb d_G_mendChecksum_17 ?_
  obtain ⟨hg, h⟩ := gd_s h
  refine cm_cVv [.int (16 : Int32), .int (2 : Int32), .int (x3 ^^^ (-1 : Int32))] kx_G S hW hg (fun σ' hc => c_G_put q (16 : Int32) (2 : Int32) (x3 ^^^ (-1 : Int32)) r2 hc) q_G_put wd_613 wd_614 wd_626 (by decide) hl.1 rfl rfl (Nat.le_of_ble_eq_true rfl) d_G_mendChecksum_18 h (fun r4 H locs cells slots h hW => ?_)
  exact cm_vret S hW d_G_mendChecksum_21 h
theorem c_G_mendChecksum (q : Nat) (σ : CS) {B : CS} (h : m_G_mendChecksum q σ = some B) : CMet l D tc b z y_G_mendChecksum k_G_mendChecksum 1 none 1 24 [.ref (b + q)] σ none B := cm_met (by decide) (Nat.le_of_ble_eq_true rfl) fun p e s m args below meth c S hW ls hl => t_G_mendChecksum_0 S q σ h hl hW
end

/-! StreamPair$Segment.toldMss ()I -/
abbrev k_G_toldMss : ByteArray := prog_8_method_15_code
abbrev y_G_toldMss : MethodName := ⟨cn_G, "toldMss", "()I"⟩
theorem q_G_toldMss : Calee y_G_toldMss k_G_toldMss 6 (Option.some Jvm.ClassFile.FieldType.int) 0 := ⟨wd_1025, wd_102, by decide, by decide +kernel⟩
theorem d_G_toldMss_0 : decode k_G_toldMss 0 = .ok (.sipush 536, 3) := by decide +kernel
theorem d_G_toldMss_3 : decode k_G_toldMss 3 = .ok (.istore_n 1, 1) := by decide +kernel
theorem d_G_toldMss_4 : decode k_G_toldMss 4 = .ok (.aload_n 0, 1) := by decide +kernel
theorem d_G_toldMss_5 : decode k_G_toldMss 5 = .ok (.invokevirtual 26, 3) := by decide +kernel
theorem d_G_toldMss_8 : decode k_G_toldMss 8 = .ok (.istore_n 2, 1) := by decide +kernel
theorem d_G_toldMss_9 : decode k_G_toldMss 9 = .ok (.bipush 20, 2) := by decide +kernel
theorem d_G_toldMss_11 : decode k_G_toldMss 11 = .ok (.istore_n 3, 1) := by decide +kernel
theorem d_G_toldMss_12 : decode k_G_toldMss 12 = .ok (.iload_n 3, 1) := by decide +kernel
theorem d_G_toldMss_13 : decode k_G_toldMss 13 = .ok (.iload_n 2, 1) := by decide +kernel
theorem d_G_toldMss_14 : decode k_G_toldMss 14 = .ok (.if_icmp .ge 98, 3) := by decide +kernel
theorem d_G_toldMss_17 : decode k_G_toldMss 17 = .ok (.aload_n 0, 1) := by decide +kernel
theorem d_G_toldMss_18 : decode k_G_toldMss 18 = .ok (.iload_n 3, 1) := by decide +kernel
theorem d_G_toldMss_19 : decode k_G_toldMss 19 = .ok (.iconst 1, 1) := by decide +kernel
theorem d_G_toldMss_20 : decode k_G_toldMss 20 = .ok (.invokevirtual 22, 3) := by decide +kernel
theorem d_G_toldMss_23 : decode k_G_toldMss 23 = .ok (.istore 4, 2) := by decide +kernel
theorem d_G_toldMss_25 : decode k_G_toldMss 25 = .ok (.iload 4, 2) := by decide +kernel
theorem d_G_toldMss_27 : decode k_G_toldMss 27 = .ok (.ifCond .ne 6, 3) := by decide +kernel
theorem d_G_toldMss_30 : decode k_G_toldMss 30 = .ok (.goto 82, 3) := by decide +kernel
theorem d_G_toldMss_33 : decode k_G_toldMss 33 = .ok (.iload 4, 2) := by decide +kernel
theorem d_G_toldMss_35 : decode k_G_toldMss 35 = .ok (.iconst 1, 1) := by decide +kernel
theorem d_G_toldMss_36 : decode k_G_toldMss 36 = .ok (.if_icmp .ne 9, 3) := by decide +kernel
theorem d_G_toldMss_39 : decode k_G_toldMss 39 = .ok (.iinc 3 1, 3) := by decide +kernel
theorem d_G_toldMss_42 : decode k_G_toldMss 42 = .ok (.goto (-30), 3) := by decide +kernel
theorem d_G_toldMss_45 : decode k_G_toldMss 45 = .ok (.iload_n 3, 1) := by decide +kernel
theorem d_G_toldMss_46 : decode k_G_toldMss 46 = .ok (.iconst 1, 1) := by decide +kernel
theorem d_G_toldMss_47 : decode k_G_toldMss 47 = .ok (.iadd, 1) := by decide +kernel
theorem d_G_toldMss_48 : decode k_G_toldMss 48 = .ok (.iload_n 2, 1) := by decide +kernel
theorem d_G_toldMss_49 : decode k_G_toldMss 49 = .ok (.if_icmp .ge 14, 3) := by decide +kernel
theorem d_G_toldMss_52 : decode k_G_toldMss 52 = .ok (.aload_n 0, 1) := by decide +kernel
theorem d_G_toldMss_53 : decode k_G_toldMss 53 = .ok (.iload_n 3, 1) := by decide +kernel
theorem d_G_toldMss_54 : decode k_G_toldMss 54 = .ok (.iconst 1, 1) := by decide +kernel
theorem d_G_toldMss_55 : decode k_G_toldMss 55 = .ok (.iadd, 1) := by decide +kernel
theorem d_G_toldMss_56 : decode k_G_toldMss 56 = .ok (.iconst 1, 1) := by decide +kernel
theorem d_G_toldMss_57 : decode k_G_toldMss 57 = .ok (.invokevirtual 22, 3) := by decide +kernel
theorem d_G_toldMss_60 : decode k_G_toldMss 60 = .ok (.goto 4, 3) := by decide +kernel
theorem d_G_toldMss_63 : decode k_G_toldMss 63 = .ok (.iconst 0, 1) := by decide +kernel
theorem d_G_toldMss_64 : decode k_G_toldMss 64 = .ok (.istore 5, 2) := by decide +kernel
theorem d_G_toldMss_66 : decode k_G_toldMss 66 = .ok (.iload 5, 2) := by decide +kernel
theorem d_G_toldMss_68 : decode k_G_toldMss 68 = .ok (.iconst 2, 1) := by decide +kernel
theorem d_G_toldMss_69 : decode k_G_toldMss 69 = .ok (.if_icmp .lt 43, 3) := by decide +kernel
theorem d_G_toldMss_72 : decode k_G_toldMss 72 = .ok (.iload_n 3, 1) := by decide +kernel
theorem d_G_toldMss_73 : decode k_G_toldMss 73 = .ok (.iload 5, 2) := by decide +kernel
theorem d_G_toldMss_75 : decode k_G_toldMss 75 = .ok (.iadd, 1) := by decide +kernel
theorem d_G_toldMss_76 : decode k_G_toldMss 76 = .ok (.iload_n 2, 1) := by decide +kernel
theorem d_G_toldMss_77 : decode k_G_toldMss 77 = .ok (.if_icmp .le 6, 3) := by decide +kernel
theorem d_G_toldMss_80 : decode k_G_toldMss 80 = .ok (.goto 32, 3) := by decide +kernel
theorem d_G_toldMss_83 : decode k_G_toldMss 83 = .ok (.iload 4, 2) := by decide +kernel
theorem d_G_toldMss_85 : decode k_G_toldMss 85 = .ok (.iconst 2, 1) := by decide +kernel
theorem d_G_toldMss_86 : decode k_G_toldMss 86 = .ok (.if_icmp .ne 18, 3) := by decide +kernel
theorem d_G_toldMss_89 : decode k_G_toldMss 89 = .ok (.iload 5, 2) := by decide +kernel
theorem d_G_toldMss_91 : decode k_G_toldMss 91 = .ok (.iconst 4, 1) := by decide +kernel
theorem d_G_toldMss_92 : decode k_G_toldMss 92 = .ok (.if_icmp .ne 12, 3) := by decide +kernel
theorem d_G_toldMss_95 : decode k_G_toldMss 95 = .ok (.aload_n 0, 1) := by decide +kernel
theorem d_G_toldMss_96 : decode k_G_toldMss 96 = .ok (.iload_n 3, 1) := by decide +kernel
theorem d_G_toldMss_97 : decode k_G_toldMss 97 = .ok (.iconst 2, 1) := by decide +kernel
theorem d_G_toldMss_98 : decode k_G_toldMss 98 = .ok (.iadd, 1) := by decide +kernel
theorem d_G_toldMss_99 : decode k_G_toldMss 99 = .ok (.iconst 2, 1) := by decide +kernel
theorem d_G_toldMss_100 : decode k_G_toldMss 100 = .ok (.invokevirtual 22, 3) := by decide +kernel
theorem d_G_toldMss_103 : decode k_G_toldMss 103 = .ok (.istore_n 1, 1) := by decide +kernel
theorem d_G_toldMss_104 : decode k_G_toldMss 104 = .ok (.iload_n 3, 1) := by decide +kernel
theorem d_G_toldMss_105 : decode k_G_toldMss 105 = .ok (.iload 5, 2) := by decide +kernel
theorem d_G_toldMss_107 : decode k_G_toldMss 107 = .ok (.iadd, 1) := by decide +kernel
theorem d_G_toldMss_108 : decode k_G_toldMss 108 = .ok (.istore_n 3, 1) := by decide +kernel
theorem d_G_toldMss_109 : decode k_G_toldMss 109 = .ok (.goto (-97), 3) := by decide +kernel
theorem d_G_toldMss_112 : decode k_G_toldMss 112 = .ok (.iload_n 1, 1) := by decide +kernel
theorem d_G_toldMss_113 : decode k_G_toldMss 113 = .ok (.bipush 64, 2) := by decide +kernel
theorem d_G_toldMss_115 : decode k_G_toldMss 115 = .ok (.invokestatic 45, 3) := by decide +kernel
theorem d_G_toldMss_118 : decode k_G_toldMss 118 = .ok (.ireturn, 1) := by decide +kernel
def b_G_toldMss_112 (q : Nat) (v1 : Int32) (σ : CS) : Option (Int32 × CS) :=
  bd (if v1 < (64 : Int32) then (64 : Int32) else v1) fun x1 => some (x1, σ)
def b_G_toldMss_104 (q : Nat) (rec12 : Int32 → Int32 → Int32 → CS → Option (Int32 × CS)) (v1 : Int32) (v2 : Int32) (v3 : Int32) (v5 : Int32) (σ : CS) : Option (Int32 × CS) :=
  bd (v3 + v5) fun x1 => rec12 v1 v2 x1 σ
def b_G_toldMss_64 (q : Nat) (rec12 : Int32 → Int32 → Int32 → CS → Option (Int32 × CS)) (v1 : Int32) (v2 : Int32) (v3 : Int32) (v4 : Int32) (w0 : Int32) (σ : CS) : Option (Int32 × CS) :=
  if w0 < (2 : Int32) then
  (b_G_toldMss_112 q v1 σ)
 else
  (if (v3 + w0) ≤ v2 then
  (if v4 = (2 : Int32) then
  (if w0 = (4 : Int32) then
  (gd (kd σ q = 11) <| bc2 (m_G_number q (v3 + (2 : Int32)) (2 : Int32) σ) fun x2 r1 => b_G_toldMss_104 q rec12 x2 v2 v3 w0 r1)
 else
  (b_G_toldMss_104 q rec12 v1 v2 v3 w0 σ))
 else
  (b_G_toldMss_104 q rec12 v1 v2 v3 w0 σ))
 else
  (b_G_toldMss_112 q v1 σ))
def F_G_toldMss_12 (q : Nat) (rec12 : Int32 → Int32 → Int32 → CS → Option (Int32 × CS)) (v1 : Int32) (v2 : Int32) (v3 : Int32) (σ : CS) : Option (Int32 × CS) :=
  if v2 ≤ v3 then
  (b_G_toldMss_112 q v1 σ)
 else
  (gd (kd σ q = 11) <| bc2 (m_G_number q v3 (1 : Int32) σ) fun x2 r1 => if x2 = 0 then
  (b_G_toldMss_112 q v1 r1)
 else
  (if x2 = (1 : Int32) then
  (bd (v3 + (1 : Int32)) fun x5 => rec12 v1 v2 x5 r1)
 else
  (if v2 ≤ (v3 + (1 : Int32)) then
  (b_G_toldMss_64 q rec12 v1 v2 v3 x2 (0 : Int32) r1)
 else
  (gd (kd r1 q = 11) <| bc2 (m_G_number q (v3 + (1 : Int32)) (1 : Int32) r1) fun x4 r3 => b_G_toldMss_64 q rec12 v1 v2 v3 x2 x4 r3))))
def m_G_toldMss (q : Nat) (σ : CS) : Option (Int32 × CS) :=
  gd (kd σ q = 11) <| bc2 (m_G_headerLength q σ) fun x2 r1 => lq4 (F_G_toldMss_12 q) fuel (536 : Int32) x2 (20 : Int32) r1
def P_G_toldMss_12 (q : Nat) (p : Program) (l : Launch) (e : Env) (s : State) (m : MethodId) (args : Array Value) (below : List Frame) (meth : Method) (c : Code) (D : va_G) (tc : Nat → ClassId) (b z : Nat) (σ0 : CS) (v1 : Int32) (v2 : Int32) (v3 : Int32) (σ : CS) (B : Int32 × CS) : Prop := ∀ (ls : Array Slot) (H : Heap) (locs : List Loc) (cells slots : Nat), lv_has ls 6 [(0, .ref (b + q)), (1, .int v1), (2, .int v2), (3, .int v3)] → CWS D tc b z s σ0 σ H locs cells slots → W p l e (CR 2 44 σ0) s m args below meth c H locs cells slots (CE D tc b z below args s σ0 (some (.int B.1)) B.2) (F0 m 12 ls [])
section
variable {p : Program} {l : Launch} {e : Env} {s : State} {m : MethodId} {args : Array Value} {below : List Frame} {meth : Method} {c : Code} {D : va_G} {tc : Nat → ClassId} {b z : Nat} {σ0 : CS}
theorem t_G_toldMss_112 {q : Nat} (S : CC p m c k_G_toldMss 6 s args cn_G meth (Option.some Jvm.ClassFile.FieldType.int) D tc b z) (v1 : Int32) (σ : CS) {B : Int32 × CS} (h : b_G_toldMss_112 q v1 σ = some B) {ls : Array Slot} {H : Heap} {locs : List Loc} {cells slots : Nat} (hl : lv_has ls 6 [(1, .int v1)]) (hW : CWS D tc b z s σ0 σ H locs cells slots) : W p l e (CR 2 44 σ0) s m args below meth c H locs cells slots (CE D tc b z below args s σ0 (some (.int B.1)) B.2) (F0 m 112 ls []) := by
  have hx := S.1.1
  have hb := S.1.2.1
  unfold b_G_toldMss_112 at h
  refine lv_iload_n hx hb d_G_toldMss_112 rfl (lv_at hl 0 rfl) ?_
  refine lv_bipush (v := 64) hx hb d_G_toldMss_113 (by decide) ?_
  refine cm_jmax S hW wd_1026 wd_469 wd_96 wd_470 hl.1 (by decide) (Nat.le_of_ble_eq_true rfl) d_G_toldMss_115 ?_
  refine rv_i h (fun x1 h => ?_)
  exact cm_iret S hW d_G_toldMss_118 h
theorem t_G_toldMss_104 {q : Nat} (S : CC p m c k_G_toldMss 6 s args cn_G meth (Option.some Jvm.ClassFile.FieldType.int) D tc b z) {rec12 : Int32 → Int32 → Int32 → CS → Option (Int32 × CS)} (hrec12 : ∀ (v1 : Int32) (v2 : Int32) (v3 : Int32) (σ : CS) (B : Int32 × CS), rec12 v1 v2 v3 σ = some B → P_G_toldMss_12 q p l e s m args below meth c D tc b z σ0 v1 v2 v3 σ B) (v1 : Int32) (v2 : Int32) (v3 : Int32) (v5 : Int32) (σ : CS) {B : Int32 × CS} (h : b_G_toldMss_104 q rec12 v1 v2 v3 v5 σ = some B) {ls : Array Slot} {H : Heap} {locs : List Loc} {cells slots : Nat} (hl : lv_has ls 6 [(0, .ref (b + q)), (1, .int v1), (2, .int v2), (3, .int v3), (5, .int v5)]) (hW : CWS D tc b z s σ0 σ H locs cells slots) : W p l e (CR 2 44 σ0) s m args below meth c H locs cells slots (CE D tc b z below args s σ0 (some (.int B.1)) B.2) (F0 m 104 ls []) := by
  have hx := S.1.1
  have hb := S.1.2.1
  unfold b_G_toldMss_104 at h
  refine lv_iload_n hx hb d_G_toldMss_104 rfl (lv_at hl 3 rfl) ?_
  refine lv_iload hx hb d_G_toldMss_105 (lv_at hl 4 rfl) ?_
  refine lv_iadd hx hb d_G_toldMss_107 ?_
  refine rv_i h (fun x1 h => ?_)
  refine lv_istore_n (lv' := [(3, .int x1), (0, .ref (b + q)), (1, .int v1), (2, .int v2), (5, .int v5)]) hx hb d_G_toldMss_108 rfl hl (by decide) rfl (fun ls hl => ?_)
  refine lv_goto (tgt := 12) hx hb d_G_toldMss_109 (by decide) ?_
  exact hrec12 v1 v2 x1 σ _ h _ _ _ _ _ (lv_sub hl [1, 2, 3, 0] rfl) hW
theorem t_G_toldMss_64 {q : Nat} (S : CC p m c k_G_toldMss 6 s args cn_G meth (Option.some Jvm.ClassFile.FieldType.int) D tc b z) {rec12 : Int32 → Int32 → Int32 → CS → Option (Int32 × CS)} (hrec12 : ∀ (v1 : Int32) (v2 : Int32) (v3 : Int32) (σ : CS) (B : Int32 × CS), rec12 v1 v2 v3 σ = some B → P_G_toldMss_12 q p l e s m args below meth c D tc b z σ0 v1 v2 v3 σ B) (v1 : Int32) (v2 : Int32) (v3 : Int32) (v4 : Int32) (w0 : Int32) (σ : CS) {B : Int32 × CS} (h : b_G_toldMss_64 q rec12 v1 v2 v3 v4 w0 σ = some B) {ls : Array Slot} {H : Heap} {locs : List Loc} {cells slots : Nat} (hl : lv_has ls 6 [(0, .ref (b + q)), (1, .int v1), (2, .int v2), (3, .int v3), (4, .int v4)]) (hW : CWS D tc b z s σ0 σ H locs cells slots) : W p l e (CR 2 44 σ0) s m args below meth c H locs cells slots (CE D tc b z below args s σ0 (some (.int B.1)) B.2) (F0 m 64 ls [.int w0]) := by
  have hx := S.1.1
  have hb := S.1.2.1
  unfold b_G_toldMss_64 at h
  refine lv_istore (lv' := [(5, .int w0), (0, .ref (b + q)), (1, .int v1), (2, .int v2), (3, .int v3), (4, .int v4)]) hx hb d_G_toldMss_64 hl (by decide) rfl (fun ls hl => ?_)
  refine lv_iload hx hb d_G_toldMss_66 (lv_at hl 0 rfl) ?_
  refine lv_iconst (v := 2) hx hb d_G_toldMss_68 (by decide) ?_
  refine rc_lt (tgt := 112) hx hb d_G_toldMss_69 (by decide) h (fun h => ?_) (fun h => ?_)
  · exact t_G_toldMss_112 S v1 σ h (lv_sub hl [2] rfl) hW
  · refine lv_iload_n hx hb d_G_toldMss_72 rfl (lv_at hl 4 rfl) ?_
    refine lv_iload hx hb d_G_toldMss_73 (lv_at hl 0 rfl) ?_
    refine lv_iadd hx hb d_G_toldMss_75 ?_
    refine lv_iload_n hx hb d_G_toldMss_76 rfl (lv_at hl 3 rfl) ?_
    refine rc_le (tgt := 83) hx hb d_G_toldMss_77 (by decide) h (fun h => ?_) (fun h => ?_)
    · refine lv_iload hx hb d_G_toldMss_83 (lv_at hl 5 rfl) ?_
      refine lv_iconst (v := 2) hx hb d_G_toldMss_85 (by decide) ?_
      refine rc_ne (tgt := 104) hx hb d_G_toldMss_86 (by decide) h (fun h => ?_) (fun h => ?_)
      · exact t_G_toldMss_104 S hrec12 v1 v2 v3 w0 σ h (lv_sub hl [1, 2, 3, 4, 0] rfl) hW
      · refine lv_iload hx hb d_G_toldMss_89 (lv_at hl 0 rfl) ?_
        refine lv_iconst (v := 4) hx hb d_G_toldMss_91 (by decide) ?_
        refine rc_ne (tgt := 104) hx hb d_G_toldMss_92 (by decide) h (fun h => ?_) (fun h => ?_)
        · exact t_G_toldMss_104 S hrec12 v1 v2 v3 w0 σ h (lv_sub hl [1, 2, 3, 4, 0] rfl) hW
        · refine lv_aload_n hx hb d_G_toldMss_95 rfl (lv_at hl 1 rfl) ?_
          refine lv_iload_n hx hb d_G_toldMss_96 rfl (lv_at hl 4 rfl) ?_
          refine lv_iconst (v := 2) hx hb d_G_toldMss_97 (by decide) ?_
          refine lv_iadd hx hb d_G_toldMss_98 ?_
          refine lv_iconst (v := 2) hx hb d_G_toldMss_99 (by decide) ?_
          obtain ⟨hg, h⟩ := gd_s h
          refine cm_cVi [.int (v3 + (2 : Int32)), .int (2 : Int32)] kx_G S hW hg (fun x σ' hc => c_G_number q (v3 + (2 : Int32)) (2 : Int32) σ hc) q_G_number wd_985 wd_986 wd_984 (by decide) hl.1 rfl rfl (Nat.le_of_ble_eq_true rfl) d_G_toldMss_100 h (fun x2 r1 H locs cells slots h hW => ?_)
          refine lv_istore_n (lv' := [(1, .int x2), (5, .int w0), (0, .ref (b + q)), (2, .int v2), (3, .int v3), (4, .int v4)]) hx hb d_G_toldMss_103 rfl hl (by decide) rfl (fun ls hl => ?_)
          exact t_G_toldMss_104 S hrec12 x2 v2 v3 w0 r1 h (lv_sub hl [2, 0, 3, 4, 1] rfl) hW
    · refine lv_goto (tgt := 112) hx hb d_G_toldMss_80 (by decide) ?_
      exact t_G_toldMss_112 S v1 σ h (lv_sub hl [2] rfl) hW
theorem tF_G_toldMss_12 {q : Nat} (S : CC p m c k_G_toldMss 6 s args cn_G meth (Option.some Jvm.ClassFile.FieldType.int) D tc b z) : ∀ (rec12 : Int32 → Int32 → Int32 → CS → Option (Int32 × CS)), (∀ (v1 : Int32) (v2 : Int32) (v3 : Int32) (σ : CS) (B : Int32 × CS), rec12 v1 v2 v3 σ = some B → P_G_toldMss_12 q p l e s m args below meth c D tc b z σ0 v1 v2 v3 σ B) → ∀ (v1 : Int32) (v2 : Int32) (v3 : Int32) (σ : CS) (B : Int32 × CS), F_G_toldMss_12 q rec12 v1 v2 v3 σ = some B → P_G_toldMss_12 q p l e s m args below meth c D tc b z σ0 v1 v2 v3 σ B := by
  intro rec12 hrec12 v1 v2 v3 σ B h ls H locs cells slots hl hW
  have hx := S.1.1
  have hb := S.1.2.1
  unfold F_G_toldMss_12 at h
  refine lv_iload_n hx hb d_G_toldMss_12 rfl (lv_at hl 3 rfl) ?_
  refine lv_iload_n hx hb d_G_toldMss_13 rfl (lv_at hl 2 rfl) ?_
  refine rc_ge (tgt := 112) hx hb d_G_toldMss_14 (by decide) h (fun h => ?_) (fun h => ?_)
  · exact t_G_toldMss_112 S v1 σ h (lv_sub hl [1] rfl) hW
  · refine lv_aload_n hx hb d_G_toldMss_17 rfl (lv_at hl 0 rfl) ?_
    refine lv_iload_n hx hb d_G_toldMss_18 rfl (lv_at hl 3 rfl) ?_
    refine lv_iconst (v := 1) hx hb d_G_toldMss_19 (by decide) ?_
    obtain ⟨hg, h⟩ := gd_s h
    refine cm_cVi [.int v3, .int (1 : Int32)] kx_G S hW hg (fun x σ' hc => c_G_number q v3 (1 : Int32) σ hc) q_G_number wd_985 wd_986 wd_984 (by decide) hl.1 rfl rfl (Nat.le_of_ble_eq_true rfl) d_G_toldMss_20 h (fun x2 r1 H locs cells slots h hW => ?_)
    refine lv_istore (lv' := [(4, .int x2), (0, .ref (b + q)), (1, .int v1), (2, .int v2), (3, .int v3)]) hx hb d_G_toldMss_23 hl (by decide) rfl (fun ls hl => ?_)
    refine lv_iload hx hb d_G_toldMss_25 (lv_at hl 0 rfl) ?_
    refine rb_ne (tgt := 33) hx hb d_G_toldMss_27 (by decide) h (fun h => ?_) (fun h => ?_)
    · refine lv_iload hx hb d_G_toldMss_33 (lv_at hl 0 rfl) ?_
      refine lv_iconst (v := 1) hx hb d_G_toldMss_35 (by decide) ?_
      refine rc_ne (tgt := 45) hx hb d_G_toldMss_36 (by decide) h (fun h => ?_) (fun h => ?_)
      · refine lv_iload_n hx hb d_G_toldMss_45 rfl (lv_at hl 4 rfl) ?_
        refine lv_iconst (v := 1) hx hb d_G_toldMss_46 (by decide) ?_
        refine lv_iadd hx hb d_G_toldMss_47 ?_
        refine lv_iload_n hx hb d_G_toldMss_48 rfl (lv_at hl 3 rfl) ?_
        refine rc_ge (tgt := 63) hx hb d_G_toldMss_49 (by decide) h (fun h => ?_) (fun h => ?_)
        · refine lv_iconst (v := 0) hx hb d_G_toldMss_63 (by decide) ?_
          exact t_G_toldMss_64 S hrec12 v1 v2 v3 x2 (0 : Int32) r1 h (lv_sub hl [1, 2, 3, 4, 0] rfl) hW
        · refine lv_aload_n hx hb d_G_toldMss_52 rfl (lv_at hl 1 rfl) ?_
          refine lv_iload_n hx hb d_G_toldMss_53 rfl (lv_at hl 4 rfl) ?_
          refine lv_iconst (v := 1) hx hb d_G_toldMss_54 (by decide) ?_
          refine lv_iadd hx hb d_G_toldMss_55 ?_
          refine lv_iconst (v := 1) hx hb d_G_toldMss_56 (by decide) ?_
          obtain ⟨hg, h⟩ := gd_s h
          refine cm_cVi [.int (v3 + (1 : Int32)), .int (1 : Int32)] kx_G S hW hg (fun x σ' hc => c_G_number q (v3 + (1 : Int32)) (1 : Int32) r1 hc) q_G_number wd_985 wd_986 wd_984 (by decide) hl.1 rfl rfl (Nat.le_of_ble_eq_true rfl) d_G_toldMss_57 h (fun x4 r3 H locs cells slots h hW => ?_)
          refine lv_goto (tgt := 64) hx hb d_G_toldMss_60 (by decide) ?_
          exact t_G_toldMss_64 S hrec12 v1 v2 v3 x2 x4 r3 h (lv_sub hl [1, 2, 3, 4, 0] rfl) hW
      · refine rv_iinc (k := 4) (v := 1) (lv' := fun x5 => [(3, .int x5), (4, .int x2), (0, .ref (b + q)), (1, .int v1), (2, .int v2)]) hx hb d_G_toldMss_39 hl rfl (by decide) (by decide) (fun _ => rfl) h (fun x5 ls h hl => ?_)
        refine lv_goto (tgt := 12) hx hb d_G_toldMss_42 (by decide) ?_
        exact hrec12 v1 v2 x5 r1 _ h _ _ _ _ _ (lv_sub hl [2, 3, 4, 0] rfl) hW
    · refine lv_goto (tgt := 112) hx hb d_G_toldMss_30 (by decide) ?_
      exact t_G_toldMss_112 S v1 r1 h (lv_sub hl [2] rfl) hW
theorem t_G_toldMss_12 {q : Nat} (S : CC p m c k_G_toldMss 6 s args cn_G meth (Option.some Jvm.ClassFile.FieldType.int) D tc b z) : ∀ (n : Nat) (v1 : Int32) (v2 : Int32) (v3 : Int32) (σ : CS) (B : Int32 × CS), lq4 (F_G_toldMss_12 q) n v1 v2 v3 σ = some B → P_G_toldMss_12 q p l e s m args below meth c D tc b z σ0 v1 v2 v3 σ B := lq4_s (tF_G_toldMss_12 S)
theorem t_G_toldMss_0 (S : CC p m c k_G_toldMss 6 s args cn_G meth (Option.some Jvm.ClassFile.FieldType.int) D tc b z) (q : Nat) (σ : CS) {B : Int32 × CS} (h : m_G_toldMss q σ = some B) {ls : Array Slot} {H : Heap} {locs : List Loc} {cells slots : Nat} (hl : lv_has ls 6 [(0, .ref (b + q))]) (hW : CWS D tc b z s σ0 σ H locs cells slots) : W p l e (CR 2 44 σ0) s m args below meth c H locs cells slots (CE D tc b z below args s σ0 (some (.int B.1)) B.2) (F0 m 0 ls []) := by
  have hx := S.1.1
  have hb := S.1.2.1
  unfold m_G_toldMss at h
  refine lv_sipush (v := 536) hx hb d_G_toldMss_0 (by decide) ?_
  refine lv_istore_n (lv' := [(1, .int (536 : Int32)), (0, .ref (b + q))]) hx hb d_G_toldMss_3 rfl hl (by decide) rfl (fun ls hl => ?_)
  refine lv_aload_n hx hb d_G_toldMss_4 rfl (lv_at hl 1 rfl) ?_
  obtain ⟨hg, h⟩ := gd_s h
  refine cm_cVi [] kx_G S hW hg (fun x σ' hc => c_G_headerLength q σ hc) q_G_headerLength wd_981 wd_982 wd_980 (by decide) hl.1 rfl rfl (Nat.le_of_ble_eq_true rfl) d_G_toldMss_5 h (fun x2 r1 H locs cells slots h hW => ?_)
  refine lv_istore_n (lv' := [(2, .int x2), (1, .int (536 : Int32)), (0, .ref (b + q))]) hx hb d_G_toldMss_8 rfl hl (by decide) rfl (fun ls hl => ?_)
  refine lv_bipush (v := 20) hx hb d_G_toldMss_9 (by decide) ?_
  refine lv_istore_n (lv' := [(3, .int (20 : Int32)), (2, .int x2), (1, .int (536 : Int32)), (0, .ref (b + q))]) hx hb d_G_toldMss_11 rfl hl (by decide) rfl (fun ls hl => ?_)
  exact t_G_toldMss_12 S fuel (536 : Int32) x2 (20 : Int32) r1 _ h _ _ _ _ _ (lv_sub hl [3, 2, 1, 0] rfl) hW
theorem c_G_toldMss (q : Nat) (σ : CS) {x : Int32} {σ' : CS} (h : m_G_toldMss q σ = some (x, σ')) : CMet l D tc b z y_G_toldMss k_G_toldMss 6 (Option.some Jvm.ClassFile.FieldType.int) 2 44 [.ref (b + q)] σ (some (.int x)) σ' := cm_met (by decide) (Nat.le_of_ble_eq_true rfl) fun p e s m args below meth c S hW ls hl => t_G_toldMss_0 S q σ h hl hW
end
