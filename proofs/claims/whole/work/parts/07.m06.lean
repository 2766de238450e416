/-! fits (I)Z -/
abbrev k_fits : ByteArray := prog_12_method_36_code
abbrev y_fits : MethodName := ⟨cn_M, "fits", "(I)Z"⟩
theorem q_fits : Calee y_fits k_fits 3 (some .boolean) 1 := ⟨wd_1626, wd_90, by decide, by decide +kernel⟩
theorem d_fits_0 : decode k_fits 0 = .ok (.aload_n 0, 1) := by decide +kernel
theorem d_fits_1 : decode k_fits 1 = .ok (.getfield 245, 3) := by decide +kernel
theorem d_fits_4 : decode k_fits 4 = .ok (.aload_n 0, 1) := by decide +kernel
theorem d_fits_5 : decode k_fits 5 = .ok (.getfield 242, 3) := by decide +kernel
theorem d_fits_8 : decode k_fits 8 = .ok (.iconst 2, 1) := by decide +kernel
theorem d_fits_9 : decode k_fits 9 = .ok (.iand, 1) := by decide +kernel
theorem d_fits_10 : decode k_fits 10 = .ok (.ifCond .eq 7, 3) := by decide +kernel
theorem d_fits_13 : decode k_fits 13 = .ok (.iconst 1, 1) := by decide +kernel
theorem d_fits_14 : decode k_fits 14 = .ok (.goto 4, 3) := by decide +kernel
theorem d_fits_17 : decode k_fits 17 = .ok (.iconst 0, 1) := by decide +kernel
theorem d_fits_18 : decode k_fits 18 = .ok (.iadd, 1) := by decide +kernel
theorem d_fits_19 : decode k_fits 19 = .ok (.aload_n 0, 1) := by decide +kernel
theorem d_fits_20 : decode k_fits 20 = .ok (.getfield 242, 3) := by decide +kernel
theorem d_fits_23 : decode k_fits 23 = .ok (.iconst 1, 1) := by decide +kernel
theorem d_fits_24 : decode k_fits 24 = .ok (.iand, 1) := by decide +kernel
theorem d_fits_25 : decode k_fits 25 = .ok (.ifCond .eq 7, 3) := by decide +kernel
theorem d_fits_28 : decode k_fits 28 = .ok (.iconst 1, 1) := by decide +kernel
theorem d_fits_29 : decode k_fits 29 = .ok (.goto 4, 3) := by decide +kernel
theorem d_fits_32 : decode k_fits 32 = .ok (.iconst 0, 1) := by decide +kernel
theorem d_fits_33 : decode k_fits 33 = .ok (.iadd, 1) := by decide +kernel
theorem d_fits_34 : decode k_fits 34 = .ok (.istore_n 2, 1) := by decide +kernel
theorem d_fits_35 : decode k_fits 35 = .ok (.iload_n 2, 1) := by decide +kernel
theorem d_fits_36 : decode k_fits 36 = .ok (.ifCond .ne 34, 3) := by decide +kernel
theorem d_fits_39 : decode k_fits 39 = .ok (.aload_n 0, 1) := by decide +kernel
theorem d_fits_40 : decode k_fits 40 = .ok (.getfield 251, 3) := by decide +kernel
theorem d_fits_43 : decode k_fits 43 = .ok (.aload_n 0, 1) := by decide +kernel
theorem d_fits_44 : decode k_fits 44 = .ok (.getfield 66, 3) := by decide +kernel
theorem d_fits_47 : decode k_fits 47 = .ok (.iload_n 1, 1) := by decide +kernel
theorem d_fits_48 : decode k_fits 48 = .ok (.iaload, 1) := by decide +kernel
theorem d_fits_49 : decode k_fits 49 = .ok (.if_icmp .eq 15, 3) := by decide +kernel
theorem d_fits_52 : decode k_fits 52 = .ok (.aload_n 0, 1) := by decide +kernel
theorem d_fits_53 : decode k_fits 53 = .ok (.iload_n 1, 1) := by decide +kernel
theorem d_fits_54 : decode k_fits 54 = .ok (.aload_n 0, 1) := by decide +kernel
theorem d_fits_55 : decode k_fits 55 = .ok (.getfield 251, 3) := by decide +kernel
theorem d_fits_58 : decode k_fits 58 = .ok (.invokevirtual 290, 3) := by decide +kernel
theorem d_fits_61 : decode k_fits 61 = .ok (.ifCond .eq 7, 3) := by decide +kernel
theorem d_fits_64 : decode k_fits 64 = .ok (.iconst 1, 1) := by decide +kernel
theorem d_fits_65 : decode k_fits 65 = .ok (.goto 4, 3) := by decide +kernel
theorem d_fits_68 : decode k_fits 68 = .ok (.iconst 0, 1) := by decide +kernel
theorem d_fits_69 : decode k_fits 69 = .ok (.ireturn, 1) := by decide +kernel
theorem d_fits_70 : decode k_fits 70 = .ok (.aload_n 0, 1) := by decide +kernel
theorem d_fits_71 : decode k_fits 71 = .ok (.iload_n 1, 1) := by decide +kernel
theorem d_fits_72 : decode k_fits 72 = .ok (.aload_n 0, 1) := by decide +kernel
theorem d_fits_73 : decode k_fits 73 = .ok (.getfield 251, 3) := by decide +kernel
theorem d_fits_76 : decode k_fits 76 = .ok (.invokevirtual 290, 3) := by decide +kernel
theorem d_fits_79 : decode k_fits 79 = .ok (.ifCond .ne 19, 3) := by decide +kernel
theorem d_fits_82 : decode k_fits 82 = .ok (.aload_n 0, 1) := by decide +kernel
theorem d_fits_83 : decode k_fits 83 = .ok (.iload_n 1, 1) := by decide +kernel
theorem d_fits_84 : decode k_fits 84 = .ok (.aload_n 0, 1) := by decide +kernel
theorem d_fits_85 : decode k_fits 85 = .ok (.getfield 251, 3) := by decide +kernel
theorem d_fits_88 : decode k_fits 88 = .ok (.iload_n 2, 1) := by decide +kernel
theorem d_fits_89 : decode k_fits 89 = .ok (.iadd, 1) := by decide +kernel
theorem d_fits_90 : decode k_fits 90 = .ok (.iconst 1, 1) := by decide +kernel
theorem d_fits_91 : decode k_fits 91 = .ok (.isub, 1) := by decide +kernel
theorem d_fits_92 : decode k_fits 92 = .ok (.invokevirtual 290, 3) := by decide +kernel
theorem d_fits_95 : decode k_fits 95 = .ok (.ifCond .eq 7, 3) := by decide +kernel
theorem d_fits_98 : decode k_fits 98 = .ok (.iconst 1, 1) := by decide +kernel
theorem d_fits_99 : decode k_fits 99 = .ok (.goto 4, 3) := by decide +kernel
theorem d_fits_102 : decode k_fits 102 = .ok (.iconst 0, 1) := by decide +kernel
theorem d_fits_103 : decode k_fits 103 = .ok (.ireturn, 1) := by decide +kernel
def b_fits_103 (w0 : Int32) (ρ : RS) : Option (Int32 × RS) :=
  gd (w0 = 0 ∨ w0 = 1) (some (w0, ρ))
def b_fits_98 (ρ : RS) : Option (Int32 × RS) :=
  b_fits_103 (1 : Int32) ρ
def b_fits_69 (w0 : Int32) (ρ : RS) : Option (Int32 × RS) :=
  gd (w0 = 0 ∨ w0 = 1) (some (w0, ρ))
def b_fits_64 (ρ : RS) : Option (Int32 × RS) :=
  b_fits_69 (1 : Int32) ρ
def b_fits_33 (v1 : Int32) (w0 : Int32) (w1 : Int32) (ρ : RS) : Option (Int32 × RS) :=
  bd (w0 + w1) fun x1 => if x1 = 0 then
  (bd (ρ.1 0 46) fun x8 => gd (inb v1 2) <| bd (ρ.1 18 v1.toNatClampNeg) fun x9 => if x8 = x9 then
  (b_fits_64  ρ)
 else
  (bd (ρ.1 0 46) fun x10 => bc2 (m_inside v1 x10 ρ) fun x12 r11 => if x12 = 0 then
  (b_fits_69 (0 : Int32) r11)
 else
  (b_fits_64  r11)))
 else
  (bd (ρ.1 0 46) fun x2 => bc2 (m_inside v1 x2 ρ) fun x4 r3 => if x4 = 0 then
  (bd (r3.1 0 46) fun x5 => bc2 (m_inside v1 ((x5 + x1) - (1 : Int32)) r3) fun x7 r6 => if x7 = 0 then
  (b_fits_103 (0 : Int32) r6)
 else
  (b_fits_98  r6))
 else
  (b_fits_98  r3))
def b_fits_18 (v1 : Int32) (w0 : Int32) (w1 : Int32) (ρ : RS) : Option (Int32 × RS) :=
  bd (ρ.1 0 48) fun x1 => if (x1 &&& (1 : Int32)) = 0 then
  (b_fits_33 v1 (w0 + w1) (0 : Int32) ρ)
 else
  (b_fits_33 v1 (w0 + w1) (1 : Int32) ρ)
def m_fits (v1 : Int32) (ρ : RS) : Option (Int32 × RS) :=
  bd (ρ.1 0 51) fun x1 => bd (ρ.1 0 48) fun x2 => if (x2 &&& (2 : Int32)) = 0 then
  (b_fits_18 v1 x1 (0 : Int32) ρ)
 else
  (b_fits_18 v1 x1 (1 : Int32) ρ)
section
variable {p : Program} {l : Launch} {e : Env} {s : State} {m : MethodId} {args : Array Value} {below : List Frame} {meth : Method} {c : Code} {D : va_G} {tc : Nat → ClassId} {o : Nat}
theorem t_fits_103 (S : RC p m c k_fits 3 s args cn_M meth (some .boolean) D tc) (w0 : Int32) (ρ : RS) {B : Int32 × RS} (h : b_fits_103 w0 ρ = some B) {ls : Array Slot} {H : Heap} {locs : List Loc} (hl : lv_has ls 3 []) (hW : RWS D tc o s ρ H locs) : W p l e { frames := 1, cells := 0, slots := 0, locals := 22 } s m args below meth c H locs 0 0 (MQ below (RQ D tc o (some (.int B.1)) B.2) args s 0 0 (rreg o)) (F0 m 103 ls [.int w0]) := by
  have hx := S.1.1
  have hb := S.1.2.1
  unfold b_fits_103 at h
  exact rm_zret S hW d_fits_103 h
theorem t_fits_98 (S : RC p m c k_fits 3 s args cn_M meth (some .boolean) D tc) (ρ : RS) {B : Int32 × RS} (h : b_fits_98  ρ = some B) {ls : Array Slot} {H : Heap} {locs : List Loc} (hl : lv_has ls 3 []) (hW : RWS D tc o s ρ H locs) : W p l e { frames := 1, cells := 0, slots := 0, locals := 22 } s m args below meth c H locs 0 0 (MQ below (RQ D tc o (some (.int B.1)) B.2) args s 0 0 (rreg o)) (F0 m 98 ls []) := by
  have hx := S.1.1
  have hb := S.1.2.1
  unfold b_fits_98 at h
  refine lv_iconst (v := 1) hx hb d_fits_98 (by decide) ?_
  refine lv_goto (tgt := 103) hx hb d_fits_99 (by decide) ?_
  exact t_fits_103 S (1 : Int32) ρ h (lv_sub hl [] rfl) hW
theorem t_fits_69 (S : RC p m c k_fits 3 s args cn_M meth (some .boolean) D tc) (w0 : Int32) (ρ : RS) {B : Int32 × RS} (h : b_fits_69 w0 ρ = some B) {ls : Array Slot} {H : Heap} {locs : List Loc} (hl : lv_has ls 3 []) (hW : RWS D tc o s ρ H locs) : W p l e { frames := 1, cells := 0, slots := 0, locals := 22 } s m args below meth c H locs 0 0 (MQ below (RQ D tc o (some (.int B.1)) B.2) args s 0 0 (rreg o)) (F0 m 69 ls [.int w0]) := by
  have hx := S.1.1
  have hb := S.1.2.1
  unfold b_fits_69 at h
  exact rm_zret S hW d_fits_69 h
theorem t_fits_64 (S : RC p m c k_fits 3 s args cn_M meth (some .boolean) D tc) (ρ : RS) {B : Int32 × RS} (h : b_fits_64  ρ = some B) {ls : Array Slot} {H : Heap} {locs : List Loc} (hl : lv_has ls 3 []) (hW : RWS D tc o s ρ H locs) : W p l e { frames := 1, cells := 0, slots := 0, locals := 22 } s m args below meth c H locs 0 0 (MQ below (RQ D tc o (some (.int B.1)) B.2) args s 0 0 (rreg o)) (F0 m 64 ls []) := by
  have hx := S.1.1
  have hb := S.1.2.1
  unfold b_fits_64 at h
  refine lv_iconst (v := 1) hx hb d_fits_64 (by decide) ?_
  refine lv_goto (tgt := 69) hx hb d_fits_65 (by decide) ?_
  exact t_fits_69 S (1 : Int32) ρ h (lv_sub hl [] rfl) hW
theorem t_fits_33 (S : RC p m c k_fits 3 s args cn_M meth (some .boolean) D tc) (v1 : Int32) (w0 : Int32) (w1 : Int32) (ρ : RS) {B : Int32 × RS} (h : b_fits_33 v1 w0 w1 ρ = some B) {ls : Array Slot} {H : Heap} {locs : List Loc} (hl : lv_has ls 3 [(0, .ref o), (1, .int v1)]) (hW : RWS D tc o s ρ H locs) : W p l e { frames := 1, cells := 0, slots := 0, locals := 22 } s m args below meth c H locs 0 0 (MQ below (RQ D tc o (some (.int B.1)) B.2) args s 0 0 (rreg o)) (F0 m 33 ls [.int w1, .int w0]) := by
  have hx := S.1.1
  have hb := S.1.2.1
  unfold b_fits_33 at h
  refine lv_iadd hx hb d_fits_33 ?_
  refine rv_i h (fun x1 h => ?_)
  refine lv_istore_n (lv' := [(2, .int x1), (0, .ref o), (1, .int v1)]) hx hb d_fits_34 rfl hl (by decide) rfl (fun ls hl => ?_)
  refine lv_iload_n hx hb d_fits_35 rfl (lv_at hl 0 rfl) ?_
  refine rb_ne (tgt := 70) hx hb d_fits_36 (by decide) h (fun h => ?_) (fun h => ?_)
  · refine lv_aload_n hx hb d_fits_70 rfl (lv_at hl 1 rfl) ?_
    refine lv_iload_n hx hb d_fits_71 rfl (lv_at hl 2 rfl) ?_
    refine lv_aload_n hx hb d_fits_72 rfl (lv_at hl 1 rfl) ?_
    refine rm_geti S hW 46 wd_1298 (by decide) d_fits_73 h (fun x2 h => ?_)
    refine rm_cVi [.int v1, .int x2] S hW (fun x ρ' hc => c_inside v1 x2 ρ hc) q_inside wd_1629 wd_70 wd_1627 (by decide) hl.1 rfl rfl (Nat.le_of_ble_eq_true rfl) d_fits_76 h (fun x4 r3 H locs h hW => ?_)
    refine rb_ne (tgt := 98) hx hb d_fits_79 (by decide) h (fun h => ?_) (fun h => ?_)
    · exact t_fits_98 S  r3 h (lv_sub hl [] rfl) hW
    · refine lv_aload_n hx hb d_fits_82 rfl (lv_at hl 1 rfl) ?_
      refine lv_iload_n hx hb d_fits_83 rfl (lv_at hl 2 rfl) ?_
      refine lv_aload_n hx hb d_fits_84 rfl (lv_at hl 1 rfl) ?_
      refine rm_geti S hW 46 wd_1298 (by decide) d_fits_85 h (fun x5 h => ?_)
      refine lv_iload_n hx hb d_fits_88 rfl (lv_at hl 0 rfl) ?_
      refine lv_iadd hx hb d_fits_89 ?_
      refine lv_iconst (v := 1) hx hb d_fits_90 (by decide) ?_
      refine lv_isub hx hb d_fits_91 ?_
      refine rm_cVi [.int v1, .int ((x5 + x1) - (1 : Int32))] S hW (fun x ρ' hc => c_inside v1 ((x5 + x1) - (1 : Int32)) r3 hc) q_inside wd_1629 wd_70 wd_1627 (by decide) hl.1 rfl rfl (Nat.le_of_ble_eq_true rfl) d_fits_92 h (fun x7 r6 H locs h hW => ?_)
      refine rb_eq (tgt := 102) hx hb d_fits_95 (by decide) h (fun h => ?_) (fun h => ?_)
      · refine lv_iconst (v := 0) hx hb d_fits_102 (by decide) ?_
        exact t_fits_103 S (0 : Int32) r6 h (lv_sub hl [] rfl) hW
      · exact t_fits_98 S  r6 h (lv_sub hl [] rfl) hW
  · refine lv_aload_n hx hb d_fits_39 rfl (lv_at hl 1 rfl) ?_
    refine rm_geti S hW 46 wd_1298 (by decide) d_fits_40 h (fun x8 h => ?_)
    refine lv_aload_n hx hb d_fits_43 rfl (lv_at hl 1 rfl) ?_
    refine rm_geta S hW 23 18 wd_1275 (by decide) d_fits_44 ?_
    refine lv_iload_n hx hb d_fits_47 rfl (lv_at hl 2 rfl) ?_
    refine rm_iald S hW 18 2 (by decide) d_fits_48 h (fun x9 h => ?_)
    refine rc_eq (tgt := 64) hx hb d_fits_49 (by decide) h (fun h => ?_) (fun h => ?_)
    · exact t_fits_64 S  ρ h (lv_sub hl [] rfl) hW
    · refine lv_aload_n hx hb d_fits_52 rfl (lv_at hl 1 rfl) ?_
      refine lv_iload_n hx hb d_fits_53 rfl (lv_at hl 2 rfl) ?_
      refine lv_aload_n hx hb d_fits_54 rfl (lv_at hl 1 rfl) ?_
      refine rm_geti S hW 46 wd_1298 (by decide) d_fits_55 h (fun x10 h => ?_)
      refine rm_cVi [.int v1, .int x10] S hW (fun x ρ' hc => c_inside v1 x10 ρ hc) q_inside wd_1629 wd_70 wd_1627 (by decide) hl.1 rfl rfl (Nat.le_of_ble_eq_true rfl) d_fits_58 h (fun x12 r11 H locs h hW => ?_)
      refine rb_eq (tgt := 68) hx hb d_fits_61 (by decide) h (fun h => ?_) (fun h => ?_)
      · refine lv_iconst (v := 0) hx hb d_fits_68 (by decide) ?_
        exact t_fits_69 S (0 : Int32) r11 h (lv_sub hl [] rfl) hW
      · exact t_fits_64 S  r11 h (lv_sub hl [] rfl) hW
theorem t_fits_18 (S : RC p m c k_fits 3 s args cn_M meth (some .boolean) D tc) (v1 : Int32) (w0 : Int32) (w1 : Int32) (ρ : RS) {B : Int32 × RS} (h : b_fits_18 v1 w0 w1 ρ = some B) {ls : Array Slot} {H : Heap} {locs : List Loc} (hl : lv_has ls 3 [(0, .ref o), (1, .int v1)]) (hW : RWS D tc o s ρ H locs) : W p l e { frames := 1, cells := 0, slots := 0, locals := 22 } s m args below meth c H locs 0 0 (MQ below (RQ D tc o (some (.int B.1)) B.2) args s 0 0 (rreg o)) (F0 m 18 ls [.int w1, .int w0]) := by
  have hx := S.1.1
  have hb := S.1.2.1
  unfold b_fits_18 at h
  refine lv_iadd hx hb d_fits_18 ?_
  refine lv_aload_n hx hb d_fits_19 rfl (lv_at hl 0 rfl) ?_
  refine rm_geti S hW 48 wd_1300 (by decide) d_fits_20 h (fun x1 h => ?_)
  refine lv_iconst (v := 1) hx hb d_fits_23 (by decide) ?_
  refine lv_iand hx hb d_fits_24 ?_
  refine rb_eq (tgt := 32) hx hb d_fits_25 (by decide) h (fun h => ?_) (fun h => ?_)
  · refine lv_iconst (v := 0) hx hb d_fits_32 (by decide) ?_
    exact t_fits_33 S v1 (w0 + w1) (0 : Int32) ρ h (lv_sub hl [0, 1] rfl) hW
  · refine lv_iconst (v := 1) hx hb d_fits_28 (by decide) ?_
    refine lv_goto (tgt := 33) hx hb d_fits_29 (by decide) ?_
    exact t_fits_33 S v1 (w0 + w1) (1 : Int32) ρ h (lv_sub hl [0, 1] rfl) hW
theorem t_fits_0 (S : RC p m c k_fits 3 s args cn_M meth (some .boolean) D tc) (v1 : Int32) (ρ : RS) {B : Int32 × RS} (h : m_fits v1 ρ = some B) {ls : Array Slot} {H : Heap} {locs : List Loc} (hl : lv_has ls 3 [(0, .ref o), (1, .int v1)]) (hW : RWS D tc o s ρ H locs) : W p l e { frames := 1, cells := 0, slots := 0, locals := 22 } s m args below meth c H locs 0 0 (MQ below (RQ D tc o (some (.int B.1)) B.2) args s 0 0 (rreg o)) (F0 m 0 ls []) := by
  have hx := S.1.1
  have hb := S.1.2.1
  unfold m_fits at h
  refine lv_aload_n hx hb d_fits_0 rfl (lv_at hl 0 rfl) ?_
  refine rm_geti S hW 51 wd_1303 (by decide) d_fits_1 h (fun x1 h => ?_)
  refine lv_aload_n hx hb d_fits_4 rfl (lv_at hl 0 rfl) ?_
  refine rm_geti S hW 48 wd_1300 (by decide) d_fits_5 h (fun x2 h => ?_)
  refine lv_iconst (v := 2) hx hb d_fits_8 (by decide) ?_
  refine lv_iand hx hb d_fits_9 ?_
  refine rb_eq (tgt := 17) hx hb d_fits_10 (by decide) h (fun h => ?_) (fun h => ?_)
  · refine lv_iconst (v := 0) hx hb d_fits_17 (by decide) ?_
    exact t_fits_18 S v1 x1 (0 : Int32) ρ h (lv_sub hl [0, 1] rfl) hW
  · refine lv_iconst (v := 1) hx hb d_fits_13 (by decide) ?_
    refine lv_goto (tgt := 18) hx hb d_fits_14 (by decide) ?_
    exact t_fits_18 S v1 x1 (1 : Int32) ρ h (lv_sub hl [0, 1] rfl) hW
theorem c_fits (v1 : Int32) (ρ : RS) {x : Int32} {ρ' : RS} (h : m_fits v1 ρ = some (x, ρ')) : RMet l D tc o y_fits k_fits 3 (some .boolean) 1 22 [.ref o, .int v1] ρ (some (.int x)) ρ' := rm_met (by decide) (Nat.le_of_ble_eq_true rfl) fun p e s m args below meth c S hW ls hl => t_fits_0 S v1 ρ h hl hW
end

/-! admitted (I)Z -/
abbrev k_admitted : ByteArray := prog_12_method_37_code
abbrev y_admitted : MethodName := ⟨cn_M, "admitted", "(I)Z"⟩
theorem q_admitted : Calee y_admitted k_admitted 3 (some .boolean) 1 := ⟨wd_1622, wd_90, by decide, by decide +kernel⟩
theorem d_admitted_0 : decode k_admitted 0 = .ok (.aload_n 0, 1) := by decide +kernel
theorem d_admitted_1 : decode k_admitted 1 = .ok (.getfield 242, 3) := by decide +kernel
theorem d_admitted_4 : decode k_admitted 4 = .ok (.iconst 4, 1) := by decide +kernel
theorem d_admitted_5 : decode k_admitted 5 = .ok (.iand, 1) := by decide +kernel
theorem d_admitted_6 : decode k_admitted 6 = .ok (.ifCond .eq 7, 3) := by decide +kernel
theorem d_admitted_9 : decode k_admitted 9 = .ok (.iconst 1, 1) := by decide +kernel
theorem d_admitted_10 : decode k_admitted 10 = .ok (.goto 4, 3) := by decide +kernel
theorem d_admitted_13 : decode k_admitted 13 = .ok (.iconst 0, 1) := by decide +kernel
theorem d_admitted_14 : decode k_admitted 14 = .ok (.istore_n 2, 1) := by decide +kernel
theorem d_admitted_15 : decode k_admitted 15 = .ok (.aload_n 0, 1) := by decide +kernel
theorem d_admitted_16 : decode k_admitted 16 = .ok (.iload_n 1, 1) := by decide +kernel
theorem d_admitted_17 : decode k_admitted 17 = .ok (.invokevirtual 293, 3) := by decide +kernel
theorem d_admitted_20 : decode k_admitted 20 = .ok (.ifCond .ne 52, 3) := by decide +kernel
theorem d_admitted_23 : decode k_admitted 23 = .ok (.iload_n 2, 1) := by decide +kernel
theorem d_admitted_24 : decode k_admitted 24 = .ok (.ifCond .ne 8, 3) := by decide +kernel
theorem d_admitted_27 : decode k_admitted 27 = .ok (.aload_n 0, 1) := by decide +kernel
theorem d_admitted_28 : decode k_admitted 28 = .ok (.iload_n 1, 1) := by decide +kernel
theorem d_admitted_29 : decode k_admitted 29 = .ok (.invokevirtual 287, 3) := by decide +kernel
theorem d_admitted_32 : decode k_admitted 32 = .ok (.iload_n 2, 1) := by decide +kernel
theorem d_admitted_33 : decode k_admitted 33 = .ok (.ifCond .ne 37, 3) := by decide +kernel
theorem d_admitted_36 : decode k_admitted 36 = .ok (.aload_n 0, 1) := by decide +kernel
theorem d_admitted_37 : decode k_admitted 37 = .ok (.getfield 39, 3) := by decide +kernel
theorem d_admitted_40 : decode k_admitted 40 = .ok (.iload_n 1, 1) := by decide +kernel
theorem d_admitted_41 : decode k_admitted 41 = .ok (.iaload, 1) := by decide +kernel
theorem d_admitted_42 : decode k_admitted 42 = .ok (.bipush 10, 2) := by decide +kernel
theorem d_admitted_44 : decode k_admitted 44 = .ok (.if_icmp .ne 26, 3) := by decide +kernel
theorem d_admitted_47 : decode k_admitted 47 = .ok (.aload_n 0, 1) := by decide +kernel
theorem d_admitted_48 : decode k_admitted 48 = .ok (.getfield 242, 3) := by decide +kernel
theorem d_admitted_51 : decode k_admitted 51 = .ok (.iconst 1, 1) := by decide +kernel
theorem d_admitted_52 : decode k_admitted 52 = .ok (.iand, 1) := by decide +kernel
theorem d_admitted_53 : decode k_admitted 53 = .ok (.ifCond .eq 17, 3) := by decide +kernel
theorem d_admitted_56 : decode k_admitted 56 = .ok (.aload_n 0, 1) := by decide +kernel
theorem d_admitted_57 : decode k_admitted 57 = .ok (.getfield 113, 3) := by decide +kernel
theorem d_admitted_60 : decode k_admitted 60 = .ok (.iload_n 1, 1) := by decide +kernel
theorem d_admitted_61 : decode k_admitted 61 = .ok (.aload_n 0, 1) := by decide +kernel
theorem d_admitted_62 : decode k_admitted 62 = .ok (.getfield 201, 3) := by decide +kernel
theorem d_admitted_65 : decode k_admitted 65 = .ok (.ldc2_w 296, 3) := by decide +kernel
theorem d_admitted_68 : decode k_admitted 68 = .ok (.ladd, 1) := by decide +kernel
theorem d_admitted_69 : decode k_admitted 69 = .ok (.lastore, 1) := by decide +kernel
theorem d_admitted_70 : decode k_admitted 70 = .ok (.iconst 0, 1) := by decide +kernel
theorem d_admitted_71 : decode k_admitted 71 = .ok (.ireturn, 1) := by decide +kernel
theorem d_admitted_72 : decode k_admitted 72 = .ok (.iload_n 2, 1) := by decide +kernel
theorem d_admitted_73 : decode k_admitted 73 = .ok (.ifCond .eq 32, 3) := by decide +kernel
theorem d_admitted_76 : decode k_admitted 76 = .ok (.aload_n 0, 1) := by decide +kernel
theorem d_admitted_77 : decode k_admitted 77 = .ok (.getfield 251, 3) := by decide +kernel
theorem d_admitted_80 : decode k_admitted 80 = .ok (.aload_n 0, 1) := by decide +kernel
theorem d_admitted_81 : decode k_admitted 81 = .ok (.getfield 66, 3) := by decide +kernel
theorem d_admitted_84 : decode k_admitted 84 = .ok (.iload_n 1, 1) := by decide +kernel
theorem d_admitted_85 : decode k_admitted 85 = .ok (.iaload, 1) := by decide +kernel
theorem d_admitted_86 : decode k_admitted 86 = .ok (.if_icmp .ne 12, 3) := by decide +kernel
theorem d_admitted_89 : decode k_admitted 89 = .ok (.aload_n 0, 1) := by decide +kernel
theorem d_admitted_90 : decode k_admitted 90 = .ok (.iload_n 1, 1) := by decide +kernel
theorem d_admitted_91 : decode k_admitted 91 = .ok (.iconst 1, 1) := by decide +kernel
theorem d_admitted_92 : decode k_admitted 92 = .ok (.invokevirtual 218, 3) := by decide +kernel
theorem d_admitted_95 : decode k_admitted 95 = .ok (.goto 8, 3) := by decide +kernel
theorem d_admitted_98 : decode k_admitted 98 = .ok (.aload_n 0, 1) := by decide +kernel
theorem d_admitted_99 : decode k_admitted 99 = .ok (.iload_n 1, 1) := by decide +kernel
theorem d_admitted_100 : decode k_admitted 100 = .ok (.invokevirtual 287, 3) := by decide +kernel
theorem d_admitted_103 : decode k_admitted 103 = .ok (.iconst 0, 1) := by decide +kernel
theorem d_admitted_104 : decode k_admitted 104 = .ok (.ireturn, 1) := by decide +kernel
theorem d_admitted_105 : decode k_admitted 105 = .ok (.aload_n 0, 1) := by decide +kernel
theorem d_admitted_106 : decode k_admitted 106 = .ok (.getfield 242, 3) := by decide +kernel
theorem d_admitted_109 : decode k_admitted 109 = .ok (.iconst 2, 1) := by decide +kernel
theorem d_admitted_110 : decode k_admitted 110 = .ok (.iand, 1) := by decide +kernel
theorem d_admitted_111 : decode k_admitted 111 = .ok (.ifCond .eq 10, 3) := by decide +kernel
theorem d_admitted_114 : decode k_admitted 114 = .ok (.aload_n 0, 1) := by decide +kernel
theorem d_admitted_115 : decode k_admitted 115 = .ok (.iload_n 1, 1) := by decide +kernel
theorem d_admitted_116 : decode k_admitted 116 = .ok (.invokevirtual 287, 3) := by decide +kernel
theorem d_admitted_119 : decode k_admitted 119 = .ok (.iconst 0, 1) := by decide +kernel
theorem d_admitted_120 : decode k_admitted 120 = .ok (.ireturn, 1) := by decide +kernel
theorem d_admitted_121 : decode k_admitted 121 = .ok (.aload_n 0, 1) := by decide +kernel
theorem d_admitted_122 : decode k_admitted 122 = .ok (.getfield 242, 3) := by decide +kernel
theorem d_admitted_125 : decode k_admitted 125 = .ok (.bipush 16, 2) := by decide +kernel
theorem d_admitted_127 : decode k_admitted 127 = .ok (.iand, 1) := by decide +kernel
theorem d_admitted_128 : decode k_admitted 128 = .ok (.ifCond .ne 5, 3) := by decide +kernel
theorem d_admitted_131 : decode k_admitted 131 = .ok (.iconst 0, 1) := by decide +kernel
theorem d_admitted_132 : decode k_admitted 132 = .ok (.ireturn, 1) := by decide +kernel
theorem d_admitted_133 : decode k_admitted 133 = .ok (.aload_n 0, 1) := by decide +kernel
theorem d_admitted_134 : decode k_admitted 134 = .ok (.getfield 39, 3) := by decide +kernel
theorem d_admitted_137 : decode k_admitted 137 = .ok (.iload_n 1, 1) := by decide +kernel
theorem d_admitted_138 : decode k_admitted 138 = .ok (.iaload, 1) := by decide +kernel
theorem d_admitted_139 : decode k_admitted 139 = .ok (.iconst 3, 1) := by decide +kernel
theorem d_admitted_140 : decode k_admitted 140 = .ok (.if_icmp .eq 5, 3) := by decide +kernel
theorem d_admitted_143 : decode k_admitted 143 = .ok (.iconst 1, 1) := by decide +kernel
theorem d_admitted_144 : decode k_admitted 144 = .ok (.ireturn, 1) := by decide +kernel
theorem d_admitted_145 : decode k_admitted 145 = .ok (.aload_n 0, 1) := by decide +kernel
theorem d_admitted_146 : decode k_admitted 146 = .ok (.getfield 248, 3) := by decide +kernel
theorem d_admitted_149 : decode k_admitted 149 = .ok (.aload_n 0, 1) := by decide +kernel
theorem d_admitted_150 : decode k_admitted 150 = .ok (.getfield 45, 3) := by decide +kernel
theorem d_admitted_153 : decode k_admitted 153 = .ok (.iload_n 1, 1) := by decide +kernel
theorem d_admitted_154 : decode k_admitted 154 = .ok (.iaload, 1) := by decide +kernel
theorem d_admitted_155 : decode k_admitted 155 = .ok (.iconst 1, 1) := by decide +kernel
theorem d_admitted_156 : decode k_admitted 156 = .ok (.iadd, 1) := by decide +kernel
theorem d_admitted_157 : decode k_admitted 157 = .ok (.if_icmp .eq 10, 3) := by decide +kernel
theorem d_admitted_160 : decode k_admitted 160 = .ok (.aload_n 0, 1) := by decide +kernel
theorem d_admitted_161 : decode k_admitted 161 = .ok (.iload_n 1, 1) := by decide +kernel
theorem d_admitted_162 : decode k_admitted 162 = .ok (.invokevirtual 278, 3) := by decide +kernel
theorem d_admitted_165 : decode k_admitted 165 = .ok (.iconst 0, 1) := by decide +kernel
theorem d_admitted_166 : decode k_admitted 166 = .ok (.ireturn, 1) := by decide +kernel
theorem d_admitted_167 : decode k_admitted 167 = .ok (.aload_n 0, 1) := by decide +kernel
theorem d_admitted_168 : decode k_admitted 168 = .ok (.getfield 39, 3) := by decide +kernel
theorem d_admitted_171 : decode k_admitted 171 = .ok (.iload_n 1, 1) := by decide +kernel
theorem d_admitted_172 : decode k_admitted 172 = .ok (.iconst 4, 1) := by decide +kernel
theorem d_admitted_173 : decode k_admitted 173 = .ok (.iastore, 1) := by decide +kernel
theorem d_admitted_174 : decode k_admitted 174 = .ok (.iconst 1, 1) := by decide +kernel
theorem d_admitted_175 : decode k_admitted 175 = .ok (.ireturn, 1) := by decide +kernel
def b_admitted_103 (ρ : RS) : Option (Int32 × RS) :=
  gd ((0 : Int32) = 0 ∨ (0 : Int32) = 1) (some ((0 : Int32), ρ))
def b_admitted_70 (ρ : RS) : Option (Int32 × RS) :=
  gd ((0 : Int32) = 0 ∨ (0 : Int32) = 1) (some ((0 : Int32), ρ))
def b_admitted_32 (v1 : Int32) (v2 : Int32) (ρ : RS) : Option (Int32 × RS) :=
  if v2 = 0 then
  (gd (inb v1 2) <| bd (ρ.1 9 v1.toNatClampNeg) fun x1 => if x1 = (10 : Int32) then
  (bd (ρ.1 0 48) fun x2 => if (x2 &&& (1 : Int32)) = 0 then
  (b_admitted_70  ρ)
 else
  (bd (ρ.2 0 3) fun x3 => gd (inb v1 2) <| bd (sl ρ 33 v1.toNatClampNeg (x3 + (4000 : Int64))) fun r4 => b_admitted_70  r4))
 else
  (b_admitted_70  ρ))
 else
  (b_admitted_70  ρ)
def b_admitted_14 (v1 : Int32) (w0 : Int32) (ρ : RS) : Option (Int32 × RS) :=
  bc2 (m_fits v1 ρ) fun x2 r1 => if x2 = 0 then
  (if w0 = 0 then
  (bc (m_sendAck v1 r1) fun r15 => b_admitted_32 v1 w0 r15)
 else
  (b_admitted_32 v1 w0 r1))
 else
  (if w0 = 0 then
  (bd (r1.1 0 48) fun x3 => if (x3 &&& (2 : Int32)) = 0 then
  (bd (r1.1 0 48) fun x4 => if (x4 &&& (16 : Int32)) = 0 then
  (gd ((0 : Int32) = 0 ∨ (0 : Int32) = 1) (some ((0 : Int32), r1)))
 else
  (gd (inb v1 2) <| bd (r1.1 9 v1.toNatClampNeg) fun x5 => if x5 = (3 : Int32) then
  (bd (r1.1 0 47) fun x6 => gd (inb v1 2) <| bd (r1.1 11 v1.toNatClampNeg) fun x7 => if x6 = (x7 + (1 : Int32)) then
  (gd (inb v1 2) <| bd (si r1 9 v1.toNatClampNeg (4 : Int32)) fun r8 => gd ((1 : Int32) = 0 ∨ (1 : Int32) = 1) (some ((1 : Int32), r8)))
 else
  (bc (m_answer v1 r1) fun r9 => gd ((0 : Int32) = 0 ∨ (0 : Int32) = 1) (some ((0 : Int32), r9))))
 else
  (gd ((1 : Int32) = 0 ∨ (1 : Int32) = 1) (some ((1 : Int32), r1)))))
 else
  (bc (m_sendAck v1 r1) fun r10 => gd ((0 : Int32) = 0 ∨ (0 : Int32) = 1) (some ((0 : Int32), r10))))
 else
  (bd (r1.1 0 46) fun x11 => gd (inb v1 2) <| bd (r1.1 18 v1.toNatClampNeg) fun x12 => if x11 = x12 then
  (bc (m_broken v1 (1 : Int32) r1) fun r14 => b_admitted_103  r14)
 else
  (bc (m_sendAck v1 r1) fun r13 => b_admitted_103  r13)))
def m_admitted (v1 : Int32) (ρ : RS) : Option (Int32 × RS) :=
  bd (ρ.1 0 48) fun x1 => if (x1 &&& (4 : Int32)) = 0 then
  (b_admitted_14 v1 (0 : Int32) ρ)
 else
  (b_admitted_14 v1 (1 : Int32) ρ)
section
variable {p : Program} {l : Launch} {e : Env} {s : State} {m : MethodId} {args : Array Value} {below : List Frame} {meth : Method} {c : Code} {D : va_G} {tc : Nat → ClassId} {o : Nat}
theorem t_admitted_103 (S : RC p m c k_admitted 3 s args cn_M meth (some .boolean) D tc) (ρ : RS) {B : Int32 × RS} (h : b_admitted_103  ρ = some B) {ls : Array Slot} {H : Heap} {locs : List Loc} (hl : lv_has ls 3 []) (hW : RWS D tc o s ρ H locs) : W p l e { frames := 5, cells := 0, slots := 0, locals := 124 } s m args below meth c H locs 0 0 (MQ below (RQ D tc o (some (.int B.1)) B.2) args s 0 0 (rreg o)) (F0 m 103 ls []) := by
  have hx := S.1.1
  have hb := S.1.2.1
  unfold b_admitted_103 at h
  refine lv_iconst (v := 0) hx hb d_admitted_103 (by decide) ?_
  exact rm_zret S hW d_admitted_104 h
theorem t_admitted_70 (S : RC p m c k_admitted 3 s args cn_M meth (some .boolean) D tc) (ρ : RS) {B : Int32 × RS} (h : b_admitted_70  ρ = some B) {ls : Array Slot} {H : Heap} {locs : List Loc} (hl : lv_has ls 3 []) (hW : RWS D tc o s ρ H locs) : W p l e { frames := 5, cells := 0, slots := 0, locals := 124 } s m args below meth c H locs 0 0 (MQ below (RQ D tc o (some (.int B.1)) B.2) args s 0 0 (rreg o)) (F0 m 70 ls []) := by
  have hx := S.1.1
  have hb := S.1.2.1
  unfold b_admitted_70 at h
  refine lv_iconst (v := 0) hx hb d_admitted_70 (by decide) ?_
  exact rm_zret S hW d_admitted_71 h
theorem t_admitted_32 (S : RC p m c k_admitted 3 s args cn_M meth (some .boolean) D tc) (v1 : Int32) (v2 : Int32) (ρ : RS) {B : Int32 × RS} (h : b_admitted_32 v1 v2 ρ = some B) {ls : Array Slot} {H : Heap} {locs : List Loc} (hl : lv_has ls 3 [(0, .ref o), (1, .int v1), (2, .int v2)]) (hW : RWS D tc o s ρ H locs) : W p l e { frames := 5, cells := 0, slots := 0, locals := 124 } s m args below meth c H locs 0 0 (MQ below (RQ D tc o (some (.int B.1)) B.2) args s 0 0 (rreg o)) (F0 m 32 ls []) := by
  have hx := S.1.1
  have hb := S.1.2.1
  unfold b_admitted_32 at h
  refine lv_iload_n hx hb d_admitted_32 rfl (lv_at hl 2 rfl) ?_
  refine rb_ne (tgt := 70) hx hb d_admitted_33 (by decide) h (fun h => ?_) (fun h => ?_)
  · exact t_admitted_70 S  ρ h (lv_sub hl [] rfl) hW
  · refine lv_aload_n hx hb d_admitted_36 rfl (lv_at hl 0 rfl) ?_
    refine rm_geta S hW 14 9 wd_1266 (by decide) d_admitted_37 ?_
    refine lv_iload_n hx hb d_admitted_40 rfl (lv_at hl 1 rfl) ?_
    refine rm_iald S hW 9 2 (by decide) d_admitted_41 h (fun x1 h => ?_)
    refine lv_bipush (v := 10) hx hb d_admitted_42 (by decide) ?_
    refine rc_ne (tgt := 70) hx hb d_admitted_44 (by decide) h (fun h => ?_) (fun h => ?_)
    · exact t_admitted_70 S  ρ h (lv_sub hl [] rfl) hW
    · refine lv_aload_n hx hb d_admitted_47 rfl (lv_at hl 0 rfl) ?_
      refine rm_geti S hW 48 wd_1300 (by decide) d_admitted_48 h (fun x2 h => ?_)
      refine lv_iconst (v := 1) hx hb d_admitted_51 (by decide) ?_
      refine lv_iand hx hb d_admitted_52 ?_
      refine rb_eq (tgt := 70) hx hb d_admitted_53 (by decide) h (fun h => ?_) (fun h => ?_)
      · exact t_admitted_70 S  ρ h (lv_sub hl [] rfl) hW
      · refine lv_aload_n hx hb d_admitted_56 rfl (lv_at hl 0 rfl) ?_
        refine rm_geta S hW 38 33 wd_1290 (by decide) d_admitted_57 ?_
        refine lv_iload_n hx hb d_admitted_60 rfl (lv_at hl 1 rfl) ?_
        refine lv_aload_n hx hb d_admitted_61 rfl (lv_at hl 0 rfl) ?_
        refine rm_getl S hW 3 wd_1255 (by decide) d_admitted_62 h (fun x3 h => ?_)
        refine lv_ldc2 hx hb S.1.2.2.2.1 (S.1.2.2.2.2 _ (gi wd_1631 rfl)) d_admitted_65 ?_
        refine lv_ladd hx hb d_admitted_68 ?_
        refine rm_last S hW 33 2 (by decide) d_admitted_69 h (fun r4 H locs h hW => ?_)
        exact t_admitted_70 S  r4 h (lv_sub hl [] rfl) hW
theorem t_admitted_14 (S : RC p m c k_admitted 3 s args cn_M meth (some .boolean) D tc) (v1 : Int32) (w0 : Int32) (ρ : RS) {B : Int32 × RS} (h : b_admitted_14 v1 w0 ρ = some B) {ls : Array Slot} {H : Heap} {locs : List Loc} (hl : lv_has ls 3 [(0, .ref o), (1, .int v1)]) (hW : RWS D tc o s ρ H locs) : W p l e { frames := 5, cells := 0, slots := 0, locals := 124 } s m args below meth c H locs 0 0 (MQ below (RQ D tc o (some (.int B.1)) B.2) args s 0 0 (rreg o)) (F0 m 14 ls [.int w0]) := by
  have hx := S.1.1
  have hb := S.1.2.1
  unfold b_admitted_14 at h
  refine lv_istore_n (lv' := [(2, .int w0), (0, .ref o), (1, .int v1)]) hx hb d_admitted_14 rfl hl (by decide) rfl (fun ls hl => ?_)
  refine lv_aload_n hx hb d_admitted_15 rfl (lv_at hl 1 rfl) ?_
  refine lv_iload_n hx hb d_admitted_16 rfl (lv_at hl 2 rfl) ?_
  refine rm_cVi [.int v1] S hW (fun x ρ' hc => c_fits v1 ρ hc) q_fits wd_1625 wd_69 wd_1623 (by decide) hl.1 rfl rfl (Nat.le_of_ble_eq_true rfl) d_admitted_17 h (fun x2 r1 H locs h hW => ?_)
  refine rb_ne (tgt := 72) hx hb d_admitted_20 (by decide) h (fun h => ?_) (fun h => ?_)
  · refine lv_iload_n hx hb d_admitted_72 rfl (lv_at hl 0 rfl) ?_
    refine rb_eq (tgt := 105) hx hb d_admitted_73 (by decide) h (fun h => ?_) (fun h => ?_)
    · refine lv_aload_n hx hb d_admitted_105 rfl (lv_at hl 1 rfl) ?_
      refine rm_geti S hW 48 wd_1300 (by decide) d_admitted_106 h (fun x3 h => ?_)
      refine lv_iconst (v := 2) hx hb d_admitted_109 (by decide) ?_
      refine lv_iand hx hb d_admitted_110 ?_
      refine rb_eq (tgt := 121) hx hb d_admitted_111 (by decide) h (fun h => ?_) (fun h => ?_)
      · refine lv_aload_n hx hb d_admitted_121 rfl (lv_at hl 1 rfl) ?_
        refine rm_geti S hW 48 wd_1300 (by decide) d_admitted_122 h (fun x4 h => ?_)
        refine lv_bipush (v := 16) hx hb d_admitted_125 (by decide) ?_
        refine lv_iand hx hb d_admitted_127 ?_
        refine rb_ne (tgt := 133) hx hb d_admitted_128 (by decide) h (fun h => ?_) (fun h => ?_)
        · refine lv_aload_n hx hb d_admitted_133 rfl (lv_at hl 1 rfl) ?_
          refine rm_geta S hW 14 9 wd_1266 (by decide) d_admitted_134 ?_
          refine lv_iload_n hx hb d_admitted_137 rfl (lv_at hl 2 rfl) ?_
          refine rm_iald S hW 9 2 (by decide) d_admitted_138 h (fun x5 h => ?_)
          refine lv_iconst (v := 3) hx hb d_admitted_139 (by decide) ?_
          refine rc_eq (tgt := 145) hx hb d_admitted_140 (by decide) h (fun h => ?_) (fun h => ?_)
          · refine lv_aload_n hx hb d_admitted_145 rfl (lv_at hl 1 rfl) ?_
            refine rm_geti S hW 47 wd_1299 (by decide) d_admitted_146 h (fun x6 h => ?_)
            refine lv_aload_n hx hb d_admitted_149 rfl (lv_at hl 1 rfl) ?_
            refine rm_geta S hW 16 11 wd_1268 (by decide) d_admitted_150 ?_
            refine lv_iload_n hx hb d_admitted_153 rfl (lv_at hl 2 rfl) ?_
            refine rm_iald S hW 11 2 (by decide) d_admitted_154 h (fun x7 h => ?_)
            refine lv_iconst (v := 1) hx hb d_admitted_155 (by decide) ?_
            refine lv_iadd hx hb d_admitted_156 ?_
            refine rc_eq (tgt := 167) hx hb d_admitted_157 (by decide) h (fun h => ?_) (fun h => ?_)
            · refine lv_aload_n hx hb d_admitted_167 rfl (lv_at hl 1 rfl) ?_
              refine rm_geta S hW 14 9 wd_1266 (by decide) d_admitted_168 ?_
              refine lv_iload_n hx hb d_admitted_171 rfl (lv_at hl 2 rfl) ?_
              refine lv_iconst (v := 4) hx hb d_admitted_172 (by decide) ?_
              refine rm_iast S hW 9 2 (by decide) d_admitted_173 h (fun r8 H locs h hW => ?_)
              refine lv_iconst (v := 1) hx hb d_admitted_174 (by decide) ?_
              exact rm_zret S hW d_admitted_175 h
            · refine lv_aload_n hx hb d_admitted_160 rfl (lv_at hl 1 rfl) ?_
              refine lv_iload_n hx hb d_admitted_161 rfl (lv_at hl 2 rfl) ?_
              refine rm_cVv [.int v1] S hW (fun ρ' hc => c_answer v1 r1 hc) q_answer wd_1591 wd_62 wd_1589 (by decide) hl.1 rfl rfl (Nat.le_of_ble_eq_true rfl) d_admitted_162 h (fun r9 H locs h hW => ?_)
              refine lv_iconst (v := 0) hx hb d_admitted_165 (by decide) ?_
              exact rm_zret S hW d_admitted_166 h
          · refine lv_iconst (v := 1) hx hb d_admitted_143 (by decide) ?_
            exact rm_zret S hW d_admitted_144 h
        · refine lv_iconst (v := 0) hx hb d_admitted_131 (by decide) ?_
          exact rm_zret S hW d_admitted_132 h
      · refine lv_aload_n hx hb d_admitted_114 rfl (lv_at hl 1 rfl) ?_
        refine lv_iload_n hx hb d_admitted_115 rfl (lv_at hl 2 rfl) ?_
        refine rm_cVv [.int v1] S hW (fun ρ' hc => c_sendAck v1 r1 hc) q_sendAck wd_1525 wd_50 wd_1523 (by decide) hl.1 rfl rfl (Nat.le_of_ble_eq_true rfl) d_admitted_116 h (fun r10 H locs h hW => ?_)
        refine lv_iconst (v := 0) hx hb d_admitted_119 (by decide) ?_
        exact rm_zret S hW d_admitted_120 h
    · refine lv_aload_n hx hb d_admitted_76 rfl (lv_at hl 1 rfl) ?_
      refine rm_geti S hW 46 wd_1298 (by decide) d_admitted_77 h (fun x11 h => ?_)
      refine lv_aload_n hx hb d_admitted_80 rfl (lv_at hl 1 rfl) ?_
      refine rm_geta S hW 23 18 wd_1275 (by decide) d_admitted_81 ?_
      refine lv_iload_n hx hb d_admitted_84 rfl (lv_at hl 2 rfl) ?_
      refine rm_iald S hW 18 2 (by decide) d_admitted_85 h (fun x12 h => ?_)
      refine rc_ne (tgt := 98) hx hb d_admitted_86 (by decide) h (fun h => ?_) (fun h => ?_)
      · refine lv_aload_n hx hb d_admitted_98 rfl (lv_at hl 1 rfl) ?_
        refine lv_iload_n hx hb d_admitted_99 rfl (lv_at hl 2 rfl) ?_
        refine rm_cVv [.int v1] S hW (fun ρ' hc => c_sendAck v1 r1 hc) q_sendAck wd_1525 wd_50 wd_1523 (by decide) hl.1 rfl rfl (Nat.le_of_ble_eq_true rfl) d_admitted_100 h (fun r13 H locs h hW => ?_)
        exact t_admitted_103 S  r13 h (lv_sub hl [] rfl) hW
      · refine lv_aload_n hx hb d_admitted_89 rfl (lv_at hl 1 rfl) ?_
        refine lv_iload_n hx hb d_admitted_90 rfl (lv_at hl 2 rfl) ?_
        refine lv_iconst (v := 1) hx hb d_admitted_91 (by decide) ?_
        refine rm_cVv [.int v1, .int (1 : Int32)] S hW (fun ρ' hc => c_broken v1 (1 : Int32) r1 hc) q_broken wd_1541 wd_52 wd_1539 (by decide) hl.1 rfl rfl (Nat.le_of_ble_eq_true rfl) d_admitted_92 h (fun r14 H locs h hW => ?_)
        refine lv_goto (tgt := 103) hx hb d_admitted_95 (by decide) ?_
        exact t_admitted_103 S  r14 h (lv_sub hl [] rfl) hW
  · refine lv_iload_n hx hb d_admitted_23 rfl (lv_at hl 0 rfl) ?_
    refine rb_ne (tgt := 32) hx hb d_admitted_24 (by decide) h (fun h => ?_) (fun h => ?_)
    · exact t_admitted_32 S v1 w0 r1 h (lv_sub hl [1, 2, 0] rfl) hW
    · refine lv_aload_n hx hb d_admitted_27 rfl (lv_at hl 1 rfl) ?_
      refine lv_iload_n hx hb d_admitted_28 rfl (lv_at hl 2 rfl) ?_
      refine rm_cVv [.int v1] S hW (fun ρ' hc => c_sendAck v1 r1 hc) q_sendAck wd_1525 wd_50 wd_1523 (by decide) hl.1 rfl rfl (Nat.le_of_ble_eq_true rfl) d_admitted_29 h (fun r15 H locs h hW => ?_)
      exact t_admitted_32 S v1 w0 r15 h (lv_sub hl [1, 2, 0] rfl) hW
theorem t_admitted_0 (S : RC p m c k_admitted 3 s args cn_M meth (some .boolean) D tc) (v1 : Int32) (ρ : RS) {B : Int32 × RS} (h : m_admitted v1 ρ = some B) {ls : Array Slot} {H : Heap} {locs : List Loc} (hl : lv_has ls 3 [(0, .ref o), (1, .int v1)]) (hW : RWS D tc o s ρ H locs) : W p l e { frames := 5, cells := 0, slots := 0, locals := 124 } s m args below meth c H locs 0 0 (MQ below (RQ D tc o (some (.int B.1)) B.2) args s 0 0 (rreg o)) (F0 m 0 ls []) := by
  have hx := S.1.1
  have hb := S.1.2.1
  unfold m_admitted at h
  refine lv_aload_n hx hb d_admitted_0 rfl (lv_at hl 0 rfl) ?_
  refine rm_geti S hW 48 wd_1300 (by decide) d_admitted_1 h (fun x1 h => ?_)
  refine lv_iconst (v := 4) hx hb d_admitted_4 (by decide) ?_
  refine lv_iand hx hb d_admitted_5 ?_
  refine rb_eq (tgt := 13) hx hb d_admitted_6 (by decide) h (fun h => ?_) (fun h => ?_)
  · refine lv_iconst (v := 0) hx hb d_admitted_13 (by decide) ?_
    exact t_admitted_14 S v1 (0 : Int32) ρ h (lv_sub hl [0, 1] rfl) hW
  · refine lv_iconst (v := 1) hx hb d_admitted_9 (by decide) ?_
    refine lv_goto (tgt := 14) hx hb d_admitted_10 (by decide) ?_
    exact t_admitted_14 S v1 (1 : Int32) ρ h (lv_sub hl [0, 1] rfl) hW
theorem c_admitted (v1 : Int32) (ρ : RS) {x : Int32} {ρ' : RS} (h : m_admitted v1 ρ = some (x, ρ')) : RMet l D tc o y_admitted k_admitted 3 (some .boolean) 5 124 [.ref o, .int v1] ρ (some (.int x)) ρ' := rm_met (by decide) (Nat.le_of_ble_eq_true rfl) fun p e s m args below meth c S hW ls hl => t_admitted_0 S v1 ρ h hl hW
end

/-! grown (I)V -/
abbrev k_grown : ByteArray := prog_12_method_38_code
abbrev y_grown : MethodName := ⟨cn_M, "grown", "(I)V"⟩
theorem q_grown : Calee y_grown k_grown 4 none 1 := ⟨wd_1639, wd_90, by decide, by decide +kernel⟩
theorem d_grown_0 : decode k_grown 0 = .ok (.aload_n 0, 1) := by decide +kernel
theorem d_grown_1 : decode k_grown 1 = .ok (.getfield 248, 3) := by decide +kernel
theorem d_grown_4 : decode k_grown 4 = .ok (.aload_n 0, 1) := by decide +kernel
theorem d_grown_5 : decode k_grown 5 = .ok (.getfield 45, 3) := by decide +kernel
theorem d_grown_8 : decode k_grown 8 = .ok (.iload_n 1, 1) := by decide +kernel
theorem d_grown_9 : decode k_grown 9 = .ok (.iaload, 1) := by decide +kernel
theorem d_grown_10 : decode k_grown 10 = .ok (.isub, 1) := by decide +kernel
theorem d_grown_11 : decode k_grown 11 = .ok (.istore_n 2, 1) := by decide +kernel
theorem d_grown_12 : decode k_grown 12 = .ok (.aload_n 0, 1) := by decide +kernel
theorem d_grown_13 : decode k_grown 13 = .ok (.getfield 72, 3) := by decide +kernel
theorem d_grown_16 : decode k_grown 16 = .ok (.iload_n 1, 1) := by decide +kernel
theorem d_grown_17 : decode k_grown 17 = .ok (.iaload, 1) := by decide +kernel
theorem d_grown_18 : decode k_grown 18 = .ok (.aload_n 0, 1) := by decide +kernel
theorem d_grown_19 : decode k_grown 19 = .ok (.getfield 75, 3) := by decide +kernel
theorem d_grown_22 : decode k_grown 22 = .ok (.iload_n 1, 1) := by decide +kernel
theorem d_grown_23 : decode k_grown 23 = .ok (.iaload, 1) := by decide +kernel
theorem d_grown_24 : decode k_grown 24 = .ok (.if_icmp .ge 35, 3) := by decide +kernel
theorem d_grown_27 : decode k_grown 27 = .ok (.aload_n 0, 1) := by decide +kernel
theorem d_grown_28 : decode k_grown 28 = .ok (.getfield 72, 3) := by decide +kernel
theorem d_grown_31 : decode k_grown 31 = .ok (.iload_n 1, 1) := by decide +kernel
theorem d_grown_32 : decode k_grown 32 = .ok (.dup2, 1) := by decide +kernel
theorem d_grown_33 : decode k_grown 33 = .ok (.iaload, 1) := by decide +kernel
theorem d_grown_34 : decode k_grown 34 = .ok (.iload_n 2, 1) := by decide +kernel
theorem d_grown_35 : decode k_grown 35 = .ok (.aload_n 0, 1) := by decide +kernel
theorem d_grown_36 : decode k_grown 36 = .ok (.getfield 63, 3) := by decide +kernel
theorem d_grown_39 : decode k_grown 39 = .ok (.iload_n 1, 1) := by decide +kernel
theorem d_grown_40 : decode k_grown 40 = .ok (.iaload, 1) := by decide +kernel
theorem d_grown_41 : decode k_grown 41 = .ok (.if_icmp .ge 7, 3) := by decide +kernel
theorem d_grown_44 : decode k_grown 44 = .ok (.iload_n 2, 1) := by decide +kernel
theorem d_grown_45 : decode k_grown 45 = .ok (.goto 9, 3) := by decide +kernel
theorem d_grown_48 : decode k_grown 48 = .ok (.aload_n 0, 1) := by decide +kernel
theorem d_grown_49 : decode k_grown 49 = .ok (.getfield 63, 3) := by decide +kernel
theorem d_grown_52 : decode k_grown 52 = .ok (.iload_n 1, 1) := by decide +kernel
theorem d_grown_53 : decode k_grown 53 = .ok (.iaload, 1) := by decide +kernel
theorem d_grown_54 : decode k_grown 54 = .ok (.iadd, 1) := by decide +kernel
theorem d_grown_55 : decode k_grown 55 = .ok (.iastore, 1) := by decide +kernel
theorem d_grown_56 : decode k_grown 56 = .ok (.goto 43, 3) := by decide +kernel
theorem d_grown_59 : decode k_grown 59 = .ok (.aload_n 0, 1) := by decide +kernel
theorem d_grown_60 : decode k_grown 60 = .ok (.getfield 63, 3) := by decide +kernel
theorem d_grown_63 : decode k_grown 63 = .ok (.iload_n 1, 1) := by decide +kernel
theorem d_grown_64 : decode k_grown 64 = .ok (.iaload, 1) := by decide +kernel
theorem d_grown_65 : decode k_grown 65 = .ok (.aload_n 0, 1) := by decide +kernel
theorem d_grown_66 : decode k_grown 66 = .ok (.getfield 63, 3) := by decide +kernel
theorem d_grown_69 : decode k_grown 69 = .ok (.iload_n 1, 1) := by decide +kernel
theorem d_grown_70 : decode k_grown 70 = .ok (.iaload, 1) := by decide +kernel
theorem d_grown_71 : decode k_grown 71 = .ok (.imul, 1) := by decide +kernel
theorem d_grown_72 : decode k_grown 72 = .ok (.aload_n 0, 1) := by decide +kernel
theorem d_grown_73 : decode k_grown 73 = .ok (.getfield 72, 3) := by decide +kernel
theorem d_grown_76 : decode k_grown 76 = .ok (.iload_n 1, 1) := by decide +kernel
theorem d_grown_77 : decode k_grown 77 = .ok (.iaload, 1) := by decide +kernel
theorem d_grown_78 : decode k_grown 78 = .ok (.idiv, 1) := by decide +kernel
theorem d_grown_79 : decode k_grown 79 = .ok (.istore_n 3, 1) := by decide +kernel
theorem d_grown_80 : decode k_grown 80 = .ok (.aload_n 0, 1) := by decide +kernel
theorem d_grown_81 : decode k_grown 81 = .ok (.getfield 72, 3) := by decide +kernel
theorem d_grown_84 : decode k_grown 84 = .ok (.iload_n 1, 1) := by decide +kernel
theorem d_grown_85 : decode k_grown 85 = .ok (.dup2, 1) := by decide +kernel
theorem d_grown_86 : decode k_grown 86 = .ok (.iaload, 1) := by decide +kernel
theorem d_grown_87 : decode k_grown 87 = .ok (.iload_n 3, 1) := by decide +kernel
theorem d_grown_88 : decode k_grown 88 = .ok (.iconst 1, 1) := by decide +kernel
theorem d_grown_89 : decode k_grown 89 = .ok (.if_icmp .ge 7, 3) := by decide +kernel
theorem d_grown_92 : decode k_grown 92 = .ok (.iconst 1, 1) := by decide +kernel
theorem d_grown_93 : decode k_grown 93 = .ok (.goto 4, 3) := by decide +kernel
theorem d_grown_96 : decode k_grown 96 = .ok (.iload_n 3, 1) := by decide +kernel
theorem d_grown_97 : decode k_grown 97 = .ok (.iadd, 1) := by decide +kernel
theorem d_grown_98 : decode k_grown 98 = .ok (.iastore, 1) := by decide +kernel
theorem d_grown_99 : decode k_grown 99 = .ok (.aload_n 0, 1) := by decide +kernel
theorem d_grown_100 : decode k_grown 100 = .ok (.getfield 72, 3) := by decide +kernel
theorem d_grown_103 : decode k_grown 103 = .ok (.iload_n 1, 1) := by decide +kernel
theorem d_grown_104 : decode k_grown 104 = .ok (.iaload, 1) := by decide +kernel
theorem d_grown_105 : decode k_grown 105 = .ok (.ldc_w 298, 3) := by decide +kernel
theorem d_grown_108 : decode k_grown 108 = .ok (.if_icmp .le 12, 3) := by decide +kernel
theorem d_grown_111 : decode k_grown 111 = .ok (.aload_n 0, 1) := by decide +kernel
theorem d_grown_112 : decode k_grown 112 = .ok (.getfield 72, 3) := by decide +kernel
theorem d_grown_115 : decode k_grown 115 = .ok (.iload_n 1, 1) := by decide +kernel
theorem d_grown_116 : decode k_grown 116 = .ok (.ldc_w 298, 3) := by decide +kernel
theorem d_grown_119 : decode k_grown 119 = .ok (.iastore, 1) := by decide +kernel
theorem d_grown_120 : decode k_grown 120 = .ok (.return_, 1) := by decide +kernel
def b_grown_120 (ρ : RS) : Option (RS) :=
  some ρ
def b_grown_99 (v1 : Int32) (ρ : RS) : Option (RS) :=
  gd (inb v1 2) <| bd (ρ.1 20 v1.toNatClampNeg) fun x1 => if x1 ≤ (1000000 : Int32) then
  (b_grown_120  ρ)
 else
  (gd (inb v1 2) <| bd (si ρ 20 v1.toNatClampNeg (1000000 : Int32)) fun r2 => b_grown_120  r2)
def b_grown_97 (v1 : Int32) (w1 : Int32) (w2 : Int32) (w3 : Int32) (ρ : RS) : Option (RS) :=
  gd (inb w1 2) <| bd (si ρ 20 w1.toNatClampNeg (w2 + w3)) fun r1 => b_grown_99 v1 r1
def b_grown_54 (v1 : Int32) (w1 : Int32) (w2 : Int32) (w3 : Int32) (ρ : RS) : Option (RS) :=
  gd (inb w1 2) <| bd (si ρ 20 w1.toNatClampNeg (w2 + w3)) fun r1 => b_grown_99 v1 r1
def m_grown (v1 : Int32) (ρ : RS) : Option (RS) :=
  bd (ρ.1 0 47) fun x1 => gd (inb v1 2) <| bd (ρ.1 11 v1.toNatClampNeg) fun x2 => bd (x1 - x2) fun x3 => gd (inb v1 2) <| bd (ρ.1 20 v1.toNatClampNeg) fun x4 => gd (inb v1 2) <| bd (ρ.1 21 v1.toNatClampNeg) fun x5 => if x5 ≤ x4 then
  (gd (inb v1 2) <| bd (ρ.1 17 v1.toNatClampNeg) fun x6 => gd (inb v1 2) <| bd (ρ.1 17 v1.toNatClampNeg) fun x7 => gd (inb v1 2) <| bd (ρ.1 20 v1.toNatClampNeg) fun x8 => gd (¬ x8 = 0) <| bd ((x6 * x7) / x8) fun x9 => gd (inb v1 2) <| bd (ρ.1 20 v1.toNatClampNeg) fun x10 => if (1 : Int32) ≤ x9 then
  (b_grown_97 v1 v1 x10 x9 ρ)
 else
  (b_grown_97 v1 v1 x10 (1 : Int32) ρ))
 else
  (gd (inb v1 2) <| bd (ρ.1 20 v1.toNatClampNeg) fun x11 => gd (inb v1 2) <| bd (ρ.1 17 v1.toNatClampNeg) fun x12 => if x12 ≤ x3 then
  (gd (inb v1 2) <| bd (ρ.1 17 v1.toNatClampNeg) fun x13 => b_grown_54 v1 v1 x11 x13 ρ)
 else
  (b_grown_54 v1 v1 x11 x3 ρ))
section
variable {p : Program} {l : Launch} {e : Env} {s : State} {m : MethodId} {args : Array Value} {below : List Frame} {meth : Method} {c : Code} {D : va_G} {tc : Nat → ClassId} {o : Nat}
theorem t_grown_120 (S : RC p m c k_grown 4 s args cn_M meth none D tc) (ρ : RS) {B : RS} (h : b_grown_120  ρ = some B) {ls : Array Slot} {H : Heap} {locs : List Loc} (hl : lv_has ls 4 []) (hW : RWS D tc o s ρ H locs) : W p l e { frames := 0, cells := 0, slots := 0, locals := 0 } s m args below meth c H locs 0 0 (MQ below (RQ D tc o none B) args s 0 0 (rreg o)) (F0 m 120 ls []) := by
  have hx := S.1.1
  have hb := S.1.2.1
  unfold b_grown_120 at h
  exact rm_vret S hW d_grown_120 h
theorem t_grown_99 (S : RC p m c k_grown 4 s args cn_M meth none D tc) (v1 : Int32) (ρ : RS) {B : RS} (h : b_grown_99 v1 ρ = some B) {ls : Array Slot} {H : Heap} {locs : List Loc} (hl : lv_has ls 4 [(0, .ref o), (1, .int v1)]) (hW : RWS D tc o s ρ H locs) : W p l e { frames := 0, cells := 0, slots := 0, locals := 0 } s m args below meth c H locs 0 0 (MQ below (RQ D tc o none B) args s 0 0 (rreg o)) (F0 m 99 ls []) := by
  have hx := S.1.1
  have hb := S.1.2.1
  unfold b_grown_99 at h
  refine lv_aload_n hx hb d_grown_99 rfl (lv_at hl 0 rfl) ?_
  refine rm_geta S hW 25 20 wd_1277 (by decide) d_grown_100 ?_
  refine lv_iload_n hx hb d_grown_103 rfl (lv_at hl 1 rfl) ?_
  refine rm_iald S hW 20 2 (by decide) d_grown_104 h (fun x1 h => ?_)
  refine lv_ldcw hx hb S.1.2.2.2.1 (S.1.2.2.2.2 _ (gi wd_1547 rfl)) d_grown_105 ?_
  refine rc_le (tgt := 120) hx hb d_grown_108 (by decide) h (fun h => ?_) (fun h => ?_)
  · exact t_grown_120 S  ρ h (lv_sub hl [] rfl) hW
  · refine lv_aload_n hx hb d_grown_111 rfl (lv_at hl 0 rfl) ?_
    refine rm_geta S hW 25 20 wd_1277 (by decide) d_grown_112 ?_
    refine lv_iload_n hx hb d_grown_115 rfl (lv_at hl 1 rfl) ?_
    refine lv_ldcw hx hb S.1.2.2.2.1 (S.1.2.2.2.2 _ (gi wd_1547 rfl)) d_grown_116 ?_
    refine rm_iast S hW 20 2 (by decide) d_grown_119 h (fun r2 H locs h hW => ?_)
    exact t_grown_120 S  r2 h (lv_sub hl [] rfl) hW
theorem t_grown_97 (S : RC p m c k_grown 4 s args cn_M meth none D tc) (v1 : Int32) (w1 : Int32) (w2 : Int32) (w3 : Int32) (ρ : RS) {B : RS} (h : b_grown_97 v1 w1 w2 w3 ρ = some B) {ls : Array Slot} {H : Heap} {locs : List Loc} (hl : lv_has ls 4 [(0, .ref o), (1, .int v1)]) (hW : RWS D tc o s ρ H locs) : W p l e { frames := 0, cells := 0, slots := 0, locals := 0 } s m args below meth c H locs 0 0 (MQ below (RQ D tc o none B) args s 0 0 (rreg o)) (F0 m 97 ls [.int w3, .int w2, .int w1, .ref (o + 20)]) := by
  have hx := S.1.1
  have hb := S.1.2.1
  unfold b_grown_97 at h
  refine lv_iadd hx hb d_grown_97 ?_
  refine rm_iast S hW 20 2 (by decide) d_grown_98 h (fun r1 H locs h hW => ?_)
  exact t_grown_99 S v1 r1 h (lv_sub hl [0, 1] rfl) hW
theorem t_grown_54 (S : RC p m c k_grown 4 s args cn_M meth none D tc) (v1 : Int32) (w1 : Int32) (w2 : Int32) (w3 : Int32) (ρ : RS) {B : RS} (h : b_grown_54 v1 w1 w2 w3 ρ = some B) {ls : Array Slot} {H : Heap} {locs : List Loc} (hl : lv_has ls 4 [(0, .ref o), (1, .int v1)]) (hW : RWS D tc o s ρ H locs) : W p l e { frames := 0, cells := 0, slots := 0, locals := 0 } s m args below meth c H locs 0 0 (MQ below (RQ D tc o none B) args s 0 0 (rreg o)) (F0 m 54 ls [.int w3, .int w2, .int w1, .ref (o + 20)]) := by
  have hx := S.1.1
  have hb := S.1.2.1
  unfold b_grown_54 at h
  refine lv_iadd hx hb d_grown_54 ?_
  refine rm_iast S hW 20 2 (by decide) d_grown_55 h (fun r1 H locs h hW => ?_)
  refine lv_goto (tgt := 99) hx hb d_grown_56 (by decide) ?_
  exact t_grown_99 S v1 r1 h (lv_sub hl [0, 1] rfl) hW
theorem t_grown_0 (S : RC p m c k_grown 4 s args cn_M meth none D tc) (v1 : Int32) (ρ : RS) {B : RS} (h : m_grown v1 ρ = some B) {ls : Array Slot} {H : Heap} {locs : List Loc} (hl : lv_has ls 4 [(0, .ref o), (1, .int v1)]) (hW : RWS D tc o s ρ H locs) : W p l e { frames := 0, cells := 0, slots := 0, locals := 0 } s m args below meth c H locs 0 0 (MQ below (RQ D tc o none B) args s 0 0 (rreg o)) (F0 m 0 ls []) := by
  have hx := S.1.1
  have hb := S.1.2.1
  unfold m_grown at h
  refine lv_aload_n hx hb d_grown_0 rfl (lv_at hl 0 rfl) ?_
  refine rm_geti S hW 47 wd_1299 (by decide) d_grown_1 h (fun x1 h => ?_)
  refine lv_aload_n hx hb d_grown_4 rfl (lv_at hl 0 rfl) ?_
  refine rm_geta S hW 16 11 wd_1268 (by decide) d_grown_5 ?_
  refine lv_iload_n hx hb d_grown_8 rfl (lv_at hl 1 rfl) ?_
  refine rm_iald S hW 11 2 (by decide) d_grown_9 h (fun x2 h => ?_)
  refine lv_isub hx hb d_grown_10 ?_
  refine rv_i h (fun x3 h => ?_)
  refine lv_istore_n (lv' := [(2, .int x3), (0, .ref o), (1, .int v1)]) hx hb d_grown_11 rfl hl (by decide) rfl (fun ls hl => ?_)
  refine lv_aload_n hx hb d_grown_12 rfl (lv_at hl 1 rfl) ?_
  refine rm_geta S hW 25 20 wd_1277 (by decide) d_grown_13 ?_
  refine lv_iload_n hx hb d_grown_16 rfl (lv_at hl 2 rfl) ?_
  refine rm_iald S hW 20 2 (by decide) d_grown_17 h (fun x4 h => ?_)
  refine lv_aload_n hx hb d_grown_18 rfl (lv_at hl 1 rfl) ?_
  refine rm_geta S hW 26 21 wd_1278 (by decide) d_grown_19 ?_
  refine lv_iload_n hx hb d_grown_22 rfl (lv_at hl 2 rfl) ?_
  refine rm_iald S hW 21 2 (by decide) d_grown_23 h (fun x5 h => ?_)
  refine rc_ge (tgt := 59) hx hb d_grown_24 (by decide) h (fun h => ?_) (fun h => ?_)
  · refine lv_aload_n hx hb d_grown_59 rfl (lv_at hl 1 rfl) ?_
    refine rm_geta S hW 22 17 wd_1274 (by decide) d_grown_60 ?_
    refine lv_iload_n hx hb d_grown_63 rfl (lv_at hl 2 rfl) ?_
    refine rm_iald S hW 17 2 (by decide) d_grown_64 h (fun x6 h => ?_)
    refine lv_aload_n hx hb d_grown_65 rfl (lv_at hl 1 rfl) ?_
    refine rm_geta S hW 22 17 wd_1274 (by decide) d_grown_66 ?_
    refine lv_iload_n hx hb d_grown_69 rfl (lv_at hl 2 rfl) ?_
    refine rm_iald S hW 17 2 (by decide) d_grown_70 h (fun x7 h => ?_)
    refine lv_imul hx hb d_grown_71 ?_
    refine lv_aload_n hx hb d_grown_72 rfl (lv_at hl 1 rfl) ?_
    refine rm_geta S hW 25 20 wd_1277 (by decide) d_grown_73 ?_
    refine lv_iload_n hx hb d_grown_76 rfl (lv_at hl 2 rfl) ?_
    refine rm_iald S hW 20 2 (by decide) d_grown_77 h (fun x8 h => ?_)
    refine rv_idiv hx hb d_grown_78 h (fun h => ?_)
    refine rv_i h (fun x9 h => ?_)
    refine lv_istore_n (lv' := [(3, .int x9), (2, .int x3), (0, .ref o), (1, .int v1)]) hx hb d_grown_79 rfl hl (by decide) rfl (fun ls hl => ?_)
    refine lv_aload_n hx hb d_grown_80 rfl (lv_at hl 2 rfl) ?_
    refine rm_geta S hW 25 20 wd_1277 (by decide) d_grown_81 ?_
    refine lv_iload_n hx hb d_grown_84 rfl (lv_at hl 3 rfl) ?_
    refine lv_dup2_11 hx hb d_grown_85 rfl rfl ?_
    refine rm_iald S hW 20 2 (by decide) d_grown_86 h (fun x10 h => ?_)
    refine lv_iload_n hx hb d_grown_87 rfl (lv_at hl 0 rfl) ?_
    refine lv_iconst (v := 1) hx hb d_grown_88 (by decide) ?_
    refine rc_ge (tgt := 96) hx hb d_grown_89 (by decide) h (fun h => ?_) (fun h => ?_)
    · refine lv_iload_n hx hb d_grown_96 rfl (lv_at hl 0 rfl) ?_
      exact t_grown_97 S v1 v1 x10 x9 ρ h (lv_sub hl [2, 3] rfl) hW
    · refine lv_iconst (v := 1) hx hb d_grown_92 (by decide) ?_
      refine lv_goto (tgt := 97) hx hb d_grown_93 (by decide) ?_
      exact t_grown_97 S v1 v1 x10 (1 : Int32) ρ h (lv_sub hl [2, 3] rfl) hW
  · refine lv_aload_n hx hb d_grown_27 rfl (lv_at hl 1 rfl) ?_
    refine rm_geta S hW 25 20 wd_1277 (by decide) d_grown_28 ?_
    refine lv_iload_n hx hb d_grown_31 rfl (lv_at hl 2 rfl) ?_
    refine lv_dup2_11 hx hb d_grown_32 rfl rfl ?_
    refine rm_iald S hW 20 2 (by decide) d_grown_33 h (fun x11 h => ?_)
    refine lv_iload_n hx hb d_grown_34 rfl (lv_at hl 0 rfl) ?_
    refine lv_aload_n hx hb d_grown_35 rfl (lv_at hl 1 rfl) ?_
    refine rm_geta S hW 22 17 wd_1274 (by decide) d_grown_36 ?_
    refine lv_iload_n hx hb d_grown_39 rfl (lv_at hl 2 rfl) ?_
    refine rm_iald S hW 17 2 (by decide) d_grown_40 h (fun x12 h => ?_)
    refine rc_ge (tgt := 48) hx hb d_grown_41 (by decide) h (fun h => ?_) (fun h => ?_)
    · refine lv_aload_n hx hb d_grown_48 rfl (lv_at hl 1 rfl) ?_
      refine rm_geta S hW 22 17 wd_1274 (by decide) d_grown_49 ?_
      refine lv_iload_n hx hb d_grown_52 rfl (lv_at hl 2 rfl) ?_
      refine rm_iald S hW 17 2 (by decide) d_grown_53 h (fun x13 h => ?_)
      exact t_grown_54 S v1 v1 x11 x13 ρ h (lv_sub hl [1, 2] rfl) hW
    · refine lv_iload_n hx hb d_grown_44 rfl (lv_at hl 0 rfl) ?_
      refine lv_goto (tgt := 54) hx hb d_grown_45 (by decide) ?_
      exact t_grown_54 S v1 v1 x11 x3 ρ h (lv_sub hl [1, 2] rfl) hW
theorem c_grown (v1 : Int32) (ρ : RS) {B : RS} (h : m_grown v1 ρ = some B) : RMet l D tc o y_grown k_grown 4 none 0 0 [.ref o, .int v1] ρ none B := rm_met (by decide) (Nat.le_of_ble_eq_true rfl) fun p e s m args below meth c S hW ls hl => t_grown_0 S v1 ρ h hl hW
end

/-! again (I)V -/
abbrev k_again : ByteArray := prog_12_method_39_code
abbrev y_again : MethodName := ⟨cn_M, "again", "(I)V"⟩
theorem q_again : Calee y_again k_again 5 none 1 := ⟨wd_1643, wd_90, by decide, by decide +kernel⟩
theorem d_again_0 : decode k_again 0 = .ok (.aload_n 0, 1) := by decide +kernel
theorem d_again_1 : decode k_again 1 = .ok (.getfield 75, 3) := by decide +kernel
theorem d_again_4 : decode k_again 4 = .ok (.iload_n 1, 1) := by decide +kernel
theorem d_again_5 : decode k_again 5 = .ok (.aload_n 0, 1) := by decide +kernel
theorem d_again_6 : decode k_again 6 = .ok (.iload_n 1, 1) := by decide +kernel
theorem d_again_7 : decode k_again 7 = .ok (.invokevirtual 223, 3) := by decide +kernel
theorem d_again_10 : decode k_again 10 = .ok (.iastore, 1) := by decide +kernel
theorem d_again_11 : decode k_again 11 = .ok (.aload_n 0, 1) := by decide +kernel
theorem d_again_12 : decode k_again 12 = .ok (.getfield 72, 3) := by decide +kernel
theorem d_again_15 : decode k_again 15 = .ok (.iload_n 1, 1) := by decide +kernel
theorem d_again_16 : decode k_again 16 = .ok (.aload_n 0, 1) := by decide +kernel
theorem d_again_17 : decode k_again 17 = .ok (.getfield 75, 3) := by decide +kernel
theorem d_again_20 : decode k_again 20 = .ok (.iload_n 1, 1) := by decide +kernel
theorem d_again_21 : decode k_again 21 = .ok (.iaload, 1) := by decide +kernel
theorem d_again_22 : decode k_again 22 = .ok (.iastore, 1) := by decide +kernel
theorem d_again_23 : decode k_again 23 = .ok (.aload_n 0, 1) := by decide +kernel
theorem d_again_24 : decode k_again 24 = .ok (.getfield 120, 3) := by decide +kernel
theorem d_again_27 : decode k_again 27 = .ok (.iload_n 1, 1) := by decide +kernel
theorem d_again_28 : decode k_again 28 = .ok (.iconst 0, 1) := by decide +kernel
theorem d_again_29 : decode k_again 29 = .ok (.bastore, 1) := by decide +kernel
theorem d_again_30 : decode k_again 30 = .ok (.aload_n 0, 1) := by decide +kernel
theorem d_again_31 : decode k_again 31 = .ok (.getfield 45, 3) := by decide +kernel
theorem d_again_34 : decode k_again 34 = .ok (.iload_n 1, 1) := by decide +kernel
theorem d_again_35 : decode k_again 35 = .ok (.iaload, 1) := by decide +kernel
theorem d_again_36 : decode k_again 36 = .ok (.aload_n 0, 1) := by decide +kernel
theorem d_again_37 : decode k_again 37 = .ok (.getfield 42, 3) := by decide +kernel
theorem d_again_40 : decode k_again 40 = .ok (.iload_n 1, 1) := by decide +kernel
theorem d_again_41 : decode k_again 41 = .ok (.iaload, 1) := by decide +kernel
theorem d_again_42 : decode k_again 42 = .ok (.isub, 1) := by decide +kernel
theorem d_again_43 : decode k_again 43 = .ok (.iconst 1, 1) := by decide +kernel
theorem d_again_44 : decode k_again 44 = .ok (.isub, 1) := by decide +kernel
theorem d_again_45 : decode k_again 45 = .ok (.istore_n 2, 1) := by decide +kernel
theorem d_again_46 : decode k_again 46 = .ok (.aload_n 0, 1) := by decide +kernel
theorem d_again_47 : decode k_again 47 = .ok (.getfield 51, 3) := by decide +kernel
theorem d_again_50 : decode k_again 50 = .ok (.iload_n 1, 1) := by decide +kernel
theorem d_again_51 : decode k_again 51 = .ok (.iaload, 1) := by decide +kernel
theorem d_again_52 : decode k_again 52 = .ok (.aload_n 0, 1) := by decide +kernel
theorem d_again_53 : decode k_again 53 = .ok (.getfield 42, 3) := by decide +kernel
theorem d_again_56 : decode k_again 56 = .ok (.iload_n 1, 1) := by decide +kernel
theorem d_again_57 : decode k_again 57 = .ok (.iaload, 1) := by decide +kernel
theorem d_again_58 : decode k_again 58 = .ok (.isub, 1) := by decide +kernel
theorem d_again_59 : decode k_again 59 = .ok (.iconst 1, 1) := by decide +kernel
theorem d_again_60 : decode k_again 60 = .ok (.isub, 1) := by decide +kernel
theorem d_again_61 : decode k_again 61 = .ok (.istore_n 3, 1) := by decide +kernel
theorem d_again_62 : decode k_again 62 = .ok (.iload_n 3, 1) := by decide +kernel
theorem d_again_63 : decode k_again 63 = .ok (.aload_n 0, 1) := by decide +kernel
theorem d_again_64 : decode k_again 64 = .ok (.getfield 108, 3) := by decide +kernel
theorem d_again_67 : decode k_again 67 = .ok (.iload_n 1, 1) := by decide +kernel
theorem d_again_68 : decode k_again 68 = .ok (.iaload, 1) := by decide +kernel
theorem d_again_69 : decode k_again 69 = .ok (.if_icmp .le 10, 3) := by decide +kernel
theorem d_again_72 : decode k_again 72 = .ok (.aload_n 0, 1) := by decide +kernel
theorem d_again_73 : decode k_again 73 = .ok (.getfield 108, 3) := by decide +kernel
theorem d_again_76 : decode k_again 76 = .ok (.iload_n 1, 1) := by decide +kernel
theorem d_again_77 : decode k_again 77 = .ok (.iaload, 1) := by decide +kernel
theorem d_again_78 : decode k_again 78 = .ok (.istore_n 3, 1) := by decide +kernel
theorem d_again_79 : decode k_again 79 = .ok (.iload_n 3, 1) := by decide +kernel
theorem d_again_80 : decode k_again 80 = .ok (.iload_n 2, 1) := by decide +kernel
theorem d_again_81 : decode k_again 81 = .ok (.isub, 1) := by decide +kernel
theorem d_again_82 : decode k_again 82 = .ok (.istore 4, 2) := by decide +kernel
theorem d_again_84 : decode k_again 84 = .ok (.iload 4, 2) := by decide +kernel
theorem d_again_86 : decode k_again 86 = .ok (.aload_n 0, 1) := by decide +kernel
theorem d_again_87 : decode k_again 87 = .ok (.getfield 63, 3) := by decide +kernel
theorem d_again_90 : decode k_again 90 = .ok (.iload_n 1, 1) := by decide +kernel
theorem d_again_91 : decode k_again 91 = .ok (.iaload, 1) := by decide +kernel
theorem d_again_92 : decode k_again 92 = .ok (.if_icmp .le 11, 3) := by decide +kernel
theorem d_again_95 : decode k_again 95 = .ok (.aload_n 0, 1) := by decide +kernel
theorem d_again_96 : decode k_again 96 = .ok (.getfield 63, 3) := by decide +kernel
theorem d_again_99 : decode k_again 99 = .ok (.iload_n 1, 1) := by decide +kernel
theorem d_again_100 : decode k_again 100 = .ok (.iaload, 1) := by decide +kernel
theorem d_again_101 : decode k_again 101 = .ok (.istore 4, 2) := by decide +kernel
theorem d_again_103 : decode k_again 103 = .ok (.iload 4, 2) := by decide +kernel
theorem d_again_105 : decode k_again 105 = .ok (.ifCond .le 21, 3) := by decide +kernel
theorem d_again_108 : decode k_again 108 = .ok (.aload_n 0, 1) := by decide +kernel
theorem d_again_109 : decode k_again 109 = .ok (.iload_n 1, 1) := by decide +kernel
theorem d_again_110 : decode k_again 110 = .ok (.iconst 0, 1) := by decide +kernel
theorem d_again_111 : decode k_again 111 = .ok (.aload_n 0, 1) := by decide +kernel
theorem d_again_112 : decode k_again 112 = .ok (.getfield 45, 3) := by decide +kernel
theorem d_again_115 : decode k_again 115 = .ok (.iload_n 1, 1) := by decide +kernel
theorem d_again_116 : decode k_again 116 = .ok (.iaload, 1) := by decide +kernel
theorem d_again_117 : decode k_again 117 = .ok (.iload_n 2, 1) := by decide +kernel
theorem d_again_118 : decode k_again 118 = .ok (.iload 4, 2) := by decide +kernel
theorem d_again_120 : decode k_again 120 = .ok (.invokevirtual 205, 3) := by decide +kernel
theorem d_again_123 : decode k_again 123 = .ok (.goto 17, 3) := by decide +kernel
theorem d_again_126 : decode k_again 126 = .ok (.aload_n 0, 1) := by decide +kernel
theorem d_again_127 : decode k_again 127 = .ok (.iload_n 1, 1) := by decide +kernel
theorem d_again_128 : decode k_again 128 = .ok (.iconst 1, 1) := by decide +kernel
theorem d_again_129 : decode k_again 129 = .ok (.aload_n 0, 1) := by decide +kernel
theorem d_again_130 : decode k_again 130 = .ok (.getfield 45, 3) := by decide +kernel
theorem d_again_133 : decode k_again 133 = .ok (.iload_n 1, 1) := by decide +kernel
theorem d_again_134 : decode k_again 134 = .ok (.iaload, 1) := by decide +kernel
theorem d_again_135 : decode k_again 135 = .ok (.iconst 0, 1) := by decide +kernel
theorem d_again_136 : decode k_again 136 = .ok (.iconst 0, 1) := by decide +kernel
theorem d_again_137 : decode k_again 137 = .ok (.invokevirtual 205, 3) := by decide +kernel
theorem d_again_140 : decode k_again 140 = .ok (.return_, 1) := by decide +kernel
def b_again_140 (ρ : RS) : Option (RS) :=
  some ρ
def b_again_103 (v1 : Int32) (v2 : Int32) (v4 : Int32) (ρ : RS) : Option (RS) :=
  if v4 ≤ 0 then
  (gd (inb v1 2) <| bd (ρ.1 11 v1.toNatClampNeg) fun x1 => bc (m_send v1 (1 : Int32) x1 (0 : Int32) (0 : Int32) ρ) fun r2 => b_again_140  r2)
 else
  (gd (inb v1 2) <| bd (ρ.1 11 v1.toNatClampNeg) fun x3 => bc (m_send v1 (0 : Int32) x3 v2 v4 ρ) fun r4 => b_again_140  r4)
def b_again_79 (v1 : Int32) (v2 : Int32) (v3 : Int32) (ρ : RS) : Option (RS) :=
  bd (v3 - v2) fun x1 => gd (inb v1 2) <| bd (ρ.1 17 v1.toNatClampNeg) fun x2 => if x1 ≤ x2 then
  (b_again_103 v1 v2 x1 ρ)
 else
  (gd (inb v1 2) <| bd (ρ.1 17 v1.toNatClampNeg) fun x3 => b_again_103 v1 v2 x3 ρ)
def m_again (v1 : Int32) (ρ : RS) : Option (RS) :=
  bc2 (m_least v1 ρ) fun x2 r1 => gd (inb v1 2) <| bd (si r1 21 v1.toNatClampNeg x2) fun r3 => gd (inb v1 2) <| bd (r3.1 21 v1.toNatClampNeg) fun x4 => gd (inb v1 2) <| bd (si r3 20 v1.toNatClampNeg x4) fun r5 => gd (inb v1 2) <| bd (si r5 35 v1.toNatClampNeg (vp_nar .boolean (0 : Int32))) fun r6 => gd (inb v1 2) <| bd (r6.1 11 v1.toNatClampNeg) fun x7 => gd (inb v1 2) <| bd (r6.1 10 v1.toNatClampNeg) fun x8 => bd ((x7 - x8) - (1 : Int32)) fun x9 => gd (inb v1 2) <| bd (r6.1 13 v1.toNatClampNeg) fun x10 => gd (inb v1 2) <| bd (r6.1 10 v1.toNatClampNeg) fun x11 => bd ((x10 - x11) - (1 : Int32)) fun x12 => gd (inb v1 2) <| bd (r6.1 32 v1.toNatClampNeg) fun x13 => if x12 ≤ x13 then
  (b_again_79 v1 x9 x12 r6)
 else
  (gd (inb v1 2) <| bd (r6.1 32 v1.toNatClampNeg) fun x14 => b_again_79 v1 x9 x14 r6)
section
variable {p : Program} {l : Launch} {e : Env} {s : State} {m : MethodId} {args : Array Value} {below : List Frame} {meth : Method} {c : Code} {D : va_G} {tc : Nat → ClassId} {o : Nat}
theorem t_again_140 (S : RC p m c k_again 5 s args cn_M meth none D tc) (ρ : RS) {B : RS} (h : b_again_140  ρ = some B) {ls : Array Slot} {H : Heap} {locs : List Loc} (hl : lv_has ls 5 []) (hW : RWS D tc o s ρ H locs) : W p l e { frames := 4, cells := 0, slots := 0, locals := 103 } s m args below meth c H locs 0 0 (MQ below (RQ D tc o none B) args s 0 0 (rreg o)) (F0 m 140 ls []) := by
  have hx := S.1.1
  have hb := S.1.2.1
  unfold b_again_140 at h
  exact rm_vret S hW d_again_140 h
theorem t_again_103 (S : RC p m c k_again 5 s args cn_M meth none D tc) (v1 : Int32) (v2 : Int32) (v4 : Int32) (ρ : RS) {B : RS} (h : b_again_103 v1 v2 v4 ρ = some B) {ls : Array Slot} {H : Heap} {locs : List Loc} (hl : lv_has ls 5 [(0, .ref o), (1, .int v1), (2, .int v2), (4, .int v4)]) (hW : RWS D tc o s ρ H locs) : W p l e { frames := 4, cells := 0, slots := 0, locals := 103 } s m args below meth c H locs 0 0 (MQ below (RQ D tc o none B) args s 0 0 (rreg o)) (F0 m 103 ls []) := by
  have hx := S.1.1
  have hb := S.1.2.1
  unfold b_again_103 at h
  refine lv_iload hx hb d_again_103 (lv_at hl 3 rfl) ?_
  refine rb_le (tgt := 126) hx hb d_again_105 (by decide) h (fun h => ?_) (fun h => ?_)
  · refine lv_aload_n hx hb d_again_126 rfl (lv_at hl 0 rfl) ?_
    refine lv_iload_n hx hb d_again_127 rfl (lv_at hl 1 rfl) ?_
    refine lv_iconst (v := 1) hx hb d_again_128 (by decide) ?_
    refine lv_aload_n hx hb d_again_129 rfl (lv_at hl 0 rfl) ?_
    refine rm_geta S hW 16 11 wd_1268 (by decide) d_again_130 ?_
    refine lv_iload_n hx hb d_again_133 rfl (lv_at hl 1 rfl) ?_
    refine rm_iald S hW 11 2 (by decide) d_again_134 h (fun x1 h => ?_)
    refine lv_iconst (v := 0) hx hb d_again_135 (by decide) ?_
    refine lv_iconst (v := 0) hx hb d_again_136 (by decide) ?_
    refine rm_cVv [.int v1, .int (1 : Int32), .int x1, .int (0 : Int32), .int (0 : Int32)] S hW (fun ρ' hc => c_send v1 (1 : Int32) x1 (0 : Int32) (0 : Int32) ρ hc) q_send wd_1449 wd_37 wd_1447 (by decide) hl.1 rfl rfl (Nat.le_of_ble_eq_true rfl) d_again_137 h (fun r2 H locs h hW => ?_)
    exact t_again_140 S  r2 h (lv_sub hl [] rfl) hW
  · refine lv_aload_n hx hb d_again_108 rfl (lv_at hl 0 rfl) ?_
    refine lv_iload_n hx hb d_again_109 rfl (lv_at hl 1 rfl) ?_
    refine lv_iconst (v := 0) hx hb d_again_110 (by decide) ?_
    refine lv_aload_n hx hb d_again_111 rfl (lv_at hl 0 rfl) ?_
    refine rm_geta S hW 16 11 wd_1268 (by decide) d_again_112 ?_
    refine lv_iload_n hx hb d_again_115 rfl (lv_at hl 1 rfl) ?_
    refine rm_iald S hW 11 2 (by decide) d_again_116 h (fun x3 h => ?_)
    refine lv_iload_n hx hb d_again_117 rfl (lv_at hl 2 rfl) ?_
    refine lv_iload hx hb d_again_118 (lv_at hl 3 rfl) ?_
    refine rm_cVv [.int v1, .int (0 : Int32), .int x3, .int v2, .int v4] S hW (fun ρ' hc => c_send v1 (0 : Int32) x3 v2 v4 ρ hc) q_send wd_1449 wd_37 wd_1447 (by decide) hl.1 rfl rfl (Nat.le_of_ble_eq_true rfl) d_again_120 h (fun r4 H locs h hW => ?_)
    refine lv_goto (tgt := 140) hx hb d_again_123 (by decide) ?_
    exact t_again_140 S  r4 h (lv_sub hl [] rfl) hW
theorem t_again_79 (S : RC p m c k_again 5 s args cn_M meth none D tc) (v1 : Int32) (v2 : Int32) (v3 : Int32) (ρ : RS) {B : RS} (h : b_again_79 v1 v2 v3 ρ = some B) {ls : Array Slot} {H : Heap} {locs : List Loc} (hl : lv_has ls 5 [(0, .ref o), (1, .int v1), (2, .int v2), (3, .int v3)]) (hW : RWS D tc o s ρ H locs) : W p l e { frames := 4, cells := 0, slots := 0, locals := 103 } s m args below meth c H locs 0 0 (MQ below (RQ D tc o none B) args s 0 0 (rreg o)) (F0 m 79 ls []) := by
  have hx := S.1.1
  have hb := S.1.2.1
  unfold b_again_79 at h
  refine lv_iload_n hx hb d_again_79 rfl (lv_at hl 3 rfl) ?_
  refine lv_iload_n hx hb d_again_80 rfl (lv_at hl 2 rfl) ?_
  refine lv_isub hx hb d_again_81 ?_
  refine rv_i h (fun x1 h => ?_)
  refine lv_istore (lv' := [(4, .int x1), (0, .ref o), (1, .int v1), (2, .int v2), (3, .int v3)]) hx hb d_again_82 hl (by decide) rfl (fun ls hl => ?_)
  refine lv_iload hx hb d_again_84 (lv_at hl 0 rfl) ?_
  refine lv_aload_n hx hb d_again_86 rfl (lv_at hl 1 rfl) ?_
  refine rm_geta S hW 22 17 wd_1274 (by decide) d_again_87 ?_
  refine lv_iload_n hx hb d_again_90 rfl (lv_at hl 2 rfl) ?_
  refine rm_iald S hW 17 2 (by decide) d_again_91 h (fun x2 h => ?_)
  refine rc_le (tgt := 103) hx hb d_again_92 (by decide) h (fun h => ?_) (fun h => ?_)
  · exact t_again_103 S v1 v2 x1 ρ h (lv_sub hl [1, 2, 3, 0] rfl) hW
  · refine lv_aload_n hx hb d_again_95 rfl (lv_at hl 1 rfl) ?_
    refine rm_geta S hW 22 17 wd_1274 (by decide) d_again_96 ?_
    refine lv_iload_n hx hb d_again_99 rfl (lv_at hl 2 rfl) ?_
    refine rm_iald S hW 17 2 (by decide) d_again_100 h (fun x3 h => ?_)
    refine lv_istore (lv' := [(4, .int x3), (0, .ref o), (1, .int v1), (2, .int v2), (3, .int v3)]) hx hb d_again_101 hl (by decide) rfl (fun ls hl => ?_)
    exact t_again_103 S v1 v2 x3 ρ h (lv_sub hl [1, 2, 3, 0] rfl) hW
theorem t_again_0 (S : RC p m c k_again 5 s args cn_M meth none D tc) (v1 : Int32) (ρ : RS) {B : RS} (h : m_again v1 ρ = some B) {ls : Array Slot} {H : Heap} {locs : List Loc} (hl : lv_has ls 5 [(0, .ref o), (1, .int v1)]) (hW : RWS D tc o s ρ H locs) : W p l e { frames := 4, cells := 0, slots := 0, locals := 103 } s m args below meth c H locs 0 0 (MQ below (RQ D tc o none B) args s 0 0 (rreg o)) (F0 m 0 ls []) := by
  have hx := S.1.1
  have hb := S.1.2.1
  unfold m_again at h
  refine lv_aload_n hx hb d_again_0 rfl (lv_at hl 0 rfl) ?_
  refine rm_geta S hW 26 21 wd_1278 (by decide) d_again_1 ?_
  refine lv_iload_n hx hb d_again_4 rfl (lv_at hl 1 rfl) ?_
  refine lv_aload_n hx hb d_again_5 rfl (lv_at hl 0 rfl) ?_
  refine lv_iload_n hx hb d_again_6 rfl (lv_at hl 1 rfl) ?_
  refine rm_cVi [.int v1] S hW (fun x ρ' hc => c_least v1 ρ hc) q_least wd_1555 wd_54 wd_1553 (by decide) hl.1 rfl rfl (Nat.le_of_ble_eq_true rfl) d_again_7 h (fun x2 r1 H locs h hW => ?_)
  refine rm_iast S hW 21 2 (by decide) d_again_10 h (fun r3 H locs h hW => ?_)
  refine lv_aload_n hx hb d_again_11 rfl (lv_at hl 0 rfl) ?_
  refine rm_geta S hW 25 20 wd_1277 (by decide) d_again_12 ?_
  refine lv_iload_n hx hb d_again_15 rfl (lv_at hl 1 rfl) ?_
  refine lv_aload_n hx hb d_again_16 rfl (lv_at hl 0 rfl) ?_
  refine rm_geta S hW 26 21 wd_1278 (by decide) d_again_17 ?_
  refine lv_iload_n hx hb d_again_20 rfl (lv_at hl 1 rfl) ?_
  refine rm_iald S hW 21 2 (by decide) d_again_21 h (fun x4 h => ?_)
  refine rm_iast S hW 20 2 (by decide) d_again_22 h (fun r5 H locs h hW => ?_)
  refine lv_aload_n hx hb d_again_23 rfl (lv_at hl 0 rfl) ?_
  refine rm_geta S hW 40 35 wd_1292 (by decide) d_again_24 ?_
  refine lv_iload_n hx hb d_again_27 rfl (lv_at hl 1 rfl) ?_
  refine lv_iconst (v := 0) hx hb d_again_28 (by decide) ?_
  refine rm_zast S hW 35 2 (by decide) d_again_29 h (fun r6 H locs h hW => ?_)
  refine lv_aload_n hx hb d_again_30 rfl (lv_at hl 0 rfl) ?_
  refine rm_geta S hW 16 11 wd_1268 (by decide) d_again_31 ?_
  refine lv_iload_n hx hb d_again_34 rfl (lv_at hl 1 rfl) ?_
  refine rm_iald S hW 11 2 (by decide) d_again_35 h (fun x7 h => ?_)
  refine lv_aload_n hx hb d_again_36 rfl (lv_at hl 0 rfl) ?_
  refine rm_geta S hW 15 10 wd_1267 (by decide) d_again_37 ?_
  refine lv_iload_n hx hb d_again_40 rfl (lv_at hl 1 rfl) ?_
  refine rm_iald S hW 10 2 (by decide) d_again_41 h (fun x8 h => ?_)
  refine lv_isub hx hb d_again_42 ?_
  refine lv_iconst (v := 1) hx hb d_again_43 (by decide) ?_
  refine lv_isub hx hb d_again_44 ?_
  refine rv_i h (fun x9 h => ?_)
  refine lv_istore_n (lv' := [(2, .int x9), (0, .ref o), (1, .int v1)]) hx hb d_again_45 rfl hl (by decide) rfl (fun ls hl => ?_)
  refine lv_aload_n hx hb d_again_46 rfl (lv_at hl 1 rfl) ?_
  refine rm_geta S hW 18 13 wd_1270 (by decide) d_again_47 ?_
  refine lv_iload_n hx hb d_again_50 rfl (lv_at hl 2 rfl) ?_
  refine rm_iald S hW 13 2 (by decide) d_again_51 h (fun x10 h => ?_)
  refine lv_aload_n hx hb d_again_52 rfl (lv_at hl 1 rfl) ?_
  refine rm_geta S hW 15 10 wd_1267 (by decide) d_again_53 ?_
  refine lv_iload_n hx hb d_again_56 rfl (lv_at hl 2 rfl) ?_
  refine rm_iald S hW 10 2 (by decide) d_again_57 h (fun x11 h => ?_)
  refine lv_isub hx hb d_again_58 ?_
  refine lv_iconst (v := 1) hx hb d_again_59 (by decide) ?_
  refine lv_isub hx hb d_again_60 ?_
  refine rv_i h (fun x12 h => ?_)
  refine lv_istore_n (lv' := [(3, .int x12), (2, .int x9), (0, .ref o), (1, .int v1)]) hx hb d_again_61 rfl hl (by decide) rfl (fun ls hl => ?_)
  refine lv_iload_n hx hb d_again_62 rfl (lv_at hl 0 rfl) ?_
  refine lv_aload_n hx hb d_again_63 rfl (lv_at hl 2 rfl) ?_
  refine rm_geta S hW 37 32 wd_1289 (by decide) d_again_64 ?_
  refine lv_iload_n hx hb d_again_67 rfl (lv_at hl 3 rfl) ?_
  refine rm_iald S hW 32 2 (by decide) d_again_68 h (fun x13 h => ?_)
  refine rc_le (tgt := 79) hx hb d_again_69 (by decide) h (fun h => ?_) (fun h => ?_)
  · exact t_again_79 S v1 x9 x12 r6 h (lv_sub hl [2, 3, 1, 0] rfl) hW
  · refine lv_aload_n hx hb d_again_72 rfl (lv_at hl 2 rfl) ?_
    refine rm_geta S hW 37 32 wd_1289 (by decide) d_again_73 ?_
    refine lv_iload_n hx hb d_again_76 rfl (lv_at hl 3 rfl) ?_
    refine rm_iald S hW 32 2 (by decide) d_again_77 h (fun x14 h => ?_)
    refine lv_istore_n (lv' := [(3, .int x14), (2, .int x9), (0, .ref o), (1, .int v1)]) hx hb d_again_78 rfl hl (by decide) rfl (fun ls hl => ?_)
    exact t_again_79 S v1 x9 x14 r6 h (lv_sub hl [2, 3, 1, 0] rfl) hW
theorem c_again (v1 : Int32) (ρ : RS) {B : RS} (h : m_again v1 ρ = some B) : RMet l D tc o y_again k_again 5 none 4 103 [.ref o, .int v1] ρ none B := rm_met (by decide) (Nat.le_of_ble_eq_true rfl) fun p e s m args below meth c S hW ls hl => t_again_0 S v1 ρ h hl hW
end

