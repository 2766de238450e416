/-! none (I)Z -/
abbrev k_none : ByteArray := prog_12_method_47_code
abbrev y_none : MethodName := ⟨cn_M, "none", "(I)Z"⟩
theorem q_none : Calee y_none k_none 1 (some .boolean) 1 := ⟨wd_1501, wd_90, by decide, by decide +kernel⟩
theorem d_none_0 : decode k_none 0 = .ok (.iload_n 0, 1) := by decide +kernel
theorem d_none_1 : decode k_none 1 = .ok (.ifCond .lt 8, 3) := by decide +kernel
theorem d_none_4 : decode k_none 4 = .ok (.iload_n 0, 1) := by decide +kernel
theorem d_none_5 : decode k_none 5 = .ok (.iconst 1, 1) := by decide +kernel
theorem d_none_6 : decode k_none 6 = .ok (.if_icmp .le 7, 3) := by decide +kernel
theorem d_none_9 : decode k_none 9 = .ok (.iconst 1, 1) := by decide +kernel
theorem d_none_10 : decode k_none 10 = .ok (.goto 4, 3) := by decide +kernel
theorem d_none_13 : decode k_none 13 = .ok (.iconst 0, 1) := by decide +kernel
theorem d_none_14 : decode k_none 14 = .ok (.ireturn, 1) := by decide +kernel
def b_none_14 (w0 : Int32) (ρ : RS) : Option (Int32 × RS) :=
  gd (w0 = 0 ∨ w0 = 1) (some (w0, ρ))
def b_none_9 (ρ : RS) : Option (Int32 × RS) :=
  b_none_14 (1 : Int32) ρ
def m_none (v0 : Int32) (ρ : RS) : Option (Int32 × RS) :=
  if v0 < 0 then
  (b_none_9  ρ)
 else
  (if v0 ≤ (1 : Int32) then
  (b_none_14 (0 : Int32) ρ)
 else
  (b_none_9  ρ))
section
variable {p : Program} {l : Launch} {e : Env} {s : State} {m : MethodId} {args : Array Value} {below : List Frame} {meth : Method} {c : Code} {D : va_G} {tc : Nat → ClassId} {o : Nat}
theorem t_none_14 (S : RC p m c k_none 1 s args cn_M meth (some .boolean) D tc) (w0 : Int32) (ρ : RS) {B : Int32 × RS} (h : b_none_14 w0 ρ = some B) {ls : Array Slot} {H : Heap} {locs : List Loc} (hl : lv_has ls 1 []) (hW : RWS D tc o s ρ H locs) : W p l e { frames := 0, cells := 0, slots := 0, locals := 0 } s m args below meth c H locs 0 0 (MQ below (RQ D tc o (some (.int B.1)) B.2) args s 0 0 (rreg o)) (F0 m 14 ls [.int w0]) := by
  have hx := S.1.1
  have hb := S.1.2.1
  unfold b_none_14 at h
  exact rm_zret S hW d_none_14 h
theorem t_none_9 (S : RC p m c k_none 1 s args cn_M meth (some .boolean) D tc) (ρ : RS) {B : Int32 × RS} (h : b_none_9  ρ = some B) {ls : Array Slot} {H : Heap} {locs : List Loc} (hl : lv_has ls 1 []) (hW : RWS D tc o s ρ H locs) : W p l e { frames := 0, cells := 0, slots := 0, locals := 0 } s m args below meth c H locs 0 0 (MQ below (RQ D tc o (some (.int B.1)) B.2) args s 0 0 (rreg o)) (F0 m 9 ls []) := by
  have hx := S.1.1
  have hb := S.1.2.1
  unfold b_none_9 at h
  refine lv_iconst (v := 1) hx hb d_none_9 (by decide) ?_
  refine lv_goto (tgt := 14) hx hb d_none_10 (by decide) ?_
  exact t_none_14 S (1 : Int32) ρ h (lv_sub hl [] rfl) hW
theorem t_none_0 (S : RC p m c k_none 1 s args cn_M meth (some .boolean) D tc) (v0 : Int32) (ρ : RS) {B : Int32 × RS} (h : m_none v0 ρ = some B) {ls : Array Slot} {H : Heap} {locs : List Loc} (hl : lv_has ls 1 [(0, .int v0)]) (hW : RWS D tc o s ρ H locs) : W p l e { frames := 0, cells := 0, slots := 0, locals := 0 } s m args below meth c H locs 0 0 (MQ below (RQ D tc o (some (.int B.1)) B.2) args s 0 0 (rreg o)) (F0 m 0 ls []) := by
  have hx := S.1.1
  have hb := S.1.2.1
  unfold m_none at h
  refine lv_iload_n hx hb d_none_0 rfl (lv_at hl 0 rfl) ?_
  refine rb_lt (tgt := 9) hx hb d_none_1 (by decide) h (fun h => ?_) (fun h => ?_)
  · exact t_none_9 S  ρ h (lv_sub hl [] rfl) hW
  · refine lv_iload_n hx hb d_none_4 rfl (lv_at hl 0 rfl) ?_
    refine lv_iconst (v := 1) hx hb d_none_5 (by decide) ?_
    refine rc_le (tgt := 13) hx hb d_none_6 (by decide) h (fun h => ?_) (fun h => ?_)
    · refine lv_iconst (v := 0) hx hb d_none_13 (by decide) ?_
      exact t_none_14 S (0 : Int32) ρ h (lv_sub hl [] rfl) hW
    · exact t_none_9 S  ρ h (lv_sub hl [] rfl) hW
theorem c_none (v0 : Int32) (ρ : RS) {x : Int32} {ρ' : RS} (h : m_none v0 ρ = some (x, ρ')) : RMet l D tc o y_none k_none 1 (some .boolean) 0 0 [.int v0] ρ (some (.int x)) ρ' := rm_met (by decide) (Nat.le_of_ble_eq_true rfl) fun p e s m args below meth c S hW ls hl => t_none_0 S v0 ρ h hl hW
end

/-! set (III)I -/
abbrev k_set : ByteArray := prog_12_method_48_code
abbrev y_set : MethodName := ⟨cn_M, "set", "(III)I"⟩
theorem q_set : Calee y_set k_set 5 (some .int) 3 := ⟨wd_1498, wd_90, by decide, by decide +kernel⟩
theorem d_set_0 : decode k_set 0 = .ok (.aload_n 0, 1) := by decide +kernel
theorem d_set_1 : decode k_set 1 = .ok (.iconst 0, 1) := by decide +kernel
theorem d_set_2 : decode k_set 2 = .ok (.putfield 140, 3) := by decide +kernel
theorem d_set_5 : decode k_set 5 = .ok (.iload_n 1, 1) := by decide +kernel
theorem d_set_6 : decode k_set 6 = .ok (.invokestatic 336, 3) := by decide +kernel
theorem d_set_9 : decode k_set 9 = .ok (.ifCond .eq 9, 3) := by decide +kernel
theorem d_set_12 : decode k_set 12 = .ok (.aload_n 0, 1) := by decide +kernel
theorem d_set_13 : decode k_set 13 = .ok (.iconst 1, 1) := by decide +kernel
theorem d_set_14 : decode k_set 14 = .ok (.invokevirtual 327, 3) := by decide +kernel
theorem d_set_17 : decode k_set 17 = .ok (.ireturn, 1) := by decide +kernel
theorem d_set_18 : decode k_set 18 = .ok (.iload_n 2, 1) := by decide +kernel
theorem d_set_19 : decode k_set 19 = .ok (.ifCond .lt 38, 3) := by decide +kernel
theorem d_set_22 : decode k_set 22 = .ok (.iload_n 2, 1) := by decide +kernel
theorem d_set_23 : decode k_set 23 = .ok (.iconst 1, 1) := by decide +kernel
theorem d_set_24 : decode k_set 24 = .ok (.if_icmp .gt 33, 3) := by decide +kernel
theorem d_set_27 : decode k_set 27 = .ok (.iload_n 3, 1) := by decide +kernel
theorem d_set_28 : decode k_set 28 = .ok (.iload_n 2, 1) := by decide +kernel
theorem d_set_29 : decode k_set 29 = .ok (.ifCond .ne 7, 3) := by decide +kernel
theorem d_set_32 : decode k_set 32 = .ok (.iconst 0, 1) := by decide +kernel
theorem d_set_33 : decode k_set 33 = .ok (.goto 5, 3) := by decide +kernel
theorem d_set_36 : decode k_set 36 = .ok (.bipush 64, 2) := by decide +kernel
theorem d_set_38 : decode k_set 38 = .ok (.if_icmp .lt 19, 3) := by decide +kernel
theorem d_set_41 : decode k_set 41 = .ok (.iload_n 3, 1) := by decide +kernel
theorem d_set_42 : decode k_set 42 = .ok (.iload_n 2, 1) := by decide +kernel
theorem d_set_43 : decode k_set 43 = .ok (.ifCond .ne 8, 3) := by decide +kernel
theorem d_set_46 : decode k_set 46 = .ok (.ldc 32, 2) := by decide +kernel
theorem d_set_48 : decode k_set 48 = .ok (.goto 6, 3) := by decide +kernel
theorem d_set_51 : decode k_set 51 = .ok (.sipush 1460, 3) := by decide +kernel
theorem d_set_54 : decode k_set 54 = .ok (.if_icmp .le 9, 3) := by decide +kernel
theorem d_set_57 : decode k_set 57 = .ok (.aload_n 0, 1) := by decide +kernel
theorem d_set_58 : decode k_set 58 = .ok (.iconst 2, 1) := by decide +kernel
theorem d_set_59 : decode k_set 59 = .ok (.invokevirtual 327, 3) := by decide +kernel
theorem d_set_62 : decode k_set 62 = .ok (.ireturn, 1) := by decide +kernel
theorem d_set_63 : decode k_set 63 = .ok (.iload_n 2, 1) := by decide +kernel
theorem d_set_64 : decode k_set 64 = .ok (.ifCond .ne 12, 3) := by decide +kernel
theorem d_set_67 : decode k_set 67 = .ok (.aload_n 0, 1) := by decide +kernel
theorem d_set_68 : decode k_set 68 = .ok (.getfield 33, 3) := by decide +kernel
theorem d_set_71 : decode k_set 71 = .ok (.iload_n 1, 1) := by decide +kernel
theorem d_set_72 : decode k_set 72 = .ok (.iaload, 1) := by decide +kernel
theorem d_set_73 : decode k_set 73 = .ok (.goto 9, 3) := by decide +kernel
theorem d_set_76 : decode k_set 76 = .ok (.aload_n 0, 1) := by decide +kernel
theorem d_set_77 : decode k_set 77 = .ok (.getfield 36, 3) := by decide +kernel
theorem d_set_80 : decode k_set 80 = .ok (.iload_n 1, 1) := by decide +kernel
theorem d_set_81 : decode k_set 81 = .ok (.iaload, 1) := by decide +kernel
theorem d_set_82 : decode k_set 82 = .ok (.istore 4, 2) := by decide +kernel
theorem d_set_84 : decode k_set 84 = .ok (.iload_n 2, 1) := by decide +kernel
theorem d_set_85 : decode k_set 85 = .ok (.ifCond .ne 13, 3) := by decide +kernel
theorem d_set_88 : decode k_set 88 = .ok (.aload_n 0, 1) := by decide +kernel
theorem d_set_89 : decode k_set 89 = .ok (.getfield 33, 3) := by decide +kernel
theorem d_set_92 : decode k_set 92 = .ok (.iload_n 1, 1) := by decide +kernel
theorem d_set_93 : decode k_set 93 = .ok (.iload_n 3, 1) := by decide +kernel
theorem d_set_94 : decode k_set 94 = .ok (.iastore, 1) := by decide +kernel
theorem d_set_95 : decode k_set 95 = .ok (.goto 10, 3) := by decide +kernel
theorem d_set_98 : decode k_set 98 = .ok (.aload_n 0, 1) := by decide +kernel
theorem d_set_99 : decode k_set 99 = .ok (.getfield 36, 3) := by decide +kernel
theorem d_set_102 : decode k_set 102 = .ok (.iload_n 1, 1) := by decide +kernel
theorem d_set_103 : decode k_set 103 = .ok (.iload_n 3, 1) := by decide +kernel
theorem d_set_104 : decode k_set 104 = .ok (.iastore, 1) := by decide +kernel
theorem d_set_105 : decode k_set 105 = .ok (.iload 4, 2) := by decide +kernel
theorem d_set_107 : decode k_set 107 = .ok (.ireturn, 1) := by decide +kernel
def b_set_105 (v4 : Int32) (ρ : RS) : Option (Int32 × RS) :=
  some (v4, ρ)
def b_set_82 (v1 : Int32) (v2 : Int32) (v3 : Int32) (w0 : Int32) (ρ : RS) : Option (Int32 × RS) :=
  if v2 = 0 then
  (gd (inb v1 2) <| bd (si ρ 7 v1.toNatClampNeg v3) fun r2 => b_set_105 w0 r2)
 else
  (gd (inb v1 2) <| bd (si ρ 8 v1.toNatClampNeg v3) fun r1 => b_set_105 w0 r1)
def b_set_57 (ρ : RS) : Option (Int32 × RS) :=
  bc2 (m_fail (2 : Int32) ρ) fun x2 r1 => some (x2, r1)
def b_set_54 (v1 : Int32) (v2 : Int32) (v3 : Int32) (w0 : Int32) (w1 : Int32) (ρ : RS) : Option (Int32 × RS) :=
  if w0 ≤ w1 then
  (if v2 = 0 then
  (gd (inb v1 2) <| bd (ρ.1 7 v1.toNatClampNeg) fun x2 => b_set_82 v1 v2 v3 x2 ρ)
 else
  (gd (inb v1 2) <| bd (ρ.1 8 v1.toNatClampNeg) fun x1 => b_set_82 v1 v2 v3 x1 ρ))
 else
  (b_set_57  ρ)
def b_set_38 (v1 : Int32) (v2 : Int32) (v3 : Int32) (w0 : Int32) (w1 : Int32) (ρ : RS) : Option (Int32 × RS) :=
  if w0 < w1 then
  (b_set_57  ρ)
 else
  (if v2 = 0 then
  (b_set_54 v1 v2 v3 v3 (65535 : Int32) ρ)
 else
  (b_set_54 v1 v2 v3 v3 (1460 : Int32) ρ))
def m_set (v1 : Int32) (v2 : Int32) (v3 : Int32) (ρ : RS) : Option (Int32 × RS) :=
  bd (si ρ 0 0 (0 : Int32)) fun r1 => bc2 (m_none v1 r1) fun x3 r2 => if x3 = 0 then
  (if v2 < 0 then
  (b_set_57  r2)
 else
  (if (1 : Int32) < v2 then
  (b_set_57  r2)
 else
  (if v2 = 0 then
  (b_set_38 v1 v2 v3 v3 (0 : Int32) r2)
 else
  (b_set_38 v1 v2 v3 v3 (64 : Int32) r2))))
 else
  (bc2 (m_fail (1 : Int32) r2) fun x5 r4 => some (x5, r4))
section
variable {p : Program} {l : Launch} {e : Env} {s : State} {m : MethodId} {args : Array Value} {below : List Frame} {meth : Method} {c : Code} {D : va_G} {tc : Nat → ClassId} {o : Nat}
theorem t_set_105 (S : RC p m c k_set 5 s args cn_M meth (some .int) D tc) (v4 : Int32) (ρ : RS) {B : Int32 × RS} (h : b_set_105 v4 ρ = some B) {ls : Array Slot} {H : Heap} {locs : List Loc} (hl : lv_has ls 5 [(4, .int v4)]) (hW : RWS D tc o s ρ H locs) : W p l e { frames := 1, cells := 0, slots := 0, locals := 21 } s m args below meth c H locs 0 0 (MQ below (RQ D tc o (some (.int B.1)) B.2) args s 0 0 (rreg o)) (F0 m 105 ls []) := by
  have hx := S.1.1
  have hb := S.1.2.1
  unfold b_set_105 at h
  refine lv_iload hx hb d_set_105 (lv_at hl 0 rfl) ?_
  exact rm_iret S hW d_set_107 h
theorem t_set_82 (S : RC p m c k_set 5 s args cn_M meth (some .int) D tc) (v1 : Int32) (v2 : Int32) (v3 : Int32) (w0 : Int32) (ρ : RS) {B : Int32 × RS} (h : b_set_82 v1 v2 v3 w0 ρ = some B) {ls : Array Slot} {H : Heap} {locs : List Loc} (hl : lv_has ls 5 [(0, .ref o), (1, .int v1), (2, .int v2), (3, .int v3)]) (hW : RWS D tc o s ρ H locs) : W p l e { frames := 1, cells := 0, slots := 0, locals := 21 } s m args below meth c H locs 0 0 (MQ below (RQ D tc o (some (.int B.1)) B.2) args s 0 0 (rreg o)) (F0 m 82 ls [.int w0]) := by
  have hx := S.1.1
  have hb := S.1.2.1
  unfold b_set_82 at h
  refine lv_istore (lv' := [(4, .int w0), (0, .ref o), (1, .int v1), (2, .int v2), (3, .int v3)]) hx hb d_set_82 hl (by decide) rfl (fun ls hl => ?_)
  refine lv_iload_n hx hb d_set_84 rfl (lv_at hl 3 rfl) ?_
  refine rb_ne (tgt := 98) hx hb d_set_85 (by decide) h (fun h => ?_) (fun h => ?_)
  · refine lv_aload_n hx hb d_set_98 rfl (lv_at hl 1 rfl) ?_
    refine rm_geta S hW 13 8 wd_1265 (by decide) d_set_99 ?_
    refine lv_iload_n hx hb d_set_102 rfl (lv_at hl 2 rfl) ?_
    refine lv_iload_n hx hb d_set_103 rfl (lv_at hl 4 rfl) ?_
    refine rm_iast S hW 8 2 (by decide) d_set_104 h (fun r1 H locs h hW => ?_)
    exact t_set_105 S w0 r1 h (lv_sub hl [0] rfl) hW
  · refine lv_aload_n hx hb d_set_88 rfl (lv_at hl 1 rfl) ?_
    refine rm_geta S hW 12 7 wd_1264 (by decide) d_set_89 ?_
    refine lv_iload_n hx hb d_set_92 rfl (lv_at hl 2 rfl) ?_
    refine lv_iload_n hx hb d_set_93 rfl (lv_at hl 4 rfl) ?_
    refine rm_iast S hW 7 2 (by decide) d_set_94 h (fun r2 H locs h hW => ?_)
    refine lv_goto (tgt := 105) hx hb d_set_95 (by decide) ?_
    exact t_set_105 S w0 r2 h (lv_sub hl [0] rfl) hW
theorem t_set_57 (S : RC p m c k_set 5 s args cn_M meth (some .int) D tc) (ρ : RS) {B : Int32 × RS} (h : b_set_57  ρ = some B) {ls : Array Slot} {H : Heap} {locs : List Loc} (hl : lv_has ls 5 [(0, .ref o)]) (hW : RWS D tc o s ρ H locs) : W p l e { frames := 1, cells := 0, slots := 0, locals := 21 } s m args below meth c H locs 0 0 (MQ below (RQ D tc o (some (.int B.1)) B.2) args s 0 0 (rreg o)) (F0 m 57 ls []) := by
  have hx := S.1.1
  have hb := S.1.2.1
  unfold b_set_57 at h
  refine lv_aload_n hx hb d_set_57 rfl (lv_at hl 0 rfl) ?_
  refine lv_iconst (v := 2) hx hb d_set_58 (by decide) ?_
  refine rm_cVi [.int (2 : Int32)] S hW (fun x ρ' hc => c_fail (2 : Int32) ρ hc) q_fail wd_1429 wd_34 wd_1427 (by decide) hl.1 rfl rfl (Nat.le_of_ble_eq_true rfl) d_set_59 h (fun x2 r1 H locs h hW => ?_)
  exact rm_iret S hW d_set_62 h
theorem t_set_54 (S : RC p m c k_set 5 s args cn_M meth (some .int) D tc) (v1 : Int32) (v2 : Int32) (v3 : Int32) (w0 : Int32) (w1 : Int32) (ρ : RS) {B : Int32 × RS} (h : b_set_54 v1 v2 v3 w0 w1 ρ = some B) {ls : Array Slot} {H : Heap} {locs : List Loc} (hl : lv_has ls 5 [(0, .ref o), (1, .int v1), (2, .int v2), (3, .int v3)]) (hW : RWS D tc o s ρ H locs) : W p l e { frames := 1, cells := 0, slots := 0, locals := 21 } s m args below meth c H locs 0 0 (MQ below (RQ D tc o (some (.int B.1)) B.2) args s 0 0 (rreg o)) (F0 m 54 ls [.int w1, .int w0]) := by
  have hx := S.1.1
  have hb := S.1.2.1
  unfold b_set_54 at h
  refine rc_le (tgt := 63) hx hb d_set_54 (by decide) h (fun h => ?_) (fun h => ?_)
  · refine lv_iload_n hx hb d_set_63 rfl (lv_at hl 2 rfl) ?_
    refine rb_ne (tgt := 76) hx hb d_set_64 (by decide) h (fun h => ?_) (fun h => ?_)
    · refine lv_aload_n hx hb d_set_76 rfl (lv_at hl 0 rfl) ?_
      refine rm_geta S hW 13 8 wd_1265 (by decide) d_set_77 ?_
      refine lv_iload_n hx hb d_set_80 rfl (lv_at hl 1 rfl) ?_
      refine rm_iald S hW 8 2 (by decide) d_set_81 h (fun x1 h => ?_)
      exact t_set_82 S v1 v2 v3 x1 ρ h (lv_sub hl [0, 1, 2, 3] rfl) hW
    · refine lv_aload_n hx hb d_set_67 rfl (lv_at hl 0 rfl) ?_
      refine rm_geta S hW 12 7 wd_1264 (by decide) d_set_68 ?_
      refine lv_iload_n hx hb d_set_71 rfl (lv_at hl 1 rfl) ?_
      refine rm_iald S hW 7 2 (by decide) d_set_72 h (fun x2 h => ?_)
      refine lv_goto (tgt := 82) hx hb d_set_73 (by decide) ?_
      exact t_set_82 S v1 v2 v3 x2 ρ h (lv_sub hl [0, 1, 2, 3] rfl) hW
  · exact t_set_57 S  ρ h (lv_sub hl [0] rfl) hW
theorem t_set_38 (S : RC p m c k_set 5 s args cn_M meth (some .int) D tc) (v1 : Int32) (v2 : Int32) (v3 : Int32) (w0 : Int32) (w1 : Int32) (ρ : RS) {B : Int32 × RS} (h : b_set_38 v1 v2 v3 w0 w1 ρ = some B) {ls : Array Slot} {H : Heap} {locs : List Loc} (hl : lv_has ls 5 [(0, .ref o), (1, .int v1), (2, .int v2), (3, .int v3)]) (hW : RWS D tc o s ρ H locs) : W p l e { frames := 1, cells := 0, slots := 0, locals := 21 } s m args below meth c H locs 0 0 (MQ below (RQ D tc o (some (.int B.1)) B.2) args s 0 0 (rreg o)) (F0 m 38 ls [.int w1, .int w0]) := by
  have hx := S.1.1
  have hb := S.1.2.1
  unfold b_set_38 at h
  refine rc_lt (tgt := 57) hx hb d_set_38 (by decide) h (fun h => ?_) (fun h => ?_)
  · exact t_set_57 S  ρ h (lv_sub hl [0] rfl) hW
  · refine lv_iload_n hx hb d_set_41 rfl (lv_at hl 3 rfl) ?_
    refine lv_iload_n hx hb d_set_42 rfl (lv_at hl 2 rfl) ?_
    refine rb_ne (tgt := 51) hx hb d_set_43 (by decide) h (fun h => ?_) (fun h => ?_)
    · refine lv_sipush (v := 1460) hx hb d_set_51 (by decide) ?_
      exact t_set_54 S v1 v2 v3 v3 (1460 : Int32) ρ h (lv_sub hl [0, 1, 2, 3] rfl) hW
    · refine lv_ldc hx hb S.1.2.2.2.1 (S.1.2.2.2.2 _ (gi wd_1248 rfl)) d_set_46 ?_
      refine lv_goto (tgt := 54) hx hb d_set_48 (by decide) ?_
      exact t_set_54 S v1 v2 v3 v3 (65535 : Int32) ρ h (lv_sub hl [0, 1, 2, 3] rfl) hW
theorem t_set_0 (S : RC p m c k_set 5 s args cn_M meth (some .int) D tc) (v1 : Int32) (v2 : Int32) (v3 : Int32) (ρ : RS) {B : Int32 × RS} (h : m_set v1 v2 v3 ρ = some B) {ls : Array Slot} {H : Heap} {locs : List Loc} (hl : lv_has ls 5 [(0, .ref o), (1, .int v1), (2, .int v2), (3, .int v3)]) (hW : RWS D tc o s ρ H locs) : W p l e { frames := 1, cells := 0, slots := 0, locals := 21 } s m args below meth c H locs 0 0 (MQ below (RQ D tc o (some (.int B.1)) B.2) args s 0 0 (rreg o)) (F0 m 0 ls []) := by
  have hx := S.1.1
  have hb := S.1.2.1
  unfold m_set at h
  refine lv_aload_n hx hb d_set_0 rfl (lv_at hl 0 rfl) ?_
  refine lv_iconst (v := 0) hx hb d_set_1 (by decide) ?_
  refine rm_puti S hW 0 wd_1252 (by decide) d_set_2 h (fun r1 H locs h hW => ?_)
  refine lv_iload_n hx hb d_set_5 rfl (lv_at hl 1 rfl) ?_
  refine rm_cSi [.int v1] S hW (fun x ρ' hc => c_none v1 r1 hc) q_none wd_1500 wd_1499 (by decide) hl.1 rfl rfl (Nat.le_of_ble_eq_true rfl) d_set_6 h (fun x3 r2 H locs h hW => ?_)
  refine rb_eq (tgt := 18) hx hb d_set_9 (by decide) h (fun h => ?_) (fun h => ?_)
  · refine lv_iload_n hx hb d_set_18 rfl (lv_at hl 2 rfl) ?_
    refine rb_lt (tgt := 57) hx hb d_set_19 (by decide) h (fun h => ?_) (fun h => ?_)
    · exact t_set_57 S  r2 h (lv_sub hl [0] rfl) hW
    · refine lv_iload_n hx hb d_set_22 rfl (lv_at hl 2 rfl) ?_
      refine lv_iconst (v := 1) hx hb d_set_23 (by decide) ?_
      refine rc_gt (tgt := 57) hx hb d_set_24 (by decide) h (fun h => ?_) (fun h => ?_)
      · exact t_set_57 S  r2 h (lv_sub hl [0] rfl) hW
      · refine lv_iload_n hx hb d_set_27 rfl (lv_at hl 3 rfl) ?_
        refine lv_iload_n hx hb d_set_28 rfl (lv_at hl 2 rfl) ?_
        refine rb_ne (tgt := 36) hx hb d_set_29 (by decide) h (fun h => ?_) (fun h => ?_)
        · refine lv_bipush (v := 64) hx hb d_set_36 (by decide) ?_
          exact t_set_38 S v1 v2 v3 v3 (64 : Int32) r2 h (lv_sub hl [0, 1, 2, 3] rfl) hW
        · refine lv_iconst (v := 0) hx hb d_set_32 (by decide) ?_
          refine lv_goto (tgt := 38) hx hb d_set_33 (by decide) ?_
          exact t_set_38 S v1 v2 v3 v3 (0 : Int32) r2 h (lv_sub hl [0, 1, 2, 3] rfl) hW
  · refine lv_aload_n hx hb d_set_12 rfl (lv_at hl 0 rfl) ?_
    refine lv_iconst (v := 1) hx hb d_set_13 (by decide) ?_
    refine rm_cVi [.int (1 : Int32)] S hW (fun x ρ' hc => c_fail (1 : Int32) r2 hc) q_fail wd_1429 wd_34 wd_1427 (by decide) hl.1 rfl rfl (Nat.le_of_ble_eq_true rfl) d_set_14 h (fun x5 r4 H locs h hW => ?_)
    exact rm_iret S hW d_set_17 h
theorem c_set (v1 : Int32) (v2 : Int32) (v3 : Int32) (ρ : RS) {x : Int32} {ρ' : RS} (h : m_set v1 v2 v3 ρ = some (x, ρ')) : RMet l D tc o y_set k_set 5 (some .int) 1 21 [.ref o, .int v1, .int v2, .int v3] ρ (some (.int x)) ρ' := rm_met (by decide) (Nat.le_of_ble_eq_true rfl) fun p e s m args below meth c S hW ls hl => t_set_0 S v1 v2 v3 ρ h hl hW
end

/-! write (I)I -/
abbrev k_write : ByteArray := prog_12_method_49_code
abbrev y_write : MethodName := ⟨cn_M, "write", "(I)I"⟩
theorem q_write : Calee y_write k_write 3 (some .int) 1 := ⟨wd_1505, wd_90, by decide, by decide +kernel⟩
theorem d_write_0 : decode k_write 0 = .ok (.aload_n 0, 1) := by decide +kernel
theorem d_write_1 : decode k_write 1 = .ok (.iconst 0, 1) := by decide +kernel
theorem d_write_2 : decode k_write 2 = .ok (.putfield 140, 3) := by decide +kernel
theorem d_write_5 : decode k_write 5 = .ok (.iload_n 1, 1) := by decide +kernel
theorem d_write_6 : decode k_write 6 = .ok (.invokestatic 336, 3) := by decide +kernel
theorem d_write_9 : decode k_write 9 = .ok (.ifCond .eq 9, 3) := by decide +kernel
theorem d_write_12 : decode k_write 12 = .ok (.aload_n 0, 1) := by decide +kernel
theorem d_write_13 : decode k_write 13 = .ok (.iconst 1, 1) := by decide +kernel
theorem d_write_14 : decode k_write 14 = .ok (.invokevirtual 327, 3) := by decide +kernel
theorem d_write_17 : decode k_write 17 = .ok (.ireturn, 1) := by decide +kernel
theorem d_write_18 : decode k_write 18 = .ok (.aload_n 0, 1) := by decide +kernel
theorem d_write_19 : decode k_write 19 = .ok (.getfield 39, 3) := by decide +kernel
theorem d_write_22 : decode k_write 22 = .ok (.iload_n 1, 1) := by decide +kernel
theorem d_write_23 : decode k_write 23 = .ok (.iaload, 1) := by decide +kernel
theorem d_write_24 : decode k_write 24 = .ok (.iconst 4, 1) := by decide +kernel
theorem d_write_25 : decode k_write 25 = .ok (.if_icmp .eq 20, 3) := by decide +kernel
theorem d_write_28 : decode k_write 28 = .ok (.aload_n 0, 1) := by decide +kernel
theorem d_write_29 : decode k_write 29 = .ok (.getfield 39, 3) := by decide +kernel
theorem d_write_32 : decode k_write 32 = .ok (.iload_n 1, 1) := by decide +kernel
theorem d_write_33 : decode k_write 33 = .ok (.iaload, 1) := by decide +kernel
theorem d_write_34 : decode k_write 34 = .ok (.bipush 7, 2) := by decide +kernel
theorem d_write_36 : decode k_write 36 = .ok (.if_icmp .eq 9, 3) := by decide +kernel
theorem d_write_39 : decode k_write 39 = .ok (.aload_n 0, 1) := by decide +kernel
theorem d_write_40 : decode k_write 40 = .ok (.iconst 2, 1) := by decide +kernel
theorem d_write_41 : decode k_write 41 = .ok (.invokevirtual 327, 3) := by decide +kernel
theorem d_write_44 : decode k_write 44 = .ok (.ireturn, 1) := by decide +kernel
theorem d_write_45 : decode k_write 45 = .ok (.iconst 0, 1) := by decide +kernel
theorem d_write_46 : decode k_write 46 = .ok (.istore_n 2, 1) := by decide +kernel
theorem d_write_47 : decode k_write 47 = .ok (.iload_n 2, 1) := by decide +kernel
theorem d_write_48 : decode k_write 48 = .ok (.aload_n 0, 1) := by decide +kernel
theorem d_write_49 : decode k_write 49 = .ok (.getfield 323, 3) := by decide +kernel
theorem d_write_52 : decode k_write 52 = .ok (.if_icmp .ge 33, 3) := by decide +kernel
theorem d_write_55 : decode k_write 55 = .ok (.aload_n 0, 1) := by decide +kernel
theorem d_write_56 : decode k_write 56 = .ok (.getfield 130, 3) := by decide +kernel
theorem d_write_59 : decode k_write 59 = .ok (.ldc 196, 2) := by decide +kernel
theorem d_write_61 : decode k_write 61 = .ok (.iload_n 1, 1) := by decide +kernel
theorem d_write_62 : decode k_write 62 = .ok (.imul, 1) := by decide +kernel
theorem d_write_63 : decode k_write 63 = .ok (.aload_n 0, 1) := by decide +kernel
theorem d_write_64 : decode k_write 64 = .ok (.getfield 108, 3) := by decide +kernel
theorem d_write_67 : decode k_write 67 = .ok (.iload_n 1, 1) := by decide +kernel
theorem d_write_68 : decode k_write 68 = .ok (.iaload, 1) := by decide +kernel
theorem d_write_69 : decode k_write 69 = .ok (.iadd, 1) := by decide +kernel
theorem d_write_70 : decode k_write 70 = .ok (.iload_n 2, 1) := by decide +kernel
theorem d_write_71 : decode k_write 71 = .ok (.iadd, 1) := by decide +kernel
theorem d_write_72 : decode k_write 72 = .ok (.aload_n 0, 1) := by decide +kernel
theorem d_write_73 : decode k_write 73 = .ok (.getfield 8, 3) := by decide +kernel
theorem d_write_76 : decode k_write 76 = .ok (.iload_n 2, 1) := by decide +kernel
theorem d_write_77 : decode k_write 77 = .ok (.baload, 1) := by decide +kernel
theorem d_write_78 : decode k_write 78 = .ok (.bastore, 1) := by decide +kernel
theorem d_write_79 : decode k_write 79 = .ok (.iinc 2 1, 3) := by decide +kernel
theorem d_write_82 : decode k_write 82 = .ok (.goto (-35), 3) := by decide +kernel
theorem d_write_85 : decode k_write 85 = .ok (.aload_n 0, 1) := by decide +kernel
theorem d_write_86 : decode k_write 86 = .ok (.getfield 323, 3) := by decide +kernel
theorem d_write_89 : decode k_write 89 = .ok (.istore_n 2, 1) := by decide +kernel
theorem d_write_90 : decode k_write 90 = .ok (.aload_n 0, 1) := by decide +kernel
theorem d_write_91 : decode k_write 91 = .ok (.getfield 108, 3) := by decide +kernel
theorem d_write_94 : decode k_write 94 = .ok (.iload_n 1, 1) := by decide +kernel
theorem d_write_95 : decode k_write 95 = .ok (.dup2, 1) := by decide +kernel
theorem d_write_96 : decode k_write 96 = .ok (.iaload, 1) := by decide +kernel
theorem d_write_97 : decode k_write 97 = .ok (.iload_n 2, 1) := by decide +kernel
theorem d_write_98 : decode k_write 98 = .ok (.iadd, 1) := by decide +kernel
theorem d_write_99 : decode k_write 99 = .ok (.iastore, 1) := by decide +kernel
theorem d_write_100 : decode k_write 100 = .ok (.aload_n 0, 1) := by decide +kernel
theorem d_write_101 : decode k_write 101 = .ok (.iconst 0, 1) := by decide +kernel
theorem d_write_102 : decode k_write 102 = .ok (.putfield 323, 3) := by decide +kernel
theorem d_write_105 : decode k_write 105 = .ok (.aload_n 0, 1) := by decide +kernel
theorem d_write_106 : decode k_write 106 = .ok (.iload_n 1, 1) := by decide +kernel
theorem d_write_107 : decode k_write 107 = .ok (.invokevirtual 226, 3) := by decide +kernel
theorem d_write_110 : decode k_write 110 = .ok (.pop, 1) := by decide +kernel
theorem d_write_111 : decode k_write 111 = .ok (.iload_n 2, 1) := by decide +kernel
theorem d_write_112 : decode k_write 112 = .ok (.ireturn, 1) := by decide +kernel
def F_write_47 (rec47 : Int32 → Int32 → RS → Option (Int32 × RS)) (v1 : Int32) (v2 : Int32) (ρ : RS) : Option (Int32 × RS) :=
  bd (ρ.1 0 2) fun x1 => if x1 ≤ v2 then
  (bd (ρ.1 0 2) fun x2 => gd (inb v1 2) <| bd (ρ.1 32 v1.toNatClampNeg) fun x3 => gd (inb v1 2) <| bd (si ρ 32 v1.toNatClampNeg (x3 + x2)) fun r4 => bd (si r4 0 2 (0 : Int32)) fun r5 => bc2 (m_output v1 r5) fun x7 r6 => some (x2, r6))
 else
  (gd (inb v1 2) <| bd (ρ.1 32 v1.toNatClampNeg) fun x8 => gd (inb v2 65536) <| bd (ρ.1 1 v2.toNatClampNeg) fun x9 => gd (inb ((((81920 : Int32) * v1) + x8) + v2) 163840) <| bd (si ρ 38 ((((81920 : Int32) * v1) + x8) + v2).toNatClampNeg (vp_nar .byte x9)) fun r10 => bd (v2 + (1 : Int32)) fun x11 => rec47 v1 x11 r10)
def b_write_45 (v1 : Int32) (ρ : RS) : Option (Int32 × RS) :=
  lq3 (F_write_47) fuel v1 (0 : Int32) ρ
def m_write (v1 : Int32) (ρ : RS) : Option (Int32 × RS) :=
  bd (si ρ 0 0 (0 : Int32)) fun r1 => bc2 (m_none v1 r1) fun x3 r2 => if x3 = 0 then
  (gd (inb v1 2) <| bd (r2.1 9 v1.toNatClampNeg) fun x4 => if x4 = (4 : Int32) then
  (b_write_45 v1 r2)
 else
  (gd (inb v1 2) <| bd (r2.1 9 v1.toNatClampNeg) fun x5 => if x5 = (7 : Int32) then
  (b_write_45 v1 r2)
 else
  (bc2 (m_fail (2 : Int32) r2) fun x7 r6 => some (x7, r6))))
 else
  (bc2 (m_fail (1 : Int32) r2) fun x9 r8 => some (x9, r8))
def P_write_47 (p : Program) (l : Launch) (e : Env) (s : State) (m : MethodId) (args : Array Value) (below : List Frame) (meth : Method) (c : Code) (D : va_G) (tc : Nat → ClassId) (o : Nat) (v1 : Int32) (v2 : Int32) (ρ : RS) (B : Int32 × RS) : Prop := ∀ (ls : Array Slot) (H : Heap) (locs : List Loc), lv_has ls 3 [(0, .ref o), (1, .int v1), (2, .int v2)] → RWS D tc o s ρ H locs → W p l e { frames := 5, cells := 0, slots := 0, locals := 129 } s m args below meth c H locs 0 0 (MQ below (RQ D tc o (some (.int B.1)) B.2) args s 0 0 (rreg o)) (F0 m 47 ls [])
section
variable {p : Program} {l : Launch} {e : Env} {s : State} {m : MethodId} {args : Array Value} {below : List Frame} {meth : Method} {c : Code} {D : va_G} {tc : Nat → ClassId} {o : Nat}
theorem tF_write_47 (S : RC p m c k_write 3 s args cn_M meth (some .int) D tc) : ∀ (rec47 : Int32 → Int32 → RS → Option (Int32 × RS)), (∀ (v1 : Int32) (v2 : Int32) (ρ : RS) (B : Int32 × RS), rec47 v1 v2 ρ = some B → P_write_47 p l e s m args below meth c D tc o v1 v2 ρ B) → ∀ (v1 : Int32) (v2 : Int32) (ρ : RS) (B : Int32 × RS), F_write_47 rec47 v1 v2 ρ = some B → P_write_47 p l e s m args below meth c D tc o v1 v2 ρ B := by
  intro rec47 hrec47 v1 v2 ρ B h ls H locs hl hW
  have hx := S.1.1
  have hb := S.1.2.1
  unfold F_write_47 at h
  refine lv_iload_n hx hb d_write_47 rfl (lv_at hl 2 rfl) ?_
  refine lv_aload_n hx hb d_write_48 rfl (lv_at hl 0 rfl) ?_
  refine rm_geti S hW 2 wd_1254 (by decide) d_write_49 h (fun x1 h => ?_)
  refine rc_ge (tgt := 85) hx hb d_write_52 (by decide) h (fun h => ?_) (fun h => ?_)
  · refine lv_aload_n hx hb d_write_85 rfl (lv_at hl 0 rfl) ?_
    refine rm_geti S hW 2 wd_1254 (by decide) d_write_86 h (fun x2 h => ?_)
    refine lv_istore_n (lv' := [(2, .int x2), (0, .ref o), (1, .int v1)]) hx hb d_write_89 rfl hl (by decide) rfl (fun ls hl => ?_)
    refine lv_aload_n hx hb d_write_90 rfl (lv_at hl 1 rfl) ?_
    refine rm_geta S hW 37 32 wd_1289 (by decide) d_write_91 ?_
    refine lv_iload_n hx hb d_write_94 rfl (lv_at hl 2 rfl) ?_
    refine lv_dup2_11 hx hb d_write_95 rfl rfl ?_
    refine rm_iald S hW 32 2 (by decide) d_write_96 h (fun x3 h => ?_)
    refine lv_iload_n hx hb d_write_97 rfl (lv_at hl 0 rfl) ?_
    refine lv_iadd hx hb d_write_98 ?_
    refine rm_iast S hW 32 2 (by decide) d_write_99 h (fun r4 H locs h hW => ?_)
    refine lv_aload_n hx hb d_write_100 rfl (lv_at hl 1 rfl) ?_
    refine lv_iconst (v := 0) hx hb d_write_101 (by decide) ?_
    refine rm_puti S hW 2 wd_1254 (by decide) d_write_102 h (fun r5 H locs h hW => ?_)
    refine lv_aload_n hx hb d_write_105 rfl (lv_at hl 1 rfl) ?_
    refine lv_iload_n hx hb d_write_106 rfl (lv_at hl 2 rfl) ?_
    refine rm_cVi [.int v1] S hW (fun x ρ' hc => c_output v1 r5 hc) q_output wd_1508 wd_47 wd_1506 (by decide) hl.1 rfl rfl (Nat.le_of_ble_eq_true rfl) d_write_107 h (fun x7 r6 H locs h hW => ?_)
    refine lv_pop hx hb d_write_110 rfl ?_
    refine lv_iload_n hx hb d_write_111 rfl (lv_at hl 0 rfl) ?_
    exact rm_iret S hW d_write_112 h
  · refine lv_aload_n hx hb d_write_55 rfl (lv_at hl 0 rfl) ?_
    refine rm_geta S hW 43 38 wd_1295 (by decide) d_write_56 ?_
    refine lv_ldc hx hb S.1.2.2.2.1 (S.1.2.2.2.2 _ (gi wd_1479 rfl)) d_write_59 ?_
    refine lv_iload_n hx hb d_write_61 rfl (lv_at hl 1 rfl) ?_
    refine lv_imul hx hb d_write_62 ?_
    refine lv_aload_n hx hb d_write_63 rfl (lv_at hl 0 rfl) ?_
    refine rm_geta S hW 37 32 wd_1289 (by decide) d_write_64 ?_
    refine lv_iload_n hx hb d_write_67 rfl (lv_at hl 1 rfl) ?_
    refine rm_iald S hW 32 2 (by decide) d_write_68 h (fun x8 h => ?_)
    refine lv_iadd hx hb d_write_69 ?_
    refine lv_iload_n hx hb d_write_70 rfl (lv_at hl 2 rfl) ?_
    refine lv_iadd hx hb d_write_71 ?_
    refine lv_aload_n hx hb d_write_72 rfl (lv_at hl 0 rfl) ?_
    refine rm_geta S hW 1 1 wd_1253 (by decide) d_write_73 ?_
    refine lv_iload_n hx hb d_write_76 rfl (lv_at hl 2 rfl) ?_
    refine rm_bald S hW 1 65536 (by decide) d_write_77 h (fun x9 h => ?_)
    refine rm_bast S hW 38 163840 (by decide) d_write_78 h (fun r10 H locs h hW => ?_)
    refine rv_iinc (k := 2) (v := 1) (lv' := fun x11 => [(2, .int x11), (0, .ref o), (1, .int v1)]) hx hb d_write_79 hl rfl (by decide) (by decide) (fun _ => rfl) h (fun x11 ls h hl => ?_)
    refine lv_goto (tgt := 47) hx hb d_write_82 (by decide) ?_
    exact hrec47 v1 x11 r10 _ h _ _ _ (lv_sub hl [1, 2, 0] rfl) hW
theorem t_write_47 (S : RC p m c k_write 3 s args cn_M meth (some .int) D tc) : ∀ (n : Nat) (v1 : Int32) (v2 : Int32) (ρ : RS) (B : Int32 × RS), lq3 (F_write_47) n v1 v2 ρ = some B → P_write_47 p l e s m args below meth c D tc o v1 v2 ρ B := lq3_s (tF_write_47 S)
theorem t_write_45 (S : RC p m c k_write 3 s args cn_M meth (some .int) D tc) (v1 : Int32) (ρ : RS) {B : Int32 × RS} (h : b_write_45 v1 ρ = some B) {ls : Array Slot} {H : Heap} {locs : List Loc} (hl : lv_has ls 3 [(0, .ref o), (1, .int v1)]) (hW : RWS D tc o s ρ H locs) : W p l e { frames := 5, cells := 0, slots := 0, locals := 129 } s m args below meth c H locs 0 0 (MQ below (RQ D tc o (some (.int B.1)) B.2) args s 0 0 (rreg o)) (F0 m 45 ls []) := by
  have hx := S.1.1
  have hb := S.1.2.1
  unfold b_write_45 at h
  refine lv_iconst (v := 0) hx hb d_write_45 (by decide) ?_
  refine lv_istore_n (lv' := [(2, .int (0 : Int32)), (0, .ref o), (1, .int v1)]) hx hb d_write_46 rfl hl (by decide) rfl (fun ls hl => ?_)
  exact t_write_47 S fuel v1 (0 : Int32) ρ _ h _ _ _ (lv_sub hl [1, 2, 0] rfl) hW
theorem t_write_0 (S : RC p m c k_write 3 s args cn_M meth (some .int) D tc) (v1 : Int32) (ρ : RS) {B : Int32 × RS} (h : m_write v1 ρ = some B) {ls : Array Slot} {H : Heap} {locs : List Loc} (hl : lv_has ls 3 [(0, .ref o), (1, .int v1)]) (hW : RWS D tc o s ρ H locs) : W p l e { frames := 5, cells := 0, slots := 0, locals := 129 } s m args below meth c H locs 0 0 (MQ below (RQ D tc o (some (.int B.1)) B.2) args s 0 0 (rreg o)) (F0 m 0 ls []) := by
  have hx := S.1.1
  have hb := S.1.2.1
  unfold m_write at h
  refine lv_aload_n hx hb d_write_0 rfl (lv_at hl 0 rfl) ?_
  refine lv_iconst (v := 0) hx hb d_write_1 (by decide) ?_
  refine rm_puti S hW 0 wd_1252 (by decide) d_write_2 h (fun r1 H locs h hW => ?_)
  refine lv_iload_n hx hb d_write_5 rfl (lv_at hl 1 rfl) ?_
  refine rm_cSi [.int v1] S hW (fun x ρ' hc => c_none v1 r1 hc) q_none wd_1500 wd_1499 (by decide) hl.1 rfl rfl (Nat.le_of_ble_eq_true rfl) d_write_6 h (fun x3 r2 H locs h hW => ?_)
  refine rb_eq (tgt := 18) hx hb d_write_9 (by decide) h (fun h => ?_) (fun h => ?_)
  · refine lv_aload_n hx hb d_write_18 rfl (lv_at hl 0 rfl) ?_
    refine rm_geta S hW 14 9 wd_1266 (by decide) d_write_19 ?_
    refine lv_iload_n hx hb d_write_22 rfl (lv_at hl 1 rfl) ?_
    refine rm_iald S hW 9 2 (by decide) d_write_23 h (fun x4 h => ?_)
    refine lv_iconst (v := 4) hx hb d_write_24 (by decide) ?_
    refine rc_eq (tgt := 45) hx hb d_write_25 (by decide) h (fun h => ?_) (fun h => ?_)
    · exact t_write_45 S v1 r2 h (lv_sub hl [0, 1] rfl) hW
    · refine lv_aload_n hx hb d_write_28 rfl (lv_at hl 0 rfl) ?_
      refine rm_geta S hW 14 9 wd_1266 (by decide) d_write_29 ?_
      refine lv_iload_n hx hb d_write_32 rfl (lv_at hl 1 rfl) ?_
      refine rm_iald S hW 9 2 (by decide) d_write_33 h (fun x5 h => ?_)
      refine lv_bipush (v := 7) hx hb d_write_34 (by decide) ?_
      refine rc_eq (tgt := 45) hx hb d_write_36 (by decide) h (fun h => ?_) (fun h => ?_)
      · exact t_write_45 S v1 r2 h (lv_sub hl [0, 1] rfl) hW
      · refine lv_aload_n hx hb d_write_39 rfl (lv_at hl 0 rfl) ?_
        refine lv_iconst (v := 2) hx hb d_write_40 (by decide) ?_
        refine rm_cVi [.int (2 : Int32)] S hW (fun x ρ' hc => c_fail (2 : Int32) r2 hc) q_fail wd_1429 wd_34 wd_1427 (by decide) hl.1 rfl rfl (Nat.le_of_ble_eq_true rfl) d_write_41 h (fun x7 r6 H locs h hW => ?_)
        exact rm_iret S hW d_write_44 h
  · refine lv_aload_n hx hb d_write_12 rfl (lv_at hl 0 rfl) ?_
    refine lv_iconst (v := 1) hx hb d_write_13 (by decide) ?_
    refine rm_cVi [.int (1 : Int32)] S hW (fun x ρ' hc => c_fail (1 : Int32) r2 hc) q_fail wd_1429 wd_34 wd_1427 (by decide) hl.1 rfl rfl (Nat.le_of_ble_eq_true rfl) d_write_14 h (fun x9 r8 H locs h hW => ?_)
    exact rm_iret S hW d_write_17 h
theorem c_write (v1 : Int32) (ρ : RS) {x : Int32} {ρ' : RS} (h : m_write v1 ρ = some (x, ρ')) : RMet l D tc o y_write k_write 3 (some .int) 5 129 [.ref o, .int v1] ρ (some (.int x)) ρ' := rm_met (by decide) (Nat.le_of_ble_eq_true rfl) fun p e s m args below meth c S hW ls hl => t_write_0 S v1 ρ h hl hW
end

/-! read (II)J -/
abbrev k_read : ByteArray := prog_12_method_50_code
abbrev y_read : MethodName := ⟨cn_M, "read", "(II)J"⟩
theorem q_read : Calee y_read k_read 8 (some .long) 2 := ⟨wd_1521, wd_90, by decide, by decide +kernel⟩
theorem d_read_0 : decode k_read 0 = .ok (.aload_n 0, 1) := by decide +kernel
theorem d_read_1 : decode k_read 1 = .ok (.iconst 0, 1) := by decide +kernel
theorem d_read_2 : decode k_read 2 = .ok (.putfield 140, 3) := by decide +kernel
theorem d_read_5 : decode k_read 5 = .ok (.iload_n 1, 1) := by decide +kernel
theorem d_read_6 : decode k_read 6 = .ok (.invokestatic 336, 3) := by decide +kernel
theorem d_read_9 : decode k_read 9 = .ok (.ifCond .eq 10, 3) := by decide +kernel
theorem d_read_12 : decode k_read 12 = .ok (.aload_n 0, 1) := by decide +kernel
theorem d_read_13 : decode k_read 13 = .ok (.iconst 1, 1) := by decide +kernel
theorem d_read_14 : decode k_read 14 = .ok (.invokevirtual 327, 3) := by decide +kernel
theorem d_read_17 : decode k_read 17 = .ok (.i2l, 1) := by decide +kernel
theorem d_read_18 : decode k_read 18 = .ok (.lreturn, 1) := by decide +kernel
theorem d_read_19 : decode k_read 19 = .ok (.iload_n 2, 1) := by decide +kernel
theorem d_read_20 : decode k_read 20 = .ok (.iconst 1, 1) := by decide +kernel
theorem d_read_21 : decode k_read 21 = .ok (.if_icmp .lt 9, 3) := by decide +kernel
theorem d_read_24 : decode k_read 24 = .ok (.iload_n 2, 1) := by decide +kernel
theorem d_read_25 : decode k_read 25 = .ok (.bipush 7, 2) := by decide +kernel
theorem d_read_27 : decode k_read 27 = .ok (.if_icmp .le 10, 3) := by decide +kernel
theorem d_read_30 : decode k_read 30 = .ok (.aload_n 0, 1) := by decide +kernel
theorem d_read_31 : decode k_read 31 = .ok (.iconst 2, 1) := by decide +kernel
theorem d_read_32 : decode k_read 32 = .ok (.invokevirtual 327, 3) := by decide +kernel
theorem d_read_35 : decode k_read 35 = .ok (.i2l, 1) := by decide +kernel
theorem d_read_36 : decode k_read 36 = .ok (.lreturn, 1) := by decide +kernel
theorem d_read_37 : decode k_read 37 = .ok (.aload_n 0, 1) := by decide +kernel
theorem d_read_38 : decode k_read 38 = .ok (.getfield 105, 3) := by decide +kernel
theorem d_read_41 : decode k_read 41 = .ok (.iload_n 1, 1) := by decide +kernel
theorem d_read_42 : decode k_read 42 = .ok (.iaload, 1) := by decide +kernel
theorem d_read_43 : decode k_read 43 = .ok (.ifCond .ne 19, 3) := by decide +kernel
theorem d_read_46 : decode k_read 46 = .ok (.aload_n 0, 1) := by decide +kernel
theorem d_read_47 : decode k_read 47 = .ok (.getfield 126, 3) := by decide +kernel
theorem d_read_50 : decode k_read 50 = .ok (.iload_n 1, 1) := by decide +kernel
theorem d_read_51 : decode k_read 51 = .ok (.baload, 1) := by decide +kernel
theorem d_read_52 : decode k_read 52 = .ok (.ifCond .eq 10, 3) := by decide +kernel
theorem d_read_55 : decode k_read 55 = .ok (.aload_n 0, 1) := by decide +kernel
theorem d_read_56 : decode k_read 56 = .ok (.iconst 3, 1) := by decide +kernel
theorem d_read_57 : decode k_read 57 = .ok (.invokevirtual 327, 3) := by decide +kernel
theorem d_read_60 : decode k_read 60 = .ok (.i2l, 1) := by decide +kernel
theorem d_read_61 : decode k_read 61 = .ok (.lreturn, 1) := by decide +kernel
theorem d_read_62 : decode k_read 62 = .ok (.aload_n 0, 1) := by decide +kernel
theorem d_read_63 : decode k_read 63 = .ok (.getfield 105, 3) := by decide +kernel
theorem d_read_66 : decode k_read 66 = .ok (.iload_n 1, 1) := by decide +kernel
theorem d_read_67 : decode k_read 67 = .ok (.iaload, 1) := by decide +kernel
theorem d_read_68 : decode k_read 68 = .ok (.ifCond .ne 19, 3) := by decide +kernel
theorem d_read_71 : decode k_read 71 = .ok (.aload_n 0, 1) := by decide +kernel
theorem d_read_72 : decode k_read 72 = .ok (.getfield 102, 3) := by decide +kernel
theorem d_read_75 : decode k_read 75 = .ok (.iload_n 1, 1) := by decide +kernel
theorem d_read_76 : decode k_read 76 = .ok (.iaload, 1) := by decide +kernel
theorem d_read_77 : decode k_read 77 = .ok (.ifCond .le 10, 3) := by decide +kernel
theorem d_read_80 : decode k_read 80 = .ok (.aload_n 0, 1) := by decide +kernel
theorem d_read_81 : decode k_read 81 = .ok (.iconst 4, 1) := by decide +kernel
theorem d_read_82 : decode k_read 82 = .ok (.invokevirtual 327, 3) := by decide +kernel
theorem d_read_85 : decode k_read 85 = .ok (.i2l, 1) := by decide +kernel
theorem d_read_86 : decode k_read 86 = .ok (.lreturn, 1) := by decide +kernel
theorem d_read_87 : decode k_read 87 = .ok (.aload_n 0, 1) := by decide +kernel
theorem d_read_88 : decode k_read 88 = .ok (.getfield 105, 3) := by decide +kernel
theorem d_read_91 : decode k_read 91 = .ok (.iload_n 1, 1) := by decide +kernel
theorem d_read_92 : decode k_read 92 = .ok (.iaload, 1) := by decide +kernel
theorem d_read_93 : decode k_read 93 = .ok (.iload_n 2, 1) := by decide +kernel
theorem d_read_94 : decode k_read 94 = .ok (.if_icmp .ge 12, 3) := by decide +kernel
theorem d_read_97 : decode k_read 97 = .ok (.aload_n 0, 1) := by decide +kernel
theorem d_read_98 : decode k_read 98 = .ok (.getfield 105, 3) := by decide +kernel
theorem d_read_101 : decode k_read 101 = .ok (.iload_n 1, 1) := by decide +kernel
theorem d_read_102 : decode k_read 102 = .ok (.iaload, 1) := by decide +kernel
theorem d_read_103 : decode k_read 103 = .ok (.goto 4, 3) := by decide +kernel
theorem d_read_106 : decode k_read 106 = .ok (.iload_n 2, 1) := by decide +kernel
theorem d_read_107 : decode k_read 107 = .ok (.istore_n 3, 1) := by decide +kernel
theorem d_read_108 : decode k_read 108 = .ok (.aload_n 0, 1) := by decide +kernel
theorem d_read_109 : decode k_read 109 = .ok (.getfield 66, 3) := by decide +kernel
theorem d_read_112 : decode k_read 112 = .ok (.iload_n 1, 1) := by decide +kernel
theorem d_read_113 : decode k_read 113 = .ok (.iaload, 1) := by decide +kernel
theorem d_read_114 : decode k_read 114 = .ok (.aload_n 0, 1) := by decide +kernel
theorem d_read_115 : decode k_read 115 = .ok (.getfield 126, 3) := by decide +kernel
theorem d_read_118 : decode k_read 118 = .ok (.iload_n 1, 1) := by decide +kernel
theorem d_read_119 : decode k_read 119 = .ok (.baload, 1) := by decide +kernel
theorem d_read_120 : decode k_read 120 = .ok (.ifCond .eq 7, 3) := by decide +kernel
theorem d_read_123 : decode k_read 123 = .ok (.iconst 1, 1) := by decide +kernel
theorem d_read_124 : decode k_read 124 = .ok (.goto 4, 3) := by decide +kernel
theorem d_read_127 : decode k_read 127 = .ok (.iconst 0, 1) := by decide +kernel
theorem d_read_128 : decode k_read 128 = .ok (.isub, 1) := by decide +kernel
theorem d_read_129 : decode k_read 129 = .ok (.aload_n 0, 1) := by decide +kernel
theorem d_read_130 : decode k_read 130 = .ok (.getfield 105, 3) := by decide +kernel
theorem d_read_133 : decode k_read 133 = .ok (.iload_n 1, 1) := by decide +kernel
theorem d_read_134 : decode k_read 134 = .ok (.iaload, 1) := by decide +kernel
theorem d_read_135 : decode k_read 135 = .ok (.isub, 1) := by decide +kernel
theorem d_read_136 : decode k_read 136 = .ok (.istore 4, 2) := by decide +kernel
theorem d_read_138 : decode k_read 138 = .ok (.lconst 0, 1) := by decide +kernel
theorem d_read_139 : decode k_read 139 = .ok (.lstore 5, 2) := by decide +kernel
theorem d_read_141 : decode k_read 141 = .ok (.iconst 0, 1) := by decide +kernel
theorem d_read_142 : decode k_read 142 = .ok (.istore 7, 2) := by decide +kernel
theorem d_read_144 : decode k_read 144 = .ok (.iload 7, 2) := by decide +kernel
theorem d_read_146 : decode k_read 146 = .ok (.iload_n 3, 1) := by decide +kernel
theorem d_read_147 : decode k_read 147 = .ok (.if_icmp .ge 40, 3) := by decide +kernel
theorem d_read_150 : decode k_read 150 = .ok (.lload 5, 2) := by decide +kernel
theorem d_read_152 : decode k_read 152 = .ok (.bipush 8, 2) := by decide +kernel
theorem d_read_154 : decode k_read 154 = .ok (.lshl, 1) := by decide +kernel
theorem d_read_155 : decode k_read 155 = .ok (.aload_n 0, 1) := by decide +kernel
theorem d_read_156 : decode k_read 156 = .ok (.getfield 134, 3) := by decide +kernel
theorem d_read_159 : decode k_read 159 = .ok (.ldc 7, 2) := by decide +kernel
theorem d_read_161 : decode k_read 161 = .ok (.iload_n 1, 1) := by decide +kernel
theorem d_read_162 : decode k_read 162 = .ok (.imul, 1) := by decide +kernel
theorem d_read_163 : decode k_read 163 = .ok (.iload 4, 2) := by decide +kernel
theorem d_read_165 : decode k_read 165 = .ok (.iload 7, 2) := by decide +kernel
theorem d_read_167 : decode k_read 167 = .ok (.iadd, 1) := by decide +kernel
theorem d_read_168 : decode k_read 168 = .ok (.ldc 32, 2) := by decide +kernel
theorem d_read_170 : decode k_read 170 = .ok (.iand, 1) := by decide +kernel
theorem d_read_171 : decode k_read 171 = .ok (.iadd, 1) := by decide +kernel
theorem d_read_172 : decode k_read 172 = .ok (.baload, 1) := by decide +kernel
theorem d_read_173 : decode k_read 173 = .ok (.i2l, 1) := by decide +kernel
theorem d_read_174 : decode k_read 174 = .ok (.ldc2_w 339, 3) := by decide +kernel
theorem d_read_177 : decode k_read 177 = .ok (.land, 1) := by decide +kernel
theorem d_read_178 : decode k_read 178 = .ok (.lor, 1) := by decide +kernel
theorem d_read_179 : decode k_read 179 = .ok (.lstore 5, 2) := by decide +kernel
theorem d_read_181 : decode k_read 181 = .ok (.iinc 7 1, 3) := by decide +kernel
theorem d_read_184 : decode k_read 184 = .ok (.goto (-40), 3) := by decide +kernel
theorem d_read_187 : decode k_read 187 = .ok (.aload_n 0, 1) := by decide +kernel
theorem d_read_188 : decode k_read 188 = .ok (.getfield 105, 3) := by decide +kernel
theorem d_read_191 : decode k_read 191 = .ok (.iload_n 1, 1) := by decide +kernel
theorem d_read_192 : decode k_read 192 = .ok (.dup2, 1) := by decide +kernel
theorem d_read_193 : decode k_read 193 = .ok (.iaload, 1) := by decide +kernel
theorem d_read_194 : decode k_read 194 = .ok (.iload_n 3, 1) := by decide +kernel
theorem d_read_195 : decode k_read 195 = .ok (.isub, 1) := by decide +kernel
theorem d_read_196 : decode k_read 196 = .ok (.iastore, 1) := by decide +kernel
theorem d_read_197 : decode k_read 197 = .ok (.aload_n 0, 1) := by decide +kernel
theorem d_read_198 : decode k_read 198 = .ok (.getfield 39, 3) := by decide +kernel
theorem d_read_201 : decode k_read 201 = .ok (.iload_n 1, 1) := by decide +kernel
theorem d_read_202 : decode k_read 202 = .ok (.iaload, 1) := by decide +kernel
theorem d_read_203 : decode k_read 203 = .ok (.iconst 4, 1) := by decide +kernel
theorem d_read_204 : decode k_read 204 = .ok (.if_icmp .lt 69, 3) := by decide +kernel
theorem d_read_207 : decode k_read 207 = .ok (.aload_n 0, 1) := by decide +kernel
theorem d_read_208 : decode k_read 208 = .ok (.getfield 39, 3) := by decide +kernel
theorem d_read_211 : decode k_read 211 = .ok (.iload_n 1, 1) := by decide +kernel
theorem d_read_212 : decode k_read 212 = .ok (.iaload, 1) := by decide +kernel
theorem d_read_213 : decode k_read 213 = .ok (.bipush 6, 2) := by decide +kernel
theorem d_read_215 : decode k_read 215 = .ok (.if_icmp .gt 58, 3) := by decide +kernel
theorem d_read_218 : decode k_read 218 = .ok (.aload_n 0, 1) := by decide +kernel
theorem d_read_219 : decode k_read 219 = .ok (.getfield 69, 3) := by decide +kernel
theorem d_read_222 : decode k_read 222 = .ok (.iload_n 1, 1) := by decide +kernel
theorem d_read_223 : decode k_read 223 = .ok (.iaload, 1) := by decide +kernel
theorem d_read_224 : decode k_read 224 = .ok (.aload_n 0, 1) := by decide +kernel
theorem d_read_225 : decode k_read 225 = .ok (.getfield 66, 3) := by decide +kernel
theorem d_read_228 : decode k_read 228 = .ok (.iload_n 1, 1) := by decide +kernel
theorem d_read_229 : decode k_read 229 = .ok (.iaload, 1) := by decide +kernel
theorem d_read_230 : decode k_read 230 = .ok (.isub, 1) := by decide +kernel
theorem d_read_231 : decode k_read 231 = .ok (.aload_n 0, 1) := by decide +kernel
theorem d_read_232 : decode k_read 232 = .ok (.getfield 63, 3) := by decide +kernel
theorem d_read_235 : decode k_read 235 = .ok (.iload_n 1, 1) := by decide +kernel
theorem d_read_236 : decode k_read 236 = .ok (.iaload, 1) := by decide +kernel
theorem d_read_237 : decode k_read 237 = .ok (.if_icmp .ge 36, 3) := by decide +kernel
theorem d_read_240 : decode k_read 240 = .ok (.aload_n 0, 1) := by decide +kernel
theorem d_read_241 : decode k_read 241 = .ok (.getfield 66, 3) := by decide +kernel
theorem d_read_244 : decode k_read 244 = .ok (.iload_n 1, 1) := by decide +kernel
theorem d_read_245 : decode k_read 245 = .ok (.iaload, 1) := by decide +kernel
theorem d_read_246 : decode k_read 246 = .ok (.aload_n 0, 1) := by decide +kernel
theorem d_read_247 : decode k_read 247 = .ok (.iload_n 1, 1) := by decide +kernel
theorem d_read_248 : decode k_read 248 = .ok (.invokevirtual 185, 3) := by decide +kernel
theorem d_read_251 : decode k_read 251 = .ok (.iadd, 1) := by decide +kernel
theorem d_read_252 : decode k_read 252 = .ok (.aload_n 0, 1) := by decide +kernel
theorem d_read_253 : decode k_read 253 = .ok (.getfield 69, 3) := by decide +kernel
theorem d_read_256 : decode k_read 256 = .ok (.iload_n 1, 1) := by decide +kernel
theorem d_read_257 : decode k_read 257 = .ok (.iaload, 1) := by decide +kernel
theorem d_read_258 : decode k_read 258 = .ok (.isub, 1) := by decide +kernel
theorem d_read_259 : decode k_read 259 = .ok (.aload_n 0, 1) := by decide +kernel
theorem d_read_260 : decode k_read 260 = .ok (.getfield 63, 3) := by decide +kernel
theorem d_read_263 : decode k_read 263 = .ok (.iload_n 1, 1) := by decide +kernel
theorem d_read_264 : decode k_read 264 = .ok (.iaload, 1) := by decide +kernel
theorem d_read_265 : decode k_read 265 = .ok (.if_icmp .lt 8, 3) := by decide +kernel
theorem d_read_268 : decode k_read 268 = .ok (.aload_n 0, 1) := by decide +kernel
theorem d_read_269 : decode k_read 269 = .ok (.iload_n 1, 1) := by decide +kernel
theorem d_read_270 : decode k_read 270 = .ok (.invokevirtual 287, 3) := by decide +kernel
theorem d_read_273 : decode k_read 273 = .ok (.iload_n 3, 1) := by decide +kernel
theorem d_read_274 : decode k_read 274 = .ok (.i2l, 1) := by decide +kernel
theorem d_read_275 : decode k_read 275 = .ok (.bipush 56, 2) := by decide +kernel
theorem d_read_277 : decode k_read 277 = .ok (.lshl, 1) := by decide +kernel
theorem d_read_278 : decode k_read 278 = .ok (.lload 5, 2) := by decide +kernel
theorem d_read_280 : decode k_read 280 = .ok (.lor, 1) := by decide +kernel
theorem d_read_281 : decode k_read 281 = .ok (.lreturn, 1) := by decide +kernel
def b_read_273 (v3 : Int32) (v5 : Int64) (ρ : RS) : Option (Int64 × RS) :=
  some (((v3.toInt64) <<< ((56 : Int32).toInt64 &&& 63)) ||| v5, ρ)
def F_read_144 (rec144 : Int32 → Int32 → Int32 → Int64 → Int32 → RS → Option (Int64 × RS)) (v1 : Int32) (v3 : Int32) (v4 : Int32) (v5 : Int64) (v7 : Int32) (ρ : RS) : Option (Int64 × RS) :=
  if v3 ≤ v7 then
  (gd (inb v1 2) <| bd (ρ.1 31 v1.toNatClampNeg) fun x1 => gd (inb v1 2) <| bd (si ρ 31 v1.toNatClampNeg (x1 - v3)) fun r2 => gd (inb v1 2) <| bd (r2.1 9 v1.toNatClampNeg) fun x3 => if x3 < (4 : Int32) then
  (b_read_273 v3 v5 r2)
 else
  (gd (inb v1 2) <| bd (r2.1 9 v1.toNatClampNeg) fun x4 => if (6 : Int32) < x4 then
  (b_read_273 v3 v5 r2)
 else
  (gd (inb v1 2) <| bd (r2.1 19 v1.toNatClampNeg) fun x5 => gd (inb v1 2) <| bd (r2.1 18 v1.toNatClampNeg) fun x6 => gd (inb v1 2) <| bd (r2.1 17 v1.toNatClampNeg) fun x7 => if x7 ≤ (x5 - x6) then
  (b_read_273 v3 v5 r2)
 else
  (gd (inb v1 2) <| bd (r2.1 18 v1.toNatClampNeg) fun x8 => bc2 (m_freeRoom v1 r2) fun x10 r9 => gd (inb v1 2) <| bd (r9.1 19 v1.toNatClampNeg) fun x11 => gd (inb v1 2) <| bd (r9.1 17 v1.toNatClampNeg) fun x12 => if ((x8 + x10) - x11) < x12 then
  (b_read_273 v3 v5 r9)
 else
  (bc (m_sendAck v1 r9) fun r13 => b_read_273 v3 v5 r13)))))
 else
  (gd (inb (((65536 : Int32) * v1) + ((v4 + v7) &&& (65535 : Int32))) 131072) <| bd (ρ.1 39 (((65536 : Int32) * v1) + ((v4 + v7) &&& (65535 : Int32))).toNatClampNeg) fun x14 => bd ((v5 <<< ((8 : Int32).toInt64 &&& 63)) ||| ((x14.toInt64) &&& (255 : Int64))) fun x15 => bd (v7 + (1 : Int32)) fun x16 => rec144 v1 v3 v4 x15 x16 ρ)
def b_read_128 (v1 : Int32) (v3 : Int32) (w0 : Int32) (w1 : Int32) (ρ : RS) : Option (Int64 × RS) :=
  gd (inb v1 2) <| bd (ρ.1 31 v1.toNatClampNeg) fun x1 => bd ((w0 - w1) - x1) fun x2 => lq6 (F_read_144) fuel v1 v3 x2 (0 : Int64) (0 : Int32) ρ
def b_read_107 (v1 : Int32) (w0 : Int32) (ρ : RS) : Option (Int64 × RS) :=
  gd (inb v1 2) <| bd (ρ.1 18 v1.toNatClampNeg) fun x1 => gd (inb v1 2) <| bd (ρ.1 37 v1.toNatClampNeg) fun x2 => if x2 = 0 then
  (b_read_128 v1 w0 x1 (0 : Int32) ρ)
 else
  (b_read_128 v1 w0 x1 (1 : Int32) ρ)
def b_read_87 (v1 : Int32) (v2 : Int32) (ρ : RS) : Option (Int64 × RS) :=
  gd (inb v1 2) <| bd (ρ.1 31 v1.toNatClampNeg) fun x1 => if v2 ≤ x1 then
  (b_read_107 v1 v2 ρ)
 else
  (gd (inb v1 2) <| bd (ρ.1 31 v1.toNatClampNeg) fun x2 => b_read_107 v1 x2 ρ)
def b_read_62 (v1 : Int32) (v2 : Int32) (ρ : RS) : Option (Int64 × RS) :=
  gd (inb v1 2) <| bd (ρ.1 31 v1.toNatClampNeg) fun x1 => if x1 = 0 then
  (gd (inb v1 2) <| bd (ρ.1 30 v1.toNatClampNeg) fun x2 => if x2 ≤ 0 then
  (b_read_87 v1 v2 ρ)
 else
  (bc2 (m_fail (4 : Int32) ρ) fun x4 r3 => some (x4.toInt64, r3)))
 else
  (b_read_87 v1 v2 ρ)
def b_read_30 (ρ : RS) : Option (Int64 × RS) :=
  bc2 (m_fail (2 : Int32) ρ) fun x2 r1 => some (x2.toInt64, r1)
def m_read (v1 : Int32) (v2 : Int32) (ρ : RS) : Option (Int64 × RS) :=
  bd (si ρ 0 0 (0 : Int32)) fun r1 => bc2 (m_none v1 r1) fun x3 r2 => if x3 = 0 then
  (if v2 < (1 : Int32) then
  (b_read_30  r2)
 else
  (if v2 ≤ (7 : Int32) then
  (gd (inb v1 2) <| bd (r2.1 31 v1.toNatClampNeg) fun x4 => if x4 = 0 then
  (gd (inb v1 2) <| bd (r2.1 37 v1.toNatClampNeg) fun x5 => if x5 = 0 then
  (b_read_62 v1 v2 r2)
 else
  (bc2 (m_fail (3 : Int32) r2) fun x7 r6 => some (x7.toInt64, r6)))
 else
  (b_read_62 v1 v2 r2))
 else
  (b_read_30  r2)))
 else
  (bc2 (m_fail (1 : Int32) r2) fun x9 r8 => some (x9.toInt64, r8))
def P_read_144 (p : Program) (l : Launch) (e : Env) (s : State) (m : MethodId) (args : Array Value) (below : List Frame) (meth : Method) (c : Code) (D : va_G) (tc : Nat → ClassId) (o : Nat) (v1 : Int32) (v3 : Int32) (v4 : Int32) (v5 : Int64) (v7 : Int32) (ρ : RS) (B : Int64 × RS) : Prop := ∀ (ls : Array Slot) (H : Heap) (locs : List Loc), lv_has ls 8 [(0, .ref o), (1, .int v1), (3, .int v3), (4, .int v4), (5, .long v5), (7, .int v7)] → RWS D tc o s ρ H locs → W p l e { frames := 5, cells := 0, slots := 0, locals := 124 } s m args below meth c H locs 0 0 (MQ below (RQ D tc o (some (.long B.1)) B.2) args s 0 0 (rreg o)) (F0 m 144 ls [])
section
variable {p : Program} {l : Launch} {e : Env} {s : State} {m : MethodId} {args : Array Value} {below : List Frame} {meth : Method} {c : Code} {D : va_G} {tc : Nat → ClassId} {o : Nat}
theorem t_read_273 (S : RC p m c k_read 8 s args cn_M meth (some .long) D tc) (v3 : Int32) (v5 : Int64) (ρ : RS) {B : Int64 × RS} (h : b_read_273 v3 v5 ρ = some B) {ls : Array Slot} {H : Heap} {locs : List Loc} (hl : lv_has ls 8 [(3, .int v3), (5, .long v5)]) (hW : RWS D tc o s ρ H locs) : W p l e { frames := 5, cells := 0, slots := 0, locals := 124 } s m args below meth c H locs 0 0 (MQ below (RQ D tc o (some (.long B.1)) B.2) args s 0 0 (rreg o)) (F0 m 273 ls []) := by
  have hx := S.1.1
  have hb := S.1.2.1
  unfold b_read_273 at h
  refine lv_iload_n hx hb d_read_273 rfl (lv_at hl 0 rfl) ?_
  refine lv_i2l hx hb d_read_274 rfl ?_
  refine lv_bipush (v := 56) hx hb d_read_275 (by decide) ?_
  refine lv_lshl hx hb d_read_277 rfl ?_
  refine lv_lload hx hb d_read_278 (lv_at hl 1 rfl) ?_
  refine lv_lor hx hb d_read_280 ?_
  exact rm_lret S hW d_read_281 h
theorem tF_read_144 (S : RC p m c k_read 8 s args cn_M meth (some .long) D tc) : ∀ (rec144 : Int32 → Int32 → Int32 → Int64 → Int32 → RS → Option (Int64 × RS)), (∀ (v1 : Int32) (v3 : Int32) (v4 : Int32) (v5 : Int64) (v7 : Int32) (ρ : RS) (B : Int64 × RS), rec144 v1 v3 v4 v5 v7 ρ = some B → P_read_144 p l e s m args below meth c D tc o v1 v3 v4 v5 v7 ρ B) → ∀ (v1 : Int32) (v3 : Int32) (v4 : Int32) (v5 : Int64) (v7 : Int32) (ρ : RS) (B : Int64 × RS), F_read_144 rec144 v1 v3 v4 v5 v7 ρ = some B → P_read_144 p l e s m args below meth c D tc o v1 v3 v4 v5 v7 ρ B := by
  intro rec144 hrec144 v1 v3 v4 v5 v7 ρ B h ls H locs hl hW
  have hx := S.1.1
  have hb := S.1.2.1
  unfold F_read_144 at h
  refine lv_iload hx hb d_read_144 (lv_at hl 5 rfl) ?_
  refine lv_iload_n hx hb d_read_146 rfl (lv_at hl 2 rfl) ?_
  refine rc_ge (tgt := 187) hx hb d_read_147 (by decide) h (fun h => ?_) (fun h => ?_)
  · refine lv_aload_n hx hb d_read_187 rfl (lv_at hl 0 rfl) ?_
    refine rm_geta S hW 36 31 wd_1288 (by decide) d_read_188 ?_
    refine lv_iload_n hx hb d_read_191 rfl (lv_at hl 1 rfl) ?_
    refine lv_dup2_11 hx hb d_read_192 rfl rfl ?_
    refine rm_iald S hW 31 2 (by decide) d_read_193 h (fun x1 h => ?_)
    refine lv_iload_n hx hb d_read_194 rfl (lv_at hl 2 rfl) ?_
    refine lv_isub hx hb d_read_195 ?_
    refine rm_iast S hW 31 2 (by decide) d_read_196 h (fun r2 H locs h hW => ?_)
    refine lv_aload_n hx hb d_read_197 rfl (lv_at hl 0 rfl) ?_
    refine rm_geta S hW 14 9 wd_1266 (by decide) d_read_198 ?_
    refine lv_iload_n hx hb d_read_201 rfl (lv_at hl 1 rfl) ?_
    refine rm_iald S hW 9 2 (by decide) d_read_202 h (fun x3 h => ?_)
    refine lv_iconst (v := 4) hx hb d_read_203 (by decide) ?_
    refine rc_lt (tgt := 273) hx hb d_read_204 (by decide) h (fun h => ?_) (fun h => ?_)
    · exact t_read_273 S v3 v5 r2 h (lv_sub hl [2, 4] rfl) hW
    · refine lv_aload_n hx hb d_read_207 rfl (lv_at hl 0 rfl) ?_
      refine rm_geta S hW 14 9 wd_1266 (by decide) d_read_208 ?_
      refine lv_iload_n hx hb d_read_211 rfl (lv_at hl 1 rfl) ?_
      refine rm_iald S hW 9 2 (by decide) d_read_212 h (fun x4 h => ?_)
      refine lv_bipush (v := 6) hx hb d_read_213 (by decide) ?_
      refine rc_gt (tgt := 273) hx hb d_read_215 (by decide) h (fun h => ?_) (fun h => ?_)
      · exact t_read_273 S v3 v5 r2 h (lv_sub hl [2, 4] rfl) hW
      · refine lv_aload_n hx hb d_read_218 rfl (lv_at hl 0 rfl) ?_
        refine rm_geta S hW 24 19 wd_1276 (by decide) d_read_219 ?_
        refine lv_iload_n hx hb d_read_222 rfl (lv_at hl 1 rfl) ?_
        refine rm_iald S hW 19 2 (by decide) d_read_223 h (fun x5 h => ?_)
        refine lv_aload_n hx hb d_read_224 rfl (lv_at hl 0 rfl) ?_
        refine rm_geta S hW 23 18 wd_1275 (by decide) d_read_225 ?_
        refine lv_iload_n hx hb d_read_228 rfl (lv_at hl 1 rfl) ?_
        refine rm_iald S hW 18 2 (by decide) d_read_229 h (fun x6 h => ?_)
        refine lv_isub hx hb d_read_230 ?_
        refine lv_aload_n hx hb d_read_231 rfl (lv_at hl 0 rfl) ?_
        refine rm_geta S hW 22 17 wd_1274 (by decide) d_read_232 ?_
        refine lv_iload_n hx hb d_read_235 rfl (lv_at hl 1 rfl) ?_
        refine rm_iald S hW 17 2 (by decide) d_read_236 h (fun x7 h => ?_)
        refine rc_ge (tgt := 273) hx hb d_read_237 (by decide) h (fun h => ?_) (fun h => ?_)
        · exact t_read_273 S v3 v5 r2 h (lv_sub hl [2, 4] rfl) hW
        · refine lv_aload_n hx hb d_read_240 rfl (lv_at hl 0 rfl) ?_
          refine rm_geta S hW 23 18 wd_1275 (by decide) d_read_241 ?_
          refine lv_iload_n hx hb d_read_244 rfl (lv_at hl 1 rfl) ?_
          refine rm_iald S hW 18 2 (by decide) d_read_245 h (fun x8 h => ?_)
          refine lv_aload_n hx hb d_read_246 rfl (lv_at hl 0 rfl) ?_
          refine lv_iload_n hx hb d_read_247 rfl (lv_at hl 1 rfl) ?_
          refine rm_cVi [.int v1] S hW (fun x ρ' hc => c_freeRoom v1 r2 hc) q_freeRoom wd_1453 wd_38 wd_1451 (by decide) hl.1 rfl rfl (Nat.le_of_ble_eq_true rfl) d_read_248 h (fun x10 r9 H locs h hW => ?_)
          refine lv_iadd hx hb d_read_251 ?_
          refine lv_aload_n hx hb d_read_252 rfl (lv_at hl 0 rfl) ?_
          refine rm_geta S hW 24 19 wd_1276 (by decide) d_read_253 ?_
          refine lv_iload_n hx hb d_read_256 rfl (lv_at hl 1 rfl) ?_
          refine rm_iald S hW 19 2 (by decide) d_read_257 h (fun x11 h => ?_)
          refine lv_isub hx hb d_read_258 ?_
          refine lv_aload_n hx hb d_read_259 rfl (lv_at hl 0 rfl) ?_
          refine rm_geta S hW 22 17 wd_1274 (by decide) d_read_260 ?_
          refine lv_iload_n hx hb d_read_263 rfl (lv_at hl 1 rfl) ?_
          refine rm_iald S hW 17 2 (by decide) d_read_264 h (fun x12 h => ?_)
          refine rc_lt (tgt := 273) hx hb d_read_265 (by decide) h (fun h => ?_) (fun h => ?_)
          · exact t_read_273 S v3 v5 r9 h (lv_sub hl [2, 4] rfl) hW
          · refine lv_aload_n hx hb d_read_268 rfl (lv_at hl 0 rfl) ?_
            refine lv_iload_n hx hb d_read_269 rfl (lv_at hl 1 rfl) ?_
            refine rm_cVv [.int v1] S hW (fun ρ' hc => c_sendAck v1 r9 hc) q_sendAck wd_1525 wd_50 wd_1523 (by decide) hl.1 rfl rfl (Nat.le_of_ble_eq_true rfl) d_read_270 h (fun r13 H locs h hW => ?_)
            exact t_read_273 S v3 v5 r13 h (lv_sub hl [2, 4] rfl) hW
  · refine lv_lload hx hb d_read_150 (lv_at hl 4 rfl) ?_
    refine lv_bipush (v := 8) hx hb d_read_152 (by decide) ?_
    refine lv_lshl hx hb d_read_154 rfl ?_
    refine lv_aload_n hx hb d_read_155 rfl (lv_at hl 0 rfl) ?_
    refine rm_geta S hW 44 39 wd_1296 (by decide) d_read_156 ?_
    refine lv_ldc hx hb S.1.2.2.2.1 (S.1.2.2.2.2 _ (gi wd_1246 rfl)) d_read_159 ?_
    refine lv_iload_n hx hb d_read_161 rfl (lv_at hl 1 rfl) ?_
    refine lv_imul hx hb d_read_162 ?_
    refine lv_iload hx hb d_read_163 (lv_at hl 3 rfl) ?_
    refine lv_iload hx hb d_read_165 (lv_at hl 5 rfl) ?_
    refine lv_iadd hx hb d_read_167 ?_
    refine lv_ldc hx hb S.1.2.2.2.1 (S.1.2.2.2.2 _ (gi wd_1248 rfl)) d_read_168 ?_
    refine lv_iand hx hb d_read_170 ?_
    refine lv_iadd hx hb d_read_171 ?_
    refine rm_bald S hW 39 131072 (by decide) d_read_172 h (fun x14 h => ?_)
    refine lv_i2l hx hb d_read_173 rfl ?_
    refine lv_ldc2 hx hb S.1.2.2.2.1 (S.1.2.2.2.2 _ (gi wd_1522 rfl)) d_read_174 ?_
    refine lv_land hx hb d_read_177 ?_
    refine lv_lor hx hb d_read_178 ?_
    refine rv_l h (fun x15 h => ?_)
    refine lv_lstore (lv' := [(5, .long x15), (0, .ref o), (1, .int v1), (3, .int v3), (4, .int v4), (7, .int v7)]) hx hb d_read_179 hl (by decide) rfl (fun ls hl => ?_)
    refine rv_iinc (k := 5) (v := 1) (lv' := fun x16 => [(7, .int x16), (5, .long x15), (0, .ref o), (1, .int v1), (3, .int v3), (4, .int v4)]) hx hb d_read_181 hl rfl (by decide) (by decide) (fun _ => rfl) h (fun x16 ls h hl => ?_)
    refine lv_goto (tgt := 144) hx hb d_read_184 (by decide) ?_
    exact hrec144 v1 v3 v4 x15 x16 ρ _ h _ _ _ (lv_sub hl [2, 3, 4, 5, 1, 0] rfl) hW
theorem t_read_144 (S : RC p m c k_read 8 s args cn_M meth (some .long) D tc) : ∀ (n : Nat) (v1 : Int32) (v3 : Int32) (v4 : Int32) (v5 : Int64) (v7 : Int32) (ρ : RS) (B : Int64 × RS), lq6 (F_read_144) n v1 v3 v4 v5 v7 ρ = some B → P_read_144 p l e s m args below meth c D tc o v1 v3 v4 v5 v7 ρ B := lq6_s (tF_read_144 S)
theorem t_read_128 (S : RC p m c k_read 8 s args cn_M meth (some .long) D tc) (v1 : Int32) (v3 : Int32) (w0 : Int32) (w1 : Int32) (ρ : RS) {B : Int64 × RS} (h : b_read_128 v1 v3 w0 w1 ρ = some B) {ls : Array Slot} {H : Heap} {locs : List Loc} (hl : lv_has ls 8 [(0, .ref o), (1, .int v1), (3, .int v3)]) (hW : RWS D tc o s ρ H locs) : W p l e { frames := 5, cells := 0, slots := 0, locals := 124 } s m args below meth c H locs 0 0 (MQ below (RQ D tc o (some (.long B.1)) B.2) args s 0 0 (rreg o)) (F0 m 128 ls [.int w1, .int w0]) := by
  have hx := S.1.1
  have hb := S.1.2.1
  unfold b_read_128 at h
  refine lv_isub hx hb d_read_128 ?_
  refine lv_aload_n hx hb d_read_129 rfl (lv_at hl 0 rfl) ?_
  refine rm_geta S hW 36 31 wd_1288 (by decide) d_read_130 ?_
  refine lv_iload_n hx hb d_read_133 rfl (lv_at hl 1 rfl) ?_
  refine rm_iald S hW 31 2 (by decide) d_read_134 h (fun x1 h => ?_)
  refine lv_isub hx hb d_read_135 ?_
  refine rv_i h (fun x2 h => ?_)
  refine lv_istore (lv' := [(4, .int x2), (0, .ref o), (1, .int v1), (3, .int v3)]) hx hb d_read_136 hl (by decide) rfl (fun ls hl => ?_)
  refine lv_lconst (v := 0) hx hb d_read_138 (by decide) ?_
  refine lv_lstore (lv' := [(5, .long (0 : Int64)), (4, .int x2), (0, .ref o), (1, .int v1), (3, .int v3)]) hx hb d_read_139 hl (by decide) rfl (fun ls hl => ?_)
  refine lv_iconst (v := 0) hx hb d_read_141 (by decide) ?_
  refine lv_istore (lv' := [(7, .int (0 : Int32)), (5, .long (0 : Int64)), (4, .int x2), (0, .ref o), (1, .int v1), (3, .int v3)]) hx hb d_read_142 hl (by decide) rfl (fun ls hl => ?_)
  exact t_read_144 S fuel v1 v3 x2 (0 : Int64) (0 : Int32) ρ _ h _ _ _ (lv_sub hl [3, 4, 5, 2, 1, 0] rfl) hW
theorem t_read_107 (S : RC p m c k_read 8 s args cn_M meth (some .long) D tc) (v1 : Int32) (w0 : Int32) (ρ : RS) {B : Int64 × RS} (h : b_read_107 v1 w0 ρ = some B) {ls : Array Slot} {H : Heap} {locs : List Loc} (hl : lv_has ls 8 [(0, .ref o), (1, .int v1)]) (hW : RWS D tc o s ρ H locs) : W p l e { frames := 5, cells := 0, slots := 0, locals := 124 } s m args below meth c H locs 0 0 (MQ below (RQ D tc o (some (.long B.1)) B.2) args s 0 0 (rreg o)) (F0 m 107 ls [.int w0]) := by
  have hx := S.1.1
  have hb := S.1.2.1
  unfold b_read_107 at h
  refine lv_istore_n (lv' := [(3, .int w0), (0, .ref o), (1, .int v1)]) hx hb d_read_107 rfl hl (by decide) rfl (fun ls hl => ?_)
  refine lv_aload_n hx hb d_read_108 rfl (lv_at hl 1 rfl) ?_
  refine rm_geta S hW 23 18 wd_1275 (by decide) d_read_109 ?_
  refine lv_iload_n hx hb d_read_112 rfl (lv_at hl 2 rfl) ?_
  refine rm_iald S hW 18 2 (by decide) d_read_113 h (fun x1 h => ?_)
  refine lv_aload_n hx hb d_read_114 rfl (lv_at hl 1 rfl) ?_
  refine rm_geta S hW 42 37 wd_1294 (by decide) d_read_115 ?_
  refine lv_iload_n hx hb d_read_118 rfl (lv_at hl 2 rfl) ?_
  refine rm_zald S hW 37 2 (by decide) d_read_119 h (fun x2 h => ?_)
  refine rb_eq (tgt := 127) hx hb d_read_120 (by decide) h (fun h => ?_) (fun h => ?_)
  · refine lv_iconst (v := 0) hx hb d_read_127 (by decide) ?_
    exact t_read_128 S v1 w0 x1 (0 : Int32) ρ h (lv_sub hl [1, 2, 0] rfl) hW
  · refine lv_iconst (v := 1) hx hb d_read_123 (by decide) ?_
    refine lv_goto (tgt := 128) hx hb d_read_124 (by decide) ?_
    exact t_read_128 S v1 w0 x1 (1 : Int32) ρ h (lv_sub hl [1, 2, 0] rfl) hW
theorem t_read_87 (S : RC p m c k_read 8 s args cn_M meth (some .long) D tc) (v1 : Int32) (v2 : Int32) (ρ : RS) {B : Int64 × RS} (h : b_read_87 v1 v2 ρ = some B) {ls : Array Slot} {H : Heap} {locs : List Loc} (hl : lv_has ls 8 [(0, .ref o), (1, .int v1), (2, .int v2)]) (hW : RWS D tc o s ρ H locs) : W p l e { frames := 5, cells := 0, slots := 0, locals := 124 } s m args below meth c H locs 0 0 (MQ below (RQ D tc o (some (.long B.1)) B.2) args s 0 0 (rreg o)) (F0 m 87 ls []) := by
  have hx := S.1.1
  have hb := S.1.2.1
  unfold b_read_87 at h
  refine lv_aload_n hx hb d_read_87 rfl (lv_at hl 0 rfl) ?_
  refine rm_geta S hW 36 31 wd_1288 (by decide) d_read_88 ?_
  refine lv_iload_n hx hb d_read_91 rfl (lv_at hl 1 rfl) ?_
  refine rm_iald S hW 31 2 (by decide) d_read_92 h (fun x1 h => ?_)
  refine lv_iload_n hx hb d_read_93 rfl (lv_at hl 2 rfl) ?_
  refine rc_ge (tgt := 106) hx hb d_read_94 (by decide) h (fun h => ?_) (fun h => ?_)
  · refine lv_iload_n hx hb d_read_106 rfl (lv_at hl 2 rfl) ?_
    exact t_read_107 S v1 v2 ρ h (lv_sub hl [0, 1] rfl) hW
  · refine lv_aload_n hx hb d_read_97 rfl (lv_at hl 0 rfl) ?_
    refine rm_geta S hW 36 31 wd_1288 (by decide) d_read_98 ?_
    refine lv_iload_n hx hb d_read_101 rfl (lv_at hl 1 rfl) ?_
    refine rm_iald S hW 31 2 (by decide) d_read_102 h (fun x2 h => ?_)
    refine lv_goto (tgt := 107) hx hb d_read_103 (by decide) ?_
    exact t_read_107 S v1 x2 ρ h (lv_sub hl [0, 1] rfl) hW
theorem t_read_62 (S : RC p m c k_read 8 s args cn_M meth (some .long) D tc) (v1 : Int32) (v2 : Int32) (ρ : RS) {B : Int64 × RS} (h : b_read_62 v1 v2 ρ = some B) {ls : Array Slot} {H : Heap} {locs : List Loc} (hl : lv_has ls 8 [(0, .ref o), (1, .int v1), (2, .int v2)]) (hW : RWS D tc o s ρ H locs) : W p l e { frames := 5, cells := 0, slots := 0, locals := 124 } s m args below meth c H locs 0 0 (MQ below (RQ D tc o (some (.long B.1)) B.2) args s 0 0 (rreg o)) (F0 m 62 ls []) := by
  have hx := S.1.1
  have hb := S.1.2.1
  unfold b_read_62 at h
  refine lv_aload_n hx hb d_read_62 rfl (lv_at hl 0 rfl) ?_
  refine rm_geta S hW 36 31 wd_1288 (by decide) d_read_63 ?_
  refine lv_iload_n hx hb d_read_66 rfl (lv_at hl 1 rfl) ?_
  refine rm_iald S hW 31 2 (by decide) d_read_67 h (fun x1 h => ?_)
  refine rb_ne (tgt := 87) hx hb d_read_68 (by decide) h (fun h => ?_) (fun h => ?_)
  · exact t_read_87 S v1 v2 ρ h (lv_sub hl [0, 1, 2] rfl) hW
  · refine lv_aload_n hx hb d_read_71 rfl (lv_at hl 0 rfl) ?_
    refine rm_geta S hW 35 30 wd_1287 (by decide) d_read_72 ?_
    refine lv_iload_n hx hb d_read_75 rfl (lv_at hl 1 rfl) ?_
    refine rm_iald S hW 30 2 (by decide) d_read_76 h (fun x2 h => ?_)
    refine rb_le (tgt := 87) hx hb d_read_77 (by decide) h (fun h => ?_) (fun h => ?_)
    · exact t_read_87 S v1 v2 ρ h (lv_sub hl [0, 1, 2] rfl) hW
    · refine lv_aload_n hx hb d_read_80 rfl (lv_at hl 0 rfl) ?_
      refine lv_iconst (v := 4) hx hb d_read_81 (by decide) ?_
      refine rm_cVi [.int (4 : Int32)] S hW (fun x ρ' hc => c_fail (4 : Int32) ρ hc) q_fail wd_1429 wd_34 wd_1427 (by decide) hl.1 rfl rfl (Nat.le_of_ble_eq_true rfl) d_read_82 h (fun x4 r3 H locs h hW => ?_)
      refine lv_i2l hx hb d_read_85 rfl ?_
      exact rm_lret S hW d_read_86 h
theorem t_read_30 (S : RC p m c k_read 8 s args cn_M meth (some .long) D tc) (ρ : RS) {B : Int64 × RS} (h : b_read_30  ρ = some B) {ls : Array Slot} {H : Heap} {locs : List Loc} (hl : lv_has ls 8 [(0, .ref o)]) (hW : RWS D tc o s ρ H locs) : W p l e { frames := 5, cells := 0, slots := 0, locals := 124 } s m args below meth c H locs 0 0 (MQ below (RQ D tc o (some (.long B.1)) B.2) args s 0 0 (rreg o)) (F0 m 30 ls []) := by
  have hx := S.1.1
  have hb := S.1.2.1
  unfold b_read_30 at h
  refine lv_aload_n hx hb d_read_30 rfl (lv_at hl 0 rfl) ?_
  refine lv_iconst (v := 2) hx hb d_read_31 (by decide) ?_
  refine rm_cVi [.int (2 : Int32)] S hW (fun x ρ' hc => c_fail (2 : Int32) ρ hc) q_fail wd_1429 wd_34 wd_1427 (by decide) hl.1 rfl rfl (Nat.le_of_ble_eq_true rfl) d_read_32 h (fun x2 r1 H locs h hW => ?_)
  refine lv_i2l hx hb d_read_35 rfl ?_
  exact rm_lret S hW d_read_36 h
theorem t_read_0 (S : RC p m c k_read 8 s args cn_M meth (some .long) D tc) (v1 : Int32) (v2 : Int32) (ρ : RS) {B : Int64 × RS} (h : m_read v1 v2 ρ = some B) {ls : Array Slot} {H : Heap} {locs : List Loc} (hl : lv_has ls 8 [(0, .ref o), (1, .int v1), (2, .int v2)]) (hW : RWS D tc o s ρ H locs) : W p l e { frames := 5, cells := 0, slots := 0, locals := 124 } s m args below meth c H locs 0 0 (MQ below (RQ D tc o (some (.long B.1)) B.2) args s 0 0 (rreg o)) (F0 m 0 ls []) := by
  have hx := S.1.1
  have hb := S.1.2.1
  unfold m_read at h
  refine lv_aload_n hx hb d_read_0 rfl (lv_at hl 0 rfl) ?_
  refine lv_iconst (v := 0) hx hb d_read_1 (by decide) ?_
  refine rm_puti S hW 0 wd_1252 (by decide) d_read_2 h (fun r1 H locs h hW => ?_)
  refine lv_iload_n hx hb d_read_5 rfl (lv_at hl 1 rfl) ?_
  refine rm_cSi [.int v1] S hW (fun x ρ' hc => c_none v1 r1 hc) q_none wd_1500 wd_1499 (by decide) hl.1 rfl rfl (Nat.le_of_ble_eq_true rfl) d_read_6 h (fun x3 r2 H locs h hW => ?_)
  refine rb_eq (tgt := 19) hx hb d_read_9 (by decide) h (fun h => ?_) (fun h => ?_)
  · refine lv_iload_n hx hb d_read_19 rfl (lv_at hl 2 rfl) ?_
    refine lv_iconst (v := 1) hx hb d_read_20 (by decide) ?_
    refine rc_lt (tgt := 30) hx hb d_read_21 (by decide) h (fun h => ?_) (fun h => ?_)
    · exact t_read_30 S  r2 h (lv_sub hl [0] rfl) hW
    · refine lv_iload_n hx hb d_read_24 rfl (lv_at hl 2 rfl) ?_
      refine lv_bipush (v := 7) hx hb d_read_25 (by decide) ?_
      refine rc_le (tgt := 37) hx hb d_read_27 (by decide) h (fun h => ?_) (fun h => ?_)
      · refine lv_aload_n hx hb d_read_37 rfl (lv_at hl 0 rfl) ?_
        refine rm_geta S hW 36 31 wd_1288 (by decide) d_read_38 ?_
        refine lv_iload_n hx hb d_read_41 rfl (lv_at hl 1 rfl) ?_
        refine rm_iald S hW 31 2 (by decide) d_read_42 h (fun x4 h => ?_)
        refine rb_ne (tgt := 62) hx hb d_read_43 (by decide) h (fun h => ?_) (fun h => ?_)
        · exact t_read_62 S v1 v2 r2 h (lv_sub hl [0, 1, 2] rfl) hW
        · refine lv_aload_n hx hb d_read_46 rfl (lv_at hl 0 rfl) ?_
          refine rm_geta S hW 42 37 wd_1294 (by decide) d_read_47 ?_
          refine lv_iload_n hx hb d_read_50 rfl (lv_at hl 1 rfl) ?_
          refine rm_zald S hW 37 2 (by decide) d_read_51 h (fun x5 h => ?_)
          refine rb_eq (tgt := 62) hx hb d_read_52 (by decide) h (fun h => ?_) (fun h => ?_)
          · exact t_read_62 S v1 v2 r2 h (lv_sub hl [0, 1, 2] rfl) hW
          · refine lv_aload_n hx hb d_read_55 rfl (lv_at hl 0 rfl) ?_
            refine lv_iconst (v := 3) hx hb d_read_56 (by decide) ?_
            refine rm_cVi [.int (3 : Int32)] S hW (fun x ρ' hc => c_fail (3 : Int32) r2 hc) q_fail wd_1429 wd_34 wd_1427 (by decide) hl.1 rfl rfl (Nat.le_of_ble_eq_true rfl) d_read_57 h (fun x7 r6 H locs h hW => ?_)
            refine lv_i2l hx hb d_read_60 rfl ?_
            exact rm_lret S hW d_read_61 h
      · exact t_read_30 S  r2 h (lv_sub hl [0] rfl) hW
  · refine lv_aload_n hx hb d_read_12 rfl (lv_at hl 0 rfl) ?_
    refine lv_iconst (v := 1) hx hb d_read_13 (by decide) ?_
    refine rm_cVi [.int (1 : Int32)] S hW (fun x ρ' hc => c_fail (1 : Int32) r2 hc) q_fail wd_1429 wd_34 wd_1427 (by decide) hl.1 rfl rfl (Nat.le_of_ble_eq_true rfl) d_read_14 h (fun x9 r8 H locs h hW => ?_)
    refine lv_i2l hx hb d_read_17 rfl ?_
    exact rm_lret S hW d_read_18 h
theorem c_read (v1 : Int32) (v2 : Int32) (ρ : RS) {x : Int64} {ρ' : RS} (h : m_read v1 v2 ρ = some (x, ρ')) : RMet l D tc o y_read k_read 8 (some .long) 5 124 [.ref o, .int v1, .int v2] ρ (some (.long x)) ρ' := rm_met (by decide) (Nat.le_of_ble_eq_true rfl) fun p e s m args below meth c S hW ls hl => t_read_0 S v1 v2 ρ h hl hW
end

/-! close (I)I -/
abbrev k_close : ByteArray := prog_12_method_51_code
abbrev y_close : MethodName := ⟨cn_M, "close", "(I)I"⟩
theorem q_close : Calee y_close k_close 3 (some .int) 1 := ⟨wd_1530, wd_90, by decide, by decide +kernel⟩
theorem d_close_0 : decode k_close 0 = .ok (.aload_n 0, 1) := by decide +kernel
theorem d_close_1 : decode k_close 1 = .ok (.iconst 0, 1) := by decide +kernel
theorem d_close_2 : decode k_close 2 = .ok (.putfield 140, 3) := by decide +kernel
theorem d_close_5 : decode k_close 5 = .ok (.iload_n 1, 1) := by decide +kernel
theorem d_close_6 : decode k_close 6 = .ok (.invokestatic 336, 3) := by decide +kernel
theorem d_close_9 : decode k_close 9 = .ok (.ifCond .eq 9, 3) := by decide +kernel
theorem d_close_12 : decode k_close 12 = .ok (.aload_n 0, 1) := by decide +kernel
theorem d_close_13 : decode k_close 13 = .ok (.iconst 1, 1) := by decide +kernel
theorem d_close_14 : decode k_close 14 = .ok (.invokevirtual 327, 3) := by decide +kernel
theorem d_close_17 : decode k_close 17 = .ok (.ireturn, 1) := by decide +kernel
theorem d_close_18 : decode k_close 18 = .ok (.aload_n 0, 1) := by decide +kernel
theorem d_close_19 : decode k_close 19 = .ok (.getfield 39, 3) := by decide +kernel
theorem d_close_22 : decode k_close 22 = .ok (.iload_n 1, 1) := by decide +kernel
theorem d_close_23 : decode k_close 23 = .ok (.iaload, 1) := by decide +kernel
theorem d_close_24 : decode k_close 24 = .ok (.istore_n 2, 1) := by decide +kernel
theorem d_close_25 : decode k_close 25 = .ok (.iload_n 2, 1) := by decide +kernel
theorem d_close_26 : decode k_close 26 = .ok (.iconst 1, 1) := by decide +kernel
theorem d_close_27 : decode k_close 27 = .ok (.if_icmp .eq 8, 3) := by decide +kernel
theorem d_close_30 : decode k_close 30 = .ok (.iload_n 2, 1) := by decide +kernel
theorem d_close_31 : decode k_close 31 = .ok (.iconst 2, 1) := by decide +kernel
theorem d_close_32 : decode k_close 32 = .ok (.if_icmp .ne 11, 3) := by decide +kernel
theorem d_close_35 : decode k_close 35 = .ok (.aload_n 0, 1) := by decide +kernel
theorem d_close_36 : decode k_close 36 = .ok (.iload_n 1, 1) := by decide +kernel
theorem d_close_37 : decode k_close 37 = .ok (.invokevirtual 215, 3) := by decide +kernel
theorem d_close_40 : decode k_close 40 = .ok (.goto 53, 3) := by decide +kernel
theorem d_close_43 : decode k_close 43 = .ok (.iload_n 2, 1) := by decide +kernel
theorem d_close_44 : decode k_close 44 = .ok (.iconst 4, 1) := by decide +kernel
theorem d_close_45 : decode k_close 45 = .ok (.if_icmp .eq 9, 3) := by decide +kernel
theorem d_close_48 : decode k_close 48 = .ok (.iload_n 2, 1) := by decide +kernel
theorem d_close_49 : decode k_close 49 = .ok (.bipush 7, 2) := by decide +kernel
theorem d_close_51 : decode k_close 51 = .ok (.if_icmp .ne 36, 3) := by decide +kernel
theorem d_close_54 : decode k_close 54 = .ok (.aload_n 0, 1) := by decide +kernel
theorem d_close_55 : decode k_close 55 = .ok (.getfield 39, 3) := by decide +kernel
theorem d_close_58 : decode k_close 58 = .ok (.iload_n 1, 1) := by decide +kernel
theorem d_close_59 : decode k_close 59 = .ok (.iload_n 2, 1) := by decide +kernel
theorem d_close_60 : decode k_close 60 = .ok (.iconst 4, 1) := by decide +kernel
theorem d_close_61 : decode k_close 61 = .ok (.if_icmp .ne 7, 3) := by decide +kernel
theorem d_close_64 : decode k_close 64 = .ok (.iconst 5, 1) := by decide +kernel
theorem d_close_65 : decode k_close 65 = .ok (.goto 5, 3) := by decide +kernel
theorem d_close_68 : decode k_close 68 = .ok (.bipush 9, 2) := by decide +kernel
theorem d_close_70 : decode k_close 70 = .ok (.iastore, 1) := by decide +kernel
theorem d_close_71 : decode k_close 71 = .ok (.aload_n 0, 1) := by decide +kernel
theorem d_close_72 : decode k_close 72 = .ok (.getfield 123, 3) := by decide +kernel
theorem d_close_75 : decode k_close 75 = .ok (.iload_n 1, 1) := by decide +kernel
theorem d_close_76 : decode k_close 76 = .ok (.iconst 1, 1) := by decide +kernel
theorem d_close_77 : decode k_close 77 = .ok (.bastore, 1) := by decide +kernel
theorem d_close_78 : decode k_close 78 = .ok (.aload_n 0, 1) := by decide +kernel
theorem d_close_79 : decode k_close 79 = .ok (.iload_n 1, 1) := by decide +kernel
theorem d_close_80 : decode k_close 80 = .ok (.invokevirtual 226, 3) := by decide +kernel
theorem d_close_83 : decode k_close 83 = .ok (.pop, 1) := by decide +kernel
theorem d_close_84 : decode k_close 84 = .ok (.goto 9, 3) := by decide +kernel
theorem d_close_87 : decode k_close 87 = .ok (.aload_n 0, 1) := by decide +kernel
theorem d_close_88 : decode k_close 88 = .ok (.iconst 2, 1) := by decide +kernel
theorem d_close_89 : decode k_close 89 = .ok (.invokevirtual 327, 3) := by decide +kernel
theorem d_close_92 : decode k_close 92 = .ok (.ireturn, 1) := by decide +kernel
theorem d_close_93 : decode k_close 93 = .ok (.aload_n 0, 1) := by decide +kernel
theorem d_close_94 : decode k_close 94 = .ok (.getfield 39, 3) := by decide +kernel
theorem d_close_97 : decode k_close 97 = .ok (.iload_n 1, 1) := by decide +kernel
theorem d_close_98 : decode k_close 98 = .ok (.iaload, 1) := by decide +kernel
theorem d_close_99 : decode k_close 99 = .ok (.ireturn, 1) := by decide +kernel
def b_close_93 (v1 : Int32) (ρ : RS) : Option (Int32 × RS) :=
  gd (inb v1 2) <| bd (ρ.1 9 v1.toNatClampNeg) fun x1 => some (x1, ρ)
def b_close_70 (v1 : Int32) (w1 : Int32) (w2 : Int32) (ρ : RS) : Option (Int32 × RS) :=
  gd (inb w1 2) <| bd (si ρ 9 w1.toNatClampNeg w2) fun r1 => gd (inb v1 2) <| bd (si r1 36 v1.toNatClampNeg (vp_nar .boolean (1 : Int32))) fun r2 => bc2 (m_output v1 r2) fun x4 r3 => b_close_93 v1 r3
def b_close_54 (v1 : Int32) (v2 : Int32) (ρ : RS) : Option (Int32 × RS) :=
  if v2 = (4 : Int32) then
  (b_close_70 v1 v1 (5 : Int32) ρ)
 else
  (b_close_70 v1 v1 (9 : Int32) ρ)
def b_close_35 (v1 : Int32) (ρ : RS) : Option (Int32 × RS) :=
  bc (m_finished v1 ρ) fun r1 => b_close_93 v1 r1
def m_close (v1 : Int32) (ρ : RS) : Option (Int32 × RS) :=
  bd (si ρ 0 0 (0 : Int32)) fun r1 => bc2 (m_none v1 r1) fun x3 r2 => if x3 = 0 then
  (gd (inb v1 2) <| bd (r2.1 9 v1.toNatClampNeg) fun x4 => if x4 = (1 : Int32) then
  (b_close_35 v1 r2)
 else
  (if x4 = (2 : Int32) then
  (b_close_35 v1 r2)
 else
  (if x4 = (4 : Int32) then
  (b_close_54 v1 x4 r2)
 else
  (if x4 = (7 : Int32) then
  (b_close_54 v1 x4 r2)
 else
  (bc2 (m_fail (2 : Int32) r2) fun x6 r5 => some (x6, r5))))))
 else
  (bc2 (m_fail (1 : Int32) r2) fun x8 r7 => some (x8, r7))
section
variable {p : Program} {l : Launch} {e : Env} {s : State} {m : MethodId} {args : Array Value} {below : List Frame} {meth : Method} {c : Code} {D : va_G} {tc : Nat → ClassId} {o : Nat}
theorem t_close_93 (S : RC p m c k_close 3 s args cn_M meth (some .int) D tc) (v1 : Int32) (ρ : RS) {B : Int32 × RS} (h : b_close_93 v1 ρ = some B) {ls : Array Slot} {H : Heap} {locs : List Loc} (hl : lv_has ls 3 [(0, .ref o), (1, .int v1)]) (hW : RWS D tc o s ρ H locs) : W p l e { frames := 5, cells := 0, slots := 0, locals := 129 } s m args below meth c H locs 0 0 (MQ below (RQ D tc o (some (.int B.1)) B.2) args s 0 0 (rreg o)) (F0 m 93 ls []) := by
  have hx := S.1.1
  have hb := S.1.2.1
  unfold b_close_93 at h
  refine lv_aload_n hx hb d_close_93 rfl (lv_at hl 0 rfl) ?_
  refine rm_geta S hW 14 9 wd_1266 (by decide) d_close_94 ?_
  refine lv_iload_n hx hb d_close_97 rfl (lv_at hl 1 rfl) ?_
  refine rm_iald S hW 9 2 (by decide) d_close_98 h (fun x1 h => ?_)
  exact rm_iret S hW d_close_99 h
theorem t_close_70 (S : RC p m c k_close 3 s args cn_M meth (some .int) D tc) (v1 : Int32) (w1 : Int32) (w2 : Int32) (ρ : RS) {B : Int32 × RS} (h : b_close_70 v1 w1 w2 ρ = some B) {ls : Array Slot} {H : Heap} {locs : List Loc} (hl : lv_has ls 3 [(0, .ref o), (1, .int v1)]) (hW : RWS D tc o s ρ H locs) : W p l e { frames := 5, cells := 0, slots := 0, locals := 129 } s m args below meth c H locs 0 0 (MQ below (RQ D tc o (some (.int B.1)) B.2) args s 0 0 (rreg o)) (F0 m 70 ls [.int w2, .int w1, .ref (o + 9)]) := by
  have hx := S.1.1
  have hb := S.1.2.1
  unfold b_close_70 at h
  refine rm_iast S hW 9 2 (by decide) d_close_70 h (fun r1 H locs h hW => ?_)
  refine lv_aload_n hx hb d_close_71 rfl (lv_at hl 0 rfl) ?_
  refine rm_geta S hW 41 36 wd_1293 (by decide) d_close_72 ?_
  refine lv_iload_n hx hb d_close_75 rfl (lv_at hl 1 rfl) ?_
  refine lv_iconst (v := 1) hx hb d_close_76 (by decide) ?_
  refine rm_zast S hW 36 2 (by decide) d_close_77 h (fun r2 H locs h hW => ?_)
  refine lv_aload_n hx hb d_close_78 rfl (lv_at hl 0 rfl) ?_
  refine lv_iload_n hx hb d_close_79 rfl (lv_at hl 1 rfl) ?_
  refine rm_cVi [.int v1] S hW (fun x ρ' hc => c_output v1 r2 hc) q_output wd_1508 wd_47 wd_1506 (by decide) hl.1 rfl rfl (Nat.le_of_ble_eq_true rfl) d_close_80 h (fun x4 r3 H locs h hW => ?_)
  refine lv_pop hx hb d_close_83 rfl ?_
  refine lv_goto (tgt := 93) hx hb d_close_84 (by decide) ?_
  exact t_close_93 S v1 r3 h (lv_sub hl [0, 1] rfl) hW
theorem t_close_54 (S : RC p m c k_close 3 s args cn_M meth (some .int) D tc) (v1 : Int32) (v2 : Int32) (ρ : RS) {B : Int32 × RS} (h : b_close_54 v1 v2 ρ = some B) {ls : Array Slot} {H : Heap} {locs : List Loc} (hl : lv_has ls 3 [(0, .ref o), (1, .int v1), (2, .int v2)]) (hW : RWS D tc o s ρ H locs) : W p l e { frames := 5, cells := 0, slots := 0, locals := 129 } s m args below meth c H locs 0 0 (MQ below (RQ D tc o (some (.int B.1)) B.2) args s 0 0 (rreg o)) (F0 m 54 ls []) := by
  have hx := S.1.1
  have hb := S.1.2.1
  unfold b_close_54 at h
  refine lv_aload_n hx hb d_close_54 rfl (lv_at hl 0 rfl) ?_
  refine rm_geta S hW 14 9 wd_1266 (by decide) d_close_55 ?_
  refine lv_iload_n hx hb d_close_58 rfl (lv_at hl 1 rfl) ?_
  refine lv_iload_n hx hb d_close_59 rfl (lv_at hl 2 rfl) ?_
  refine lv_iconst (v := 4) hx hb d_close_60 (by decide) ?_
  refine rc_ne (tgt := 68) hx hb d_close_61 (by decide) h (fun h => ?_) (fun h => ?_)
  · refine lv_bipush (v := 9) hx hb d_close_68 (by decide) ?_
    exact t_close_70 S v1 v1 (9 : Int32) ρ h (lv_sub hl [0, 1] rfl) hW
  · refine lv_iconst (v := 5) hx hb d_close_64 (by decide) ?_
    refine lv_goto (tgt := 70) hx hb d_close_65 (by decide) ?_
    exact t_close_70 S v1 v1 (5 : Int32) ρ h (lv_sub hl [0, 1] rfl) hW
theorem t_close_35 (S : RC p m c k_close 3 s args cn_M meth (some .int) D tc) (v1 : Int32) (ρ : RS) {B : Int32 × RS} (h : b_close_35 v1 ρ = some B) {ls : Array Slot} {H : Heap} {locs : List Loc} (hl : lv_has ls 3 [(0, .ref o), (1, .int v1)]) (hW : RWS D tc o s ρ H locs) : W p l e { frames := 5, cells := 0, slots := 0, locals := 129 } s m args below meth c H locs 0 0 (MQ below (RQ D tc o (some (.int B.1)) B.2) args s 0 0 (rreg o)) (F0 m 35 ls []) := by
  have hx := S.1.1
  have hb := S.1.2.1
  unfold b_close_35 at h
  refine lv_aload_n hx hb d_close_35 rfl (lv_at hl 0 rfl) ?_
  refine lv_iload_n hx hb d_close_36 rfl (lv_at hl 1 rfl) ?_
  refine rm_cVv [.int v1] S hW (fun ρ' hc => c_finished v1 ρ hc) q_finished wd_1533 wd_51 wd_1531 (by decide) hl.1 rfl rfl (Nat.le_of_ble_eq_true rfl) d_close_37 h (fun r1 H locs h hW => ?_)
  refine lv_goto (tgt := 93) hx hb d_close_40 (by decide) ?_
  exact t_close_93 S v1 r1 h (lv_sub hl [0, 1] rfl) hW
theorem t_close_0 (S : RC p m c k_close 3 s args cn_M meth (some .int) D tc) (v1 : Int32) (ρ : RS) {B : Int32 × RS} (h : m_close v1 ρ = some B) {ls : Array Slot} {H : Heap} {locs : List Loc} (hl : lv_has ls 3 [(0, .ref o), (1, .int v1)]) (hW : RWS D tc o s ρ H locs) : W p l e { frames := 5, cells := 0, slots := 0, locals := 129 } s m args below meth c H locs 0 0 (MQ below (RQ D tc o (some (.int B.1)) B.2) args s 0 0 (rreg o)) (F0 m 0 ls []) := by
  have hx := S.1.1
  have hb := S.1.2.1
  unfold m_close at h
  refine lv_aload_n hx hb d_close_0 rfl (lv_at hl 0 rfl) ?_
  refine lv_iconst (v := 0) hx hb d_close_1 (by decide) ?_
  refine rm_puti S hW 0 wd_1252 (by decide) d_close_2 h (fun r1 H locs h hW => ?_)
  refine lv_iload_n hx hb d_close_5 rfl (lv_at hl 1 rfl) ?_
  refine rm_cSi [.int v1] S hW (fun x ρ' hc => c_none v1 r1 hc) q_none wd_1500 wd_1499 (by decide) hl.1 rfl rfl (Nat.le_of_ble_eq_true rfl) d_close_6 h (fun x3 r2 H locs h hW => ?_)
  refine rb_eq (tgt := 18) hx hb d_close_9 (by decide) h (fun h => ?_) (fun h => ?_)
  · refine lv_aload_n hx hb d_close_18 rfl (lv_at hl 0 rfl) ?_
    refine rm_geta S hW 14 9 wd_1266 (by decide) d_close_19 ?_
    refine lv_iload_n hx hb d_close_22 rfl (lv_at hl 1 rfl) ?_
    refine rm_iald S hW 9 2 (by decide) d_close_23 h (fun x4 h => ?_)
    refine lv_istore_n (lv' := [(2, .int x4), (0, .ref o), (1, .int v1)]) hx hb d_close_24 rfl hl (by decide) rfl (fun ls hl => ?_)
    refine lv_iload_n hx hb d_close_25 rfl (lv_at hl 0 rfl) ?_
    refine lv_iconst (v := 1) hx hb d_close_26 (by decide) ?_
    refine rc_eq (tgt := 35) hx hb d_close_27 (by decide) h (fun h => ?_) (fun h => ?_)
    · exact t_close_35 S v1 r2 h (lv_sub hl [1, 2] rfl) hW
    · refine lv_iload_n hx hb d_close_30 rfl (lv_at hl 0 rfl) ?_
      refine lv_iconst (v := 2) hx hb d_close_31 (by decide) ?_
      refine rc_ne (tgt := 43) hx hb d_close_32 (by decide) h (fun h => ?_) (fun h => ?_)
      · refine lv_iload_n hx hb d_close_43 rfl (lv_at hl 0 rfl) ?_
        refine lv_iconst (v := 4) hx hb d_close_44 (by decide) ?_
        refine rc_eq (tgt := 54) hx hb d_close_45 (by decide) h (fun h => ?_) (fun h => ?_)
        · exact t_close_54 S v1 x4 r2 h (lv_sub hl [1, 2, 0] rfl) hW
        · refine lv_iload_n hx hb d_close_48 rfl (lv_at hl 0 rfl) ?_
          refine lv_bipush (v := 7) hx hb d_close_49 (by decide) ?_
          refine rc_ne (tgt := 87) hx hb d_close_51 (by decide) h (fun h => ?_) (fun h => ?_)
          · refine lv_aload_n hx hb d_close_87 rfl (lv_at hl 1 rfl) ?_
            refine lv_iconst (v := 2) hx hb d_close_88 (by decide) ?_
            refine rm_cVi [.int (2 : Int32)] S hW (fun x ρ' hc => c_fail (2 : Int32) r2 hc) q_fail wd_1429 wd_34 wd_1427 (by decide) hl.1 rfl rfl (Nat.le_of_ble_eq_true rfl) d_close_89 h (fun x6 r5 H locs h hW => ?_)
            exact rm_iret S hW d_close_92 h
          · exact t_close_54 S v1 x4 r2 h (lv_sub hl [1, 2, 0] rfl) hW
      · exact t_close_35 S v1 r2 h (lv_sub hl [1, 2] rfl) hW
  · refine lv_aload_n hx hb d_close_12 rfl (lv_at hl 0 rfl) ?_
    refine lv_iconst (v := 1) hx hb d_close_13 (by decide) ?_
    refine rm_cVi [.int (1 : Int32)] S hW (fun x ρ' hc => c_fail (1 : Int32) r2 hc) q_fail wd_1429 wd_34 wd_1427 (by decide) hl.1 rfl rfl (Nat.le_of_ble_eq_true rfl) d_close_14 h (fun x8 r7 H locs h hW => ?_)
    exact rm_iret S hW d_close_17 h
theorem c_close (v1 : Int32) (ρ : RS) {x : Int32} {ρ' : RS} (h : m_close v1 ρ = some (x, ρ')) : RMet l D tc o y_close k_close 3 (some .int) 5 129 [.ref o, .int v1] ρ (some (.int x)) ρ' := rm_met (by decide) (Nat.le_of_ble_eq_true rfl) fun p e s m args below meth c S hW ls hl => t_close_0 S v1 ρ h hl hW
end

