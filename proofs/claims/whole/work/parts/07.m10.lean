/-! abort (I)I -/
abbrev k_abort : ByteArray := prog_12_method_52_code
abbrev y_abort : MethodName := ⟨cn_M, "abort", "(I)I"⟩
theorem q_abort : Calee y_abort k_abort 3 (some .int) 1 := ⟨wd_1538, wd_90, by decide, by decide +kernel⟩
theorem d_abort_0 : decode k_abort 0 = .ok (.aload_n 0, 1) := by decide +kernel
theorem d_abort_1 : decode k_abort 1 = .ok (.iconst 0, 1) := by decide +kernel
theorem d_abort_2 : decode k_abort 2 = .ok (.putfield 140, 3) := by decide +kernel
theorem d_abort_5 : decode k_abort 5 = .ok (.iload_n 1, 1) := by decide +kernel
theorem d_abort_6 : decode k_abort 6 = .ok (.invokestatic 336, 3) := by decide +kernel
theorem d_abort_9 : decode k_abort 9 = .ok (.ifCond .eq 9, 3) := by decide +kernel
theorem d_abort_12 : decode k_abort 12 = .ok (.aload_n 0, 1) := by decide +kernel
theorem d_abort_13 : decode k_abort 13 = .ok (.iconst 1, 1) := by decide +kernel
theorem d_abort_14 : decode k_abort 14 = .ok (.invokevirtual 327, 3) := by decide +kernel
theorem d_abort_17 : decode k_abort 17 = .ok (.ireturn, 1) := by decide +kernel
theorem d_abort_18 : decode k_abort 18 = .ok (.aload_n 0, 1) := by decide +kernel
theorem d_abort_19 : decode k_abort 19 = .ok (.getfield 39, 3) := by decide +kernel
theorem d_abort_22 : decode k_abort 22 = .ok (.iload_n 1, 1) := by decide +kernel
theorem d_abort_23 : decode k_abort 23 = .ok (.iaload, 1) := by decide +kernel
theorem d_abort_24 : decode k_abort 24 = .ok (.istore_n 2, 1) := by decide +kernel
theorem d_abort_25 : decode k_abort 25 = .ok (.iload_n 2, 1) := by decide +kernel
theorem d_abort_26 : decode k_abort 26 = .ok (.iconst 3, 1) := by decide +kernel
theorem d_abort_27 : decode k_abort 27 = .ok (.if_icmp .lt 23, 3) := by decide +kernel
theorem d_abort_30 : decode k_abort 30 = .ok (.iload_n 2, 1) := by decide +kernel
theorem d_abort_31 : decode k_abort 31 = .ok (.bipush 8, 2) := by decide +kernel
theorem d_abort_33 : decode k_abort 33 = .ok (.if_icmp .gt 17, 3) := by decide +kernel
theorem d_abort_36 : decode k_abort 36 = .ok (.aload_n 0, 1) := by decide +kernel
theorem d_abort_37 : decode k_abort 37 = .ok (.iload_n 1, 1) := by decide +kernel
theorem d_abort_38 : decode k_abort 38 = .ok (.iconst 4, 1) := by decide +kernel
theorem d_abort_39 : decode k_abort 39 = .ok (.aload_n 0, 1) := by decide +kernel
theorem d_abort_40 : decode k_abort 40 = .ok (.getfield 48, 3) := by decide +kernel
theorem d_abort_43 : decode k_abort 43 = .ok (.iload_n 1, 1) := by decide +kernel
theorem d_abort_44 : decode k_abort 44 = .ok (.iaload, 1) := by decide +kernel
theorem d_abort_45 : decode k_abort 45 = .ok (.iconst 0, 1) := by decide +kernel
theorem d_abort_46 : decode k_abort 46 = .ok (.iconst 0, 1) := by decide +kernel
theorem d_abort_47 : decode k_abort 47 = .ok (.invokevirtual 205, 3) := by decide +kernel
theorem d_abort_50 : decode k_abort 50 = .ok (.iload_n 2, 1) := by decide +kernel
theorem d_abort_51 : decode k_abort 51 = .ok (.ifCond .eq 9, 3) := by decide +kernel
theorem d_abort_54 : decode k_abort 54 = .ok (.aload_n 0, 1) := by decide +kernel
theorem d_abort_55 : decode k_abort 55 = .ok (.iload_n 1, 1) := by decide +kernel
theorem d_abort_56 : decode k_abort 56 = .ok (.iconst 1, 1) := by decide +kernel
theorem d_abort_57 : decode k_abort 57 = .ok (.invokevirtual 218, 3) := by decide +kernel
theorem d_abort_60 : decode k_abort 60 = .ok (.iload_n 2, 1) := by decide +kernel
theorem d_abort_61 : decode k_abort 61 = .ok (.ireturn, 1) := by decide +kernel
def b_abort_60 (v2 : Int32) (ρ : RS) : Option (Int32 × RS) :=
  some (v2, ρ)
def b_abort_50 (v1 : Int32) (v2 : Int32) (ρ : RS) : Option (Int32 × RS) :=
  if v2 = 0 then
  (b_abort_60 v2 ρ)
 else
  (bc (m_broken v1 (1 : Int32) ρ) fun r1 => b_abort_60 v2 r1)
def m_abort (v1 : Int32) (ρ : RS) : Option (Int32 × RS) :=
  bd (si ρ 0 0 (0 : Int32)) fun r1 => bc2 (m_none v1 r1) fun x3 r2 => if x3 = 0 then
  (gd (inb v1 2) <| bd (r2.1 9 v1.toNatClampNeg) fun x4 => if x4 < (3 : Int32) then
  (b_abort_50 v1 x4 r2)
 else
  (if (8 : Int32) < x4 then
  (b_abort_50 v1 x4 r2)
 else
  (gd (inb v1 2) <| bd (r2.1 12 v1.toNatClampNeg) fun x5 => bc (m_send v1 (4 : Int32) x5 (0 : Int32) (0 : Int32) r2) fun r6 => b_abort_50 v1 x4 r6)))
 else
  (bc2 (m_fail (1 : Int32) r2) fun x8 r7 => some (x8, r7))
section
variable {p : Program} {l : Launch} {e : Env} {s : State} {m : MethodId} {args : Array Value} {below : List Frame} {meth : Method} {c : Code} {D : va_G} {tc : Nat → ClassId} {o : Nat}
theorem t_abort_60 (S : RC p m c k_abort 3 s args cn_M meth (some .int) D tc) (v2 : Int32) (ρ : RS) {B : Int32 × RS} (h : b_abort_60 v2 ρ = some B) {ls : Array Slot} {H : Heap} {locs : List Loc} (hl : lv_has ls 3 [(2, .int v2)]) (hW : RWS D tc o s ρ H locs) : W p l e { frames := 4, cells := 0, slots := 0, locals := 103 } s m args below meth c H locs 0 0 (MQ below (RQ D tc o (some (.int B.1)) B.2) args s 0 0 (rreg o)) (F0 m 60 ls []) := by
  have hx := S.1.1
  have hb := S.1.2.1
  unfold b_abort_60 at h
  refine lv_iload_n hx hb d_abort_60 rfl (lv_at hl 0 rfl) ?_
  exact rm_iret S hW d_abort_61 h
theorem t_abort_50 (S : RC p m c k_abort 3 s args cn_M meth (some .int) D tc) (v1 : Int32) (v2 : Int32) (ρ : RS) {B : Int32 × RS} (h : b_abort_50 v1 v2 ρ = some B) {ls : Array Slot} {H : Heap} {locs : List Loc} (hl : lv_has ls 3 [(0, .ref o), (1, .int v1), (2, .int v2)]) (hW : RWS D tc o s ρ H locs) : W p l e { frames := 4, cells := 0, slots := 0, locals := 103 } s m args below meth c H locs 0 0 (MQ below (RQ D tc o (some (.int B.1)) B.2) args s 0 0 (rreg o)) (F0 m 50 ls []) := by
  have hx := S.1.1
  have hb := S.1.2.1
  unfold b_abort_50 at h
  refine lv_iload_n hx hb d_abort_50 rfl (lv_at hl 2 rfl) ?_
  refine rb_eq (tgt := 60) hx hb d_abort_51 (by decide) h (fun h => ?_) (fun h => ?_)
  · exact t_abort_60 S v2 ρ h (lv_sub hl [2] rfl) hW
  · refine lv_aload_n hx hb d_abort_54 rfl (lv_at hl 0 rfl) ?_
    refine lv_iload_n hx hb d_abort_55 rfl (lv_at hl 1 rfl) ?_
    refine lv_iconst (v := 1) hx hb d_abort_56 (by decide) ?_
    refine rm_cVv [.int v1, .int (1 : Int32)] S hW (fun ρ' hc => c_broken v1 (1 : Int32) ρ hc) q_broken wd_1541 wd_52 wd_1539 (by decide) hl.1 rfl rfl (Nat.le_of_ble_eq_true rfl) d_abort_57 h (fun r1 H locs h hW => ?_)
    exact t_abort_60 S v2 r1 h (lv_sub hl [2] rfl) hW
theorem t_abort_0 (S : RC p m c k_abort 3 s args cn_M meth (some .int) D tc) (v1 : Int32) (ρ : RS) {B : Int32 × RS} (h : m_abort v1 ρ = some B) {ls : Array Slot} {H : Heap} {locs : List Loc} (hl : lv_has ls 3 [(0, .ref o), (1, .int v1)]) (hW : RWS D tc o s ρ H locs) : W p l e { frames := 4, cells := 0, slots := 0, locals := 103 } s m args below meth c H locs 0 0 (MQ below (RQ D tc o (some (.int B.1)) B.2) args s 0 0 (rreg o)) (F0 m 0 ls []) := by
  have hx := S.1.1
  have hb := S.1.2.1
  unfold m_abort at h
  refine lv_aload_n hx hb d_abort_0 rfl (lv_at hl 0 rfl) ?_
  refine lv_iconst (v := 0) hx hb d_abort_1 (by decide) ?_
  refine rm_puti S hW 0 wd_1252 (by decide) d_abort_2 h (fun r1 H locs h hW => ?_)
  refine lv_iload_n hx hb d_abort_5 rfl (lv_at hl 1 rfl) ?_
  refine rm_cSi [.int v1] S hW (fun x ρ' hc => c_none v1 r1 hc) q_none wd_1500 wd_1499 (by decide) hl.1 rfl rfl (Nat.le_of_ble_eq_true rfl) d_abort_6 h (fun x3 r2 H locs h hW => ?_)
  refine rb_eq (tgt := 18) hx hb d_abort_9 (by decide) h (fun h => ?_) (fun h => ?_)
  · refine lv_aload_n hx hb d_abort_18 rfl (lv_at hl 0 rfl) ?_
    refine rm_geta S hW 14 9 wd_1266 (by decide) d_abort_19 ?_
    refine lv_iload_n hx hb d_abort_22 rfl (lv_at hl 1 rfl) ?_
    refine rm_iald S hW 9 2 (by decide) d_abort_23 h (fun x4 h => ?_)
    refine lv_istore_n (lv' := [(2, .int x4), (0, .ref o), (1, .int v1)]) hx hb d_abort_24 rfl hl (by decide) rfl (fun ls hl => ?_)
    refine lv_iload_n hx hb d_abort_25 rfl (lv_at hl 0 rfl) ?_
    refine lv_iconst (v := 3) hx hb d_abort_26 (by decide) ?_
    refine rc_lt (tgt := 50) hx hb d_abort_27 (by decide) h (fun h => ?_) (fun h => ?_)
    · exact t_abort_50 S v1 x4 r2 h (lv_sub hl [1, 2, 0] rfl) hW
    · refine lv_iload_n hx hb d_abort_30 rfl (lv_at hl 0 rfl) ?_
      refine lv_bipush (v := 8) hx hb d_abort_31 (by decide) ?_
      refine rc_gt (tgt := 50) hx hb d_abort_33 (by decide) h (fun h => ?_) (fun h => ?_)
      · exact t_abort_50 S v1 x4 r2 h (lv_sub hl [1, 2, 0] rfl) hW
      · refine lv_aload_n hx hb d_abort_36 rfl (lv_at hl 1 rfl) ?_
        refine lv_iload_n hx hb d_abort_37 rfl (lv_at hl 2 rfl) ?_
        refine lv_iconst (v := 4) hx hb d_abort_38 (by decide) ?_
        refine lv_aload_n hx hb d_abort_39 rfl (lv_at hl 1 rfl) ?_
        refine rm_geta S hW 17 12 wd_1269 (by decide) d_abort_40 ?_
        refine lv_iload_n hx hb d_abort_43 rfl (lv_at hl 2 rfl) ?_
        refine rm_iald S hW 12 2 (by decide) d_abort_44 h (fun x5 h => ?_)
        refine lv_iconst (v := 0) hx hb d_abort_45 (by decide) ?_
        refine lv_iconst (v := 0) hx hb d_abort_46 (by decide) ?_
        refine rm_cVv [.int v1, .int (4 : Int32), .int x5, .int (0 : Int32), .int (0 : Int32)] S hW (fun ρ' hc => c_send v1 (4 : Int32) x5 (0 : Int32) (0 : Int32) r2 hc) q_send wd_1449 wd_37 wd_1447 (by decide) hl.1 rfl rfl (Nat.le_of_ble_eq_true rfl) d_abort_47 h (fun r6 H locs h hW => ?_)
        exact t_abort_50 S v1 x4 r6 h (lv_sub hl [1, 2, 0] rfl) hW
  · refine lv_aload_n hx hb d_abort_12 rfl (lv_at hl 0 rfl) ?_
    refine lv_iconst (v := 1) hx hb d_abort_13 (by decide) ?_
    refine rm_cVi [.int (1 : Int32)] S hW (fun x ρ' hc => c_fail (1 : Int32) r2 hc) q_fail wd_1429 wd_34 wd_1427 (by decide) hl.1 rfl rfl (Nat.le_of_ble_eq_true rfl) d_abort_14 h (fun x8 r7 H locs h hW => ?_)
    exact rm_iret S hW d_abort_17 h
theorem c_abort (v1 : Int32) (ρ : RS) {x : Int32} {ρ' : RS} (h : m_abort v1 ρ = some (x, ρ')) : RMet l D tc o y_abort k_abort 3 (some .int) 4 103 [.ref o, .int v1] ρ (some (.int x)) ρ' := rm_met (by decide) (Nat.le_of_ble_eq_true rfl) fun p e s m args below meth c S hW ls hl => t_abort_0 S v1 ρ h hl hW
end

/-! tick (I)J -/
abbrev k_tick : ByteArray := prog_12_method_53_code
abbrev y_tick : MethodName := ⟨cn_M, "tick", "(I)J"⟩
theorem q_tick : Calee y_tick k_tick 6 (some .long) 1 := ⟨wd_1546, wd_90, by decide, by decide +kernel⟩
theorem d_tick_0 : decode k_tick 0 = .ok (.aload_n 0, 1) := by decide +kernel
theorem d_tick_1 : decode k_tick 1 = .ok (.iconst 0, 1) := by decide +kernel
theorem d_tick_2 : decode k_tick 2 = .ok (.putfield 140, 3) := by decide +kernel
theorem d_tick_5 : decode k_tick 5 = .ok (.iload_n 1, 1) := by decide +kernel
theorem d_tick_6 : decode k_tick 6 = .ok (.iconst 1, 1) := by decide +kernel
theorem d_tick_7 : decode k_tick 7 = .ok (.if_icmp .lt 10, 3) := by decide +kernel
theorem d_tick_10 : decode k_tick 10 = .ok (.iload_n 1, 1) := by decide +kernel
theorem d_tick_11 : decode k_tick 11 = .ok (.ldc_w 298, 3) := by decide +kernel
theorem d_tick_14 : decode k_tick 14 = .ok (.if_icmp .le 10, 3) := by decide +kernel
theorem d_tick_17 : decode k_tick 17 = .ok (.aload_n 0, 1) := by decide +kernel
theorem d_tick_18 : decode k_tick 18 = .ok (.iconst 1, 1) := by decide +kernel
theorem d_tick_19 : decode k_tick 19 = .ok (.invokevirtual 327, 3) := by decide +kernel
theorem d_tick_22 : decode k_tick 22 = .ok (.i2l, 1) := by decide +kernel
theorem d_tick_23 : decode k_tick 23 = .ok (.lreturn, 1) := by decide +kernel
theorem d_tick_24 : decode k_tick 24 = .ok (.aload_n 0, 1) := by decide +kernel
theorem d_tick_25 : decode k_tick 25 = .ok (.getfield 201, 3) := by decide +kernel
theorem d_tick_28 : decode k_tick 28 = .ok (.iload_n 1, 1) := by decide +kernel
theorem d_tick_29 : decode k_tick 29 = .ok (.i2l, 1) := by decide +kernel
theorem d_tick_30 : decode k_tick 30 = .ok (.ladd, 1) := by decide +kernel
theorem d_tick_31 : decode k_tick 31 = .ok (.lstore_n 2, 1) := by decide +kernel
theorem d_tick_32 : decode k_tick 32 = .ok (.iconst 1, 1) := by decide +kernel
theorem d_tick_33 : decode k_tick 33 = .ok (.istore 4, 2) := by decide +kernel
theorem d_tick_35 : decode k_tick 35 = .ok (.iload 4, 2) := by decide +kernel
theorem d_tick_37 : decode k_tick 37 = .ok (.ifCond .eq 122, 3) := by decide +kernel
theorem d_tick_40 : decode k_tick 40 = .ok (.aload_n 0, 1) := by decide +kernel
theorem d_tick_41 : decode k_tick 41 = .ok (.getfield 113, 3) := by decide +kernel
theorem d_tick_44 : decode k_tick 44 = .ok (.iconst 0, 1) := by decide +kernel
theorem d_tick_45 : decode k_tick 45 = .ok (.laload, 1) := by decide +kernel
theorem d_tick_46 : decode k_tick 46 = .ok (.lconst 0, 1) := by decide +kernel
theorem d_tick_47 : decode k_tick 47 = .ok (.lcmp, 1) := by decide +kernel
theorem d_tick_48 : decode k_tick 48 = .ok (.ifCond .lt 34, 3) := by decide +kernel
theorem d_tick_51 : decode k_tick 51 = .ok (.aload_n 0, 1) := by decide +kernel
theorem d_tick_52 : decode k_tick 52 = .ok (.getfield 113, 3) := by decide +kernel
theorem d_tick_55 : decode k_tick 55 = .ok (.iconst 1, 1) := by decide +kernel
theorem d_tick_56 : decode k_tick 56 = .ok (.laload, 1) := by decide +kernel
theorem d_tick_57 : decode k_tick 57 = .ok (.lconst 0, 1) := by decide +kernel
theorem d_tick_58 : decode k_tick 58 = .ok (.lcmp, 1) := by decide +kernel
theorem d_tick_59 : decode k_tick 59 = .ok (.ifCond .lt 19, 3) := by decide +kernel
theorem d_tick_62 : decode k_tick 62 = .ok (.aload_n 0, 1) := by decide +kernel
theorem d_tick_63 : decode k_tick 63 = .ok (.getfield 113, 3) := by decide +kernel
theorem d_tick_66 : decode k_tick 66 = .ok (.iconst 0, 1) := by decide +kernel
theorem d_tick_67 : decode k_tick 67 = .ok (.laload, 1) := by decide +kernel
theorem d_tick_68 : decode k_tick 68 = .ok (.aload_n 0, 1) := by decide +kernel
theorem d_tick_69 : decode k_tick 69 = .ok (.getfield 113, 3) := by decide +kernel
theorem d_tick_72 : decode k_tick 72 = .ok (.iconst 1, 1) := by decide +kernel
theorem d_tick_73 : decode k_tick 73 = .ok (.laload, 1) := by decide +kernel
theorem d_tick_74 : decode k_tick 74 = .ok (.lcmp, 1) := by decide +kernel
theorem d_tick_75 : decode k_tick 75 = .ok (.ifCond .gt 7, 3) := by decide +kernel
theorem d_tick_78 : decode k_tick 78 = .ok (.iconst 0, 1) := by decide +kernel
theorem d_tick_79 : decode k_tick 79 = .ok (.goto 4, 3) := by decide +kernel
theorem d_tick_82 : decode k_tick 82 = .ok (.iconst 1, 1) := by decide +kernel
theorem d_tick_83 : decode k_tick 83 = .ok (.istore 5, 2) := by decide +kernel
theorem d_tick_85 : decode k_tick 85 = .ok (.aload_n 0, 1) := by decide +kernel
theorem d_tick_86 : decode k_tick 86 = .ok (.getfield 113, 3) := by decide +kernel
theorem d_tick_89 : decode k_tick 89 = .ok (.iload 5, 2) := by decide +kernel
theorem d_tick_91 : decode k_tick 91 = .ok (.laload, 1) := by decide +kernel
theorem d_tick_92 : decode k_tick 92 = .ok (.lconst 0, 1) := by decide +kernel
theorem d_tick_93 : decode k_tick 93 = .ok (.lcmp, 1) := by decide +kernel
theorem d_tick_94 : decode k_tick 94 = .ok (.ifCond .lt 19, 3) := by decide +kernel
theorem d_tick_97 : decode k_tick 97 = .ok (.aload_n 0, 1) := by decide +kernel
theorem d_tick_98 : decode k_tick 98 = .ok (.getfield 113, 3) := by decide +kernel
theorem d_tick_101 : decode k_tick 101 = .ok (.iload 5, 2) := by decide +kernel
theorem d_tick_103 : decode k_tick 103 = .ok (.laload, 1) := by decide +kernel
theorem d_tick_104 : decode k_tick 104 = .ok (.lload_n 2, 1) := by decide +kernel
theorem d_tick_105 : decode k_tick 105 = .ok (.lcmp, 1) := by decide +kernel
theorem d_tick_106 : decode k_tick 106 = .ok (.ifCond .gt 7, 3) := by decide +kernel
theorem d_tick_109 : decode k_tick 109 = .ok (.iconst 1, 1) := by decide +kernel
theorem d_tick_110 : decode k_tick 110 = .ok (.goto 4, 3) := by decide +kernel
theorem d_tick_113 : decode k_tick 113 = .ok (.iconst 0, 1) := by decide +kernel
theorem d_tick_114 : decode k_tick 114 = .ok (.istore 4, 2) := by decide +kernel
theorem d_tick_116 : decode k_tick 116 = .ok (.iload 4, 2) := by decide +kernel
theorem d_tick_118 : decode k_tick 118 = .ok (.ifCond .ne 6, 3) := by decide +kernel
theorem d_tick_121 : decode k_tick 121 = .ok (.goto (-86), 3) := by decide +kernel
theorem d_tick_124 : decode k_tick 124 = .ok (.aload_n 0, 1) := by decide +kernel
theorem d_tick_125 : decode k_tick 125 = .ok (.getfield 113, 3) := by decide +kernel
theorem d_tick_128 : decode k_tick 128 = .ok (.iload 5, 2) := by decide +kernel
theorem d_tick_130 : decode k_tick 130 = .ok (.laload, 1) := by decide +kernel
theorem d_tick_131 : decode k_tick 131 = .ok (.aload_n 0, 1) := by decide +kernel
theorem d_tick_132 : decode k_tick 132 = .ok (.getfield 201, 3) := by decide +kernel
theorem d_tick_135 : decode k_tick 135 = .ok (.lcmp, 1) := by decide +kernel
theorem d_tick_136 : decode k_tick 136 = .ok (.ifCond .le 14, 3) := by decide +kernel
theorem d_tick_139 : decode k_tick 139 = .ok (.aload_n 0, 1) := by decide +kernel
theorem d_tick_140 : decode k_tick 140 = .ok (.aload_n 0, 1) := by decide +kernel
theorem d_tick_141 : decode k_tick 141 = .ok (.getfield 113, 3) := by decide +kernel
theorem d_tick_144 : decode k_tick 144 = .ok (.iload 5, 2) := by decide +kernel
theorem d_tick_146 : decode k_tick 146 = .ok (.laload, 1) := by decide +kernel
theorem d_tick_147 : decode k_tick 147 = .ok (.putfield 201, 3) := by decide +kernel
theorem d_tick_150 : decode k_tick 150 = .ok (.aload_n 0, 1) := by decide +kernel
theorem d_tick_151 : decode k_tick 151 = .ok (.iload 5, 2) := by decide +kernel
theorem d_tick_153 : decode k_tick 153 = .ok (.invokevirtual 341, 3) := by decide +kernel
theorem d_tick_156 : decode k_tick 156 = .ok (.goto (-121), 3) := by decide +kernel
theorem d_tick_159 : decode k_tick 159 = .ok (.aload_n 0, 1) := by decide +kernel
theorem d_tick_160 : decode k_tick 160 = .ok (.lload_n 2, 1) := by decide +kernel
theorem d_tick_161 : decode k_tick 161 = .ok (.putfield 201, 3) := by decide +kernel
theorem d_tick_164 : decode k_tick 164 = .ok (.aload_n 0, 1) := by decide +kernel
theorem d_tick_165 : decode k_tick 165 = .ok (.getfield 201, 3) := by decide +kernel
theorem d_tick_168 : decode k_tick 168 = .ok (.lreturn, 1) := by decide +kernel
def b_tick_150 (rec35 : Int64 → Int32 → RS → Option (Int64 × RS)) (v2 : Int64) (v4 : Int32) (v5 : Int32) (ρ : RS) : Option (Int64 × RS) :=
  bc (m_timer v5 ρ) fun r1 => rec35 v2 v4 r1
def b_tick_114 (rec35 : Int64 → Int32 → RS → Option (Int64 × RS)) (v2 : Int64) (v5 : Int32) (w0 : Int32) (ρ : RS) : Option (Int64 × RS) :=
  if w0 = 0 then
  (rec35 v2 w0 ρ)
 else
  (gd (inb v5 2) <| bd (ρ.2 33 v5.toNatClampNeg) fun x1 => bd (ρ.2 0 3) fun x2 => if (lg_cmp x1 x2) ≤ 0 then
  (b_tick_150 rec35 v2 w0 v5 ρ)
 else
  (gd (inb v5 2) <| bd (ρ.2 33 v5.toNatClampNeg) fun x3 => bd (sl ρ 0 3 x3) fun r4 => b_tick_150 rec35 v2 w0 v5 r4))
def b_tick_113 (rec35 : Int64 → Int32 → RS → Option (Int64 × RS)) (v2 : Int64) (v5 : Int32) (ρ : RS) : Option (Int64 × RS) :=
  b_tick_114 rec35 v2 v5 (0 : Int32) ρ
def b_tick_83 (rec35 : Int64 → Int32 → RS → Option (Int64 × RS)) (v2 : Int64) (w0 : Int32) (ρ : RS) : Option (Int64 × RS) :=
  gd (inb w0 2) <| bd (ρ.2 33 w0.toNatClampNeg) fun x1 => if (lg_cmp x1 (0 : Int64)) < 0 then
  (b_tick_113 rec35 v2 w0 ρ)
 else
  (gd (inb w0 2) <| bd (ρ.2 33 w0.toNatClampNeg) fun x2 => if 0 < (lg_cmp x2 v2) then
  (b_tick_113 rec35 v2 w0 ρ)
 else
  (b_tick_114 rec35 v2 w0 (1 : Int32) ρ))
def b_tick_82 (rec35 : Int64 → Int32 → RS → Option (Int64 × RS)) (v2 : Int64) (ρ : RS) : Option (Int64 × RS) :=
  b_tick_83 rec35 v2 (1 : Int32) ρ
def b_tick_78 (rec35 : Int64 → Int32 → RS → Option (Int64 × RS)) (v2 : Int64) (ρ : RS) : Option (Int64 × RS) :=
  b_tick_83 rec35 v2 (0 : Int32) ρ
def F_tick_35 (rec35 : Int64 → Int32 → RS → Option (Int64 × RS)) (v2 : Int64) (v4 : Int32) (ρ : RS) : Option (Int64 × RS) :=
  if v4 = 0 then
  (bd (sl ρ 0 3 v2) fun r1 => bd (r1.2 0 3) fun x2 => some (x2, r1))
 else
  (gd (inb (0 : Int32) 2) <| bd (ρ.2 33 (0 : Int32).toNatClampNeg) fun x3 => if (lg_cmp x3 (0 : Int64)) < 0 then
  (b_tick_82 rec35 v2 ρ)
 else
  (gd (inb (1 : Int32) 2) <| bd (ρ.2 33 (1 : Int32).toNatClampNeg) fun x4 => if (lg_cmp x4 (0 : Int64)) < 0 then
  (b_tick_78 rec35 v2 ρ)
 else
  (gd (inb (0 : Int32) 2) <| bd (ρ.2 33 (0 : Int32).toNatClampNeg) fun x5 => gd (inb (1 : Int32) 2) <| bd (ρ.2 33 (1 : Int32).toNatClampNeg) fun x6 => if 0 < (lg_cmp x5 x6) then
  (b_tick_82 rec35 v2 ρ)
 else
  (b_tick_78 rec35 v2 ρ))))
def b_tick_17 (ρ : RS) : Option (Int64 × RS) :=
  bc2 (m_fail (1 : Int32) ρ) fun x2 r1 => some (x2.toInt64, r1)
def m_tick (v1 : Int32) (ρ : RS) : Option (Int64 × RS) :=
  bd (si ρ 0 0 (0 : Int32)) fun r1 => if v1 < (1 : Int32) then
  (b_tick_17  r1)
 else
  (if v1 ≤ (1000000 : Int32) then
  (bd (r1.2 0 3) fun x2 => bd (x2 + (v1.toInt64)) fun x3 => lq3 (F_tick_35) fuel x3 (1 : Int32) r1)
 else
  (b_tick_17  r1))
def P_tick_35 (p : Program) (l : Launch) (e : Env) (s : State) (m : MethodId) (args : Array Value) (below : List Frame) (meth : Method) (c : Code) (D : va_G) (tc : Nat → ClassId) (o : Nat) (v2 : Int64) (v4 : Int32) (ρ : RS) (B : Int64 × RS) : Prop := ∀ (ls : Array Slot) (H : Heap) (locs : List Loc), lv_has ls 6 [(0, .ref o), (2, .long v2), (4, .int v4)] → RWS D tc o s ρ H locs → W p l e { frames := 6, cells := 0, slots := 0, locals := 150 } s m args below meth c H locs 0 0 (MQ below (RQ D tc o (some (.long B.1)) B.2) args s 0 0 (rreg o)) (F0 m 35 ls [])
section
variable {p : Program} {l : Launch} {e : Env} {s : State} {m : MethodId} {args : Array Value} {below : List Frame} {meth : Method} {c : Code} {D : va_G} {tc : Nat → ClassId} {o : Nat}
theorem t_tick_150 (S : RC p m c k_tick 6 s args cn_M meth (some .long) D tc) {rec35 : Int64 → Int32 → RS → Option (Int64 × RS)} (hrec35 : ∀ (v2 : Int64) (v4 : Int32) (ρ : RS) (B : Int64 × RS), rec35 v2 v4 ρ = some B → P_tick_35 p l e s m args below meth c D tc o v2 v4 ρ B) (v2 : Int64) (v4 : Int32) (v5 : Int32) (ρ : RS) {B : Int64 × RS} (h : b_tick_150 rec35 v2 v4 v5 ρ = some B) {ls : Array Slot} {H : Heap} {locs : List Loc} (hl : lv_has ls 6 [(0, .ref o), (2, .long v2), (4, .int v4), (5, .int v5)]) (hW : RWS D tc o s ρ H locs) : W p l e { frames := 6, cells := 0, slots := 0, locals := 150 } s m args below meth c H locs 0 0 (MQ below (RQ D tc o (some (.long B.1)) B.2) args s 0 0 (rreg o)) (F0 m 150 ls []) := by
  have hx := S.1.1
  have hb := S.1.2.1
  unfold b_tick_150 at h
  refine lv_aload_n hx hb d_tick_150 rfl (lv_at hl 0 rfl) ?_
  refine lv_iload hx hb d_tick_151 (lv_at hl 3 rfl) ?_
  refine rm_cVv [.int v5] S hW (fun ρ' hc => c_timer v5 ρ hc) q_timer wd_1550 wd_53 wd_1548 (by decide) hl.1 rfl rfl (Nat.le_of_ble_eq_true rfl) d_tick_153 h (fun r1 H locs h hW => ?_)
  refine lv_goto (tgt := 35) hx hb d_tick_156 (by decide) ?_
  exact hrec35 v2 v4 r1 _ h _ _ _ (lv_sub hl [0, 1, 2] rfl) hW
theorem t_tick_114 (S : RC p m c k_tick 6 s args cn_M meth (some .long) D tc) {rec35 : Int64 → Int32 → RS → Option (Int64 × RS)} (hrec35 : ∀ (v2 : Int64) (v4 : Int32) (ρ : RS) (B : Int64 × RS), rec35 v2 v4 ρ = some B → P_tick_35 p l e s m args below meth c D tc o v2 v4 ρ B) (v2 : Int64) (v5 : Int32) (w0 : Int32) (ρ : RS) {B : Int64 × RS} (h : b_tick_114 rec35 v2 v5 w0 ρ = some B) {ls : Array Slot} {H : Heap} {locs : List Loc} (hl : lv_has ls 6 [(0, .ref o), (2, .long v2), (5, .int v5)]) (hW : RWS D tc o s ρ H locs) : W p l e { frames := 6, cells := 0, slots := 0, locals := 150 } s m args below meth c H locs 0 0 (MQ below (RQ D tc o (some (.long B.1)) B.2) args s 0 0 (rreg o)) (F0 m 114 ls [.int w0]) := by
  have hx := S.1.1
  have hb := S.1.2.1
  unfold b_tick_114 at h
  refine lv_istore (lv' := [(4, .int w0), (0, .ref o), (2, .long v2), (5, .int v5)]) hx hb d_tick_114 hl (by decide) rfl (fun ls hl => ?_)
  refine lv_iload hx hb d_tick_116 (lv_at hl 0 rfl) ?_
  refine rb_ne (tgt := 124) hx hb d_tick_118 (by decide) h (fun h => ?_) (fun h => ?_)
  · refine lv_aload_n hx hb d_tick_124 rfl (lv_at hl 1 rfl) ?_
    refine rm_geta S hW 38 33 wd_1290 (by decide) d_tick_125 ?_
    refine lv_iload hx hb d_tick_128 (lv_at hl 3 rfl) ?_
    refine rm_lald S hW 33 2 (by decide) d_tick_130 h (fun x1 h => ?_)
    refine lv_aload_n hx hb d_tick_131 rfl (lv_at hl 1 rfl) ?_
    refine rm_getl S hW 3 wd_1255 (by decide) d_tick_132 h (fun x2 h => ?_)
    refine W.lcmp hx hb d_tick_135 ?_
    refine rb_le (tgt := 150) hx hb d_tick_136 (by decide) h (fun h => ?_) (fun h => ?_)
    · exact t_tick_150 S hrec35 v2 w0 v5 ρ h (lv_sub hl [1, 2, 0, 3] rfl) hW
    · refine lv_aload_n hx hb d_tick_139 rfl (lv_at hl 1 rfl) ?_
      refine lv_aload_n hx hb d_tick_140 rfl (lv_at hl 1 rfl) ?_
      refine rm_geta S hW 38 33 wd_1290 (by decide) d_tick_141 ?_
      refine lv_iload hx hb d_tick_144 (lv_at hl 3 rfl) ?_
      refine rm_lald S hW 33 2 (by decide) d_tick_146 h (fun x3 h => ?_)
      refine rm_putl S hW 3 wd_1255 (by decide) d_tick_147 h (fun r4 H locs h hW => ?_)
      exact t_tick_150 S hrec35 v2 w0 v5 r4 h (lv_sub hl [1, 2, 0, 3] rfl) hW
  · refine lv_goto (tgt := 35) hx hb d_tick_121 (by decide) ?_
    exact hrec35 v2 w0 ρ _ h _ _ _ (lv_sub hl [1, 2, 0] rfl) hW
theorem t_tick_113 (S : RC p m c k_tick 6 s args cn_M meth (some .long) D tc) {rec35 : Int64 → Int32 → RS → Option (Int64 × RS)} (hrec35 : ∀ (v2 : Int64) (v4 : Int32) (ρ : RS) (B : Int64 × RS), rec35 v2 v4 ρ = some B → P_tick_35 p l e s m args below meth c D tc o v2 v4 ρ B) (v2 : Int64) (v5 : Int32) (ρ : RS) {B : Int64 × RS} (h : b_tick_113 rec35 v2 v5 ρ = some B) {ls : Array Slot} {H : Heap} {locs : List Loc} (hl : lv_has ls 6 [(0, .ref o), (2, .long v2), (5, .int v5)]) (hW : RWS D tc o s ρ H locs) : W p l e { frames := 6, cells := 0, slots := 0, locals := 150 } s m args below meth c H locs 0 0 (MQ below (RQ D tc o (some (.long B.1)) B.2) args s 0 0 (rreg o)) (F0 m 113 ls []) := by
  have hx := S.1.1
  have hb := S.1.2.1
  unfold b_tick_113 at h
  refine lv_iconst (v := 0) hx hb d_tick_113 (by decide) ?_
  exact t_tick_114 S hrec35 v2 v5 (0 : Int32) ρ h (lv_sub hl [0, 1, 2] rfl) hW
theorem t_tick_83 (S : RC p m c k_tick 6 s args cn_M meth (some .long) D tc) {rec35 : Int64 → Int32 → RS → Option (Int64 × RS)} (hrec35 : ∀ (v2 : Int64) (v4 : Int32) (ρ : RS) (B : Int64 × RS), rec35 v2 v4 ρ = some B → P_tick_35 p l e s m args below meth c D tc o v2 v4 ρ B) (v2 : Int64) (w0 : Int32) (ρ : RS) {B : Int64 × RS} (h : b_tick_83 rec35 v2 w0 ρ = some B) {ls : Array Slot} {H : Heap} {locs : List Loc} (hl : lv_has ls 6 [(0, .ref o), (2, .long v2)]) (hW : RWS D tc o s ρ H locs) : W p l e { frames := 6, cells := 0, slots := 0, locals := 150 } s m args below meth c H locs 0 0 (MQ below (RQ D tc o (some (.long B.1)) B.2) args s 0 0 (rreg o)) (F0 m 83 ls [.int w0]) := by
  have hx := S.1.1
  have hb := S.1.2.1
  unfold b_tick_83 at h
  refine lv_istore (lv' := [(5, .int w0), (0, .ref o), (2, .long v2)]) hx hb d_tick_83 hl (by decide) rfl (fun ls hl => ?_)
  refine lv_aload_n hx hb d_tick_85 rfl (lv_at hl 1 rfl) ?_
  refine rm_geta S hW 38 33 wd_1290 (by decide) d_tick_86 ?_
  refine lv_iload hx hb d_tick_89 (lv_at hl 0 rfl) ?_
  refine rm_lald S hW 33 2 (by decide) d_tick_91 h (fun x1 h => ?_)
  refine lv_lconst (v := 0) hx hb d_tick_92 (by decide) ?_
  refine W.lcmp hx hb d_tick_93 ?_
  refine rb_lt (tgt := 113) hx hb d_tick_94 (by decide) h (fun h => ?_) (fun h => ?_)
  · exact t_tick_113 S hrec35 v2 w0 ρ h (lv_sub hl [1, 2, 0] rfl) hW
  · refine lv_aload_n hx hb d_tick_97 rfl (lv_at hl 1 rfl) ?_
    refine rm_geta S hW 38 33 wd_1290 (by decide) d_tick_98 ?_
    refine lv_iload hx hb d_tick_101 (lv_at hl 0 rfl) ?_
    refine rm_lald S hW 33 2 (by decide) d_tick_103 h (fun x2 h => ?_)
    refine lv_lload_n hx hb d_tick_104 rfl (lv_at hl 2 rfl) ?_
    refine W.lcmp hx hb d_tick_105 ?_
    refine rb_gt (tgt := 113) hx hb d_tick_106 (by decide) h (fun h => ?_) (fun h => ?_)
    · exact t_tick_113 S hrec35 v2 w0 ρ h (lv_sub hl [1, 2, 0] rfl) hW
    · refine lv_iconst (v := 1) hx hb d_tick_109 (by decide) ?_
      refine lv_goto (tgt := 114) hx hb d_tick_110 (by decide) ?_
      exact t_tick_114 S hrec35 v2 w0 (1 : Int32) ρ h (lv_sub hl [1, 2, 0] rfl) hW
theorem t_tick_82 (S : RC p m c k_tick 6 s args cn_M meth (some .long) D tc) {rec35 : Int64 → Int32 → RS → Option (Int64 × RS)} (hrec35 : ∀ (v2 : Int64) (v4 : Int32) (ρ : RS) (B : Int64 × RS), rec35 v2 v4 ρ = some B → P_tick_35 p l e s m args below meth c D tc o v2 v4 ρ B) (v2 : Int64) (ρ : RS) {B : Int64 × RS} (h : b_tick_82 rec35 v2 ρ = some B) {ls : Array Slot} {H : Heap} {locs : List Loc} (hl : lv_has ls 6 [(0, .ref o), (2, .long v2)]) (hW : RWS D tc o s ρ H locs) : W p l e { frames := 6, cells := 0, slots := 0, locals := 150 } s m args below meth c H locs 0 0 (MQ below (RQ D tc o (some (.long B.1)) B.2) args s 0 0 (rreg o)) (F0 m 82 ls []) := by
  have hx := S.1.1
  have hb := S.1.2.1
  unfold b_tick_82 at h
  refine lv_iconst (v := 1) hx hb d_tick_82 (by decide) ?_
  exact t_tick_83 S hrec35 v2 (1 : Int32) ρ h (lv_sub hl [0, 1] rfl) hW
theorem t_tick_78 (S : RC p m c k_tick 6 s args cn_M meth (some .long) D tc) {rec35 : Int64 → Int32 → RS → Option (Int64 × RS)} (hrec35 : ∀ (v2 : Int64) (v4 : Int32) (ρ : RS) (B : Int64 × RS), rec35 v2 v4 ρ = some B → P_tick_35 p l e s m args below meth c D tc o v2 v4 ρ B) (v2 : Int64) (ρ : RS) {B : Int64 × RS} (h : b_tick_78 rec35 v2 ρ = some B) {ls : Array Slot} {H : Heap} {locs : List Loc} (hl : lv_has ls 6 [(0, .ref o), (2, .long v2)]) (hW : RWS D tc o s ρ H locs) : W p l e { frames := 6, cells := 0, slots := 0, locals := 150 } s m args below meth c H locs 0 0 (MQ below (RQ D tc o (some (.long B.1)) B.2) args s 0 0 (rreg o)) (F0 m 78 ls []) := by
  have hx := S.1.1
  have hb := S.1.2.1
  unfold b_tick_78 at h
  refine lv_iconst (v := 0) hx hb d_tick_78 (by decide) ?_
  refine lv_goto (tgt := 83) hx hb d_tick_79 (by decide) ?_
  exact t_tick_83 S hrec35 v2 (0 : Int32) ρ h (lv_sub hl [0, 1] rfl) hW
theorem tF_tick_35 (S : RC p m c k_tick 6 s args cn_M meth (some .long) D tc) : ∀ (rec35 : Int64 → Int32 → RS → Option (Int64 × RS)), (∀ (v2 : Int64) (v4 : Int32) (ρ : RS) (B : Int64 × RS), rec35 v2 v4 ρ = some B → P_tick_35 p l e s m args below meth c D tc o v2 v4 ρ B) → ∀ (v2 : Int64) (v4 : Int32) (ρ : RS) (B : Int64 × RS), F_tick_35 rec35 v2 v4 ρ = some B → P_tick_35 p l e s m args below meth c D tc o v2 v4 ρ B := by
  intro rec35 hrec35 v2 v4 ρ B h ls H locs hl hW
  have hx := S.1.1
  have hb := S.1.2.1
  unfold F_tick_35 at h
  refine lv_iload hx hb d_tick_35 (lv_at hl 2 rfl) ?_
  refine rb_eq (tgt := 159) hx hb d_tick_37 (by decide) h (fun h => ?_) (fun h => ?_)
  · refine lv_aload_n hx hb d_tick_159 rfl (lv_at hl 0 rfl) ?_
    refine lv_lload_n hx hb d_tick_160 rfl (lv_at hl 1 rfl) ?_
    refine rm_putl S hW 3 wd_1255 (by decide) d_tick_161 h (fun r1 H locs h hW => ?_)
    refine lv_aload_n hx hb d_tick_164 rfl (lv_at hl 0 rfl) ?_
    refine rm_getl S hW 3 wd_1255 (by decide) d_tick_165 h (fun x2 h => ?_)
    exact rm_lret S hW d_tick_168 h
  · refine lv_aload_n hx hb d_tick_40 rfl (lv_at hl 0 rfl) ?_
    refine rm_geta S hW 38 33 wd_1290 (by decide) d_tick_41 ?_
    refine lv_iconst (v := 0) hx hb d_tick_44 (by decide) ?_
    refine rm_lald S hW 33 2 (by decide) d_tick_45 h (fun x3 h => ?_)
    refine lv_lconst (v := 0) hx hb d_tick_46 (by decide) ?_
    refine W.lcmp hx hb d_tick_47 ?_
    refine rb_lt (tgt := 82) hx hb d_tick_48 (by decide) h (fun h => ?_) (fun h => ?_)
    · exact t_tick_82 S hrec35 v2 ρ h (lv_sub hl [0, 1] rfl) hW
    · refine lv_aload_n hx hb d_tick_51 rfl (lv_at hl 0 rfl) ?_
      refine rm_geta S hW 38 33 wd_1290 (by decide) d_tick_52 ?_
      refine lv_iconst (v := 1) hx hb d_tick_55 (by decide) ?_
      refine rm_lald S hW 33 2 (by decide) d_tick_56 h (fun x4 h => ?_)
      refine lv_lconst (v := 0) hx hb d_tick_57 (by decide) ?_
      refine W.lcmp hx hb d_tick_58 ?_
      refine rb_lt (tgt := 78) hx hb d_tick_59 (by decide) h (fun h => ?_) (fun h => ?_)
      · exact t_tick_78 S hrec35 v2 ρ h (lv_sub hl [0, 1] rfl) hW
      · refine lv_aload_n hx hb d_tick_62 rfl (lv_at hl 0 rfl) ?_
        refine rm_geta S hW 38 33 wd_1290 (by decide) d_tick_63 ?_
        refine lv_iconst (v := 0) hx hb d_tick_66 (by decide) ?_
        refine rm_lald S hW 33 2 (by decide) d_tick_67 h (fun x5 h => ?_)
        refine lv_aload_n hx hb d_tick_68 rfl (lv_at hl 0 rfl) ?_
        refine rm_geta S hW 38 33 wd_1290 (by decide) d_tick_69 ?_
        refine lv_iconst (v := 1) hx hb d_tick_72 (by decide) ?_
        refine rm_lald S hW 33 2 (by decide) d_tick_73 h (fun x6 h => ?_)
        refine W.lcmp hx hb d_tick_74 ?_
        refine rb_gt (tgt := 82) hx hb d_tick_75 (by decide) h (fun h => ?_) (fun h => ?_)
        · exact t_tick_82 S hrec35 v2 ρ h (lv_sub hl [0, 1] rfl) hW
        · exact t_tick_78 S hrec35 v2 ρ h (lv_sub hl [0, 1] rfl) hW
theorem t_tick_35 (S : RC p m c k_tick 6 s args cn_M meth (some .long) D tc) : ∀ (n : Nat) (v2 : Int64) (v4 : Int32) (ρ : RS) (B : Int64 × RS), lq3 (F_tick_35) n v2 v4 ρ = some B → P_tick_35 p l e s m args below meth c D tc o v2 v4 ρ B := lq3_s (tF_tick_35 S)
theorem t_tick_17 (S : RC p m c k_tick 6 s args cn_M meth (some .long) D tc) (ρ : RS) {B : Int64 × RS} (h : b_tick_17  ρ = some B) {ls : Array Slot} {H : Heap} {locs : List Loc} (hl : lv_has ls 6 [(0, .ref o)]) (hW : RWS D tc o s ρ H locs) : W p l e { frames := 6, cells := 0, slots := 0, locals := 150 } s m args below meth c H locs 0 0 (MQ below (RQ D tc o (some (.long B.1)) B.2) args s 0 0 (rreg o)) (F0 m 17 ls []) := by
  have hx := S.1.1
  have hb := S.1.2.1
  unfold b_tick_17 at h
  refine lv_aload_n hx hb d_tick_17 rfl (lv_at hl 0 rfl) ?_
  refine lv_iconst (v := 1) hx hb d_tick_18 (by decide) ?_
  refine rm_cVi [.int (1 : Int32)] S hW (fun x ρ' hc => c_fail (1 : Int32) ρ hc) q_fail wd_1429 wd_34 wd_1427 (by decide) hl.1 rfl rfl (Nat.le_of_ble_eq_true rfl) d_tick_19 h (fun x2 r1 H locs h hW => ?_)
  refine lv_i2l hx hb d_tick_22 rfl ?_
  exact rm_lret S hW d_tick_23 h
theorem t_tick_0 (S : RC p m c k_tick 6 s args cn_M meth (some .long) D tc) (v1 : Int32) (ρ : RS) {B : Int64 × RS} (h : m_tick v1 ρ = some B) {ls : Array Slot} {H : Heap} {locs : List Loc} (hl : lv_has ls 6 [(0, .ref o), (1, .int v1)]) (hW : RWS D tc o s ρ H locs) : W p l e { frames := 6, cells := 0, slots := 0, locals := 150 } s m args below meth c H locs 0 0 (MQ below (RQ D tc o (some (.long B.1)) B.2) args s 0 0 (rreg o)) (F0 m 0 ls []) := by
  have hx := S.1.1
  have hb := S.1.2.1
  unfold m_tick at h
  refine lv_aload_n hx hb d_tick_0 rfl (lv_at hl 0 rfl) ?_
  refine lv_iconst (v := 0) hx hb d_tick_1 (by decide) ?_
  refine rm_puti S hW 0 wd_1252 (by decide) d_tick_2 h (fun r1 H locs h hW => ?_)
  refine lv_iload_n hx hb d_tick_5 rfl (lv_at hl 1 rfl) ?_
  refine lv_iconst (v := 1) hx hb d_tick_6 (by decide) ?_
  refine rc_lt (tgt := 17) hx hb d_tick_7 (by decide) h (fun h => ?_) (fun h => ?_)
  · exact t_tick_17 S  r1 h (lv_sub hl [0] rfl) hW
  · refine lv_iload_n hx hb d_tick_10 rfl (lv_at hl 1 rfl) ?_
    refine lv_ldcw hx hb S.1.2.2.2.1 (S.1.2.2.2.2 _ (gi wd_1547 rfl)) d_tick_11 ?_
    refine rc_le (tgt := 24) hx hb d_tick_14 (by decide) h (fun h => ?_) (fun h => ?_)
    · refine lv_aload_n hx hb d_tick_24 rfl (lv_at hl 0 rfl) ?_
      refine rm_getl S hW 3 wd_1255 (by decide) d_tick_25 h (fun x2 h => ?_)
      refine lv_iload_n hx hb d_tick_28 rfl (lv_at hl 1 rfl) ?_
      refine lv_i2l hx hb d_tick_29 rfl ?_
      refine lv_ladd hx hb d_tick_30 ?_
      refine rv_l h (fun x3 h => ?_)
      refine lv_lstore_n (lv' := [(2, .long x3), (0, .ref o), (1, .int v1)]) hx hb d_tick_31 rfl hl (by decide) rfl (fun ls hl => ?_)
      refine lv_iconst (v := 1) hx hb d_tick_32 (by decide) ?_
      refine lv_istore (lv' := [(4, .int (1 : Int32)), (2, .long x3), (0, .ref o), (1, .int v1)]) hx hb d_tick_33 hl (by decide) rfl (fun ls hl => ?_)
      exact t_tick_35 S fuel x3 (1 : Int32) r1 _ h _ _ _ (lv_sub hl [2, 1, 0] rfl) hW
    · exact t_tick_17 S  r1 h (lv_sub hl [0] rfl) hW
theorem c_tick (v1 : Int32) (ρ : RS) {x : Int64} {ρ' : RS} (h : m_tick v1 ρ = some (x, ρ')) : RMet l D tc o y_tick k_tick 6 (some .long) 6 150 [.ref o, .int v1] ρ (some (.long x)) ρ' := rm_met (by decide) (Nat.le_of_ble_eq_true rfl) fun p e s m args below meth c S hW ls hl => t_tick_0 S v1 ρ h hl hW
end

/-! noWay (I)Z -/
abbrev k_noWay : ByteArray := prog_12_method_54_code
abbrev y_noWay : MethodName := ⟨cn_M, "noWay", "(I)Z"⟩
theorem q_noWay : Calee y_noWay k_noWay 2 (some .boolean) 1 := ⟨wd_1564, wd_90, by decide, by decide +kernel⟩
theorem d_noWay_0 : decode k_noWay 0 = .ok (.iload_n 1, 1) := by decide +kernel
theorem d_noWay_1 : decode k_noWay 1 = .ok (.ifCond .lt 11, 3) := by decide +kernel
theorem d_noWay_4 : decode k_noWay 4 = .ok (.iload_n 1, 1) := by decide +kernel
theorem d_noWay_5 : decode k_noWay 5 = .ok (.aload_n 0, 1) := by decide +kernel
theorem d_noWay_6 : decode k_noWay 6 = .ok (.getfield 144, 3) := by decide +kernel
theorem d_noWay_9 : decode k_noWay 9 = .ok (.if_icmp .lt 7, 3) := by decide +kernel
theorem d_noWay_12 : decode k_noWay 12 = .ok (.iconst 1, 1) := by decide +kernel
theorem d_noWay_13 : decode k_noWay 13 = .ok (.goto 4, 3) := by decide +kernel
theorem d_noWay_16 : decode k_noWay 16 = .ok (.iconst 0, 1) := by decide +kernel
theorem d_noWay_17 : decode k_noWay 17 = .ok (.ireturn, 1) := by decide +kernel
def b_noWay_17 (w0 : Int32) (ρ : RS) : Option (Int32 × RS) :=
  gd (w0 = 0 ∨ w0 = 1) (some (w0, ρ))
def b_noWay_12 (ρ : RS) : Option (Int32 × RS) :=
  b_noWay_17 (1 : Int32) ρ
def m_noWay (v1 : Int32) (ρ : RS) : Option (Int32 × RS) :=
  if v1 < 0 then
  (b_noWay_12  ρ)
 else
  (bd (ρ.1 0 10) fun x1 => if v1 < x1 then
  (b_noWay_17 (0 : Int32) ρ)
 else
  (b_noWay_12  ρ))
section
variable {p : Program} {l : Launch} {e : Env} {s : State} {m : MethodId} {args : Array Value} {below : List Frame} {meth : Method} {c : Code} {D : va_G} {tc : Nat → ClassId} {o : Nat}
theorem t_noWay_17 (S : RC p m c k_noWay 2 s args cn_M meth (some .boolean) D tc) (w0 : Int32) (ρ : RS) {B : Int32 × RS} (h : b_noWay_17 w0 ρ = some B) {ls : Array Slot} {H : Heap} {locs : List Loc} (hl : lv_has ls 2 []) (hW : RWS D tc o s ρ H locs) : W p l e { frames := 0, cells := 0, slots := 0, locals := 0 } s m args below meth c H locs 0 0 (MQ below (RQ D tc o (some (.int B.1)) B.2) args s 0 0 (rreg o)) (F0 m 17 ls [.int w0]) := by
  have hx := S.1.1
  have hb := S.1.2.1
  unfold b_noWay_17 at h
  exact rm_zret S hW d_noWay_17 h
theorem t_noWay_12 (S : RC p m c k_noWay 2 s args cn_M meth (some .boolean) D tc) (ρ : RS) {B : Int32 × RS} (h : b_noWay_12  ρ = some B) {ls : Array Slot} {H : Heap} {locs : List Loc} (hl : lv_has ls 2 []) (hW : RWS D tc o s ρ H locs) : W p l e { frames := 0, cells := 0, slots := 0, locals := 0 } s m args below meth c H locs 0 0 (MQ below (RQ D tc o (some (.int B.1)) B.2) args s 0 0 (rreg o)) (F0 m 12 ls []) := by
  have hx := S.1.1
  have hb := S.1.2.1
  unfold b_noWay_12 at h
  refine lv_iconst (v := 1) hx hb d_noWay_12 (by decide) ?_
  refine lv_goto (tgt := 17) hx hb d_noWay_13 (by decide) ?_
  exact t_noWay_17 S (1 : Int32) ρ h (lv_sub hl [] rfl) hW
theorem t_noWay_0 (S : RC p m c k_noWay 2 s args cn_M meth (some .boolean) D tc) (v1 : Int32) (ρ : RS) {B : Int32 × RS} (h : m_noWay v1 ρ = some B) {ls : Array Slot} {H : Heap} {locs : List Loc} (hl : lv_has ls 2 [(0, .ref o), (1, .int v1)]) (hW : RWS D tc o s ρ H locs) : W p l e { frames := 0, cells := 0, slots := 0, locals := 0 } s m args below meth c H locs 0 0 (MQ below (RQ D tc o (some (.int B.1)) B.2) args s 0 0 (rreg o)) (F0 m 0 ls []) := by
  have hx := S.1.1
  have hb := S.1.2.1
  unfold m_noWay at h
  refine lv_iload_n hx hb d_noWay_0 rfl (lv_at hl 1 rfl) ?_
  refine rb_lt (tgt := 12) hx hb d_noWay_1 (by decide) h (fun h => ?_) (fun h => ?_)
  · exact t_noWay_12 S  ρ h (lv_sub hl [] rfl) hW
  · refine lv_iload_n hx hb d_noWay_4 rfl (lv_at hl 1 rfl) ?_
    refine lv_aload_n hx hb d_noWay_5 rfl (lv_at hl 0 rfl) ?_
    refine rm_geti S hW 10 wd_1262 (by decide) d_noWay_6 h (fun x1 h => ?_)
    refine rc_lt (tgt := 16) hx hb d_noWay_9 (by decide) h (fun h => ?_) (fun h => ?_)
    · refine lv_iconst (v := 0) hx hb d_noWay_16 (by decide) ?_
      exact t_noWay_17 S (0 : Int32) ρ h (lv_sub hl [] rfl) hW
    · exact t_noWay_12 S  ρ h (lv_sub hl [] rfl) hW
theorem c_noWay (v1 : Int32) (ρ : RS) {x : Int32} {ρ' : RS} (h : m_noWay v1 ρ = some (x, ρ')) : RMet l D tc o y_noWay k_noWay 2 (some .boolean) 0 0 [.ref o, .int v1] ρ (some (.int x)) ρ' := rm_met (by decide) (Nat.le_of_ble_eq_true rfl) fun p e s m args below meth c S hW ls hl => t_noWay_0 S v1 ρ h hl hW
end

/-! deliver (I)I -/
abbrev k_deliver : ByteArray := prog_12_method_55_code
abbrev y_deliver : MethodName := ⟨cn_M, "deliver", "(I)I"⟩
theorem q_deliver : Calee y_deliver k_deliver 3 (some .int) 1 := ⟨wd_1560, wd_90, by decide, by decide +kernel⟩
theorem d_deliver_0 : decode k_deliver 0 = .ok (.aload_n 0, 1) := by decide +kernel
theorem d_deliver_1 : decode k_deliver 1 = .ok (.iconst 0, 1) := by decide +kernel
theorem d_deliver_2 : decode k_deliver 2 = .ok (.putfield 140, 3) := by decide +kernel
theorem d_deliver_5 : decode k_deliver 5 = .ok (.aload_n 0, 1) := by decide +kernel
theorem d_deliver_6 : decode k_deliver 6 = .ok (.iload_n 1, 1) := by decide +kernel
theorem d_deliver_7 : decode k_deliver 7 = .ok (.invokevirtual 344, 3) := by decide +kernel
theorem d_deliver_10 : decode k_deliver 10 = .ok (.ifCond .eq 9, 3) := by decide +kernel
theorem d_deliver_13 : decode k_deliver 13 = .ok (.aload_n 0, 1) := by decide +kernel
theorem d_deliver_14 : decode k_deliver 14 = .ok (.iconst 1, 1) := by decide +kernel
theorem d_deliver_15 : decode k_deliver 15 = .ok (.invokevirtual 327, 3) := by decide +kernel
theorem d_deliver_18 : decode k_deliver 18 = .ok (.ireturn, 1) := by decide +kernel
theorem d_deliver_19 : decode k_deliver 19 = .ok (.aload_n 0, 1) := by decide +kernel
theorem d_deliver_20 : decode k_deliver 20 = .ok (.getfield 25, 3) := by decide +kernel
theorem d_deliver_23 : decode k_deliver 23 = .ok (.iload_n 1, 1) := by decide +kernel
theorem d_deliver_24 : decode k_deliver 24 = .ok (.iaload, 1) := by decide +kernel
theorem d_deliver_25 : decode k_deliver 25 = .ok (.istore_n 2, 1) := by decide +kernel
theorem d_deliver_26 : decode k_deliver 26 = .ok (.aload_n 0, 1) := by decide +kernel
theorem d_deliver_27 : decode k_deliver 27 = .ok (.iload_n 1, 1) := by decide +kernel
theorem d_deliver_28 : decode k_deliver 28 = .ok (.invokevirtual 330, 3) := by decide +kernel
theorem d_deliver_31 : decode k_deliver 31 = .ok (.aload_n 0, 1) := by decide +kernel
theorem d_deliver_32 : decode k_deliver 32 = .ok (.getfield 28, 3) := by decide +kernel
theorem d_deliver_35 : decode k_deliver 35 = .ok (.iload_n 2, 1) := by decide +kernel
theorem d_deliver_36 : decode k_deliver 36 = .ok (.iconst 1, 1) := by decide +kernel
theorem d_deliver_37 : decode k_deliver 37 = .ok (.bastore, 1) := by decide +kernel
theorem d_deliver_38 : decode k_deliver 38 = .ok (.aload_n 0, 1) := by decide +kernel
theorem d_deliver_39 : decode k_deliver 39 = .ok (.aload_n 0, 1) := by decide +kernel
theorem d_deliver_40 : decode k_deliver 40 = .ok (.getfield 22, 3) := by decide +kernel
theorem d_deliver_43 : decode k_deliver 43 = .ok (.iload_n 2, 1) := by decide +kernel
theorem d_deliver_44 : decode k_deliver 44 = .ok (.iaload, 1) := by decide +kernel
theorem d_deliver_45 : decode k_deliver 45 = .ok (.iload_n 2, 1) := by decide +kernel
theorem d_deliver_46 : decode k_deliver 46 = .ok (.invokevirtual 347, 3) := by decide +kernel
theorem d_deliver_49 : decode k_deliver 49 = .ok (.aload_n 0, 1) := by decide +kernel
theorem d_deliver_50 : decode k_deliver 50 = .ok (.getfield 28, 3) := by decide +kernel
theorem d_deliver_53 : decode k_deliver 53 = .ok (.iload_n 2, 1) := by decide +kernel
theorem d_deliver_54 : decode k_deliver 54 = .ok (.iconst 0, 1) := by decide +kernel
theorem d_deliver_55 : decode k_deliver 55 = .ok (.bastore, 1) := by decide +kernel
theorem d_deliver_56 : decode k_deliver 56 = .ok (.aload_n 0, 1) := by decide +kernel
theorem d_deliver_57 : decode k_deliver 57 = .ok (.getfield 144, 3) := by decide +kernel
theorem d_deliver_60 : decode k_deliver 60 = .ok (.ireturn, 1) := by decide +kernel
def m_deliver (v1 : Int32) (ρ : RS) : Option (Int32 × RS) :=
  bd (si ρ 0 0 (0 : Int32)) fun r1 => bc2 (m_noWay v1 r1) fun x3 r2 => if x3 = 0 then
  (gd (inb v1 512) <| bd (r2.1 5 v1.toNatClampNeg) fun x4 => bc (m_removed v1 r2) fun r5 => gd (inb x4 513) <| bd (si r5 6 x4.toNatClampNeg (vp_nar .boolean (1 : Int32))) fun r6 => gd (inb x4 513) <| bd (r6.1 4 x4.toNatClampNeg) fun x7 => bc (m_comes x7 x4 r6) fun r8 => gd (inb x4 513) <| bd (si r8 6 x4.toNatClampNeg (vp_nar .boolean (0 : Int32))) fun r9 => bd (r9.1 0 10) fun x10 => some (x10, r9))
 else
  (bc2 (m_fail (1 : Int32) r2) fun x12 r11 => some (x12, r11))
section
variable {p : Program} {l : Launch} {e : Env} {s : State} {m : MethodId} {args : Array Value} {below : List Frame} {meth : Method} {c : Code} {D : va_G} {tc : Nat → ClassId} {o : Nat}
theorem t_deliver_0 (S : RC p m c k_deliver 3 s args cn_M meth (some .int) D tc) (v1 : Int32) (ρ : RS) {B : Int32 × RS} (h : m_deliver v1 ρ = some B) {ls : Array Slot} {H : Heap} {locs : List Loc} (hl : lv_has ls 3 [(0, .ref o), (1, .int v1)]) (hW : RWS D tc o s ρ H locs) : W p l e { frames := 7, cells := 0, slots := 0, locals := 175 } s m args below meth c H locs 0 0 (MQ below (RQ D tc o (some (.int B.1)) B.2) args s 0 0 (rreg o)) (F0 m 0 ls []) := by
  have hx := S.1.1
  have hb := S.1.2.1
  unfold m_deliver at h
  refine lv_aload_n hx hb d_deliver_0 rfl (lv_at hl 0 rfl) ?_
  refine lv_iconst (v := 0) hx hb d_deliver_1 (by decide) ?_
  refine rm_puti S hW 0 wd_1252 (by decide) d_deliver_2 h (fun r1 H locs h hW => ?_)
  refine lv_aload_n hx hb d_deliver_5 rfl (lv_at hl 0 rfl) ?_
  refine lv_iload_n hx hb d_deliver_6 rfl (lv_at hl 1 rfl) ?_
  refine rm_cVi [.int v1] S hW (fun x ρ' hc => c_noWay v1 r1 hc) q_noWay wd_1563 wd_55 wd_1561 (by decide) hl.1 rfl rfl (Nat.le_of_ble_eq_true rfl) d_deliver_7 h (fun x3 r2 H locs h hW => ?_)
  refine rb_eq (tgt := 19) hx hb d_deliver_10 (by decide) h (fun h => ?_) (fun h => ?_)
  · refine lv_aload_n hx hb d_deliver_19 rfl (lv_at hl 0 rfl) ?_
    refine rm_geta S hW 9 5 wd_1261 (by decide) d_deliver_20 ?_
    refine lv_iload_n hx hb d_deliver_23 rfl (lv_at hl 1 rfl) ?_
    refine rm_iald S hW 5 512 (by decide) d_deliver_24 h (fun x4 h => ?_)
    refine lv_istore_n (lv' := [(2, .int x4), (0, .ref o), (1, .int v1)]) hx hb d_deliver_25 rfl hl (by decide) rfl (fun ls hl => ?_)
    refine lv_aload_n hx hb d_deliver_26 rfl (lv_at hl 1 rfl) ?_
    refine lv_iload_n hx hb d_deliver_27 rfl (lv_at hl 2 rfl) ?_
    refine rm_cVv [.int v1] S hW (fun ρ' hc => c_removed v1 r2 hc) q_removed wd_1441 wd_35 wd_1439 (by decide) hl.1 rfl rfl (Nat.le_of_ble_eq_true rfl) d_deliver_28 h (fun r5 H locs h hW => ?_)
    refine lv_aload_n hx hb d_deliver_31 rfl (lv_at hl 1 rfl) ?_
    refine rm_geta S hW 11 6 wd_1263 (by decide) d_deliver_32 ?_
    refine lv_iload_n hx hb d_deliver_35 rfl (lv_at hl 0 rfl) ?_
    refine lv_iconst (v := 1) hx hb d_deliver_36 (by decide) ?_
    refine rm_zast S hW 6 513 (by decide) d_deliver_37 h (fun r6 H locs h hW => ?_)
    refine lv_aload_n hx hb d_deliver_38 rfl (lv_at hl 1 rfl) ?_
    refine lv_aload_n hx hb d_deliver_39 rfl (lv_at hl 1 rfl) ?_
    refine rm_geta S hW 8 4 wd_1260 (by decide) d_deliver_40 ?_
    refine lv_iload_n hx hb d_deliver_43 rfl (lv_at hl 0 rfl) ?_
    refine rm_iald S hW 4 513 (by decide) d_deliver_44 h (fun x7 h => ?_)
    refine lv_iload_n hx hb d_deliver_45 rfl (lv_at hl 0 rfl) ?_
    refine rm_cVv [.int x7, .int x4] S hW (fun ρ' hc => c_comes x7 x4 r6 hc) q_comes wd_1567 wd_56 wd_1565 (by decide) hl.1 rfl rfl (Nat.le_of_ble_eq_true rfl) d_deliver_46 h (fun r8 H locs h hW => ?_)
    refine lv_aload_n hx hb d_deliver_49 rfl (lv_at hl 1 rfl) ?_
    refine rm_geta S hW 11 6 wd_1263 (by decide) d_deliver_50 ?_
    refine lv_iload_n hx hb d_deliver_53 rfl (lv_at hl 0 rfl) ?_
    refine lv_iconst (v := 0) hx hb d_deliver_54 (by decide) ?_
    refine rm_zast S hW 6 513 (by decide) d_deliver_55 h (fun r9 H locs h hW => ?_)
    refine lv_aload_n hx hb d_deliver_56 rfl (lv_at hl 1 rfl) ?_
    refine rm_geti S hW 10 wd_1262 (by decide) d_deliver_57 h (fun x10 h => ?_)
    exact rm_iret S hW d_deliver_60 h
  · refine lv_aload_n hx hb d_deliver_13 rfl (lv_at hl 0 rfl) ?_
    refine lv_iconst (v := 1) hx hb d_deliver_14 (by decide) ?_
    refine rm_cVi [.int (1 : Int32)] S hW (fun x ρ' hc => c_fail (1 : Int32) r2 hc) q_fail wd_1429 wd_34 wd_1427 (by decide) hl.1 rfl rfl (Nat.le_of_ble_eq_true rfl) d_deliver_15 h (fun x12 r11 H locs h hW => ?_)
    exact rm_iret S hW d_deliver_18 h
theorem c_deliver (v1 : Int32) (ρ : RS) {x : Int32} {ρ' : RS} (h : m_deliver v1 ρ = some (x, ρ')) : RMet l D tc o y_deliver k_deliver 3 (some .int) 7 175 [.ref o, .int v1] ρ (some (.int x)) ρ' := rm_met (by decide) (Nat.le_of_ble_eq_true rfl) fun p e s m args below meth c S hW ls hl => t_deliver_0 S v1 ρ h hl hW
end

/-! drop (I)I -/
abbrev k_drop : ByteArray := prog_12_method_56_code
abbrev y_drop : MethodName := ⟨cn_M, "drop", "(I)I"⟩
theorem q_drop : Calee y_drop k_drop 2 (some .int) 1 := ⟨wd_1651, wd_90, by decide, by decide +kernel⟩
theorem d_drop_0 : decode k_drop 0 = .ok (.aload_n 0, 1) := by decide +kernel
theorem d_drop_1 : decode k_drop 1 = .ok (.iconst 0, 1) := by decide +kernel
theorem d_drop_2 : decode k_drop 2 = .ok (.putfield 140, 3) := by decide +kernel
theorem d_drop_5 : decode k_drop 5 = .ok (.aload_n 0, 1) := by decide +kernel
theorem d_drop_6 : decode k_drop 6 = .ok (.iload_n 1, 1) := by decide +kernel
theorem d_drop_7 : decode k_drop 7 = .ok (.invokevirtual 344, 3) := by decide +kernel
theorem d_drop_10 : decode k_drop 10 = .ok (.ifCond .eq 9, 3) := by decide +kernel
theorem d_drop_13 : decode k_drop 13 = .ok (.aload_n 0, 1) := by decide +kernel
theorem d_drop_14 : decode k_drop 14 = .ok (.iconst 1, 1) := by decide +kernel
theorem d_drop_15 : decode k_drop 15 = .ok (.invokevirtual 327, 3) := by decide +kernel
theorem d_drop_18 : decode k_drop 18 = .ok (.ireturn, 1) := by decide +kernel
theorem d_drop_19 : decode k_drop 19 = .ok (.aload_n 0, 1) := by decide +kernel
theorem d_drop_20 : decode k_drop 20 = .ok (.iload_n 1, 1) := by decide +kernel
theorem d_drop_21 : decode k_drop 21 = .ok (.invokevirtual 330, 3) := by decide +kernel
theorem d_drop_24 : decode k_drop 24 = .ok (.aload_n 0, 1) := by decide +kernel
theorem d_drop_25 : decode k_drop 25 = .ok (.getfield 144, 3) := by decide +kernel
theorem d_drop_28 : decode k_drop 28 = .ok (.ireturn, 1) := by decide +kernel
def m_drop (v1 : Int32) (ρ : RS) : Option (Int32 × RS) :=
  bd (si ρ 0 0 (0 : Int32)) fun r1 => bc2 (m_noWay v1 r1) fun x3 r2 => if x3 = 0 then
  (bc (m_removed v1 r2) fun r4 => bd (r4.1 0 10) fun x5 => some (x5, r4))
 else
  (bc2 (m_fail (1 : Int32) r2) fun x7 r6 => some (x7, r6))
section
variable {p : Program} {l : Launch} {e : Env} {s : State} {m : MethodId} {args : Array Value} {below : List Frame} {meth : Method} {c : Code} {D : va_G} {tc : Nat → ClassId} {o : Nat}
theorem t_drop_0 (S : RC p m c k_drop 2 s args cn_M meth (some .int) D tc) (v1 : Int32) (ρ : RS) {B : Int32 × RS} (h : m_drop v1 ρ = some B) {ls : Array Slot} {H : Heap} {locs : List Loc} (hl : lv_has ls 2 [(0, .ref o), (1, .int v1)]) (hW : RWS D tc o s ρ H locs) : W p l e { frames := 1, cells := 0, slots := 0, locals := 22 } s m args below meth c H locs 0 0 (MQ below (RQ D tc o (some (.int B.1)) B.2) args s 0 0 (rreg o)) (F0 m 0 ls []) := by
  have hx := S.1.1
  have hb := S.1.2.1
  unfold m_drop at h
  refine lv_aload_n hx hb d_drop_0 rfl (lv_at hl 0 rfl) ?_
  refine lv_iconst (v := 0) hx hb d_drop_1 (by decide) ?_
  refine rm_puti S hW 0 wd_1252 (by decide) d_drop_2 h (fun r1 H locs h hW => ?_)
  refine lv_aload_n hx hb d_drop_5 rfl (lv_at hl 0 rfl) ?_
  refine lv_iload_n hx hb d_drop_6 rfl (lv_at hl 1 rfl) ?_
  refine rm_cVi [.int v1] S hW (fun x ρ' hc => c_noWay v1 r1 hc) q_noWay wd_1563 wd_55 wd_1561 (by decide) hl.1 rfl rfl (Nat.le_of_ble_eq_true rfl) d_drop_7 h (fun x3 r2 H locs h hW => ?_)
  refine rb_eq (tgt := 19) hx hb d_drop_10 (by decide) h (fun h => ?_) (fun h => ?_)
  · refine lv_aload_n hx hb d_drop_19 rfl (lv_at hl 0 rfl) ?_
    refine lv_iload_n hx hb d_drop_20 rfl (lv_at hl 1 rfl) ?_
    refine rm_cVv [.int v1] S hW (fun ρ' hc => c_removed v1 r2 hc) q_removed wd_1441 wd_35 wd_1439 (by decide) hl.1 rfl rfl (Nat.le_of_ble_eq_true rfl) d_drop_21 h (fun r4 H locs h hW => ?_)
    refine lv_aload_n hx hb d_drop_24 rfl (lv_at hl 0 rfl) ?_
    refine rm_geti S hW 10 wd_1262 (by decide) d_drop_25 h (fun x5 h => ?_)
    exact rm_iret S hW d_drop_28 h
  · refine lv_aload_n hx hb d_drop_13 rfl (lv_at hl 0 rfl) ?_
    refine lv_iconst (v := 1) hx hb d_drop_14 (by decide) ?_
    refine rm_cVi [.int (1 : Int32)] S hW (fun x ρ' hc => c_fail (1 : Int32) r2 hc) q_fail wd_1429 wd_34 wd_1427 (by decide) hl.1 rfl rfl (Nat.le_of_ble_eq_true rfl) d_drop_15 h (fun x7 r6 H locs h hW => ?_)
    exact rm_iret S hW d_drop_18 h
theorem c_drop (v1 : Int32) (ρ : RS) {x : Int32} {ρ' : RS} (h : m_drop v1 ρ = some (x, ρ')) : RMet l D tc o y_drop k_drop 2 (some .int) 1 22 [.ref o, .int v1] ρ (some (.int x)) ρ' := rm_met (by decide) (Nat.le_of_ble_eq_true rfl) fun p e s m args below meth c S hW ls hl => t_drop_0 S v1 ρ h hl hW
end

/-! copy (I)I -/
abbrev k_copy : ByteArray := prog_12_method_57_code
abbrev y_copy : MethodName := ⟨cn_M, "copy", "(I)I"⟩
theorem q_copy : Calee y_copy k_copy 5 (some .int) 1 := ⟨wd_1655, wd_90, by decide, by decide +kernel⟩
theorem d_copy_0 : decode k_copy 0 = .ok (.aload_n 0, 1) := by decide +kernel
theorem d_copy_1 : decode k_copy 1 = .ok (.iconst 0, 1) := by decide +kernel
theorem d_copy_2 : decode k_copy 2 = .ok (.putfield 140, 3) := by decide +kernel
theorem d_copy_5 : decode k_copy 5 = .ok (.aload_n 0, 1) := by decide +kernel
theorem d_copy_6 : decode k_copy 6 = .ok (.iload_n 1, 1) := by decide +kernel
theorem d_copy_7 : decode k_copy 7 = .ok (.invokevirtual 344, 3) := by decide +kernel
theorem d_copy_10 : decode k_copy 10 = .ok (.ifCond .eq 9, 3) := by decide +kernel
theorem d_copy_13 : decode k_copy 13 = .ok (.aload_n 0, 1) := by decide +kernel
theorem d_copy_14 : decode k_copy 14 = .ok (.iconst 1, 1) := by decide +kernel
theorem d_copy_15 : decode k_copy 15 = .ok (.invokevirtual 327, 3) := by decide +kernel
theorem d_copy_18 : decode k_copy 18 = .ok (.ireturn, 1) := by decide +kernel
theorem d_copy_19 : decode k_copy 19 = .ok (.aload_n 0, 1) := by decide +kernel
theorem d_copy_20 : decode k_copy 20 = .ok (.getfield 25, 3) := by decide +kernel
theorem d_copy_23 : decode k_copy 23 = .ok (.iload_n 1, 1) := by decide +kernel
theorem d_copy_24 : decode k_copy 24 = .ok (.iaload, 1) := by decide +kernel
theorem d_copy_25 : decode k_copy 25 = .ok (.istore_n 2, 1) := by decide +kernel
theorem d_copy_26 : decode k_copy 26 = .ok (.aload_n 0, 1) := by decide +kernel
theorem d_copy_27 : decode k_copy 27 = .ok (.aload_n 0, 1) := by decide +kernel
theorem d_copy_28 : decode k_copy 28 = .ok (.getfield 22, 3) := by decide +kernel
theorem d_copy_31 : decode k_copy 31 = .ok (.iload_n 2, 1) := by decide +kernel
theorem d_copy_32 : decode k_copy 32 = .ok (.iaload, 1) := by decide +kernel
theorem d_copy_33 : decode k_copy 33 = .ok (.aload_n 0, 1) := by decide +kernel
theorem d_copy_34 : decode k_copy 34 = .ok (.getfield 18, 3) := by decide +kernel
theorem d_copy_37 : decode k_copy 37 = .ok (.iload_n 2, 1) := by decide +kernel
theorem d_copy_38 : decode k_copy 38 = .ok (.iaload, 1) := by decide +kernel
theorem d_copy_39 : decode k_copy 39 = .ok (.invokevirtual 175, 3) := by decide +kernel
theorem d_copy_42 : decode k_copy 42 = .ok (.istore_n 3, 1) := by decide +kernel
theorem d_copy_43 : decode k_copy 43 = .ok (.iconst 0, 1) := by decide +kernel
theorem d_copy_44 : decode k_copy 44 = .ok (.istore 4, 2) := by decide +kernel
theorem d_copy_46 : decode k_copy 46 = .ok (.iload_n 3, 1) := by decide +kernel
theorem d_copy_47 : decode k_copy 47 = .ok (.ifCond .lt 46, 3) := by decide +kernel
theorem d_copy_50 : decode k_copy 50 = .ok (.iload 4, 2) := by decide +kernel
theorem d_copy_52 : decode k_copy 52 = .ok (.aload_n 0, 1) := by decide +kernel
theorem d_copy_53 : decode k_copy 53 = .ok (.getfield 18, 3) := by decide +kernel
theorem d_copy_56 : decode k_copy 56 = .ok (.iload_n 2, 1) := by decide +kernel
theorem d_copy_57 : decode k_copy 57 = .ok (.iaload, 1) := by decide +kernel
theorem d_copy_58 : decode k_copy 58 = .ok (.if_icmp .ge 35, 3) := by decide +kernel
theorem d_copy_61 : decode k_copy 61 = .ok (.aload_n 0, 1) := by decide +kernel
theorem d_copy_62 : decode k_copy 62 = .ok (.getfield 15, 3) := by decide +kernel
theorem d_copy_65 : decode k_copy 65 = .ok (.sipush 1484, 3) := by decide +kernel
theorem d_copy_68 : decode k_copy 68 = .ok (.iload_n 3, 1) := by decide +kernel
theorem d_copy_69 : decode k_copy 69 = .ok (.imul, 1) := by decide +kernel
theorem d_copy_70 : decode k_copy 70 = .ok (.iload 4, 2) := by decide +kernel
theorem d_copy_72 : decode k_copy 72 = .ok (.iadd, 1) := by decide +kernel
theorem d_copy_73 : decode k_copy 73 = .ok (.aload_n 0, 1) := by decide +kernel
theorem d_copy_74 : decode k_copy 74 = .ok (.getfield 15, 3) := by decide +kernel
theorem d_copy_77 : decode k_copy 77 = .ok (.sipush 1484, 3) := by decide +kernel
theorem d_copy_80 : decode k_copy 80 = .ok (.iload_n 2, 1) := by decide +kernel
theorem d_copy_81 : decode k_copy 81 = .ok (.imul, 1) := by decide +kernel
theorem d_copy_82 : decode k_copy 82 = .ok (.iload 4, 2) := by decide +kernel
theorem d_copy_84 : decode k_copy 84 = .ok (.iadd, 1) := by decide +kernel
theorem d_copy_85 : decode k_copy 85 = .ok (.baload, 1) := by decide +kernel
theorem d_copy_86 : decode k_copy 86 = .ok (.bastore, 1) := by decide +kernel
theorem d_copy_87 : decode k_copy 87 = .ok (.iinc 4 1, 3) := by decide +kernel
theorem d_copy_90 : decode k_copy 90 = .ok (.goto (-44), 3) := by decide +kernel
theorem d_copy_93 : decode k_copy 93 = .ok (.aload_n 0, 1) := by decide +kernel
theorem d_copy_94 : decode k_copy 94 = .ok (.getfield 144, 3) := by decide +kernel
theorem d_copy_97 : decode k_copy 97 = .ok (.ireturn, 1) := by decide +kernel
def b_copy_93 (ρ : RS) : Option (Int32 × RS) :=
  bd (ρ.1 0 10) fun x1 => some (x1, ρ)
def F_copy_46 (rec46 : Int32 → Int32 → Int32 → RS → Option (Int32 × RS)) (v2 : Int32) (v3 : Int32) (v4 : Int32) (ρ : RS) : Option (Int32 × RS) :=
  if v3 < 0 then
  (b_copy_93  ρ)
 else
  (gd (inb v2 513) <| bd (ρ.1 3 v2.toNatClampNeg) fun x1 => if x1 ≤ v4 then
  (b_copy_93  ρ)
 else
  (gd (inb (((1484 : Int32) * v2) + v4) 761292) <| bd (ρ.1 2 (((1484 : Int32) * v2) + v4).toNatClampNeg) fun x2 => gd (inb (((1484 : Int32) * v3) + v4) 761292) <| bd (si ρ 2 (((1484 : Int32) * v3) + v4).toNatClampNeg (vp_nar .byte x2)) fun r3 => bd (v4 + (1 : Int32)) fun x4 => rec46 v2 v3 x4 r3))
def m_copy (v1 : Int32) (ρ : RS) : Option (Int32 × RS) :=
  bd (si ρ 0 0 (0 : Int32)) fun r1 => bc2 (m_noWay v1 r1) fun x3 r2 => if x3 = 0 then
  (gd (inb v1 512) <| bd (r2.1 5 v1.toNatClampNeg) fun x4 => gd (inb x4 513) <| bd (r2.1 4 x4.toNatClampNeg) fun x5 => gd (inb x4 513) <| bd (r2.1 3 x4.toNatClampNeg) fun x6 => bc2 (m_launched x5 x6 r2) fun x8 r7 => lq4 (F_copy_46) fuel x4 x8 (0 : Int32) r7)
 else
  (bc2 (m_fail (1 : Int32) r2) fun x10 r9 => some (x10, r9))
def P_copy_46 (p : Program) (l : Launch) (e : Env) (s : State) (m : MethodId) (args : Array Value) (below : List Frame) (meth : Method) (c : Code) (D : va_G) (tc : Nat → ClassId) (o : Nat) (v2 : Int32) (v3 : Int32) (v4 : Int32) (ρ : RS) (B : Int32 × RS) : Prop := ∀ (ls : Array Slot) (H : Heap) (locs : List Loc), lv_has ls 5 [(0, .ref o), (2, .int v2), (3, .int v3), (4, .int v4)] → RWS D tc o s ρ H locs → W p l e { frames := 2, cells := 0, slots := 0, locals := 44 } s m args below meth c H locs 0 0 (MQ below (RQ D tc o (some (.int B.1)) B.2) args s 0 0 (rreg o)) (F0 m 46 ls [])
section
variable {p : Program} {l : Launch} {e : Env} {s : State} {m : MethodId} {args : Array Value} {below : List Frame} {meth : Method} {c : Code} {D : va_G} {tc : Nat → ClassId} {o : Nat}
theorem t_copy_93 (S : RC p m c k_copy 5 s args cn_M meth (some .int) D tc) (ρ : RS) {B : Int32 × RS} (h : b_copy_93  ρ = some B) {ls : Array Slot} {H : Heap} {locs : List Loc} (hl : lv_has ls 5 [(0, .ref o)]) (hW : RWS D tc o s ρ H locs) : W p l e { frames := 2, cells := 0, slots := 0, locals := 44 } s m args below meth c H locs 0 0 (MQ below (RQ D tc o (some (.int B.1)) B.2) args s 0 0 (rreg o)) (F0 m 93 ls []) := by
  have hx := S.1.1
  have hb := S.1.2.1
  unfold b_copy_93 at h
  refine lv_aload_n hx hb d_copy_93 rfl (lv_at hl 0 rfl) ?_
  refine rm_geti S hW 10 wd_1262 (by decide) d_copy_94 h (fun x1 h => ?_)
  exact rm_iret S hW d_copy_97 h
theorem tF_copy_46 (S : RC p m c k_copy 5 s args cn_M meth (some .int) D tc) : ∀ (rec46 : Int32 → Int32 → Int32 → RS → Option (Int32 × RS)), (∀ (v2 : Int32) (v3 : Int32) (v4 : Int32) (ρ : RS) (B : Int32 × RS), rec46 v2 v3 v4 ρ = some B → P_copy_46 p l e s m args below meth c D tc o v2 v3 v4 ρ B) → ∀ (v2 : Int32) (v3 : Int32) (v4 : Int32) (ρ : RS) (B : Int32 × RS), F_copy_46 rec46 v2 v3 v4 ρ = some B → P_copy_46 p l e s m args below meth c D tc o v2 v3 v4 ρ B := by
  intro rec46 hrec46 v2 v3 v4 ρ B h ls H locs hl hW
  have hx := S.1.1
  have hb := S.1.2.1
  unfold F_copy_46 at h
  refine lv_iload_n hx hb d_copy_46 rfl (lv_at hl 2 rfl) ?_
  refine rb_lt (tgt := 93) hx hb d_copy_47 (by decide) h (fun h => ?_) (fun h => ?_)
  · exact t_copy_93 S  ρ h (lv_sub hl [0] rfl) hW
  · refine lv_iload hx hb d_copy_50 (lv_at hl 3 rfl) ?_
    refine lv_aload_n hx hb d_copy_52 rfl (lv_at hl 0 rfl) ?_
    refine rm_geta S hW 7 3 wd_1259 (by decide) d_copy_53 ?_
    refine lv_iload_n hx hb d_copy_56 rfl (lv_at hl 1 rfl) ?_
    refine rm_iald S hW 3 513 (by decide) d_copy_57 h (fun x1 h => ?_)
    refine rc_ge (tgt := 93) hx hb d_copy_58 (by decide) h (fun h => ?_) (fun h => ?_)
    · exact t_copy_93 S  ρ h (lv_sub hl [0] rfl) hW
    · refine lv_aload_n hx hb d_copy_61 rfl (lv_at hl 0 rfl) ?_
      refine rm_geta S hW 6 2 wd_1258 (by decide) d_copy_62 ?_
      refine lv_sipush (v := 1484) hx hb d_copy_65 (by decide) ?_
      refine lv_iload_n hx hb d_copy_68 rfl (lv_at hl 2 rfl) ?_
      refine lv_imul hx hb d_copy_69 ?_
      refine lv_iload hx hb d_copy_70 (lv_at hl 3 rfl) ?_
      refine lv_iadd hx hb d_copy_72 ?_
      refine lv_aload_n hx hb d_copy_73 rfl (lv_at hl 0 rfl) ?_
      refine rm_geta S hW 6 2 wd_1258 (by decide) d_copy_74 ?_
      refine lv_sipush (v := 1484) hx hb d_copy_77 (by decide) ?_
      refine lv_iload_n hx hb d_copy_80 rfl (lv_at hl 1 rfl) ?_
      refine lv_imul hx hb d_copy_81 ?_
      refine lv_iload hx hb d_copy_82 (lv_at hl 3 rfl) ?_
      refine lv_iadd hx hb d_copy_84 ?_
      refine rm_bald S hW 2 761292 (by decide) d_copy_85 h (fun x2 h => ?_)
      refine rm_bast S hW 2 761292 (by decide) d_copy_86 h (fun r3 H locs h hW => ?_)
      refine rv_iinc (k := 3) (v := 1) (lv' := fun x4 => [(4, .int x4), (0, .ref o), (2, .int v2), (3, .int v3)]) hx hb d_copy_87 hl rfl (by decide) (by decide) (fun _ => rfl) h (fun x4 ls h hl => ?_)
      refine lv_goto (tgt := 46) hx hb d_copy_90 (by decide) ?_
      exact hrec46 v2 v3 x4 r3 _ h _ _ _ (lv_sub hl [1, 2, 3, 0] rfl) hW
theorem t_copy_46 (S : RC p m c k_copy 5 s args cn_M meth (some .int) D tc) : ∀ (n : Nat) (v2 : Int32) (v3 : Int32) (v4 : Int32) (ρ : RS) (B : Int32 × RS), lq4 (F_copy_46) n v2 v3 v4 ρ = some B → P_copy_46 p l e s m args below meth c D tc o v2 v3 v4 ρ B := lq4_s (tF_copy_46 S)
theorem t_copy_0 (S : RC p m c k_copy 5 s args cn_M meth (some .int) D tc) (v1 : Int32) (ρ : RS) {B : Int32 × RS} (h : m_copy v1 ρ = some B) {ls : Array Slot} {H : Heap} {locs : List Loc} (hl : lv_has ls 5 [(0, .ref o), (1, .int v1)]) (hW : RWS D tc o s ρ H locs) : W p l e { frames := 2, cells := 0, slots := 0, locals := 44 } s m args below meth c H locs 0 0 (MQ below (RQ D tc o (some (.int B.1)) B.2) args s 0 0 (rreg o)) (F0 m 0 ls []) := by
  have hx := S.1.1
  have hb := S.1.2.1
  unfold m_copy at h
  refine lv_aload_n hx hb d_copy_0 rfl (lv_at hl 0 rfl) ?_
  refine lv_iconst (v := 0) hx hb d_copy_1 (by decide) ?_
  refine rm_puti S hW 0 wd_1252 (by decide) d_copy_2 h (fun r1 H locs h hW => ?_)
  refine lv_aload_n hx hb d_copy_5 rfl (lv_at hl 0 rfl) ?_
  refine lv_iload_n hx hb d_copy_6 rfl (lv_at hl 1 rfl) ?_
  refine rm_cVi [.int v1] S hW (fun x ρ' hc => c_noWay v1 r1 hc) q_noWay wd_1563 wd_55 wd_1561 (by decide) hl.1 rfl rfl (Nat.le_of_ble_eq_true rfl) d_copy_7 h (fun x3 r2 H locs h hW => ?_)
  refine rb_eq (tgt := 19) hx hb d_copy_10 (by decide) h (fun h => ?_) (fun h => ?_)
  · refine lv_aload_n hx hb d_copy_19 rfl (lv_at hl 0 rfl) ?_
    refine rm_geta S hW 9 5 wd_1261 (by decide) d_copy_20 ?_
    refine lv_iload_n hx hb d_copy_23 rfl (lv_at hl 1 rfl) ?_
    refine rm_iald S hW 5 512 (by decide) d_copy_24 h (fun x4 h => ?_)
    refine lv_istore_n (lv' := [(2, .int x4), (0, .ref o), (1, .int v1)]) hx hb d_copy_25 rfl hl (by decide) rfl (fun ls hl => ?_)
    refine lv_aload_n hx hb d_copy_26 rfl (lv_at hl 1 rfl) ?_
    refine lv_aload_n hx hb d_copy_27 rfl (lv_at hl 1 rfl) ?_
    refine rm_geta S hW 8 4 wd_1260 (by decide) d_copy_28 ?_
    refine lv_iload_n hx hb d_copy_31 rfl (lv_at hl 0 rfl) ?_
    refine rm_iald S hW 4 513 (by decide) d_copy_32 h (fun x5 h => ?_)
    refine lv_aload_n hx hb d_copy_33 rfl (lv_at hl 1 rfl) ?_
    refine rm_geta S hW 7 3 wd_1259 (by decide) d_copy_34 ?_
    refine lv_iload_n hx hb d_copy_37 rfl (lv_at hl 0 rfl) ?_
    refine rm_iald S hW 3 513 (by decide) d_copy_38 h (fun x6 h => ?_)
    refine rm_cVi [.int x5, .int x6] S hW (fun x ρ' hc => c_launched x5 x6 r2 hc) q_launched wd_1464 wd_40 wd_1462 (by decide) hl.1 rfl rfl (Nat.le_of_ble_eq_true rfl) d_copy_39 h (fun x8 r7 H locs h hW => ?_)
    refine lv_istore_n (lv' := [(3, .int x8), (2, .int x4), (0, .ref o), (1, .int v1)]) hx hb d_copy_42 rfl hl (by decide) rfl (fun ls hl => ?_)
    refine lv_iconst (v := 0) hx hb d_copy_43 (by decide) ?_
    refine lv_istore (lv' := [(4, .int (0 : Int32)), (3, .int x8), (2, .int x4), (0, .ref o), (1, .int v1)]) hx hb d_copy_44 hl (by decide) rfl (fun ls hl => ?_)
    exact t_copy_46 S fuel x4 x8 (0 : Int32) r7 _ h _ _ _ (lv_sub hl [3, 2, 1, 0] rfl) hW
  · refine lv_aload_n hx hb d_copy_13 rfl (lv_at hl 0 rfl) ?_
    refine lv_iconst (v := 1) hx hb d_copy_14 (by decide) ?_
    refine rm_cVi [.int (1 : Int32)] S hW (fun x ρ' hc => c_fail (1 : Int32) r2 hc) q_fail wd_1429 wd_34 wd_1427 (by decide) hl.1 rfl rfl (Nat.le_of_ble_eq_true rfl) d_copy_15 h (fun x10 r9 H locs h hW => ?_)
    exact rm_iret S hW d_copy_18 h
theorem c_copy (v1 : Int32) (ρ : RS) {x : Int32} {ρ' : RS} (h : m_copy v1 ρ = some (x, ρ')) : RMet l D tc o y_copy k_copy 5 (some .int) 2 44 [.ref o, .int v1] ρ (some (.int x)) ρ' := rm_met (by decide) (Nat.le_of_ble_eq_true rfl) fun p e s m args below meth c S hW ls hl => t_copy_0 S v1 ρ h hl hW
end

/-! flip (IIIZ)I -/
abbrev k_flip : ByteArray := prog_12_method_58_code
abbrev y_flip : MethodName := ⟨cn_M, "flip", "(IIIZ)I"⟩
theorem q_flip : Calee y_flip k_flip 6 (some .int) 4 := ⟨wd_1659, wd_90, by decide, by decide +kernel⟩
theorem d_flip_0 : decode k_flip 0 = .ok (.aload_n 0, 1) := by decide +kernel
theorem d_flip_1 : decode k_flip 1 = .ok (.iconst 0, 1) := by decide +kernel
theorem d_flip_2 : decode k_flip 2 = .ok (.putfield 140, 3) := by decide +kernel
theorem d_flip_5 : decode k_flip 5 = .ok (.aload_n 0, 1) := by decide +kernel
theorem d_flip_6 : decode k_flip 6 = .ok (.iload_n 1, 1) := by decide +kernel
theorem d_flip_7 : decode k_flip 7 = .ok (.invokevirtual 344, 3) := by decide +kernel
theorem d_flip_10 : decode k_flip 10 = .ok (.ifCond .eq 9, 3) := by decide +kernel
theorem d_flip_13 : decode k_flip 13 = .ok (.aload_n 0, 1) := by decide +kernel
theorem d_flip_14 : decode k_flip 14 = .ok (.iconst 1, 1) := by decide +kernel
theorem d_flip_15 : decode k_flip 15 = .ok (.invokevirtual 327, 3) := by decide +kernel
theorem d_flip_18 : decode k_flip 18 = .ok (.ireturn, 1) := by decide +kernel
theorem d_flip_19 : decode k_flip 19 = .ok (.aload_n 0, 1) := by decide +kernel
theorem d_flip_20 : decode k_flip 20 = .ok (.getfield 25, 3) := by decide +kernel
theorem d_flip_23 : decode k_flip 23 = .ok (.iload_n 1, 1) := by decide +kernel
theorem d_flip_24 : decode k_flip 24 = .ok (.iaload, 1) := by decide +kernel
theorem d_flip_25 : decode k_flip 25 = .ok (.istore 5, 2) := by decide +kernel
theorem d_flip_27 : decode k_flip 27 = .ok (.iload_n 2, 1) := by decide +kernel
theorem d_flip_28 : decode k_flip 28 = .ok (.ifCond .lt 14, 3) := by decide +kernel
theorem d_flip_31 : decode k_flip 31 = .ok (.iload_n 2, 1) := by decide +kernel
theorem d_flip_32 : decode k_flip 32 = .ok (.aload_n 0, 1) := by decide +kernel
theorem d_flip_33 : decode k_flip 33 = .ok (.getfield 18, 3) := by decide +kernel
theorem d_flip_36 : decode k_flip 36 = .ok (.iload 5, 2) := by decide +kernel
theorem d_flip_38 : decode k_flip 38 = .ok (.iaload, 1) := by decide +kernel
theorem d_flip_39 : decode k_flip 39 = .ok (.if_icmp .lt 9, 3) := by decide +kernel
theorem d_flip_42 : decode k_flip 42 = .ok (.aload_n 0, 1) := by decide +kernel
theorem d_flip_43 : decode k_flip 43 = .ok (.iconst 2, 1) := by decide +kernel
theorem d_flip_44 : decode k_flip 44 = .ok (.invokevirtual 327, 3) := by decide +kernel
theorem d_flip_47 : decode k_flip 47 = .ok (.ireturn, 1) := by decide +kernel
theorem d_flip_48 : decode k_flip 48 = .ok (.aload_n 0, 1) := by decide +kernel
theorem d_flip_49 : decode k_flip 49 = .ok (.getfield 15, 3) := by decide +kernel
theorem d_flip_52 : decode k_flip 52 = .ok (.sipush 1484, 3) := by decide +kernel
theorem d_flip_55 : decode k_flip 55 = .ok (.iload 5, 2) := by decide +kernel
theorem d_flip_57 : decode k_flip 57 = .ok (.imul, 1) := by decide +kernel
theorem d_flip_58 : decode k_flip 58 = .ok (.iload_n 2, 1) := by decide +kernel
theorem d_flip_59 : decode k_flip 59 = .ok (.iadd, 1) := by decide +kernel
theorem d_flip_60 : decode k_flip 60 = .ok (.dup2, 1) := by decide +kernel
theorem d_flip_61 : decode k_flip 61 = .ok (.baload, 1) := by decide +kernel
theorem d_flip_62 : decode k_flip 62 = .ok (.iload_n 3, 1) := by decide +kernel
theorem d_flip_63 : decode k_flip 63 = .ok (.i2b, 1) := by decide +kernel
theorem d_flip_64 : decode k_flip 64 = .ok (.ixor, 1) := by decide +kernel
theorem d_flip_65 : decode k_flip 65 = .ok (.i2b, 1) := by decide +kernel
theorem d_flip_66 : decode k_flip 66 = .ok (.bastore, 1) := by decide +kernel
theorem d_flip_67 : decode k_flip 67 = .ok (.aload_n 0, 1) := by decide +kernel
theorem d_flip_68 : decode k_flip 68 = .ok (.getfield 18, 3) := by decide +kernel
theorem d_flip_71 : decode k_flip 71 = .ok (.iload 5, 2) := by decide +kernel
theorem d_flip_73 : decode k_flip 73 = .ok (.iaload, 1) := by decide +kernel
theorem d_flip_74 : decode k_flip 74 = .ok (.bipush 18, 2) := by decide +kernel
theorem d_flip_76 : decode k_flip 76 = .ok (.if_icmp .ge 5, 3) := by decide +kernel
theorem d_flip_79 : decode k_flip 79 = .ok (.iconst (-1), 1) := by decide +kernel
theorem d_flip_80 : decode k_flip 80 = .ok (.ireturn, 1) := by decide +kernel
theorem d_flip_81 : decode k_flip 81 = .ok (.iload 4, 2) := by decide +kernel
theorem d_flip_83 : decode k_flip 83 = .ok (.ifCond .eq 9, 3) := by decide +kernel
theorem d_flip_86 : decode k_flip 86 = .ok (.aload_n 0, 1) := by decide +kernel
theorem d_flip_87 : decode k_flip 87 = .ok (.iload 5, 2) := by decide +kernel
theorem d_flip_89 : decode k_flip 89 = .ok (.invokevirtual 197, 3) := by decide +kernel
theorem d_flip_92 : decode k_flip 92 = .ok (.aload_n 0, 1) := by decide +kernel
theorem d_flip_93 : decode k_flip 93 = .ok (.iload 5, 2) := by decide +kernel
theorem d_flip_95 : decode k_flip 95 = .ok (.bipush 16, 2) := by decide +kernel
theorem d_flip_97 : decode k_flip 97 = .ok (.invokevirtual 158, 3) := by decide +kernel
theorem d_flip_100 : decode k_flip 100 = .ok (.ireturn, 1) := by decide +kernel
def b_flip_92 (v5 : Int32) (ρ : RS) : Option (Int32 × RS) :=
  bc2 (m_two v5 (16 : Int32) ρ) fun x2 r1 => some (x2, r1)
def b_flip_42 (ρ : RS) : Option (Int32 × RS) :=
  bc2 (m_fail (2 : Int32) ρ) fun x2 r1 => some (x2, r1)
def m_flip (v1 : Int32) (v2 : Int32) (v3 : Int32) (v4 : Int32) (ρ : RS) : Option (Int32 × RS) :=
  bd (si ρ 0 0 (0 : Int32)) fun r1 => bc2 (m_noWay v1 r1) fun x3 r2 => if x3 = 0 then
  (gd (inb v1 512) <| bd (r2.1 5 v1.toNatClampNeg) fun x4 => if v2 < 0 then
  (b_flip_42  r2)
 else
  (gd (inb x4 513) <| bd (r2.1 3 x4.toNatClampNeg) fun x5 => if v2 < x5 then
  (bd (((1484 : Int32) * x4) + v2) fun x6 => gd (inb x6 761292) <| bd (r2.1 2 x6.toNatClampNeg) fun x7 => gd (inb x6 761292) <| bd (si r2 2 x6.toNatClampNeg (vp_nar .byte ((x7 ^^^ (v3.toInt8.toInt32)).toInt8.toInt32))) fun r8 => gd (inb x4 513) <| bd (r8.1 3 x4.toNatClampNeg) fun x9 => if (18 : Int32) ≤ x9 then
  (if v4 = 0 then
  (b_flip_92 x4 r8)
 else
  (bc (m_sealed x4 r8) fun r10 => b_flip_92 x4 r10))
 else
  (some ((-1 : Int32), r8)))
 else
  (b_flip_42  r2)))
 else
  (bc2 (m_fail (1 : Int32) r2) fun x12 r11 => some (x12, r11))
section
variable {p : Program} {l : Launch} {e : Env} {s : State} {m : MethodId} {args : Array Value} {below : List Frame} {meth : Method} {c : Code} {D : va_G} {tc : Nat → ClassId} {o : Nat}
theorem t_flip_92 (S : RC p m c k_flip 6 s args cn_M meth (some .int) D tc) (v5 : Int32) (ρ : RS) {B : Int32 × RS} (h : b_flip_92 v5 ρ = some B) {ls : Array Slot} {H : Heap} {locs : List Loc} (hl : lv_has ls 6 [(0, .ref o), (5, .int v5)]) (hW : RWS D tc o s ρ H locs) : W p l e { frames := 3, cells := 0, slots := 0, locals := 68 } s m args below meth c H locs 0 0 (MQ below (RQ D tc o (some (.int B.1)) B.2) args s 0 0 (rreg o)) (F0 m 92 ls []) := by
  have hx := S.1.1
  have hb := S.1.2.1
  unfold b_flip_92 at h
  refine lv_aload_n hx hb d_flip_92 rfl (lv_at hl 0 rfl) ?_
  refine lv_iload hx hb d_flip_93 (lv_at hl 1 rfl) ?_
  refine lv_bipush (v := 16) hx hb d_flip_95 (by decide) ?_
  refine rm_cVi [.int v5, .int (16 : Int32)] S hW (fun x ρ' hc => c_two v5 (16 : Int32) ρ hc) q_two wd_1579 wd_59 wd_1577 (by decide) hl.1 rfl rfl (Nat.le_of_ble_eq_true rfl) d_flip_97 h (fun x2 r1 H locs h hW => ?_)
  exact rm_iret S hW d_flip_100 h
theorem t_flip_42 (S : RC p m c k_flip 6 s args cn_M meth (some .int) D tc) (ρ : RS) {B : Int32 × RS} (h : b_flip_42  ρ = some B) {ls : Array Slot} {H : Heap} {locs : List Loc} (hl : lv_has ls 6 [(0, .ref o)]) (hW : RWS D tc o s ρ H locs) : W p l e { frames := 3, cells := 0, slots := 0, locals := 68 } s m args below meth c H locs 0 0 (MQ below (RQ D tc o (some (.int B.1)) B.2) args s 0 0 (rreg o)) (F0 m 42 ls []) := by
  have hx := S.1.1
  have hb := S.1.2.1
  unfold b_flip_42 at h
  refine lv_aload_n hx hb d_flip_42 rfl (lv_at hl 0 rfl) ?_
  refine lv_iconst (v := 2) hx hb d_flip_43 (by decide) ?_
  refine rm_cVi [.int (2 : Int32)] S hW (fun x ρ' hc => c_fail (2 : Int32) ρ hc) q_fail wd_1429 wd_34 wd_1427 (by decide) hl.1 rfl rfl (Nat.le_of_ble_eq_true rfl) d_flip_44 h (fun x2 r1 H locs h hW => ?_)
  exact rm_iret S hW d_flip_47 h
theorem t_flip_0 (S : RC p m c k_flip 6 s args cn_M meth (some .int) D tc) (v1 : Int32) (v2 : Int32) (v3 : Int32) (v4 : Int32) (ρ : RS) {B : Int32 × RS} (h : m_flip v1 v2 v3 v4 ρ = some B) {ls : Array Slot} {H : Heap} {locs : List Loc} (hl : lv_has ls 6 [(0, .ref o), (1, .int v1), (2, .int v2), (3, .int v3), (4, .int v4)]) (hW : RWS D tc o s ρ H locs) : W p l e { frames := 3, cells := 0, slots := 0, locals := 68 } s m args below meth c H locs 0 0 (MQ below (RQ D tc o (some (.int B.1)) B.2) args s 0 0 (rreg o)) (F0 m 0 ls []) := by
  have hx := S.1.1
  have hb := S.1.2.1
  unfold m_flip at h
  refine lv_aload_n hx hb d_flip_0 rfl (lv_at hl 0 rfl) ?_
  refine lv_iconst (v := 0) hx hb d_flip_1 (by decide) ?_
  refine rm_puti S hW 0 wd_1252 (by decide) d_flip_2 h (fun r1 H locs h hW => ?_)
  refine lv_aload_n hx hb d_flip_5 rfl (lv_at hl 0 rfl) ?_
  refine lv_iload_n hx hb d_flip_6 rfl (lv_at hl 1 rfl) ?_
  refine rm_cVi [.int v1] S hW (fun x ρ' hc => c_noWay v1 r1 hc) q_noWay wd_1563 wd_55 wd_1561 (by decide) hl.1 rfl rfl (Nat.le_of_ble_eq_true rfl) d_flip_7 h (fun x3 r2 H locs h hW => ?_)
  refine rb_eq (tgt := 19) hx hb d_flip_10 (by decide) h (fun h => ?_) (fun h => ?_)
  · refine lv_aload_n hx hb d_flip_19 rfl (lv_at hl 0 rfl) ?_
    refine rm_geta S hW 9 5 wd_1261 (by decide) d_flip_20 ?_
    refine lv_iload_n hx hb d_flip_23 rfl (lv_at hl 1 rfl) ?_
    refine rm_iald S hW 5 512 (by decide) d_flip_24 h (fun x4 h => ?_)
    refine lv_istore (lv' := [(5, .int x4), (0, .ref o), (1, .int v1), (2, .int v2), (3, .int v3), (4, .int v4)]) hx hb d_flip_25 hl (by decide) rfl (fun ls hl => ?_)
    refine lv_iload_n hx hb d_flip_27 rfl (lv_at hl 3 rfl) ?_
    refine rb_lt (tgt := 42) hx hb d_flip_28 (by decide) h (fun h => ?_) (fun h => ?_)
    · exact t_flip_42 S  r2 h (lv_sub hl [1] rfl) hW
    · refine lv_iload_n hx hb d_flip_31 rfl (lv_at hl 3 rfl) ?_
      refine lv_aload_n hx hb d_flip_32 rfl (lv_at hl 1 rfl) ?_
      refine rm_geta S hW 7 3 wd_1259 (by decide) d_flip_33 ?_
      refine lv_iload hx hb d_flip_36 (lv_at hl 0 rfl) ?_
      refine rm_iald S hW 3 513 (by decide) d_flip_38 h (fun x5 h => ?_)
      refine rc_lt (tgt := 48) hx hb d_flip_39 (by decide) h (fun h => ?_) (fun h => ?_)
      · refine lv_aload_n hx hb d_flip_48 rfl (lv_at hl 1 rfl) ?_
        refine rm_geta S hW 6 2 wd_1258 (by decide) d_flip_49 ?_
        refine lv_sipush (v := 1484) hx hb d_flip_52 (by decide) ?_
        refine lv_iload hx hb d_flip_55 (lv_at hl 0 rfl) ?_
        refine lv_imul hx hb d_flip_57 ?_
        refine lv_iload_n hx hb d_flip_58 rfl (lv_at hl 3 rfl) ?_
        refine lv_iadd hx hb d_flip_59 ?_
        refine rv_i h (fun x6 h => ?_)
        refine lv_dup2_11 hx hb d_flip_60 rfl rfl ?_
        refine rm_bald S hW 2 761292 (by decide) d_flip_61 h (fun x7 h => ?_)
        refine lv_iload_n hx hb d_flip_62 rfl (lv_at hl 4 rfl) ?_
        refine lv_i2b hx hb d_flip_63 rfl ?_
        refine lv_ixor hx hb d_flip_64 ?_
        refine lv_i2b hx hb d_flip_65 rfl ?_
        refine rm_bast S hW 2 761292 (by decide) d_flip_66 h (fun r8 H locs h hW => ?_)
        refine lv_aload_n hx hb d_flip_67 rfl (lv_at hl 1 rfl) ?_
        refine rm_geta S hW 7 3 wd_1259 (by decide) d_flip_68 ?_
        refine lv_iload hx hb d_flip_71 (lv_at hl 0 rfl) ?_
        refine rm_iald S hW 3 513 (by decide) d_flip_73 h (fun x9 h => ?_)
        refine lv_bipush (v := 18) hx hb d_flip_74 (by decide) ?_
        refine rc_ge (tgt := 81) hx hb d_flip_76 (by decide) h (fun h => ?_) (fun h => ?_)
        · refine lv_iload hx hb d_flip_81 (lv_at hl 5 rfl) ?_
          refine rb_eq (tgt := 92) hx hb d_flip_83 (by decide) h (fun h => ?_) (fun h => ?_)
          · exact t_flip_92 S x4 r8 h (lv_sub hl [1, 0] rfl) hW
          · refine lv_aload_n hx hb d_flip_86 rfl (lv_at hl 1 rfl) ?_
            refine lv_iload hx hb d_flip_87 (lv_at hl 0 rfl) ?_
            refine rm_cVv [.int x4] S hW (fun ρ' hc => c_sealed x4 r8 hc) q_sealed wd_1482 wd_44 wd_1480 (by decide) hl.1 rfl rfl (Nat.le_of_ble_eq_true rfl) d_flip_89 h (fun r10 H locs h hW => ?_)
            exact t_flip_92 S x4 r10 h (lv_sub hl [1, 0] rfl) hW
        · refine lv_iconst (v := -1) hx hb d_flip_79 (by decide) ?_
          exact rm_iret S hW d_flip_80 h
      · exact t_flip_42 S  r2 h (lv_sub hl [1] rfl) hW
  · refine lv_aload_n hx hb d_flip_13 rfl (lv_at hl 0 rfl) ?_
    refine lv_iconst (v := 1) hx hb d_flip_14 (by decide) ?_
    refine rm_cVi [.int (1 : Int32)] S hW (fun x ρ' hc => c_fail (1 : Int32) r2 hc) q_fail wd_1429 wd_34 wd_1427 (by decide) hl.1 rfl rfl (Nat.le_of_ble_eq_true rfl) d_flip_15 h (fun x12 r11 H locs h hW => ?_)
    exact rm_iret S hW d_flip_18 h
theorem c_flip (v1 : Int32) (v2 : Int32) (v3 : Int32) (v4 : Int32) (ρ : RS) {x : Int32} {ρ' : RS} (h : m_flip v1 v2 v3 v4 ρ = some (x, ρ')) : RMet l D tc o y_flip k_flip 6 (some .int) 3 68 [.ref o, .int v1, .int v2, .int v3, .int v4] ρ (some (.int x)) ρ' := rm_met (by decide) (Nat.le_of_ble_eq_true rfl) fun p e s m args below meth c S hW ls hl => t_flip_0 S v1 v2 v3 v4 ρ h hl hW
end

