/-! inject (I)I -/
abbrev k_inject : ByteArray := prog_12_method_59_code
abbrev y_inject : MethodName := ⟨cn_M, "inject", "(I)I"⟩
theorem q_inject : Calee y_inject k_inject 4 (some .int) 1 := ⟨wd_1663, wd_90, by decide, by decide +kernel⟩
theorem d_inject_0 : decode k_inject 0 = .ok (.aload_n 0, 1) := by decide +kernel
theorem d_inject_1 : decode k_inject 1 = .ok (.iconst 0, 1) := by decide +kernel
theorem d_inject_2 : decode k_inject 2 = .ok (.putfield 140, 3) := by decide +kernel
theorem d_inject_5 : decode k_inject 5 = .ok (.iload_n 1, 1) := by decide +kernel
theorem d_inject_6 : decode k_inject 6 = .ok (.invokestatic 336, 3) := by decide +kernel
theorem d_inject_9 : decode k_inject 9 = .ok (.ifCond .eq 9, 3) := by decide +kernel
theorem d_inject_12 : decode k_inject 12 = .ok (.aload_n 0, 1) := by decide +kernel
theorem d_inject_13 : decode k_inject 13 = .ok (.iconst 1, 1) := by decide +kernel
theorem d_inject_14 : decode k_inject 14 = .ok (.invokevirtual 327, 3) := by decide +kernel
theorem d_inject_17 : decode k_inject 17 = .ok (.ireturn, 1) := by decide +kernel
theorem d_inject_18 : decode k_inject 18 = .ok (.aload_n 0, 1) := by decide +kernel
theorem d_inject_19 : decode k_inject 19 = .ok (.getfield 323, 3) := by decide +kernel
theorem d_inject_22 : decode k_inject 22 = .ok (.sipush 1484, 3) := by decide +kernel
theorem d_inject_25 : decode k_inject 25 = .ok (.if_icmp .le 9, 3) := by decide +kernel
theorem d_inject_28 : decode k_inject 28 = .ok (.aload_n 0, 1) := by decide +kernel
theorem d_inject_29 : decode k_inject 29 = .ok (.iconst 2, 1) := by decide +kernel
theorem d_inject_30 : decode k_inject 30 = .ok (.invokevirtual 327, 3) := by decide +kernel
theorem d_inject_33 : decode k_inject 33 = .ok (.ireturn, 1) := by decide +kernel
theorem d_inject_34 : decode k_inject 34 = .ok (.aload_n 0, 1) := by decide +kernel
theorem d_inject_35 : decode k_inject 35 = .ok (.iload_n 1, 1) := by decide +kernel
theorem d_inject_36 : decode k_inject 36 = .ok (.aload_n 0, 1) := by decide +kernel
theorem d_inject_37 : decode k_inject 37 = .ok (.getfield 323, 3) := by decide +kernel
theorem d_inject_40 : decode k_inject 40 = .ok (.invokevirtual 175, 3) := by decide +kernel
theorem d_inject_43 : decode k_inject 43 = .ok (.istore_n 2, 1) := by decide +kernel
theorem d_inject_44 : decode k_inject 44 = .ok (.iconst 0, 1) := by decide +kernel
theorem d_inject_45 : decode k_inject 45 = .ok (.istore_n 3, 1) := by decide +kernel
theorem d_inject_46 : decode k_inject 46 = .ok (.iload_n 2, 1) := by decide +kernel
theorem d_inject_47 : decode k_inject 47 = .ok (.ifCond .lt 35, 3) := by decide +kernel
theorem d_inject_50 : decode k_inject 50 = .ok (.iload_n 3, 1) := by decide +kernel
theorem d_inject_51 : decode k_inject 51 = .ok (.aload_n 0, 1) := by decide +kernel
theorem d_inject_52 : decode k_inject 52 = .ok (.getfield 323, 3) := by decide +kernel
theorem d_inject_55 : decode k_inject 55 = .ok (.if_icmp .ge 27, 3) := by decide +kernel
theorem d_inject_58 : decode k_inject 58 = .ok (.aload_n 0, 1) := by decide +kernel
theorem d_inject_59 : decode k_inject 59 = .ok (.getfield 15, 3) := by decide +kernel
theorem d_inject_62 : decode k_inject 62 = .ok (.sipush 1484, 3) := by decide +kernel
theorem d_inject_65 : decode k_inject 65 = .ok (.iload_n 2, 1) := by decide +kernel
theorem d_inject_66 : decode k_inject 66 = .ok (.imul, 1) := by decide +kernel
theorem d_inject_67 : decode k_inject 67 = .ok (.iload_n 3, 1) := by decide +kernel
theorem d_inject_68 : decode k_inject 68 = .ok (.iadd, 1) := by decide +kernel
theorem d_inject_69 : decode k_inject 69 = .ok (.aload_n 0, 1) := by decide +kernel
theorem d_inject_70 : decode k_inject 70 = .ok (.getfield 8, 3) := by decide +kernel
theorem d_inject_73 : decode k_inject 73 = .ok (.iload_n 3, 1) := by decide +kernel
theorem d_inject_74 : decode k_inject 74 = .ok (.baload, 1) := by decide +kernel
theorem d_inject_75 : decode k_inject 75 = .ok (.bastore, 1) := by decide +kernel
theorem d_inject_76 : decode k_inject 76 = .ok (.iinc 3 1, 3) := by decide +kernel
theorem d_inject_79 : decode k_inject 79 = .ok (.goto (-33), 3) := by decide +kernel
theorem d_inject_82 : decode k_inject 82 = .ok (.aload_n 0, 1) := by decide +kernel
theorem d_inject_83 : decode k_inject 83 = .ok (.iconst 0, 1) := by decide +kernel
theorem d_inject_84 : decode k_inject 84 = .ok (.putfield 323, 3) := by decide +kernel
theorem d_inject_87 : decode k_inject 87 = .ok (.aload_n 0, 1) := by decide +kernel
theorem d_inject_88 : decode k_inject 88 = .ok (.getfield 144, 3) := by decide +kernel
theorem d_inject_91 : decode k_inject 91 = .ok (.ireturn, 1) := by decide +kernel
def b_inject_82 (ρ : RS) : Option (Int32 × RS) :=
  bd (si ρ 0 2 (0 : Int32)) fun r1 => bd (r1.1 0 10) fun x2 => some (x2, r1)
def F_inject_46 (rec46 : Int32 → Int32 → RS → Option (Int32 × RS)) (v2 : Int32) (v3 : Int32) (ρ : RS) : Option (Int32 × RS) :=
  if v2 < 0 then
  (b_inject_82  ρ)
 else
  (bd (ρ.1 0 2) fun x1 => if x1 ≤ v3 then
  (b_inject_82  ρ)
 else
  (gd (inb v3 65536) <| bd (ρ.1 1 v3.toNatClampNeg) fun x2 => gd (inb (((1484 : Int32) * v2) + v3) 761292) <| bd (si ρ 2 (((1484 : Int32) * v2) + v3).toNatClampNeg (vp_nar .byte x2)) fun r3 => bd (v3 + (1 : Int32)) fun x4 => rec46 v2 x4 r3))
def m_inject (v1 : Int32) (ρ : RS) : Option (Int32 × RS) :=
  bd (si ρ 0 0 (0 : Int32)) fun r1 => bc2 (m_none v1 r1) fun x3 r2 => if x3 = 0 then
  (bd (r2.1 0 2) fun x4 => if x4 ≤ (1484 : Int32) then
  (bd (r2.1 0 2) fun x5 => bc2 (m_launched v1 x5 r2) fun x7 r6 => lq3 (F_inject_46) fuel x7 (0 : Int32) r6)
 else
  (bc2 (m_fail (2 : Int32) r2) fun x9 r8 => some (x9, r8)))
 else
  (bc2 (m_fail (1 : Int32) r2) fun x11 r10 => some (x11, r10))
def P_inject_46 (p : Program) (l : Launch) (e : Env) (s : State) (m : MethodId) (args : Array Value) (below : List Frame) (meth : Method) (c : Code) (D : va_G) (tc : Nat → ClassId) (o : Nat) (v2 : Int32) (v3 : Int32) (ρ : RS) (B : Int32 × RS) : Prop := ∀ (ls : Array Slot) (H : Heap) (locs : List Loc), lv_has ls 4 [(0, .ref o), (2, .int v2), (3, .int v3)] → RWS D tc o s ρ H locs → W p l e { frames := 2, cells := 0, slots := 0, locals := 44 } s m args below meth c H locs 0 0 (MQ below (RQ D tc o (some (.int B.1)) B.2) args s 0 0 (rreg o)) (F0 m 46 ls [])
section
variable {p : Program} {l : Launch} {e : Env} {s : State} {m : MethodId} {args : Array Value} {below : List Frame} {meth : Method} {c : Code} {D : va_G} {tc : Nat → ClassId} {o : Nat}
theorem t_inject_82 (S : RC p m c k_inject 4 s args cn_M meth (some .int) D tc) (ρ : RS) {B : Int32 × RS} (h : b_inject_82  ρ = some B) {ls : Array Slot} {H : Heap} {locs : List Loc} (hl : lv_has ls 4 [(0, .ref o)]) (hW : RWS D tc o s ρ H locs) : W p l e { frames := 2, cells := 0, slots := 0, locals := 44 } s m args below meth c H locs 0 0 (MQ below (RQ D tc o (some (.int B.1)) B.2) args s 0 0 (rreg o)) (F0 m 82 ls []) := by
  have hx := S.1.1
  have hb := S.1.2.1
  unfold b_inject_82 at h
  refine lv_aload_n hx hb d_inject_82 rfl (lv_at hl 0 rfl) ?_
  refine lv_iconst (v := 0) hx hb d_inject_83 (by decide) ?_
  refine rm_puti S hW 2 wd_1254 (by decide) d_inject_84 h (fun r1 H locs h hW => ?_)
  refine lv_aload_n hx hb d_inject_87 rfl (lv_at hl 0 rfl) ?_
  refine rm_geti S hW 10 wd_1262 (by decide) d_inject_88 h (fun x2 h => ?_)
  exact rm_iret S hW d_inject_91 h
theorem tF_inject_46 (S : RC p m c k_inject 4 s args cn_M meth (some .int) D tc) : ∀ (rec46 : Int32 → Int32 → RS → Option (Int32 × RS)), (∀ (v2 : Int32) (v3 : Int32) (ρ : RS) (B : Int32 × RS), rec46 v2 v3 ρ = some B → P_inject_46 p l e s m args below meth c D tc o v2 v3 ρ B) → ∀ (v2 : Int32) (v3 : Int32) (ρ : RS) (B : Int32 × RS), F_inject_46 rec46 v2 v3 ρ = some B → P_inject_46 p l e s m args below meth c D tc o v2 v3 ρ B := by
  intro rec46 hrec46 v2 v3 ρ B h ls H locs hl hW
  have hx := S.1.1
  have hb := S.1.2.1
  unfold F_inject_46 at h
  refine lv_iload_n hx hb d_inject_46 rfl (lv_at hl 1 rfl) ?_
  refine rb_lt (tgt := 82) hx hb d_inject_47 (by decide) h (fun h => ?_) (fun h => ?_)
  · exact t_inject_82 S  ρ h (lv_sub hl [0] rfl) hW
  · refine lv_iload_n hx hb d_inject_50 rfl (lv_at hl 2 rfl) ?_
    refine lv_aload_n hx hb d_inject_51 rfl (lv_at hl 0 rfl) ?_
    refine rm_geti S hW 2 wd_1254 (by decide) d_inject_52 h (fun x1 h => ?_)
    refine rc_ge (tgt := 82) hx hb d_inject_55 (by decide) h (fun h => ?_) (fun h => ?_)
    · exact t_inject_82 S  ρ h (lv_sub hl [0] rfl) hW
    · refine lv_aload_n hx hb d_inject_58 rfl (lv_at hl 0 rfl) ?_
      refine rm_geta S hW 6 2 wd_1258 (by decide) d_inject_59 ?_
      refine lv_sipush (v := 1484) hx hb d_inject_62 (by decide) ?_
      refine lv_iload_n hx hb d_inject_65 rfl (lv_at hl 1 rfl) ?_
      refine lv_imul hx hb d_inject_66 ?_
      refine lv_iload_n hx hb d_inject_67 rfl (lv_at hl 2 rfl) ?_
      refine lv_iadd hx hb d_inject_68 ?_
      refine lv_aload_n hx hb d_inject_69 rfl (lv_at hl 0 rfl) ?_
      refine rm_geta S hW 1 1 wd_1253 (by decide) d_inject_70 ?_
      refine lv_iload_n hx hb d_inject_73 rfl (lv_at hl 2 rfl) ?_
      refine rm_bald S hW 1 65536 (by decide) d_inject_74 h (fun x2 h => ?_)
      refine rm_bast S hW 2 761292 (by decide) d_inject_75 h (fun r3 H locs h hW => ?_)
      refine rv_iinc (k := 2) (v := 1) (lv' := fun x4 => [(3, .int x4), (0, .ref o), (2, .int v2)]) hx hb d_inject_76 hl rfl (by decide) (by decide) (fun _ => rfl) h (fun x4 ls h hl => ?_)
      refine lv_goto (tgt := 46) hx hb d_inject_79 (by decide) ?_
      exact hrec46 v2 x4 r3 _ h _ _ _ (lv_sub hl [1, 2, 0] rfl) hW
theorem t_inject_46 (S : RC p m c k_inject 4 s args cn_M meth (some .int) D tc) : ∀ (n : Nat) (v2 : Int32) (v3 : Int32) (ρ : RS) (B : Int32 × RS), lq3 (F_inject_46) n v2 v3 ρ = some B → P_inject_46 p l e s m args below meth c D tc o v2 v3 ρ B := lq3_s (tF_inject_46 S)
theorem t_inject_0 (S : RC p m c k_inject 4 s args cn_M meth (some .int) D tc) (v1 : Int32) (ρ : RS) {B : Int32 × RS} (h : m_inject v1 ρ = some B) {ls : Array Slot} {H : Heap} {locs : List Loc} (hl : lv_has ls 4 [(0, .ref o), (1, .int v1)]) (hW : RWS D tc o s ρ H locs) : W p l e { frames := 2, cells := 0, slots := 0, locals := 44 } s m args below meth c H locs 0 0 (MQ below (RQ D tc o (some (.int B.1)) B.2) args s 0 0 (rreg o)) (F0 m 0 ls []) := by
  have hx := S.1.1
  have hb := S.1.2.1
  unfold m_inject at h
  refine lv_aload_n hx hb d_inject_0 rfl (lv_at hl 0 rfl) ?_
  refine lv_iconst (v := 0) hx hb d_inject_1 (by decide) ?_
  refine rm_puti S hW 0 wd_1252 (by decide) d_inject_2 h (fun r1 H locs h hW => ?_)
  refine lv_iload_n hx hb d_inject_5 rfl (lv_at hl 1 rfl) ?_
  refine rm_cSi [.int v1] S hW (fun x ρ' hc => c_none v1 r1 hc) q_none wd_1500 wd_1499 (by decide) hl.1 rfl rfl (Nat.le_of_ble_eq_true rfl) d_inject_6 h (fun x3 r2 H locs h hW => ?_)
  refine rb_eq (tgt := 18) hx hb d_inject_9 (by decide) h (fun h => ?_) (fun h => ?_)
  · refine lv_aload_n hx hb d_inject_18 rfl (lv_at hl 0 rfl) ?_
    refine rm_geti S hW 2 wd_1254 (by decide) d_inject_19 h (fun x4 h => ?_)
    refine lv_sipush (v := 1484) hx hb d_inject_22 (by decide) ?_
    refine rc_le (tgt := 34) hx hb d_inject_25 (by decide) h (fun h => ?_) (fun h => ?_)
    · refine lv_aload_n hx hb d_inject_34 rfl (lv_at hl 0 rfl) ?_
      refine lv_iload_n hx hb d_inject_35 rfl (lv_at hl 1 rfl) ?_
      refine lv_aload_n hx hb d_inject_36 rfl (lv_at hl 0 rfl) ?_
      refine rm_geti S hW 2 wd_1254 (by decide) d_inject_37 h (fun x5 h => ?_)
      refine rm_cVi [.int v1, .int x5] S hW (fun x ρ' hc => c_launched v1 x5 r2 hc) q_launched wd_1464 wd_40 wd_1462 (by decide) hl.1 rfl rfl (Nat.le_of_ble_eq_true rfl) d_inject_40 h (fun x7 r6 H locs h hW => ?_)
      refine lv_istore_n (lv' := [(2, .int x7), (0, .ref o), (1, .int v1)]) hx hb d_inject_43 rfl hl (by decide) rfl (fun ls hl => ?_)
      refine lv_iconst (v := 0) hx hb d_inject_44 (by decide) ?_
      refine lv_istore_n (lv' := [(3, .int (0 : Int32)), (2, .int x7), (0, .ref o), (1, .int v1)]) hx hb d_inject_45 rfl hl (by decide) rfl (fun ls hl => ?_)
      exact t_inject_46 S fuel x7 (0 : Int32) r6 _ h _ _ _ (lv_sub hl [2, 1, 0] rfl) hW
    · refine lv_aload_n hx hb d_inject_28 rfl (lv_at hl 0 rfl) ?_
      refine lv_iconst (v := 2) hx hb d_inject_29 (by decide) ?_
      refine rm_cVi [.int (2 : Int32)] S hW (fun x ρ' hc => c_fail (2 : Int32) r2 hc) q_fail wd_1429 wd_34 wd_1427 (by decide) hl.1 rfl rfl (Nat.le_of_ble_eq_true rfl) d_inject_30 h (fun x9 r8 H locs h hW => ?_)
      exact rm_iret S hW d_inject_33 h
  · refine lv_aload_n hx hb d_inject_12 rfl (lv_at hl 0 rfl) ?_
    refine lv_iconst (v := 1) hx hb d_inject_13 (by decide) ?_
    refine rm_cVi [.int (1 : Int32)] S hW (fun x ρ' hc => c_fail (1 : Int32) r2 hc) q_fail wd_1429 wd_34 wd_1427 (by decide) hl.1 rfl rfl (Nat.le_of_ble_eq_true rfl) d_inject_14 h (fun x11 r10 H locs h hW => ?_)
    exact rm_iret S hW d_inject_17 h
theorem c_inject (v1 : Int32) (ρ : RS) {x : Int32} {ρ' : RS} (h : m_inject v1 ρ = some (x, ρ')) : RMet l D tc o y_inject k_inject 4 (some .int) 2 44 [.ref o, .int v1] ρ (some (.int x)) ρ' := rm_met (by decide) (Nat.le_of_ble_eq_true rfl) fun p e s m args below meth c S hW ls hl => t_inject_0 S v1 ρ h hl hW
end

/-! seen (II)I -/
abbrev k_seen : ByteArray := prog_12_method_60_code
abbrev y_seen : MethodName := ⟨cn_M, "seen", "(II)I"⟩
theorem q_seen : Calee y_seen k_seen 4 (some .int) 2 := ⟨wd_1667, wd_90, by decide, by decide +kernel⟩
theorem d_seen_0 : decode k_seen 0 = .ok (.aload_n 0, 1) := by decide +kernel
theorem d_seen_1 : decode k_seen 1 = .ok (.iconst 0, 1) := by decide +kernel
theorem d_seen_2 : decode k_seen 2 = .ok (.putfield 140, 3) := by decide +kernel
theorem d_seen_5 : decode k_seen 5 = .ok (.aload_n 0, 1) := by decide +kernel
theorem d_seen_6 : decode k_seen 6 = .ok (.iload_n 1, 1) := by decide +kernel
theorem d_seen_7 : decode k_seen 7 = .ok (.invokevirtual 344, 3) := by decide +kernel
theorem d_seen_10 : decode k_seen 10 = .ok (.ifCond .eq 9, 3) := by decide +kernel
theorem d_seen_13 : decode k_seen 13 = .ok (.aload_n 0, 1) := by decide +kernel
theorem d_seen_14 : decode k_seen 14 = .ok (.iconst 1, 1) := by decide +kernel
theorem d_seen_15 : decode k_seen 15 = .ok (.invokevirtual 327, 3) := by decide +kernel
theorem d_seen_18 : decode k_seen 18 = .ok (.ireturn, 1) := by decide +kernel
theorem d_seen_19 : decode k_seen 19 = .ok (.aload_n 0, 1) := by decide +kernel
theorem d_seen_20 : decode k_seen 20 = .ok (.getfield 25, 3) := by decide +kernel
theorem d_seen_23 : decode k_seen 23 = .ok (.iload_n 1, 1) := by decide +kernel
theorem d_seen_24 : decode k_seen 24 = .ok (.iaload, 1) := by decide +kernel
theorem d_seen_25 : decode k_seen 25 = .ok (.istore_n 3, 1) := by decide +kernel
theorem d_seen_26 : decode k_seen 26 = .ok (.iload_n 2, 1) := by decide +kernel
theorem d_seen_27 : decode k_seen 27 = .ok (.bipush (-2), 2) := by decide +kernel
theorem d_seen_29 : decode k_seen 29 = .ok (.if_icmp .lt 13, 3) := by decide +kernel
theorem d_seen_32 : decode k_seen 32 = .ok (.iload_n 2, 1) := by decide +kernel
theorem d_seen_33 : decode k_seen 33 = .ok (.aload_n 0, 1) := by decide +kernel
theorem d_seen_34 : decode k_seen 34 = .ok (.getfield 18, 3) := by decide +kernel
theorem d_seen_37 : decode k_seen 37 = .ok (.iload_n 3, 1) := by decide +kernel
theorem d_seen_38 : decode k_seen 38 = .ok (.iaload, 1) := by decide +kernel
theorem d_seen_39 : decode k_seen 39 = .ok (.if_icmp .lt 9, 3) := by decide +kernel
theorem d_seen_42 : decode k_seen 42 = .ok (.aload_n 0, 1) := by decide +kernel
theorem d_seen_43 : decode k_seen 43 = .ok (.iconst 2, 1) := by decide +kernel
theorem d_seen_44 : decode k_seen 44 = .ok (.invokevirtual 327, 3) := by decide +kernel
theorem d_seen_47 : decode k_seen 47 = .ok (.ireturn, 1) := by decide +kernel
theorem d_seen_48 : decode k_seen 48 = .ok (.iload_n 2, 1) := by decide +kernel
theorem d_seen_49 : decode k_seen 49 = .ok (.bipush (-2), 2) := by decide +kernel
theorem d_seen_51 : decode k_seen 51 = .ok (.if_icmp .ne 12, 3) := by decide +kernel
theorem d_seen_54 : decode k_seen 54 = .ok (.aload_n 0, 1) := by decide +kernel
theorem d_seen_55 : decode k_seen 55 = .ok (.getfield 22, 3) := by decide +kernel
theorem d_seen_58 : decode k_seen 58 = .ok (.iload_n 3, 1) := by decide +kernel
theorem d_seen_59 : decode k_seen 59 = .ok (.iaload, 1) := by decide +kernel
theorem d_seen_60 : decode k_seen 60 = .ok (.goto 23, 3) := by decide +kernel
theorem d_seen_63 : decode k_seen 63 = .ok (.iload_n 2, 1) := by decide +kernel
theorem d_seen_64 : decode k_seen 64 = .ok (.iconst (-1), 1) := by decide +kernel
theorem d_seen_65 : decode k_seen 65 = .ok (.if_icmp .ne 12, 3) := by decide +kernel
theorem d_seen_68 : decode k_seen 68 = .ok (.aload_n 0, 1) := by decide +kernel
theorem d_seen_69 : decode k_seen 69 = .ok (.getfield 18, 3) := by decide +kernel
theorem d_seen_72 : decode k_seen 72 = .ok (.iload_n 3, 1) := by decide +kernel
theorem d_seen_73 : decode k_seen 73 = .ok (.iaload, 1) := by decide +kernel
theorem d_seen_74 : decode k_seen 74 = .ok (.goto 9, 3) := by decide +kernel
theorem d_seen_77 : decode k_seen 77 = .ok (.aload_n 0, 1) := by decide +kernel
theorem d_seen_78 : decode k_seen 78 = .ok (.iload_n 3, 1) := by decide +kernel
theorem d_seen_79 : decode k_seen 79 = .ok (.iload_n 2, 1) := by decide +kernel
theorem d_seen_80 : decode k_seen 80 = .ok (.invokevirtual 154, 3) := by decide +kernel
theorem d_seen_83 : decode k_seen 83 = .ok (.ireturn, 1) := by decide +kernel
def b_seen_83 (w0 : Int32) (ρ : RS) : Option (Int32 × RS) :=
  some (w0, ρ)
def b_seen_42 (ρ : RS) : Option (Int32 × RS) :=
  bc2 (m_fail (2 : Int32) ρ) fun x2 r1 => some (x2, r1)
def m_seen (v1 : Int32) (v2 : Int32) (ρ : RS) : Option (Int32 × RS) :=
  bd (si ρ 0 0 (0 : Int32)) fun r1 => bc2 (m_noWay v1 r1) fun x3 r2 => if x3 = 0 then
  (gd (inb v1 512) <| bd (r2.1 5 v1.toNatClampNeg) fun x4 => if v2 < (-2 : Int32) then
  (b_seen_42  r2)
 else
  (gd (inb x4 513) <| bd (r2.1 3 x4.toNatClampNeg) fun x5 => if v2 < x5 then
  (if v2 = (-2 : Int32) then
  (gd (inb x4 513) <| bd (r2.1 4 x4.toNatClampNeg) fun x9 => b_seen_83 x9 r2)
 else
  (if v2 = (-1 : Int32) then
  (gd (inb x4 513) <| bd (r2.1 3 x4.toNatClampNeg) fun x8 => b_seen_83 x8 r2)
 else
  (bc2 (m_here x4 v2 r2) fun x7 r6 => b_seen_83 x7 r6)))
 else
  (b_seen_42  r2)))
 else
  (bc2 (m_fail (1 : Int32) r2) fun x11 r10 => some (x11, r10))
section
variable {p : Program} {l : Launch} {e : Env} {s : State} {m : MethodId} {args : Array Value} {below : List Frame} {meth : Method} {c : Code} {D : va_G} {tc : Nat → ClassId} {o : Nat}
theorem t_seen_83 (S : RC p m c k_seen 4 s args cn_M meth (some .int) D tc) (w0 : Int32) (ρ : RS) {B : Int32 × RS} (h : b_seen_83 w0 ρ = some B) {ls : Array Slot} {H : Heap} {locs : List Loc} (hl : lv_has ls 4 []) (hW : RWS D tc o s ρ H locs) : W p l e { frames := 1, cells := 0, slots := 0, locals := 22 } s m args below meth c H locs 0 0 (MQ below (RQ D tc o (some (.int B.1)) B.2) args s 0 0 (rreg o)) (F0 m 83 ls [.int w0]) := by
  have hx := S.1.1
  have hb := S.1.2.1
  unfold b_seen_83 at h
  exact rm_iret S hW d_seen_83 h
theorem t_seen_42 (S : RC p m c k_seen 4 s args cn_M meth (some .int) D tc) (ρ : RS) {B : Int32 × RS} (h : b_seen_42  ρ = some B) {ls : Array Slot} {H : Heap} {locs : List Loc} (hl : lv_has ls 4 [(0, .ref o)]) (hW : RWS D tc o s ρ H locs) : W p l e { frames := 1, cells := 0, slots := 0, locals := 22 } s m args below meth c H locs 0 0 (MQ below (RQ D tc o (some (.int B.1)) B.2) args s 0 0 (rreg o)) (F0 m 42 ls []) := by
  have hx := S.1.1
  have hb := S.1.2.1
  unfold b_seen_42 at h
  refine lv_aload_n hx hb d_seen_42 rfl (lv_at hl 0 rfl) ?_
  refine lv_iconst (v := 2) hx hb d_seen_43 (by decide) ?_
  refine rm_cVi [.int (2 : Int32)] S hW (fun x ρ' hc => c_fail (2 : Int32) ρ hc) q_fail wd_1429 wd_34 wd_1427 (by decide) hl.1 rfl rfl (Nat.le_of_ble_eq_true rfl) d_seen_44 h (fun x2 r1 H locs h hW => ?_)
  exact rm_iret S hW d_seen_47 h
theorem t_seen_0 (S : RC p m c k_seen 4 s args cn_M meth (some .int) D tc) (v1 : Int32) (v2 : Int32) (ρ : RS) {B : Int32 × RS} (h : m_seen v1 v2 ρ = some B) {ls : Array Slot} {H : Heap} {locs : List Loc} (hl : lv_has ls 4 [(0, .ref o), (1, .int v1), (2, .int v2)]) (hW : RWS D tc o s ρ H locs) : W p l e { frames := 1, cells := 0, slots := 0, locals := 22 } s m args below meth c H locs 0 0 (MQ below (RQ D tc o (some (.int B.1)) B.2) args s 0 0 (rreg o)) (F0 m 0 ls []) := by
  have hx := S.1.1
  have hb := S.1.2.1
  unfold m_seen at h
  refine lv_aload_n hx hb d_seen_0 rfl (lv_at hl 0 rfl) ?_
  refine lv_iconst (v := 0) hx hb d_seen_1 (by decide) ?_
  refine rm_puti S hW 0 wd_1252 (by decide) d_seen_2 h (fun r1 H locs h hW => ?_)
  refine lv_aload_n hx hb d_seen_5 rfl (lv_at hl 0 rfl) ?_
  refine lv_iload_n hx hb d_seen_6 rfl (lv_at hl 1 rfl) ?_
  refine rm_cVi [.int v1] S hW (fun x ρ' hc => c_noWay v1 r1 hc) q_noWay wd_1563 wd_55 wd_1561 (by decide) hl.1 rfl rfl (Nat.le_of_ble_eq_true rfl) d_seen_7 h (fun x3 r2 H locs h hW => ?_)
  refine rb_eq (tgt := 19) hx hb d_seen_10 (by decide) h (fun h => ?_) (fun h => ?_)
  · refine lv_aload_n hx hb d_seen_19 rfl (lv_at hl 0 rfl) ?_
    refine rm_geta S hW 9 5 wd_1261 (by decide) d_seen_20 ?_
    refine lv_iload_n hx hb d_seen_23 rfl (lv_at hl 1 rfl) ?_
    refine rm_iald S hW 5 512 (by decide) d_seen_24 h (fun x4 h => ?_)
    refine lv_istore_n (lv' := [(3, .int x4), (0, .ref o), (1, .int v1), (2, .int v2)]) hx hb d_seen_25 rfl hl (by decide) rfl (fun ls hl => ?_)
    refine lv_iload_n hx hb d_seen_26 rfl (lv_at hl 3 rfl) ?_
    refine lv_bipush (v := -2) hx hb d_seen_27 (by decide) ?_
    refine rc_lt (tgt := 42) hx hb d_seen_29 (by decide) h (fun h => ?_) (fun h => ?_)
    · exact t_seen_42 S  r2 h (lv_sub hl [1] rfl) hW
    · refine lv_iload_n hx hb d_seen_32 rfl (lv_at hl 3 rfl) ?_
      refine lv_aload_n hx hb d_seen_33 rfl (lv_at hl 1 rfl) ?_
      refine rm_geta S hW 7 3 wd_1259 (by decide) d_seen_34 ?_
      refine lv_iload_n hx hb d_seen_37 rfl (lv_at hl 0 rfl) ?_
      refine rm_iald S hW 3 513 (by decide) d_seen_38 h (fun x5 h => ?_)
      refine rc_lt (tgt := 48) hx hb d_seen_39 (by decide) h (fun h => ?_) (fun h => ?_)
      · refine lv_iload_n hx hb d_seen_48 rfl (lv_at hl 3 rfl) ?_
        refine lv_bipush (v := -2) hx hb d_seen_49 (by decide) ?_
        refine rc_ne (tgt := 63) hx hb d_seen_51 (by decide) h (fun h => ?_) (fun h => ?_)
        · refine lv_iload_n hx hb d_seen_63 rfl (lv_at hl 3 rfl) ?_
          refine lv_iconst (v := -1) hx hb d_seen_64 (by decide) ?_
          refine rc_ne (tgt := 77) hx hb d_seen_65 (by decide) h (fun h => ?_) (fun h => ?_)
          · refine lv_aload_n hx hb d_seen_77 rfl (lv_at hl 1 rfl) ?_
            refine lv_iload_n hx hb d_seen_78 rfl (lv_at hl 0 rfl) ?_
            refine lv_iload_n hx hb d_seen_79 rfl (lv_at hl 3 rfl) ?_
            refine rm_cVi [.int x4, .int v2] S hW (fun x ρ' hc => c_here x4 v2 r2 hc) q_here wd_1492 wd_46 wd_1490 (by decide) hl.1 rfl rfl (Nat.le_of_ble_eq_true rfl) d_seen_80 h (fun x7 r6 H locs h hW => ?_)
            exact t_seen_83 S x7 r6 h (lv_sub hl [] rfl) hW
          · refine lv_aload_n hx hb d_seen_68 rfl (lv_at hl 1 rfl) ?_
            refine rm_geta S hW 7 3 wd_1259 (by decide) d_seen_69 ?_
            refine lv_iload_n hx hb d_seen_72 rfl (lv_at hl 0 rfl) ?_
            refine rm_iald S hW 3 513 (by decide) d_seen_73 h (fun x8 h => ?_)
            refine lv_goto (tgt := 83) hx hb d_seen_74 (by decide) ?_
            exact t_seen_83 S x8 r2 h (lv_sub hl [] rfl) hW
        · refine lv_aload_n hx hb d_seen_54 rfl (lv_at hl 1 rfl) ?_
          refine rm_geta S hW 8 4 wd_1260 (by decide) d_seen_55 ?_
          refine lv_iload_n hx hb d_seen_58 rfl (lv_at hl 0 rfl) ?_
          refine rm_iald S hW 4 513 (by decide) d_seen_59 h (fun x9 h => ?_)
          refine lv_goto (tgt := 83) hx hb d_seen_60 (by decide) ?_
          exact t_seen_83 S x9 r2 h (lv_sub hl [] rfl) hW
      · exact t_seen_42 S  r2 h (lv_sub hl [1] rfl) hW
  · refine lv_aload_n hx hb d_seen_13 rfl (lv_at hl 0 rfl) ?_
    refine lv_iconst (v := 1) hx hb d_seen_14 (by decide) ?_
    refine rm_cVi [.int (1 : Int32)] S hW (fun x ρ' hc => c_fail (1 : Int32) r2 hc) q_fail wd_1429 wd_34 wd_1427 (by decide) hl.1 rfl rfl (Nat.le_of_ble_eq_true rfl) d_seen_15 h (fun x11 r10 H locs h hW => ?_)
    exact rm_iret S hW d_seen_18 h
theorem c_seen (v1 : Int32) (v2 : Int32) (ρ : RS) {x : Int32} {ρ' : RS} (h : m_seen v1 v2 ρ = some (x, ρ')) : RMet l D tc o y_seen k_seen 4 (some .int) 1 22 [.ref o, .int v1, .int v2] ρ (some (.int x)) ρ' := rm_met (by decide) (Nat.le_of_ble_eq_true rfl) fun p e s m args below meth c S hW ls hl => t_seen_0 S v1 v2 ρ h hl hW
end

/-! waiting (I)I -/
abbrev k_waiting : ByteArray := prog_12_method_61_code
abbrev y_waiting : MethodName := ⟨cn_M, "waiting", "(I)I"⟩
theorem q_waiting : Calee y_waiting k_waiting 3 (some .int) 1 := ⟨wd_1675, wd_90, by decide, by decide +kernel⟩
theorem d_waiting_0 : decode k_waiting 0 = .ok (.aload_n 0, 1) := by decide +kernel
theorem d_waiting_1 : decode k_waiting 1 = .ok (.getfield 45, 3) := by decide +kernel
theorem d_waiting_4 : decode k_waiting 4 = .ok (.iload_n 1, 1) := by decide +kernel
theorem d_waiting_5 : decode k_waiting 5 = .ok (.iaload, 1) := by decide +kernel
theorem d_waiting_6 : decode k_waiting 6 = .ok (.aload_n 0, 1) := by decide +kernel
theorem d_waiting_7 : decode k_waiting 7 = .ok (.getfield 42, 3) := by decide +kernel
theorem d_waiting_10 : decode k_waiting 10 = .ok (.iload_n 1, 1) := by decide +kernel
theorem d_waiting_11 : decode k_waiting 11 = .ok (.iaload, 1) := by decide +kernel
theorem d_waiting_12 : decode k_waiting 12 = .ok (.isub, 1) := by decide +kernel
theorem d_waiting_13 : decode k_waiting 13 = .ok (.iconst 1, 1) := by decide +kernel
theorem d_waiting_14 : decode k_waiting 14 = .ok (.isub, 1) := by decide +kernel
theorem d_waiting_15 : decode k_waiting 15 = .ok (.istore_n 2, 1) := by decide +kernel
theorem d_waiting_16 : decode k_waiting 16 = .ok (.iload_n 2, 1) := by decide +kernel
theorem d_waiting_17 : decode k_waiting 17 = .ok (.ifCond .ge 7, 3) := by decide +kernel
theorem d_waiting_20 : decode k_waiting 20 = .ok (.iconst 0, 1) := by decide +kernel
theorem d_waiting_21 : decode k_waiting 21 = .ok (.goto 23, 3) := by decide +kernel
theorem d_waiting_24 : decode k_waiting 24 = .ok (.iload_n 2, 1) := by decide +kernel
theorem d_waiting_25 : decode k_waiting 25 = .ok (.aload_n 0, 1) := by decide +kernel
theorem d_waiting_26 : decode k_waiting 26 = .ok (.getfield 108, 3) := by decide +kernel
theorem d_waiting_29 : decode k_waiting 29 = .ok (.iload_n 1, 1) := by decide +kernel
theorem d_waiting_30 : decode k_waiting 30 = .ok (.iaload, 1) := by decide +kernel
theorem d_waiting_31 : decode k_waiting 31 = .ok (.if_icmp .le 12, 3) := by decide +kernel
theorem d_waiting_34 : decode k_waiting 34 = .ok (.aload_n 0, 1) := by decide +kernel
theorem d_waiting_35 : decode k_waiting 35 = .ok (.getfield 108, 3) := by decide +kernel
theorem d_waiting_38 : decode k_waiting 38 = .ok (.iload_n 1, 1) := by decide +kernel
theorem d_waiting_39 : decode k_waiting 39 = .ok (.iaload, 1) := by decide +kernel
theorem d_waiting_40 : decode k_waiting 40 = .ok (.goto 4, 3) := by decide +kernel
theorem d_waiting_43 : decode k_waiting 43 = .ok (.iload_n 2, 1) := by decide +kernel
theorem d_waiting_44 : decode k_waiting 44 = .ok (.istore_n 2, 1) := by decide +kernel
theorem d_waiting_45 : decode k_waiting 45 = .ok (.aload_n 0, 1) := by decide +kernel
theorem d_waiting_46 : decode k_waiting 46 = .ok (.getfield 108, 3) := by decide +kernel
theorem d_waiting_49 : decode k_waiting 49 = .ok (.iload_n 1, 1) := by decide +kernel
theorem d_waiting_50 : decode k_waiting 50 = .ok (.iaload, 1) := by decide +kernel
theorem d_waiting_51 : decode k_waiting 51 = .ok (.iload_n 2, 1) := by decide +kernel
theorem d_waiting_52 : decode k_waiting 52 = .ok (.isub, 1) := by decide +kernel
theorem d_waiting_53 : decode k_waiting 53 = .ok (.ireturn, 1) := by decide +kernel
def b_waiting_44 (v1 : Int32) (w0 : Int32) (ρ : RS) : Option (Int32 × RS) :=
  gd (inb v1 2) <| bd (ρ.1 32 v1.toNatClampNeg) fun x1 => some (x1 - w0, ρ)
def m_waiting (v1 : Int32) (ρ : RS) : Option (Int32 × RS) :=
  gd (inb v1 2) <| bd (ρ.1 11 v1.toNatClampNeg) fun x1 => gd (inb v1 2) <| bd (ρ.1 10 v1.toNatClampNeg) fun x2 => bd ((x1 - x2) - (1 : Int32)) fun x3 => if 0 ≤ x3 then
  (gd (inb v1 2) <| bd (ρ.1 32 v1.toNatClampNeg) fun x4 => if x3 ≤ x4 then
  (b_waiting_44 v1 x3 ρ)
 else
  (gd (inb v1 2) <| bd (ρ.1 32 v1.toNatClampNeg) fun x5 => b_waiting_44 v1 x5 ρ))
 else
  (b_waiting_44 v1 (0 : Int32) ρ)
section
variable {p : Program} {l : Launch} {e : Env} {s : State} {m : MethodId} {args : Array Value} {below : List Frame} {meth : Method} {c : Code} {D : va_G} {tc : Nat → ClassId} {o : Nat}
theorem t_waiting_44 (S : RC p m c k_waiting 3 s args cn_M meth (some .int) D tc) (v1 : Int32) (w0 : Int32) (ρ : RS) {B : Int32 × RS} (h : b_waiting_44 v1 w0 ρ = some B) {ls : Array Slot} {H : Heap} {locs : List Loc} (hl : lv_has ls 3 [(0, .ref o), (1, .int v1)]) (hW : RWS D tc o s ρ H locs) : W p l e { frames := 0, cells := 0, slots := 0, locals := 0 } s m args below meth c H locs 0 0 (MQ below (RQ D tc o (some (.int B.1)) B.2) args s 0 0 (rreg o)) (F0 m 44 ls [.int w0]) := by
  have hx := S.1.1
  have hb := S.1.2.1
  unfold b_waiting_44 at h
  refine lv_istore_n (lv' := [(2, .int w0), (0, .ref o), (1, .int v1)]) hx hb d_waiting_44 rfl hl (by decide) rfl (fun ls hl => ?_)
  refine lv_aload_n hx hb d_waiting_45 rfl (lv_at hl 1 rfl) ?_
  refine rm_geta S hW 37 32 wd_1289 (by decide) d_waiting_46 ?_
  refine lv_iload_n hx hb d_waiting_49 rfl (lv_at hl 2 rfl) ?_
  refine rm_iald S hW 32 2 (by decide) d_waiting_50 h (fun x1 h => ?_)
  refine lv_iload_n hx hb d_waiting_51 rfl (lv_at hl 0 rfl) ?_
  refine lv_isub hx hb d_waiting_52 ?_
  exact rm_iret S hW d_waiting_53 h
theorem t_waiting_0 (S : RC p m c k_waiting 3 s args cn_M meth (some .int) D tc) (v1 : Int32) (ρ : RS) {B : Int32 × RS} (h : m_waiting v1 ρ = some B) {ls : Array Slot} {H : Heap} {locs : List Loc} (hl : lv_has ls 3 [(0, .ref o), (1, .int v1)]) (hW : RWS D tc o s ρ H locs) : W p l e { frames := 0, cells := 0, slots := 0, locals := 0 } s m args below meth c H locs 0 0 (MQ below (RQ D tc o (some (.int B.1)) B.2) args s 0 0 (rreg o)) (F0 m 0 ls []) := by
  have hx := S.1.1
  have hb := S.1.2.1
  unfold m_waiting at h
  refine lv_aload_n hx hb d_waiting_0 rfl (lv_at hl 0 rfl) ?_
  refine rm_geta S hW 16 11 wd_1268 (by decide) d_waiting_1 ?_
  refine lv_iload_n hx hb d_waiting_4 rfl (lv_at hl 1 rfl) ?_
  refine rm_iald S hW 11 2 (by decide) d_waiting_5 h (fun x1 h => ?_)
  refine lv_aload_n hx hb d_waiting_6 rfl (lv_at hl 0 rfl) ?_
  refine rm_geta S hW 15 10 wd_1267 (by decide) d_waiting_7 ?_
  refine lv_iload_n hx hb d_waiting_10 rfl (lv_at hl 1 rfl) ?_
  refine rm_iald S hW 10 2 (by decide) d_waiting_11 h (fun x2 h => ?_)
  refine lv_isub hx hb d_waiting_12 ?_
  refine lv_iconst (v := 1) hx hb d_waiting_13 (by decide) ?_
  refine lv_isub hx hb d_waiting_14 ?_
  refine rv_i h (fun x3 h => ?_)
  refine lv_istore_n (lv' := [(2, .int x3), (0, .ref o), (1, .int v1)]) hx hb d_waiting_15 rfl hl (by decide) rfl (fun ls hl => ?_)
  refine lv_iload_n hx hb d_waiting_16 rfl (lv_at hl 0 rfl) ?_
  refine rb_ge (tgt := 24) hx hb d_waiting_17 (by decide) h (fun h => ?_) (fun h => ?_)
  · refine lv_iload_n hx hb d_waiting_24 rfl (lv_at hl 0 rfl) ?_
    refine lv_aload_n hx hb d_waiting_25 rfl (lv_at hl 1 rfl) ?_
    refine rm_geta S hW 37 32 wd_1289 (by decide) d_waiting_26 ?_
    refine lv_iload_n hx hb d_waiting_29 rfl (lv_at hl 2 rfl) ?_
    refine rm_iald S hW 32 2 (by decide) d_waiting_30 h (fun x4 h => ?_)
    refine rc_le (tgt := 43) hx hb d_waiting_31 (by decide) h (fun h => ?_) (fun h => ?_)
    · refine lv_iload_n hx hb d_waiting_43 rfl (lv_at hl 0 rfl) ?_
      exact t_waiting_44 S v1 x3 ρ h (lv_sub hl [1, 2] rfl) hW
    · refine lv_aload_n hx hb d_waiting_34 rfl (lv_at hl 1 rfl) ?_
      refine rm_geta S hW 37 32 wd_1289 (by decide) d_waiting_35 ?_
      refine lv_iload_n hx hb d_waiting_38 rfl (lv_at hl 2 rfl) ?_
      refine rm_iald S hW 32 2 (by decide) d_waiting_39 h (fun x5 h => ?_)
      refine lv_goto (tgt := 44) hx hb d_waiting_40 (by decide) ?_
      exact t_waiting_44 S v1 x5 ρ h (lv_sub hl [1, 2] rfl) hW
  · refine lv_iconst (v := 0) hx hb d_waiting_20 (by decide) ?_
    refine lv_goto (tgt := 44) hx hb d_waiting_21 (by decide) ?_
    exact t_waiting_44 S v1 (0 : Int32) ρ h (lv_sub hl [1, 2] rfl) hW
theorem c_waiting (v1 : Int32) (ρ : RS) {x : Int32} {ρ' : RS} (h : m_waiting v1 ρ = some (x, ρ')) : RMet l D tc o y_waiting k_waiting 3 (some .int) 0 0 [.ref o, .int v1] ρ (some (.int x)) ρ' := rm_met (by decide) (Nat.le_of_ble_eq_true rfl) fun p e s m args below meth c S hW ls hl => t_waiting_0 S v1 ρ h hl hW
end

/-! keptBytes (I)I -/
abbrev k_keptBytes : ByteArray := prog_12_method_62_code
abbrev y_keptBytes : MethodName := ⟨cn_M, "keptBytes", "(I)I"⟩
theorem q_keptBytes : Calee y_keptBytes k_keptBytes 4 (some .int) 1 := ⟨wd_1679, wd_90, by decide, by decide +kernel⟩
theorem d_keptBytes_0 : decode k_keptBytes 0 = .ok (.iconst 0, 1) := by decide +kernel
theorem d_keptBytes_1 : decode k_keptBytes 1 = .ok (.istore_n 2, 1) := by decide +kernel
theorem d_keptBytes_2 : decode k_keptBytes 2 = .ok (.iconst 0, 1) := by decide +kernel
theorem d_keptBytes_3 : decode k_keptBytes 3 = .ok (.istore_n 3, 1) := by decide +kernel
theorem d_keptBytes_4 : decode k_keptBytes 4 = .ok (.iload_n 3, 1) := by decide +kernel
theorem d_keptBytes_5 : decode k_keptBytes 5 = .ok (.ldc 7, 2) := by decide +kernel
theorem d_keptBytes_7 : decode k_keptBytes 7 = .ok (.if_icmp .ge 26, 3) := by decide +kernel
theorem d_keptBytes_10 : decode k_keptBytes 10 = .ok (.aload_n 0, 1) := by decide +kernel
theorem d_keptBytes_11 : decode k_keptBytes 11 = .ok (.getfield 137, 3) := by decide +kernel
theorem d_keptBytes_14 : decode k_keptBytes 14 = .ok (.ldc 7, 2) := by decide +kernel
theorem d_keptBytes_16 : decode k_keptBytes 16 = .ok (.iload_n 1, 1) := by decide +kernel
theorem d_keptBytes_17 : decode k_keptBytes 17 = .ok (.imul, 1) := by decide +kernel
theorem d_keptBytes_18 : decode k_keptBytes 18 = .ok (.iload_n 3, 1) := by decide +kernel
theorem d_keptBytes_19 : decode k_keptBytes 19 = .ok (.iadd, 1) := by decide +kernel
theorem d_keptBytes_20 : decode k_keptBytes 20 = .ok (.baload, 1) := by decide +kernel
theorem d_keptBytes_21 : decode k_keptBytes 21 = .ok (.ifCond .eq 6, 3) := by decide +kernel
theorem d_keptBytes_24 : decode k_keptBytes 24 = .ok (.iinc 2 1, 3) := by decide +kernel
theorem d_keptBytes_27 : decode k_keptBytes 27 = .ok (.iinc 3 1, 3) := by decide +kernel
theorem d_keptBytes_30 : decode k_keptBytes 30 = .ok (.goto (-26), 3) := by decide +kernel
theorem d_keptBytes_33 : decode k_keptBytes 33 = .ok (.iload_n 2, 1) := by decide +kernel
theorem d_keptBytes_34 : decode k_keptBytes 34 = .ok (.ireturn, 1) := by decide +kernel
def b_keptBytes_27 (rec4 : Int32 → Int32 → Int32 → RS → Option (Int32 × RS)) (v1 : Int32) (v2 : Int32) (v3 : Int32) (ρ : RS) : Option (Int32 × RS) :=
  bd (v3 + (1 : Int32)) fun x1 => rec4 v1 v2 x1 ρ
def F_keptBytes_4 (rec4 : Int32 → Int32 → Int32 → RS → Option (Int32 × RS)) (v1 : Int32) (v2 : Int32) (v3 : Int32) (ρ : RS) : Option (Int32 × RS) :=
  if (65536 : Int32) ≤ v3 then
  (some (v2, ρ))
 else
  (gd (inb (((65536 : Int32) * v1) + v3) 131072) <| bd (ρ.1 40 (((65536 : Int32) * v1) + v3).toNatClampNeg) fun x1 => if x1 = 0 then
  (b_keptBytes_27 rec4 v1 v2 v3 ρ)
 else
  (bd (v2 + (1 : Int32)) fun x2 => b_keptBytes_27 rec4 v1 x2 v3 ρ))
def m_keptBytes (v1 : Int32) (ρ : RS) : Option (Int32 × RS) :=
  lq4 (F_keptBytes_4) fuel v1 (0 : Int32) (0 : Int32) ρ
def P_keptBytes_4 (p : Program) (l : Launch) (e : Env) (s : State) (m : MethodId) (args : Array Value) (below : List Frame) (meth : Method) (c : Code) (D : va_G) (tc : Nat → ClassId) (o : Nat) (v1 : Int32) (v2 : Int32) (v3 : Int32) (ρ : RS) (B : Int32 × RS) : Prop := ∀ (ls : Array Slot) (H : Heap) (locs : List Loc), lv_has ls 4 [(0, .ref o), (1, .int v1), (2, .int v2), (3, .int v3)] → RWS D tc o s ρ H locs → W p l e { frames := 0, cells := 0, slots := 0, locals := 0 } s m args below meth c H locs 0 0 (MQ below (RQ D tc o (some (.int B.1)) B.2) args s 0 0 (rreg o)) (F0 m 4 ls [])
section
variable {p : Program} {l : Launch} {e : Env} {s : State} {m : MethodId} {args : Array Value} {below : List Frame} {meth : Method} {c : Code} {D : va_G} {tc : Nat → ClassId} {o : Nat}
theorem t_keptBytes_27 (S : RC p m c k_keptBytes 4 s args cn_M meth (some .int) D tc) {rec4 : Int32 → Int32 → Int32 → RS → Option (Int32 × RS)} (hrec4 : ∀ (v1 : Int32) (v2 : Int32) (v3 : Int32) (ρ : RS) (B : Int32 × RS), rec4 v1 v2 v3 ρ = some B → P_keptBytes_4 p l e s m args below meth c D tc o v1 v2 v3 ρ B) (v1 : Int32) (v2 : Int32) (v3 : Int32) (ρ : RS) {B : Int32 × RS} (h : b_keptBytes_27 rec4 v1 v2 v3 ρ = some B) {ls : Array Slot} {H : Heap} {locs : List Loc} (hl : lv_has ls 4 [(0, .ref o), (1, .int v1), (2, .int v2), (3, .int v3)]) (hW : RWS D tc o s ρ H locs) : W p l e { frames := 0, cells := 0, slots := 0, locals := 0 } s m args below meth c H locs 0 0 (MQ below (RQ D tc o (some (.int B.1)) B.2) args s 0 0 (rreg o)) (F0 m 27 ls []) := by
  have hx := S.1.1
  have hb := S.1.2.1
  unfold b_keptBytes_27 at h
  refine rv_iinc (k := 3) (v := 1) (lv' := fun x1 => [(3, .int x1), (0, .ref o), (1, .int v1), (2, .int v2)]) hx hb d_keptBytes_27 hl rfl (by decide) (by decide) (fun _ => rfl) h (fun x1 ls h hl => ?_)
  refine lv_goto (tgt := 4) hx hb d_keptBytes_30 (by decide) ?_
  exact hrec4 v1 v2 x1 ρ _ h _ _ _ (lv_sub hl [1, 2, 3, 0] rfl) hW
theorem tF_keptBytes_4 (S : RC p m c k_keptBytes 4 s args cn_M meth (some .int) D tc) : ∀ (rec4 : Int32 → Int32 → Int32 → RS → Option (Int32 × RS)), (∀ (v1 : Int32) (v2 : Int32) (v3 : Int32) (ρ : RS) (B : Int32 × RS), rec4 v1 v2 v3 ρ = some B → P_keptBytes_4 p l e s m args below meth c D tc o v1 v2 v3 ρ B) → ∀ (v1 : Int32) (v2 : Int32) (v3 : Int32) (ρ : RS) (B : Int32 × RS), F_keptBytes_4 rec4 v1 v2 v3 ρ = some B → P_keptBytes_4 p l e s m args below meth c D tc o v1 v2 v3 ρ B := by
  intro rec4 hrec4 v1 v2 v3 ρ B h ls H locs hl hW
  have hx := S.1.1
  have hb := S.1.2.1
  unfold F_keptBytes_4 at h
  refine lv_iload_n hx hb d_keptBytes_4 rfl (lv_at hl 3 rfl) ?_
  refine lv_ldc hx hb S.1.2.2.2.1 (S.1.2.2.2.2 _ (gi wd_1246 rfl)) d_keptBytes_5 ?_
  refine rc_ge (tgt := 33) hx hb d_keptBytes_7 (by decide) h (fun h => ?_) (fun h => ?_)
  · refine lv_iload_n hx hb d_keptBytes_33 rfl (lv_at hl 2 rfl) ?_
    exact rm_iret S hW d_keptBytes_34 h
  · refine lv_aload_n hx hb d_keptBytes_10 rfl (lv_at hl 0 rfl) ?_
    refine rm_geta S hW 45 40 wd_1297 (by decide) d_keptBytes_11 ?_
    refine lv_ldc hx hb S.1.2.2.2.1 (S.1.2.2.2.2 _ (gi wd_1246 rfl)) d_keptBytes_14 ?_
    refine lv_iload_n hx hb d_keptBytes_16 rfl (lv_at hl 1 rfl) ?_
    refine lv_imul hx hb d_keptBytes_17 ?_
    refine lv_iload_n hx hb d_keptBytes_18 rfl (lv_at hl 3 rfl) ?_
    refine lv_iadd hx hb d_keptBytes_19 ?_
    refine rm_zald S hW 40 131072 (by decide) d_keptBytes_20 h (fun x1 h => ?_)
    refine rb_eq (tgt := 27) hx hb d_keptBytes_21 (by decide) h (fun h => ?_) (fun h => ?_)
    · exact t_keptBytes_27 S hrec4 v1 v2 v3 ρ h (lv_sub hl [0, 1, 2, 3] rfl) hW
    · refine rv_iinc (k := 2) (v := 1) (lv' := fun x2 => [(2, .int x2), (0, .ref o), (1, .int v1), (3, .int v3)]) hx hb d_keptBytes_24 hl rfl (by decide) (by decide) (fun _ => rfl) h (fun x2 ls h hl => ?_)
      exact t_keptBytes_27 S hrec4 v1 x2 v3 ρ h (lv_sub hl [1, 2, 0, 3] rfl) hW
theorem t_keptBytes_4 (S : RC p m c k_keptBytes 4 s args cn_M meth (some .int) D tc) : ∀ (n : Nat) (v1 : Int32) (v2 : Int32) (v3 : Int32) (ρ : RS) (B : Int32 × RS), lq4 (F_keptBytes_4) n v1 v2 v3 ρ = some B → P_keptBytes_4 p l e s m args below meth c D tc o v1 v2 v3 ρ B := lq4_s (tF_keptBytes_4 S)
theorem t_keptBytes_0 (S : RC p m c k_keptBytes 4 s args cn_M meth (some .int) D tc) (v1 : Int32) (ρ : RS) {B : Int32 × RS} (h : m_keptBytes v1 ρ = some B) {ls : Array Slot} {H : Heap} {locs : List Loc} (hl : lv_has ls 4 [(0, .ref o), (1, .int v1)]) (hW : RWS D tc o s ρ H locs) : W p l e { frames := 0, cells := 0, slots := 0, locals := 0 } s m args below meth c H locs 0 0 (MQ below (RQ D tc o (some (.int B.1)) B.2) args s 0 0 (rreg o)) (F0 m 0 ls []) := by
  have hx := S.1.1
  have hb := S.1.2.1
  unfold m_keptBytes at h
  refine lv_iconst (v := 0) hx hb d_keptBytes_0 (by decide) ?_
  refine lv_istore_n (lv' := [(2, .int (0 : Int32)), (0, .ref o), (1, .int v1)]) hx hb d_keptBytes_1 rfl hl (by decide) rfl (fun ls hl => ?_)
  refine lv_iconst (v := 0) hx hb d_keptBytes_2 (by decide) ?_
  refine lv_istore_n (lv' := [(3, .int (0 : Int32)), (2, .int (0 : Int32)), (0, .ref o), (1, .int v1)]) hx hb d_keptBytes_3 rfl hl (by decide) rfl (fun ls hl => ?_)
  exact t_keptBytes_4 S fuel v1 (0 : Int32) (0 : Int32) ρ _ h _ _ _ (lv_sub hl [2, 3, 1, 0] rfl) hW
theorem c_keptBytes (v1 : Int32) (ρ : RS) {x : Int32} {ρ' : RS} (h : m_keptBytes v1 ρ = some (x, ρ')) : RMet l D tc o y_keptBytes k_keptBytes 4 (some .int) 0 0 [.ref o, .int v1] ρ (some (.int x)) ρ' := rm_met (by decide) (Nat.le_of_ble_eq_true rfl) fun p e s m args below meth c S hW ls hl => t_keptBytes_0 S v1 ρ h hl hW
end

/-! about (II)I -/
abbrev k_about : ByteArray := prog_12_method_63_code
abbrev y_about : MethodName := ⟨cn_M, "about", "(II)I"⟩
theorem q_about : Calee y_about k_about 3 (some .int) 2 := ⟨wd_1671, wd_90, by decide, by decide +kernel⟩
theorem d_about_0 : decode k_about 0 = .ok (.aload_n 0, 1) := by decide +kernel
theorem d_about_1 : decode k_about 1 = .ok (.iconst 0, 1) := by decide +kernel
theorem d_about_2 : decode k_about 2 = .ok (.putfield 140, 3) := by decide +kernel
theorem d_about_5 : decode k_about 5 = .ok (.iload_n 1, 1) := by decide +kernel
theorem d_about_6 : decode k_about 6 = .ok (.invokestatic 336, 3) := by decide +kernel
theorem d_about_9 : decode k_about 9 = .ok (.ifCond .eq 9, 3) := by decide +kernel
theorem d_about_12 : decode k_about 12 = .ok (.aload_n 0, 1) := by decide +kernel
theorem d_about_13 : decode k_about 13 = .ok (.iconst 1, 1) := by decide +kernel
theorem d_about_14 : decode k_about 14 = .ok (.invokevirtual 327, 3) := by decide +kernel
theorem d_about_17 : decode k_about 17 = .ok (.ireturn, 1) := by decide +kernel
theorem d_about_18 : decode k_about 18 = .ok (.iload_n 2, 1) := by decide +kernel
theorem d_about_19 : decode k_about 19 = .ok (.tableswitch 233 0 16 #[81, 88, 95, 102, 108, 115, 122, 129, 136, 143, 157, 164, 192, 199, 206, 220, 226], 81) := by decide +kernel
theorem d_about_100 : decode k_about 100 = .ok (.aload_n 0, 1) := by decide +kernel
theorem d_about_101 : decode k_about 101 = .ok (.getfield 39, 3) := by decide +kernel
theorem d_about_104 : decode k_about 104 = .ok (.iload_n 1, 1) := by decide +kernel
theorem d_about_105 : decode k_about 105 = .ok (.iaload, 1) := by decide +kernel
theorem d_about_106 : decode k_about 106 = .ok (.ireturn, 1) := by decide +kernel
theorem d_about_107 : decode k_about 107 = .ok (.aload_n 0, 1) := by decide +kernel
theorem d_about_108 : decode k_about 108 = .ok (.getfield 102, 3) := by decide +kernel
theorem d_about_111 : decode k_about 111 = .ok (.iload_n 1, 1) := by decide +kernel
theorem d_about_112 : decode k_about 112 = .ok (.iaload, 1) := by decide +kernel
theorem d_about_113 : decode k_about 113 = .ok (.ireturn, 1) := by decide +kernel
theorem d_about_114 : decode k_about 114 = .ok (.aload_n 0, 1) := by decide +kernel
theorem d_about_115 : decode k_about 115 = .ok (.getfield 105, 3) := by decide +kernel
theorem d_about_118 : decode k_about 118 = .ok (.iload_n 1, 1) := by decide +kernel
theorem d_about_119 : decode k_about 119 = .ok (.iaload, 1) := by decide +kernel
theorem d_about_120 : decode k_about 120 = .ok (.ireturn, 1) := by decide +kernel
theorem d_about_121 : decode k_about 121 = .ok (.aload_n 0, 1) := by decide +kernel
theorem d_about_122 : decode k_about 122 = .ok (.iload_n 1, 1) := by decide +kernel
theorem d_about_123 : decode k_about 123 = .ok (.invokevirtual 350, 3) := by decide +kernel
theorem d_about_126 : decode k_about 126 = .ok (.ireturn, 1) := by decide +kernel
theorem d_about_127 : decode k_about 127 = .ok (.aload_n 0, 1) := by decide +kernel
theorem d_about_128 : decode k_about 128 = .ok (.getfield 72, 3) := by decide +kernel
theorem d_about_131 : decode k_about 131 = .ok (.iload_n 1, 1) := by decide +kernel
theorem d_about_132 : decode k_about 132 = .ok (.iaload, 1) := by decide +kernel
theorem d_about_133 : decode k_about 133 = .ok (.ireturn, 1) := by decide +kernel
theorem d_about_134 : decode k_about 134 = .ok (.aload_n 0, 1) := by decide +kernel
theorem d_about_135 : decode k_about 135 = .ok (.getfield 75, 3) := by decide +kernel
theorem d_about_138 : decode k_about 138 = .ok (.iload_n 1, 1) := by decide +kernel
theorem d_about_139 : decode k_about 139 = .ok (.iaload, 1) := by decide +kernel
theorem d_about_140 : decode k_about 140 = .ok (.ireturn, 1) := by decide +kernel
theorem d_about_141 : decode k_about 141 = .ok (.aload_n 0, 1) := by decide +kernel
theorem d_about_142 : decode k_about 142 = .ok (.getfield 81, 3) := by decide +kernel
theorem d_about_145 : decode k_about 145 = .ok (.iload_n 1, 1) := by decide +kernel
theorem d_about_146 : decode k_about 146 = .ok (.iaload, 1) := by decide +kernel
theorem d_about_147 : decode k_about 147 = .ok (.ireturn, 1) := by decide +kernel
theorem d_about_148 : decode k_about 148 = .ok (.aload_n 0, 1) := by decide +kernel
theorem d_about_149 : decode k_about 149 = .ok (.getfield 84, 3) := by decide +kernel
theorem d_about_152 : decode k_about 152 = .ok (.iload_n 1, 1) := by decide +kernel
theorem d_about_153 : decode k_about 153 = .ok (.iaload, 1) := by decide +kernel
theorem d_about_154 : decode k_about 154 = .ok (.ireturn, 1) := by decide +kernel
theorem d_about_155 : decode k_about 155 = .ok (.aload_n 0, 1) := by decide +kernel
theorem d_about_156 : decode k_about 156 = .ok (.getfield 54, 3) := by decide +kernel
theorem d_about_159 : decode k_about 159 = .ok (.iload_n 1, 1) := by decide +kernel
theorem d_about_160 : decode k_about 160 = .ok (.iaload, 1) := by decide +kernel
theorem d_about_161 : decode k_about 161 = .ok (.ireturn, 1) := by decide +kernel
theorem d_about_162 : decode k_about 162 = .ok (.aload_n 0, 1) := by decide +kernel
theorem d_about_163 : decode k_about 163 = .ok (.getfield 69, 3) := by decide +kernel
theorem d_about_166 : decode k_about 166 = .ok (.iload_n 1, 1) := by decide +kernel
theorem d_about_167 : decode k_about 167 = .ok (.iaload, 1) := by decide +kernel
theorem d_about_168 : decode k_about 168 = .ok (.aload_n 0, 1) := by decide +kernel
theorem d_about_169 : decode k_about 169 = .ok (.getfield 66, 3) := by decide +kernel
theorem d_about_172 : decode k_about 172 = .ok (.iload_n 1, 1) := by decide +kernel
theorem d_about_173 : decode k_about 173 = .ok (.iaload, 1) := by decide +kernel
theorem d_about_174 : decode k_about 174 = .ok (.isub, 1) := by decide +kernel
theorem d_about_175 : decode k_about 175 = .ok (.ireturn, 1) := by decide +kernel
theorem d_about_176 : decode k_about 176 = .ok (.aload_n 0, 1) := by decide +kernel
theorem d_about_177 : decode k_about 177 = .ok (.getfield 96, 3) := by decide +kernel
theorem d_about_180 : decode k_about 180 = .ok (.iload_n 1, 1) := by decide +kernel
theorem d_about_181 : decode k_about 181 = .ok (.iaload, 1) := by decide +kernel
theorem d_about_182 : decode k_about 182 = .ok (.ireturn, 1) := by decide +kernel
theorem d_about_183 : decode k_about 183 = .ok (.aload_n 0, 1) := by decide +kernel
theorem d_about_184 : decode k_about 184 = .ok (.getfield 113, 3) := by decide +kernel
theorem d_about_187 : decode k_about 187 = .ok (.iload_n 1, 1) := by decide +kernel
theorem d_about_188 : decode k_about 188 = .ok (.laload, 1) := by decide +kernel
theorem d_about_189 : decode k_about 189 = .ok (.lconst 0, 1) := by decide +kernel
theorem d_about_190 : decode k_about 190 = .ok (.lcmp, 1) := by decide +kernel
theorem d_about_191 : decode k_about 191 = .ok (.ifCond .ge 7, 3) := by decide +kernel
theorem d_about_194 : decode k_about 194 = .ok (.iconst (-1), 1) := by decide +kernel
theorem d_about_195 : decode k_about 195 = .ok (.goto 15, 3) := by decide +kernel
theorem d_about_198 : decode k_about 198 = .ok (.aload_n 0, 1) := by decide +kernel
theorem d_about_199 : decode k_about 199 = .ok (.getfield 113, 3) := by decide +kernel
theorem d_about_202 : decode k_about 202 = .ok (.iload_n 1, 1) := by decide +kernel
theorem d_about_203 : decode k_about 203 = .ok (.laload, 1) := by decide +kernel
theorem d_about_204 : decode k_about 204 = .ok (.aload_n 0, 1) := by decide +kernel
theorem d_about_205 : decode k_about 205 = .ok (.getfield 201, 3) := by decide +kernel
theorem d_about_208 : decode k_about 208 = .ok (.lsub, 1) := by decide +kernel
theorem d_about_209 : decode k_about 209 = .ok (.l2i, 1) := by decide +kernel
theorem d_about_210 : decode k_about 210 = .ok (.ireturn, 1) := by decide +kernel
theorem d_about_211 : decode k_about 211 = .ok (.aload_n 0, 1) := by decide +kernel
theorem d_about_212 : decode k_about 212 = .ok (.getfield 78, 3) := by decide +kernel
theorem d_about_215 : decode k_about 215 = .ok (.iload_n 1, 1) := by decide +kernel
theorem d_about_216 : decode k_about 216 = .ok (.iaload, 1) := by decide +kernel
theorem d_about_217 : decode k_about 217 = .ok (.ireturn, 1) := by decide +kernel
theorem d_about_218 : decode k_about 218 = .ok (.aload_n 0, 1) := by decide +kernel
theorem d_about_219 : decode k_about 219 = .ok (.getfield 87, 3) := by decide +kernel
theorem d_about_222 : decode k_about 222 = .ok (.iload_n 1, 1) := by decide +kernel
theorem d_about_223 : decode k_about 223 = .ok (.iaload, 1) := by decide +kernel
theorem d_about_224 : decode k_about 224 = .ok (.ireturn, 1) := by decide +kernel
theorem d_about_225 : decode k_about 225 = .ok (.aload_n 0, 1) := by decide +kernel
theorem d_about_226 : decode k_about 226 = .ok (.getfield 48, 3) := by decide +kernel
theorem d_about_229 : decode k_about 229 = .ok (.iload_n 1, 1) := by decide +kernel
theorem d_about_230 : decode k_about 230 = .ok (.iaload, 1) := by decide +kernel
theorem d_about_231 : decode k_about 231 = .ok (.aload_n 0, 1) := by decide +kernel
theorem d_about_232 : decode k_about 232 = .ok (.getfield 45, 3) := by decide +kernel
theorem d_about_235 : decode k_about 235 = .ok (.iload_n 1, 1) := by decide +kernel
theorem d_about_236 : decode k_about 236 = .ok (.iaload, 1) := by decide +kernel
theorem d_about_237 : decode k_about 237 = .ok (.isub, 1) := by decide +kernel
theorem d_about_238 : decode k_about 238 = .ok (.ireturn, 1) := by decide +kernel
theorem d_about_239 : decode k_about 239 = .ok (.aload_n 0, 1) := by decide +kernel
theorem d_about_240 : decode k_about 240 = .ok (.iload_n 1, 1) := by decide +kernel
theorem d_about_241 : decode k_about 241 = .ok (.invokevirtual 353, 3) := by decide +kernel
theorem d_about_244 : decode k_about 244 = .ok (.ireturn, 1) := by decide +kernel
theorem d_about_245 : decode k_about 245 = .ok (.aload_n 0, 1) := by decide +kernel
theorem d_about_246 : decode k_about 246 = .ok (.getfield 99, 3) := by decide +kernel
theorem d_about_249 : decode k_about 249 = .ok (.iload_n 1, 1) := by decide +kernel
theorem d_about_250 : decode k_about 250 = .ok (.iaload, 1) := by decide +kernel
theorem d_about_251 : decode k_about 251 = .ok (.ireturn, 1) := by decide +kernel
theorem d_about_252 : decode k_about 252 = .ok (.aload_n 0, 1) := by decide +kernel
theorem d_about_253 : decode k_about 253 = .ok (.iconst 2, 1) := by decide +kernel
theorem d_about_254 : decode k_about 254 = .ok (.invokevirtual 327, 3) := by decide +kernel
theorem d_about_257 : decode k_about 257 = .ok (.ireturn, 1) := by decide +kernel
def b_about_210 (w0 : Int32) (ρ : RS) : Option (Int32 × RS) :=
  some (w0, ρ)
def m_about (v1 : Int32) (v2 : Int32) (ρ : RS) : Option (Int32 × RS) :=
  bd (si ρ 0 0 (0 : Int32)) fun r1 => bc2 (m_none v1 r1) fun x3 r2 => if x3 = 0 then
  (if v2 = 0 then
  (gd (inb v1 2) <| bd (r2.1 9 v1.toNatClampNeg) fun x4 => some (x4, r2))
 else (
if v2 = 1 then
  (gd (inb v1 2) <| bd (r2.1 30 v1.toNatClampNeg) fun x5 => some (x5, r2))
 else (
if v2 = 2 then
  (gd (inb v1 2) <| bd (r2.1 31 v1.toNatClampNeg) fun x6 => some (x6, r2))
 else (
if v2 = 3 then
  (bc2 (m_waiting v1 r2) fun x8 r7 => some (x8, r7))
 else (
if v2 = 4 then
  (gd (inb v1 2) <| bd (r2.1 20 v1.toNatClampNeg) fun x9 => some (x9, r2))
 else (
if v2 = 5 then
  (gd (inb v1 2) <| bd (r2.1 21 v1.toNatClampNeg) fun x10 => some (x10, r2))
 else (
if v2 = 6 then
  (gd (inb v1 2) <| bd (r2.1 23 v1.toNatClampNeg) fun x11 => some (x11, r2))
 else (
if v2 = 7 then
  (gd (inb v1 2) <| bd (r2.1 24 v1.toNatClampNeg) fun x12 => some (x12, r2))
 else (
if v2 = 8 then
  (gd (inb v1 2) <| bd (r2.1 14 v1.toNatClampNeg) fun x13 => some (x13, r2))
 else (
if v2 = 9 then
  (gd (inb v1 2) <| bd (r2.1 19 v1.toNatClampNeg) fun x14 => gd (inb v1 2) <| bd (r2.1 18 v1.toNatClampNeg) fun x15 => some (x14 - x15, r2))
 else (
if v2 = 10 then
  (gd (inb v1 2) <| bd (r2.1 28 v1.toNatClampNeg) fun x16 => some (x16, r2))
 else (
if v2 = 11 then
  (gd (inb v1 2) <| bd (r2.2 33 v1.toNatClampNeg) fun x17 => if 0 ≤ (lg_cmp x17 (0 : Int64)) then
  (gd (inb v1 2) <| bd (r2.2 33 v1.toNatClampNeg) fun x18 => bd (r2.2 0 3) fun x19 => b_about_210 ((x18 - x19).toInt32) r2)
 else
  (b_about_210 (-1 : Int32) r2))
 else (
if v2 = 12 then
  (gd (inb v1 2) <| bd (r2.1 22 v1.toNatClampNeg) fun x20 => some (x20, r2))
 else (
if v2 = 13 then
  (gd (inb v1 2) <| bd (r2.1 25 v1.toNatClampNeg) fun x21 => some (x21, r2))
 else (
if v2 = 14 then
  (gd (inb v1 2) <| bd (r2.1 12 v1.toNatClampNeg) fun x22 => gd (inb v1 2) <| bd (r2.1 11 v1.toNatClampNeg) fun x23 => some (x22 - x23, r2))
 else (
if v2 = 15 then
  (bc2 (m_keptBytes v1 r2) fun x25 r24 => some (x25, r24))
 else (
if v2 = 16 then
  (gd (inb v1 2) <| bd (r2.1 29 v1.toNatClampNeg) fun x26 => some (x26, r2))
 else (
bc2 (m_fail (2 : Int32) r2) fun x28 r27 => some (x28, r27)))))))))))))))))))
 else
  (bc2 (m_fail (1 : Int32) r2) fun x30 r29 => some (x30, r29))
section
variable {p : Program} {l : Launch} {e : Env} {s : State} {m : MethodId} {args : Array Value} {below : List Frame} {meth : Method} {c : Code} {D : va_G} {tc : Nat → ClassId} {o : Nat}
theorem t_about_210 (S : RC p m c k_about 3 s args cn_M meth (some .int) D tc) (w0 : Int32) (ρ : RS) {B : Int32 × RS} (h : b_about_210 w0 ρ = some B) {ls : Array Slot} {H : Heap} {locs : List Loc} (hl : lv_has ls 3 []) (hW : RWS D tc o s ρ H locs) : W p l e { frames := 1, cells := 0, slots := 0, locals := 23 } s m args below meth c H locs 0 0 (MQ below (RQ D tc o (some (.int B.1)) B.2) args s 0 0 (rreg o)) (F0 m 210 ls [.int w0]) := by
  have hx := S.1.1
  have hb := S.1.2.1
  unfold b_about_210 at h
  exact rm_iret S hW d_about_210 h
theorem t_about_0 (S : RC p m c k_about 3 s args cn_M meth (some .int) D tc) (v1 : Int32) (v2 : Int32) (ρ : RS) {B : Int32 × RS} (h : m_about v1 v2 ρ = some B) {ls : Array Slot} {H : Heap} {locs : List Loc} (hl : lv_has ls 3 [(0, .ref o), (1, .int v1), (2, .int v2)]) (hW : RWS D tc o s ρ H locs) : W p l e { frames := 1, cells := 0, slots := 0, locals := 23 } s m args below meth c H locs 0 0 (MQ below (RQ D tc o (some (.int B.1)) B.2) args s 0 0 (rreg o)) (F0 m 0 ls []) := by
  have hx := S.1.1
  have hb := S.1.2.1
  unfold m_about at h
  refine lv_aload_n hx hb d_about_0 rfl (lv_at hl 0 rfl) ?_
  refine lv_iconst (v := 0) hx hb d_about_1 (by decide) ?_
  refine rm_puti S hW 0 wd_1252 (by decide) d_about_2 h (fun r1 H locs h hW => ?_)
  refine lv_iload_n hx hb d_about_5 rfl (lv_at hl 1 rfl) ?_
  refine rm_cSi [.int v1] S hW (fun x ρ' hc => c_none v1 r1 hc) q_none wd_1500 wd_1499 (by decide) hl.1 rfl rfl (Nat.le_of_ble_eq_true rfl) d_about_6 h (fun x3 r2 H locs h hW => ?_)
  refine rb_eq (tgt := 18) hx hb d_about_9 (by decide) h (fun h => ?_) (fun h => ?_)
  · refine lv_iload_n hx hb d_about_18 rfl (lv_at hl 2 rfl) ?_
    by_cases z0 : v2 = 0
    · rw [if_pos z0] at h
      refine lv_tableIn (tgt := 100) (off := 81) hx hb d_about_19 (by rw [z0]; decide) (by rw [z0]; decide) (by rw [z0]; decide) (by decide) ?_
      refine lv_aload_n hx hb d_about_100 rfl (lv_at hl 0 rfl) ?_
      refine rm_geta S hW 14 9 wd_1266 (by decide) d_about_101 ?_
      refine lv_iload_n hx hb d_about_104 rfl (lv_at hl 1 rfl) ?_
      refine rm_iald S hW 9 2 (by decide) d_about_105 h (fun x4 h => ?_)
      exact rm_iret S hW d_about_106 h
    rw [if_neg z0] at h
    by_cases z1 : v2 = 1
    · rw [if_pos z1] at h
      refine lv_tableIn (tgt := 107) (off := 88) hx hb d_about_19 (by rw [z1]; decide) (by rw [z1]; decide) (by rw [z1]; decide) (by decide) ?_
      refine lv_aload_n hx hb d_about_107 rfl (lv_at hl 0 rfl) ?_
      refine rm_geta S hW 35 30 wd_1287 (by decide) d_about_108 ?_
      refine lv_iload_n hx hb d_about_111 rfl (lv_at hl 1 rfl) ?_
      refine rm_iald S hW 30 2 (by decide) d_about_112 h (fun x5 h => ?_)
      exact rm_iret S hW d_about_113 h
    rw [if_neg z1] at h
    by_cases z2 : v2 = 2
    · rw [if_pos z2] at h
      refine lv_tableIn (tgt := 114) (off := 95) hx hb d_about_19 (by rw [z2]; decide) (by rw [z2]; decide) (by rw [z2]; decide) (by decide) ?_
      refine lv_aload_n hx hb d_about_114 rfl (lv_at hl 0 rfl) ?_
      refine rm_geta S hW 36 31 wd_1288 (by decide) d_about_115 ?_
      refine lv_iload_n hx hb d_about_118 rfl (lv_at hl 1 rfl) ?_
      refine rm_iald S hW 31 2 (by decide) d_about_119 h (fun x6 h => ?_)
      exact rm_iret S hW d_about_120 h
    rw [if_neg z2] at h
    by_cases z3 : v2 = 3
    · rw [if_pos z3] at h
      refine lv_tableIn (tgt := 121) (off := 102) hx hb d_about_19 (by rw [z3]; decide) (by rw [z3]; decide) (by rw [z3]; decide) (by decide) ?_
      refine lv_aload_n hx hb d_about_121 rfl (lv_at hl 0 rfl) ?_
      refine lv_iload_n hx hb d_about_122 rfl (lv_at hl 1 rfl) ?_
      refine rm_cVi [.int v1] S hW (fun x ρ' hc => c_waiting v1 r2 hc) q_waiting wd_1674 wd_75 wd_1672 (by decide) hl.1 rfl rfl (Nat.le_of_ble_eq_true rfl) d_about_123 h (fun x8 r7 H locs h hW => ?_)
      exact rm_iret S hW d_about_126 h
    rw [if_neg z3] at h
    by_cases z4 : v2 = 4
    · rw [if_pos z4] at h
      refine lv_tableIn (tgt := 127) (off := 108) hx hb d_about_19 (by rw [z4]; decide) (by rw [z4]; decide) (by rw [z4]; decide) (by decide) ?_
      refine lv_aload_n hx hb d_about_127 rfl (lv_at hl 0 rfl) ?_
      refine rm_geta S hW 25 20 wd_1277 (by decide) d_about_128 ?_
      refine lv_iload_n hx hb d_about_131 rfl (lv_at hl 1 rfl) ?_
      refine rm_iald S hW 20 2 (by decide) d_about_132 h (fun x9 h => ?_)
      exact rm_iret S hW d_about_133 h
    rw [if_neg z4] at h
    by_cases z5 : v2 = 5
    · rw [if_pos z5] at h
      refine lv_tableIn (tgt := 134) (off := 115) hx hb d_about_19 (by rw [z5]; decide) (by rw [z5]; decide) (by rw [z5]; decide) (by decide) ?_
      refine lv_aload_n hx hb d_about_134 rfl (lv_at hl 0 rfl) ?_
      refine rm_geta S hW 26 21 wd_1278 (by decide) d_about_135 ?_
      refine lv_iload_n hx hb d_about_138 rfl (lv_at hl 1 rfl) ?_
      refine rm_iald S hW 21 2 (by decide) d_about_139 h (fun x10 h => ?_)
      exact rm_iret S hW d_about_140 h
    rw [if_neg z5] at h
    by_cases z6 : v2 = 6
    · rw [if_pos z6] at h
      refine lv_tableIn (tgt := 141) (off := 122) hx hb d_about_19 (by rw [z6]; decide) (by rw [z6]; decide) (by rw [z6]; decide) (by decide) ?_
      refine lv_aload_n hx hb d_about_141 rfl (lv_at hl 0 rfl) ?_
      refine rm_geta S hW 28 23 wd_1280 (by decide) d_about_142 ?_
      refine lv_iload_n hx hb d_about_145 rfl (lv_at hl 1 rfl) ?_
      refine rm_iald S hW 23 2 (by decide) d_about_146 h (fun x11 h => ?_)
      exact rm_iret S hW d_about_147 h
    rw [if_neg z6] at h
    by_cases z7 : v2 = 7
    · rw [if_pos z7] at h
      refine lv_tableIn (tgt := 148) (off := 129) hx hb d_about_19 (by rw [z7]; decide) (by rw [z7]; decide) (by rw [z7]; decide) (by decide) ?_
      refine lv_aload_n hx hb d_about_148 rfl (lv_at hl 0 rfl) ?_
      refine rm_geta S hW 29 24 wd_1281 (by decide) d_about_149 ?_
      refine lv_iload_n hx hb d_about_152 rfl (lv_at hl 1 rfl) ?_
      refine rm_iald S hW 24 2 (by decide) d_about_153 h (fun x12 h => ?_)
      exact rm_iret S hW d_about_154 h
    rw [if_neg z7] at h
    by_cases z8 : v2 = 8
    · rw [if_pos z8] at h
      refine lv_tableIn (tgt := 155) (off := 136) hx hb d_about_19 (by rw [z8]; decide) (by rw [z8]; decide) (by rw [z8]; decide) (by decide) ?_
      refine lv_aload_n hx hb d_about_155 rfl (lv_at hl 0 rfl) ?_
      refine rm_geta S hW 19 14 wd_1271 (by decide) d_about_156 ?_
      refine lv_iload_n hx hb d_about_159 rfl (lv_at hl 1 rfl) ?_
      refine rm_iald S hW 14 2 (by decide) d_about_160 h (fun x13 h => ?_)
      exact rm_iret S hW d_about_161 h
    rw [if_neg z8] at h
    by_cases z9 : v2 = 9
    · rw [if_pos z9] at h
      refine lv_tableIn (tgt := 162) (off := 143) hx hb d_about_19 (by rw [z9]; decide) (by rw [z9]; decide) (by rw [z9]; decide) (by decide) ?_
      refine lv_aload_n hx hb d_about_162 rfl (lv_at hl 0 rfl) ?_
      refine rm_geta S hW 24 19 wd_1276 (by decide) d_about_163 ?_
      refine lv_iload_n hx hb d_about_166 rfl (lv_at hl 1 rfl) ?_
      refine rm_iald S hW 19 2 (by decide) d_about_167 h (fun x14 h => ?_)
      refine lv_aload_n hx hb d_about_168 rfl (lv_at hl 0 rfl) ?_
      refine rm_geta S hW 23 18 wd_1275 (by decide) d_about_169 ?_
      refine lv_iload_n hx hb d_about_172 rfl (lv_at hl 1 rfl) ?_
      refine rm_iald S hW 18 2 (by decide) d_about_173 h (fun x15 h => ?_)
      refine lv_isub hx hb d_about_174 ?_
      exact rm_iret S hW d_about_175 h
    rw [if_neg z9] at h
    by_cases z10 : v2 = 10
    · rw [if_pos z10] at h
      refine lv_tableIn (tgt := 176) (off := 157) hx hb d_about_19 (by rw [z10]; decide) (by rw [z10]; decide) (by rw [z10]; decide) (by decide) ?_
      refine lv_aload_n hx hb d_about_176 rfl (lv_at hl 0 rfl) ?_
      refine rm_geta S hW 33 28 wd_1285 (by decide) d_about_177 ?_
      refine lv_iload_n hx hb d_about_180 rfl (lv_at hl 1 rfl) ?_
      refine rm_iald S hW 28 2 (by decide) d_about_181 h (fun x16 h => ?_)
      exact rm_iret S hW d_about_182 h
    rw [if_neg z10] at h
    by_cases z11 : v2 = 11
    · rw [if_pos z11] at h
      refine lv_tableIn (tgt := 183) (off := 164) hx hb d_about_19 (by rw [z11]; decide) (by rw [z11]; decide) (by rw [z11]; decide) (by decide) ?_
      refine lv_aload_n hx hb d_about_183 rfl (lv_at hl 0 rfl) ?_
      refine rm_geta S hW 38 33 wd_1290 (by decide) d_about_184 ?_
      refine lv_iload_n hx hb d_about_187 rfl (lv_at hl 1 rfl) ?_
      refine rm_lald S hW 33 2 (by decide) d_about_188 h (fun x17 h => ?_)
      refine lv_lconst (v := 0) hx hb d_about_189 (by decide) ?_
      refine W.lcmp hx hb d_about_190 ?_
      refine rb_ge (tgt := 198) hx hb d_about_191 (by decide) h (fun h => ?_) (fun h => ?_)
      · refine lv_aload_n hx hb d_about_198 rfl (lv_at hl 0 rfl) ?_
        refine rm_geta S hW 38 33 wd_1290 (by decide) d_about_199 ?_
        refine lv_iload_n hx hb d_about_202 rfl (lv_at hl 1 rfl) ?_
        refine rm_lald S hW 33 2 (by decide) d_about_203 h (fun x18 h => ?_)
        refine lv_aload_n hx hb d_about_204 rfl (lv_at hl 0 rfl) ?_
        refine rm_getl S hW 3 wd_1255 (by decide) d_about_205 h (fun x19 h => ?_)
        refine lv_lsub hx hb d_about_208 ?_
        refine lv_l2i hx hb d_about_209 rfl ?_
        exact t_about_210 S ((x18 - x19).toInt32) r2 h (lv_sub hl [] rfl) hW
      · refine lv_iconst (v := -1) hx hb d_about_194 (by decide) ?_
        refine lv_goto (tgt := 210) hx hb d_about_195 (by decide) ?_
        exact t_about_210 S (-1 : Int32) r2 h (lv_sub hl [] rfl) hW
    rw [if_neg z11] at h
    by_cases z12 : v2 = 12
    · rw [if_pos z12] at h
      refine lv_tableIn (tgt := 211) (off := 192) hx hb d_about_19 (by rw [z12]; decide) (by rw [z12]; decide) (by rw [z12]; decide) (by decide) ?_
      refine lv_aload_n hx hb d_about_211 rfl (lv_at hl 0 rfl) ?_
      refine rm_geta S hW 27 22 wd_1279 (by decide) d_about_212 ?_
      refine lv_iload_n hx hb d_about_215 rfl (lv_at hl 1 rfl) ?_
      refine rm_iald S hW 22 2 (by decide) d_about_216 h (fun x20 h => ?_)
      exact rm_iret S hW d_about_217 h
    rw [if_neg z12] at h
    by_cases z13 : v2 = 13
    · rw [if_pos z13] at h
      refine lv_tableIn (tgt := 218) (off := 199) hx hb d_about_19 (by rw [z13]; decide) (by rw [z13]; decide) (by rw [z13]; decide) (by decide) ?_
      refine lv_aload_n hx hb d_about_218 rfl (lv_at hl 0 rfl) ?_
      refine rm_geta S hW 30 25 wd_1282 (by decide) d_about_219 ?_
      refine lv_iload_n hx hb d_about_222 rfl (lv_at hl 1 rfl) ?_
      refine rm_iald S hW 25 2 (by decide) d_about_223 h (fun x21 h => ?_)
      exact rm_iret S hW d_about_224 h
    rw [if_neg z13] at h
    by_cases z14 : v2 = 14
    · rw [if_pos z14] at h
      refine lv_tableIn (tgt := 225) (off := 206) hx hb d_about_19 (by rw [z14]; decide) (by rw [z14]; decide) (by rw [z14]; decide) (by decide) ?_
      refine lv_aload_n hx hb d_about_225 rfl (lv_at hl 0 rfl) ?_
      refine rm_geta S hW 17 12 wd_1269 (by decide) d_about_226 ?_
      refine lv_iload_n hx hb d_about_229 rfl (lv_at hl 1 rfl) ?_
      refine rm_iald S hW 12 2 (by decide) d_about_230 h (fun x22 h => ?_)
      refine lv_aload_n hx hb d_about_231 rfl (lv_at hl 0 rfl) ?_
      refine rm_geta S hW 16 11 wd_1268 (by decide) d_about_232 ?_
      refine lv_iload_n hx hb d_about_235 rfl (lv_at hl 1 rfl) ?_
      refine rm_iald S hW 11 2 (by decide) d_about_236 h (fun x23 h => ?_)
      refine lv_isub hx hb d_about_237 ?_
      exact rm_iret S hW d_about_238 h
    rw [if_neg z14] at h
    by_cases z15 : v2 = 15
    · rw [if_pos z15] at h
      refine lv_tableIn (tgt := 239) (off := 220) hx hb d_about_19 (by rw [z15]; decide) (by rw [z15]; decide) (by rw [z15]; decide) (by decide) ?_
      refine lv_aload_n hx hb d_about_239 rfl (lv_at hl 0 rfl) ?_
      refine lv_iload_n hx hb d_about_240 rfl (lv_at hl 1 rfl) ?_
      refine rm_cVi [.int v1] S hW (fun x ρ' hc => c_keptBytes v1 r2 hc) q_keptBytes wd_1678 wd_76 wd_1676 (by decide) hl.1 rfl rfl (Nat.le_of_ble_eq_true rfl) d_about_241 h (fun x25 r24 H locs h hW => ?_)
      exact rm_iret S hW d_about_244 h
    rw [if_neg z15] at h
    by_cases z16 : v2 = 16
    · rw [if_pos z16] at h
      refine lv_tableIn (tgt := 245) (off := 226) hx hb d_about_19 (by rw [z16]; decide) (by rw [z16]; decide) (by rw [z16]; decide) (by decide) ?_
      refine lv_aload_n hx hb d_about_245 rfl (lv_at hl 0 rfl) ?_
      refine rm_geta S hW 34 29 wd_1286 (by decide) d_about_246 ?_
      refine lv_iload_n hx hb d_about_249 rfl (lv_at hl 1 rfl) ?_
      refine rm_iald S hW 29 2 (by decide) d_about_250 h (fun x26 h => ?_)
      exact rm_iret S hW d_about_251 h
    rw [if_neg z16] at h
    refine lv_tableOut (tgt := 252) hx hb d_about_19 (tab_out 0 16 (fun k h1 h2 hk => ?_)) (by decide) ?_
    · have hq : k = 0 ∨ k = 1 ∨ k = 2 ∨ k = 3 ∨ k = 4 ∨ k = 5 ∨ k = 6 ∨ k = 7 ∨ k = 8 ∨ k = 9 ∨ k = 10 ∨ k = 11 ∨ k = 12 ∨ k = 13 ∨ k = 14 ∨ k = 15 ∨ k = 16 := by omega
      rcases hq with rfl | rfl | rfl | rfl | rfl | rfl | rfl | rfl | rfl | rfl | rfl | rfl | rfl | rfl | rfl | rfl | rfl
      · exact z0 (Int32.toInt_inj.mp (hk.trans (by decide)))
      · exact z1 (Int32.toInt_inj.mp (hk.trans (by decide)))
      · exact z2 (Int32.toInt_inj.mp (hk.trans (by decide)))
      · exact z3 (Int32.toInt_inj.mp (hk.trans (by decide)))
      · exact z4 (Int32.toInt_inj.mp (hk.trans (by decide)))
      · exact z5 (Int32.toInt_inj.mp (hk.trans (by decide)))
      · exact z6 (Int32.toInt_inj.mp (hk.trans (by decide)))
      · exact z7 (Int32.toInt_inj.mp (hk.trans (by decide)))
      · exact z8 (Int32.toInt_inj.mp (hk.trans (by decide)))
      · exact z9 (Int32.toInt_inj.mp (hk.trans (by decide)))
      · exact z10 (Int32.toInt_inj.mp (hk.trans (by decide)))
      · exact z11 (Int32.toInt_inj.mp (hk.trans (by decide)))
      · exact z12 (Int32.toInt_inj.mp (hk.trans (by decide)))
      · exact z13 (Int32.toInt_inj.mp (hk.trans (by decide)))
      · exact z14 (Int32.toInt_inj.mp (hk.trans (by decide)))
      · exact z15 (Int32.toInt_inj.mp (hk.trans (by decide)))
      · exact z16 (Int32.toInt_inj.mp (hk.trans (by decide)))
    refine lv_aload_n hx hb d_about_252 rfl (lv_at hl 0 rfl) ?_
    refine lv_iconst (v := 2) hx hb d_about_253 (by decide) ?_
    refine rm_cVi [.int (2 : Int32)] S hW (fun x ρ' hc => c_fail (2 : Int32) r2 hc) q_fail wd_1429 wd_34 wd_1427 (by decide) hl.1 rfl rfl (Nat.le_of_ble_eq_true rfl) d_about_254 h (fun x28 r27 H locs h hW => ?_)
    exact rm_iret S hW d_about_257 h
  · refine lv_aload_n hx hb d_about_12 rfl (lv_at hl 0 rfl) ?_
    refine lv_iconst (v := 1) hx hb d_about_13 (by decide) ?_
    refine rm_cVi [.int (1 : Int32)] S hW (fun x ρ' hc => c_fail (1 : Int32) r2 hc) q_fail wd_1429 wd_34 wd_1427 (by decide) hl.1 rfl rfl (Nat.le_of_ble_eq_true rfl) d_about_14 h (fun x30 r29 H locs h hW => ?_)
    exact rm_iret S hW d_about_17 h
theorem c_about (v1 : Int32) (v2 : Int32) (ρ : RS) {x : Int32} {ρ' : RS} (h : m_about v1 v2 ρ = some (x, ρ')) : RMet l D tc o y_about k_about 3 (some .int) 1 23 [.ref o, .int v1, .int v2] ρ (some (.int x)) ρ' := rm_met (by decide) (Nat.le_of_ble_eq_true rfl) fun p e s m args below meth c S hW ls hl => t_about_0 S v1 v2 ρ h hl hW
end

/-! count (I)I -/
abbrev k_count : ByteArray := prog_12_method_64_code
abbrev y_count : MethodName := ⟨cn_M, "count", "(I)I"⟩
theorem q_count : Calee y_count k_count 2 (some .int) 1 := ⟨wd_1683, wd_90, by decide, by decide +kernel⟩
theorem d_count_0 : decode k_count 0 = .ok (.aload_n 0, 1) := by decide +kernel
theorem d_count_1 : decode k_count 1 = .ok (.iconst 0, 1) := by decide +kernel
theorem d_count_2 : decode k_count 2 = .ok (.putfield 140, 3) := by decide +kernel
theorem d_count_5 : decode k_count 5 = .ok (.iload_n 1, 1) := by decide +kernel
theorem d_count_6 : decode k_count 6 = .ok (.tableswitch 64 0 4 #[34, 44, 49, 54, 59], 34) := by decide +kernel
theorem d_count_40 : decode k_count 40 = .ok (.aload_n 0, 1) := by decide +kernel
theorem d_count_41 : decode k_count 41 = .ok (.getfield 201, 3) := by decide +kernel
theorem d_count_44 : decode k_count 44 = .ok (.ldc2_w 356, 3) := by decide +kernel
theorem d_count_47 : decode k_count 47 = .ok (.land, 1) := by decide +kernel
theorem d_count_48 : decode k_count 48 = .ok (.l2i, 1) := by decide +kernel
theorem d_count_49 : decode k_count 49 = .ok (.ireturn, 1) := by decide +kernel
theorem d_count_50 : decode k_count 50 = .ok (.aload_n 0, 1) := by decide +kernel
theorem d_count_51 : decode k_count 51 = .ok (.getfield 144, 3) := by decide +kernel
theorem d_count_54 : decode k_count 54 = .ok (.ireturn, 1) := by decide +kernel
theorem d_count_55 : decode k_count 55 = .ok (.aload_n 0, 1) := by decide +kernel
theorem d_count_56 : decode k_count 56 = .ok (.getfield 172, 3) := by decide +kernel
theorem d_count_59 : decode k_count 59 = .ok (.ireturn, 1) := by decide +kernel
theorem d_count_60 : decode k_count 60 = .ok (.aload_n 0, 1) := by decide +kernel
theorem d_count_61 : decode k_count 61 = .ok (.getfield 323, 3) := by decide +kernel
theorem d_count_64 : decode k_count 64 = .ok (.ireturn, 1) := by decide +kernel
theorem d_count_65 : decode k_count 65 = .ok (.aload_n 0, 1) := by decide +kernel
theorem d_count_66 : decode k_count 66 = .ok (.getfield 147, 3) := by decide +kernel
theorem d_count_69 : decode k_count 69 = .ok (.ireturn, 1) := by decide +kernel
theorem d_count_70 : decode k_count 70 = .ok (.iconst (-1), 1) := by decide +kernel
theorem d_count_71 : decode k_count 71 = .ok (.ireturn, 1) := by decide +kernel
def m_count (v1 : Int32) (ρ : RS) : Option (Int32 × RS) :=
  bd (si ρ 0 0 (0 : Int32)) fun r1 => if v1 = 0 then
  (bd (r1.2 0 3) fun x2 => some ((x2 &&& (2147483647 : Int64)).toInt32, r1))
 else (
if v1 = 1 then
  (bd (r1.1 0 10) fun x3 => some (x3, r1))
 else (
if v1 = 2 then
  (bd (r1.1 0 4) fun x4 => some (x4, r1))
 else (
if v1 = 3 then
  (bd (r1.1 0 2) fun x5 => some (x5, r1))
 else (
if v1 = 4 then
  (bd (r1.1 0 5) fun x6 => some (x6, r1))
 else (
some ((-1 : Int32), r1))))))
section
variable {p : Program} {l : Launch} {e : Env} {s : State} {m : MethodId} {args : Array Value} {below : List Frame} {meth : Method} {c : Code} {D : va_G} {tc : Nat → ClassId} {o : Nat}
theorem t_count_0 (S : RC p m c k_count 2 s args cn_M meth (some .int) D tc) (v1 : Int32) (ρ : RS) {B : Int32 × RS} (h : m_count v1 ρ = some B) {ls : Array Slot} {H : Heap} {locs : List Loc} (hl : lv_has ls 2 [(0, .ref o), (1, .int v1)]) (hW : RWS D tc o s ρ H locs) : W p l e { frames := 0, cells := 0, slots := 0, locals := 0 } s m args below meth c H locs 0 0 (MQ below (RQ D tc o (some (.int B.1)) B.2) args s 0 0 (rreg o)) (F0 m 0 ls []) := by
  have hx := S.1.1
  have hb := S.1.2.1
  unfold m_count at h
  refine lv_aload_n hx hb d_count_0 rfl (lv_at hl 0 rfl) ?_
  refine lv_iconst (v := 0) hx hb d_count_1 (by decide) ?_
  refine rm_puti S hW 0 wd_1252 (by decide) d_count_2 h (fun r1 H locs h hW => ?_)
  refine lv_iload_n hx hb d_count_5 rfl (lv_at hl 1 rfl) ?_
  by_cases z0 : v1 = 0
  · rw [if_pos z0] at h
    refine lv_tableIn (tgt := 40) (off := 34) hx hb d_count_6 (by rw [z0]; decide) (by rw [z0]; decide) (by rw [z0]; decide) (by decide) ?_
    refine lv_aload_n hx hb d_count_40 rfl (lv_at hl 0 rfl) ?_
    refine rm_getl S hW 3 wd_1255 (by decide) d_count_41 h (fun x2 h => ?_)
    refine lv_ldc2 hx hb S.1.2.2.2.1 (S.1.2.2.2.2 _ (gi wd_1684 rfl)) d_count_44 ?_
    refine lv_land hx hb d_count_47 ?_
    refine lv_l2i hx hb d_count_48 rfl ?_
    exact rm_iret S hW d_count_49 h
  rw [if_neg z0] at h
  by_cases z1 : v1 = 1
  · rw [if_pos z1] at h
    refine lv_tableIn (tgt := 50) (off := 44) hx hb d_count_6 (by rw [z1]; decide) (by rw [z1]; decide) (by rw [z1]; decide) (by decide) ?_
    refine lv_aload_n hx hb d_count_50 rfl (lv_at hl 0 rfl) ?_
    refine rm_geti S hW 10 wd_1262 (by decide) d_count_51 h (fun x3 h => ?_)
    exact rm_iret S hW d_count_54 h
  rw [if_neg z1] at h
  by_cases z2 : v1 = 2
  · rw [if_pos z2] at h
    refine lv_tableIn (tgt := 55) (off := 49) hx hb d_count_6 (by rw [z2]; decide) (by rw [z2]; decide) (by rw [z2]; decide) (by decide) ?_
    refine lv_aload_n hx hb d_count_55 rfl (lv_at hl 0 rfl) ?_
    refine rm_geti S hW 4 wd_1256 (by decide) d_count_56 h (fun x4 h => ?_)
    exact rm_iret S hW d_count_59 h
  rw [if_neg z2] at h
  by_cases z3 : v1 = 3
  · rw [if_pos z3] at h
    refine lv_tableIn (tgt := 60) (off := 54) hx hb d_count_6 (by rw [z3]; decide) (by rw [z3]; decide) (by rw [z3]; decide) (by decide) ?_
    refine lv_aload_n hx hb d_count_60 rfl (lv_at hl 0 rfl) ?_
    refine rm_geti S hW 2 wd_1254 (by decide) d_count_61 h (fun x5 h => ?_)
    exact rm_iret S hW d_count_64 h
  rw [if_neg z3] at h
  by_cases z4 : v1 = 4
  · rw [if_pos z4] at h
    refine lv_tableIn (tgt := 65) (off := 59) hx hb d_count_6 (by rw [z4]; decide) (by rw [z4]; decide) (by rw [z4]; decide) (by decide) ?_
    refine lv_aload_n hx hb d_count_65 rfl (lv_at hl 0 rfl) ?_
    refine rm_geti S hW 5 wd_1257 (by decide) d_count_66 h (fun x6 h => ?_)
    exact rm_iret S hW d_count_69 h
  rw [if_neg z4] at h
  refine lv_tableOut (tgt := 70) hx hb d_count_6 (tab_out 0 4 (fun k h1 h2 hk => ?_)) (by decide) ?_
  · have hq : k = 0 ∨ k = 1 ∨ k = 2 ∨ k = 3 ∨ k = 4 := by omega
    rcases hq with rfl | rfl | rfl | rfl | rfl
    · exact z0 (Int32.toInt_inj.mp (hk.trans (by decide)))
    · exact z1 (Int32.toInt_inj.mp (hk.trans (by decide)))
    · exact z2 (Int32.toInt_inj.mp (hk.trans (by decide)))
    · exact z3 (Int32.toInt_inj.mp (hk.trans (by decide)))
    · exact z4 (Int32.toInt_inj.mp (hk.trans (by decide)))
  refine lv_iconst (v := -1) hx hb d_count_70 (by decide) ?_
  exact rm_iret S hW d_count_71 h
theorem c_count (v1 : Int32) (ρ : RS) {x : Int32} {ρ' : RS} (h : m_count v1 ρ = some (x, ρ')) : RMet l D tc o y_count k_count 2 (some .int) 0 0 [.ref o, .int v1] ρ (some (.int x)) ρ' := rm_met (by decide) (Nat.le_of_ble_eq_true rfl) fun p e s m args below meth c S hW ls hl => t_count_0 S v1 ρ h hl hW
end

