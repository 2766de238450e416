/-! the law's helpers (printed by gen_lh.py) -/
theorem d_L_feed_0 : decode method_3_code 0 = .ok (.aload 6, 2) := by decide +kernel
theorem d_L_feed_2 : decode method_3_code 2 = .ok (.iconst 0, 1) := by decide +kernel
theorem d_L_feed_3 : decode method_3_code 3 = .ok (.aload_n 0, 1) := by decide +kernel
theorem d_L_feed_4 : decode method_3_code 4 = .ok (.iload_n 1, 1) := by decide +kernel
theorem d_L_feed_5 : decode method_3_code 5 = .ok (.iload_n 2, 1) := by decide +kernel
theorem d_L_feed_6 : decode method_3_code 6 = .ok (.iload_n 3, 1) := by decide +kernel
theorem d_L_feed_7 : decode method_3_code 7 = .ok (.iload 4, 2) := by decide +kernel
theorem d_L_feed_9 : decode method_3_code 9 = .ok (.iload 5, 2) := by decide +kernel
theorem d_L_feed_11 : decode method_3_code 11 = .ok (.invokevirtual 7, 3) := by decide +kernel
theorem d_L_feed_14 : decode method_3_code 14 = .ok (.i2l, 1) := by decide +kernel
theorem d_L_feed_15 : decode method_3_code 15 = .ok (.lastore, 1) := by decide +kernel
theorem d_L_feed_16 : decode method_3_code 16 = .ok (.goto 7, 3) := by decide +kernel
theorem d_L_feed_19 : decode method_3_code 19 = .ok (.astore 7, 2) := by decide +kernel
theorem d_L_feed_21 : decode method_3_code 21 = .ok (.iconst 1, 1) := by decide +kernel
theorem d_L_feed_22 : decode method_3_code 22 = .ok (.ireturn, 1) := by decide +kernel
theorem d_L_feed_23 : decode method_3_code 23 = .ok (.iconst 0, 1) := by decide +kernel
theorem d_L_feed_24 : decode method_3_code 24 = .ok (.ireturn, 1) := by decide +kernel
abbrev y_L_feed : MethodName := ⟨"StreamPairLaw", "feed", "(LStreamPair;IIIII[J)I"⟩
abbrev hh_L_feed : List (Nat × Nat × Nat × Nat) := [(0, 16, 19, 13)]
def m_L_feed (v1 : Int32) (v2 : Int32) (v3 : Int32) (v4 : Int32) (v5 : Int32) (σ : CS) (v : Int64) : Option (Int32 × CS × Int64) := match m_P_feed v1 v2 v3 v4 v5 σ with
  | none => none
  | some (.inr x, σ2) => some (0, σ2, x.toInt64)
  | some (.inl j, _) => gd (cX σ + 1 ≤ 601024 ∧ cU σ + 6 ≤ 7293034) <| if j = 1 then some (1, wa σ 0 0 6, v) else none
theorem c_L_feed {l : Launch} {D : va_G} {tc : Nat → ClassId} {b z : Nat} (hfl : l.flags = flags0) (v1 : Int32) (v2 : Int32) (v3 : Int32) (v4 : Int32) (v5 : Int32) (σ : CS) (ρ : RS) (v : Int64) {k : Int32} {σ2 : CS} {w : Int64} (h : m_L_feed v1 v2 v3 v4 v5 σ v = some (k, σ2, w)) : HMet l D tc b z y_L_feed method_3_code 8 hh_L_feed 7 108 [.ref (b + 0), .int v1, .int v2, .int v3, .int v4, .int v5, .ref (b + 62)] σ ρ v k σ2 w := by
  refine hm_met (by decide) (Nat.le_of_ble_eq_true rfl) fun p e s m args below meth c S htab hW ls hl => ?_
  have hx := S.1.1
  have hb := S.1.2.1
  refine lv_aload hx hb d_L_feed_0 (lv_at hl 6 rfl) ?_
  refine lv_iconst hx hb d_L_feed_2 rfl ?_
  refine lv_aload_n hx hb d_L_feed_3 rfl (lv_at hl 0 rfl) ?_
  refine lv_iload_n hx hb d_L_feed_4 rfl (lv_at hl 1 rfl) ?_
  refine lv_iload_n hx hb d_L_feed_5 rfl (lv_at hl 2 rfl) ?_
  refine lv_iload_n hx hb d_L_feed_6 rfl (lv_at hl 3 rfl) ?_
  refine lv_iload hx hb d_L_feed_7 (lv_at hl 4 rfl) ?_
  refine lv_iload hx hb d_L_feed_9 (lv_at hl 5 rfl) ?_
  unfold m_L_feed at h
  split at h
  · cases h
  · rename_i x σr heq
    cases h
    refine lm_callP S hW (cr_P_feed v1 v2 v3 v4 v5 σ hfl heq) q_P_feed wd_655 wd_656 wd_654 (by decide) hl.1 rfl rfl (Nat.le_of_ble_eq_true rfl) d_L_feed_11 fun H1 locs1 cells1 slots1 hW1 => ?_
    refine lv_i2l hx hb d_L_feed_14 rfl ?_
    refine lm_outw S hW1 d_L_feed_15 fun H2 locs2 hW2 => ?_
    refine lv_goto hx hb d_L_feed_16 rfl ?_
    refine lv_iconst hx hb d_L_feed_23 rfl ?_
    exact hm_iret S hW2 d_L_feed_24
  · rename_i j σr heq
    obtain ⟨hroom, h⟩ := gd_s h
    split at h
    · rename_i hj
      cases h
      subst hj
      refine lm_callX (pre := []) (x := ⟨0, 16, 19, 13⟩) (post := []) (by decide) S hW (cx_P_feed v1 v2 v3 v4 v5 σ hfl heq) hroom q_P_feed wd_655 wd_656 wd_654 (by decide) hl.1 rfl rfl (Nat.le_of_ble_eq_true rfl) d_L_feed_11 (by rw [htab]; rfl) (fun q hq => nomatch hq) ⟨by decide, by decide, wd_653⟩ fun H1 hW1 => ?_
      refine lv_astore hx hb d_L_feed_19 hl (Nat.le_of_ble_eq_true rfl) rfl fun ls2 hl2 => ?_
      refine lv_iconst hx hb d_L_feed_21 rfl ?_
      exact hm_iret S hW1 d_L_feed_22
    · cases h
theorem d_L_end_0 : decode method_4_code 0 = .ok (.aload_n 2, 1) := by decide +kernel
theorem d_L_end_1 : decode method_4_code 1 = .ok (.iconst 0, 1) := by decide +kernel
theorem d_L_end_2 : decode method_4_code 2 = .ok (.aload_n 0, 1) := by decide +kernel
theorem d_L_end_3 : decode method_4_code 3 = .ok (.iload_n 1, 1) := by decide +kernel
theorem d_L_end_4 : decode method_4_code 4 = .ok (.invokevirtual 15, 3) := by decide +kernel
theorem d_L_end_7 : decode method_4_code 7 = .ok (.i2l, 1) := by decide +kernel
theorem d_L_end_8 : decode method_4_code 8 = .ok (.lastore, 1) := by decide +kernel
theorem d_L_end_9 : decode method_4_code 9 = .ok (.goto 6, 3) := by decide +kernel
theorem d_L_end_12 : decode method_4_code 12 = .ok (.astore_n 3, 1) := by decide +kernel
theorem d_L_end_13 : decode method_4_code 13 = .ok (.iconst 1, 1) := by decide +kernel
theorem d_L_end_14 : decode method_4_code 14 = .ok (.ireturn, 1) := by decide +kernel
theorem d_L_end_15 : decode method_4_code 15 = .ok (.iconst 0, 1) := by decide +kernel
theorem d_L_end_16 : decode method_4_code 16 = .ok (.ireturn, 1) := by decide +kernel
abbrev y_L_end : MethodName := ⟨"StreamPairLaw", "end", "(LStreamPair;I[J)I"⟩
abbrev hh_L_end : List (Nat × Nat × Nat × Nat) := [(0, 9, 12, 19)]
def m_L_end (v1 : Int32) (σ : CS) (v : Int64) : Option (Int32 × CS × Int64) := match m_P_end v1 σ with
  | none => none
  | some (.inr x, σ2) => some (0, σ2, x.toInt64)
  | some (.inl j, _) => gd (cX σ + 1 ≤ 601024 ∧ cU σ + 6 ≤ 7293034) <| if j = 2 then some (1, wa σ 0 0 6, v) else none
theorem c_L_end {l : Launch} {D : va_G} {tc : Nat → ClassId} {b z : Nat} (hfl : l.flags = flags0) (v1 : Int32) (σ : CS) (ρ : RS) (v : Int64) {k : Int32} {σ2 : CS} {w : Int64} (h : m_L_end v1 σ v = some (k, σ2, w)) : HMet l D tc b z y_L_end method_4_code 4 hh_L_end 7 104 [.ref (b + 0), .int v1, .ref (b + 62)] σ ρ v k σ2 w := by
  refine hm_met (by decide) (Nat.le_of_ble_eq_true rfl) fun p e s m args below meth c S htab hW ls hl => ?_
  have hx := S.1.1
  have hb := S.1.2.1
  refine lv_aload_n hx hb d_L_end_0 rfl (lv_at hl 2 rfl) ?_
  refine lv_iconst hx hb d_L_end_1 rfl ?_
  refine lv_aload_n hx hb d_L_end_2 rfl (lv_at hl 0 rfl) ?_
  refine lv_iload_n hx hb d_L_end_3 rfl (lv_at hl 1 rfl) ?_
  unfold m_L_end at h
  split at h
  · cases h
  · rename_i x σr heq
    cases h
    refine lm_callP S hW (cr_P_end v1 σ hfl heq) q_P_end wd_747 wd_748 wd_746 (by decide) hl.1 rfl rfl (Nat.le_of_ble_eq_true rfl) d_L_end_4 fun H1 locs1 cells1 slots1 hW1 => ?_
    refine lv_i2l hx hb d_L_end_7 rfl ?_
    refine lm_outw S hW1 d_L_end_8 fun H2 locs2 hW2 => ?_
    refine lv_goto hx hb d_L_end_9 rfl ?_
    refine lv_iconst hx hb d_L_end_15 rfl ?_
    exact hm_iret S hW2 d_L_end_16
  · rename_i j σr heq
    obtain ⟨hroom, h⟩ := gd_s h
    split at h
    · rename_i hj
      cases h
      subst hj
      refine lm_callX (pre := []) (x := ⟨0, 9, 12, 19⟩) (post := []) (by decide) S hW (cx_P_end v1 σ hfl heq) hroom q_P_end wd_747 wd_748 wd_746 (by decide) hl.1 rfl rfl (Nat.le_of_ble_eq_true rfl) d_L_end_4 (by rw [htab]; rfl) (fun q hq => nomatch hq) ⟨by decide, by decide, wd_745⟩ fun H1 hW1 => ?_
      refine lv_astore_n hx hb d_L_end_12 rfl hl (Nat.le_of_ble_eq_true rfl) rfl fun ls2 hl2 => ?_
      refine lv_iconst hx hb d_L_end_13 rfl ?_
      exact hm_iret S hW1 d_L_end_14
    · cases h
theorem d_L_set_0 : decode method_5_code 0 = .ok (.aload 4, 2) := by decide +kernel
theorem d_L_set_2 : decode method_5_code 2 = .ok (.iconst 0, 1) := by decide +kernel
theorem d_L_set_3 : decode method_5_code 3 = .ok (.aload_n 0, 1) := by decide +kernel
theorem d_L_set_4 : decode method_5_code 4 = .ok (.iload_n 1, 1) := by decide +kernel
theorem d_L_set_5 : decode method_5_code 5 = .ok (.iload_n 2, 1) := by decide +kernel
theorem d_L_set_6 : decode method_5_code 6 = .ok (.iload_n 3, 1) := by decide +kernel
theorem d_L_set_7 : decode method_5_code 7 = .ok (.invokevirtual 21, 3) := by decide +kernel
theorem d_L_set_10 : decode method_5_code 10 = .ok (.i2l, 1) := by decide +kernel
theorem d_L_set_11 : decode method_5_code 11 = .ok (.lastore, 1) := by decide +kernel
theorem d_L_set_12 : decode method_5_code 12 = .ok (.goto 11, 3) := by decide +kernel
theorem d_L_set_15 : decode method_5_code 15 = .ok (.astore 5, 2) := by decide +kernel
theorem d_L_set_17 : decode method_5_code 17 = .ok (.iconst 1, 1) := by decide +kernel
theorem d_L_set_18 : decode method_5_code 18 = .ok (.ireturn, 1) := by decide +kernel
theorem d_L_set_19 : decode method_5_code 19 = .ok (.astore 5, 2) := by decide +kernel
theorem d_L_set_21 : decode method_5_code 21 = .ok (.iconst 2, 1) := by decide +kernel
theorem d_L_set_22 : decode method_5_code 22 = .ok (.ireturn, 1) := by decide +kernel
theorem d_L_set_23 : decode method_5_code 23 = .ok (.iconst 0, 1) := by decide +kernel
theorem d_L_set_24 : decode method_5_code 24 = .ok (.ireturn, 1) := by decide +kernel
abbrev y_L_set : MethodName := ⟨"StreamPairLaw", "set", "(LStreamPair;III[J)I"⟩
abbrev hh_L_set : List (Nat × Nat × Nat × Nat) := [(0, 12, 15, 25), (0, 12, 19, 19)]
def m_L_set (v1 : Int32) (v2 : Int32) (v3 : Int32) (σ : CS) (v : Int64) : Option (Int32 × CS × Int64) := match m_P_set v1 v2 v3 σ with
  | none => none
  | some (.inr x, σ2) => some (0, σ2, x.toInt64)
  | some (.inl j, _) => gd (cX σ + 1 ≤ 601024 ∧ cU σ + 6 ≤ 7293034) <| if j = 3 then some (1, wa σ 0 0 6, v) else if j = 2 then some (2, wa σ 0 0 6, v) else none
theorem c_L_set {l : Launch} {D : va_G} {tc : Nat → ClassId} {b z : Nat} (hfl : l.flags = flags0) (v1 : Int32) (v2 : Int32) (v3 : Int32) (σ : CS) (ρ : RS) (v : Int64) {k : Int32} {σ2 : CS} {w : Int64} (h : m_L_set v1 v2 v3 σ v = some (k, σ2, w)) : HMet l D tc b z y_L_set method_5_code 6 hh_L_set 8 129 [.ref (b + 0), .int v1, .int v2, .int v3, .ref (b + 62)] σ ρ v k σ2 w := by
  refine hm_met (by decide) (Nat.le_of_ble_eq_true rfl) fun p e s m args below meth c S htab hW ls hl => ?_
  have hx := S.1.1
  have hb := S.1.2.1
  refine lv_aload hx hb d_L_set_0 (lv_at hl 4 rfl) ?_
  refine lv_iconst hx hb d_L_set_2 rfl ?_
  refine lv_aload_n hx hb d_L_set_3 rfl (lv_at hl 0 rfl) ?_
  refine lv_iload_n hx hb d_L_set_4 rfl (lv_at hl 1 rfl) ?_
  refine lv_iload_n hx hb d_L_set_5 rfl (lv_at hl 2 rfl) ?_
  refine lv_iload_n hx hb d_L_set_6 rfl (lv_at hl 3 rfl) ?_
  unfold m_L_set at h
  split at h
  · cases h
  · rename_i x σr heq
    cases h
    refine lm_callP S hW (cr_P_set v1 v2 v3 σ hfl heq) q_P_set wd_771 wd_772 wd_770 (by decide) hl.1 rfl rfl (Nat.le_of_ble_eq_true rfl) d_L_set_7 fun H1 locs1 cells1 slots1 hW1 => ?_
    refine lv_i2l hx hb d_L_set_10 rfl ?_
    refine lm_outw S hW1 d_L_set_11 fun H2 locs2 hW2 => ?_
    refine lv_goto hx hb d_L_set_12 rfl ?_
    refine lv_iconst hx hb d_L_set_23 rfl ?_
    exact hm_iret S hW2 d_L_set_24
  · rename_i j σr heq
    obtain ⟨hroom, h⟩ := gd_s h
    split at h
    · rename_i hj
      cases h
      subst hj
      refine lm_callX (pre := []) (x := ⟨0, 12, 15, 25⟩) (post := [⟨0, 12, 19, 19⟩]) (by decide) S hW (cx_P_set v1 v2 v3 σ hfl heq) hroom q_P_set wd_771 wd_772 wd_770 (by decide) hl.1 rfl rfl (Nat.le_of_ble_eq_true rfl) d_L_set_7 (by rw [htab]; rfl) (fun q hq => nomatch hq) ⟨by decide, by decide, wd_769⟩ fun H1 hW1 => ?_
      refine lv_astore hx hb d_L_set_15 hl (Nat.le_of_ble_eq_true rfl) rfl fun ls2 hl2 => ?_
      refine lv_iconst hx hb d_L_set_17 rfl ?_
      exact hm_iret S hW1 d_L_set_18
    · split at h
      · rename_i hj
        cases h
        subst hj
        refine lm_callX (pre := [(⟨0, 12, 15, 25⟩, 3)]) (x := ⟨0, 12, 19, 19⟩) (post := []) (by decide) S hW (cx_P_set v1 v2 v3 σ hfl heq) hroom q_P_set wd_771 wd_772 wd_770 (by decide) hl.1 rfl rfl (Nat.le_of_ble_eq_true rfl) d_L_set_7 (by rw [htab]; rfl) (fun q hq => by
          simp only [List.mem_cons, List.not_mem_nil, or_false] at hq
          subst hq
          exact ⟨by decide, by decide, wd_769, by decide, by decide, by decide⟩) ⟨by decide, by decide, wd_745⟩ fun H1 hW1 => ?_
        refine lv_astore hx hb d_L_set_19 hl (Nat.le_of_ble_eq_true rfl) rfl fun ls2 hl2 => ?_
        refine lv_iconst hx hb d_L_set_21 rfl ?_
        exact hm_iret S hW1 d_L_set_22
      · cases h
theorem d_L_write_0 : decode method_6_code 0 = .ok (.aload_n 2, 1) := by decide +kernel
theorem d_L_write_1 : decode method_6_code 1 = .ok (.iconst 0, 1) := by decide +kernel
theorem d_L_write_2 : decode method_6_code 2 = .ok (.aload_n 0, 1) := by decide +kernel
theorem d_L_write_3 : decode method_6_code 3 = .ok (.iload_n 1, 1) := by decide +kernel
theorem d_L_write_4 : decode method_6_code 4 = .ok (.invokevirtual 27, 3) := by decide +kernel
theorem d_L_write_7 : decode method_6_code 7 = .ok (.i2l, 1) := by decide +kernel
theorem d_L_write_8 : decode method_6_code 8 = .ok (.lastore, 1) := by decide +kernel
theorem d_L_write_9 : decode method_6_code 9 = .ok (.goto 12, 3) := by decide +kernel
theorem d_L_write_12 : decode method_6_code 12 = .ok (.astore_n 3, 1) := by decide +kernel
theorem d_L_write_13 : decode method_6_code 13 = .ok (.iconst 1, 1) := by decide +kernel
theorem d_L_write_14 : decode method_6_code 14 = .ok (.ireturn, 1) := by decide +kernel
theorem d_L_write_15 : decode method_6_code 15 = .ok (.astore_n 3, 1) := by decide +kernel
theorem d_L_write_16 : decode method_6_code 16 = .ok (.iconst 2, 1) := by decide +kernel
theorem d_L_write_17 : decode method_6_code 17 = .ok (.ireturn, 1) := by decide +kernel
theorem d_L_write_18 : decode method_6_code 18 = .ok (.astore_n 3, 1) := by decide +kernel
theorem d_L_write_19 : decode method_6_code 19 = .ok (.iconst 3, 1) := by decide +kernel
theorem d_L_write_20 : decode method_6_code 20 = .ok (.ireturn, 1) := by decide +kernel
theorem d_L_write_21 : decode method_6_code 21 = .ok (.iconst 0, 1) := by decide +kernel
theorem d_L_write_22 : decode method_6_code 22 = .ok (.ireturn, 1) := by decide +kernel
abbrev y_L_write : MethodName := ⟨"StreamPairLaw", "write", "(LStreamPair;I[J)I"⟩
abbrev hh_L_write : List (Nat × Nat × Nat × Nat) := [(0, 9, 12, 25), (0, 9, 15, 13), (0, 9, 18, 30)]
def m_L_write (v1 : Int32) (σ : CS) (v : Int64) : Option (Int32 × CS × Int64) := match m_P_write v1 σ with
  | none => none
  | some (.inr x, σ2) => some (0, σ2, x.toInt64)
  | some (.inl j, _) => gd (cX σ + 1 ≤ 601024 ∧ cU σ + 6 ≤ 7293034) <| if j = 3 then some (1, wa σ 0 0 6, v) else if j = 1 then some (2, wa σ 0 0 6, v) else if j = 4 then some (3, wa σ 0 0 6, v) else none
theorem c_L_write {l : Launch} {D : va_G} {tc : Nat → ClassId} {b z : Nat} (hfl : l.flags = flags0) (v1 : Int32) (σ : CS) (ρ : RS) (v : Int64) {k : Int32} {σ2 : CS} {w : Int64} (h : m_L_write v1 σ v = some (k, σ2, w)) : HMet l D tc b z y_L_write method_6_code 4 hh_L_write 13 317 [.ref (b + 0), .int v1, .ref (b + 62)] σ ρ v k σ2 w := by
  refine hm_met (by decide) (Nat.le_of_ble_eq_true rfl) fun p e s m args below meth c S htab hW ls hl => ?_
  have hx := S.1.1
  have hb := S.1.2.1
  refine lv_aload_n hx hb d_L_write_0 rfl (lv_at hl 2 rfl) ?_
  refine lv_iconst hx hb d_L_write_1 rfl ?_
  refine lv_aload_n hx hb d_L_write_2 rfl (lv_at hl 0 rfl) ?_
  refine lv_iload_n hx hb d_L_write_3 rfl (lv_at hl 1 rfl) ?_
  unfold m_L_write at h
  split at h
  · cases h
  · rename_i x σr heq
    cases h
    refine lm_callP S hW (cr_P_write v1 σ hfl heq) q_P_write wd_801 wd_802 wd_800 (by decide) hl.1 rfl rfl (Nat.le_of_ble_eq_true rfl) d_L_write_4 fun H1 locs1 cells1 slots1 hW1 => ?_
    refine lv_i2l hx hb d_L_write_7 rfl ?_
    refine lm_outw S hW1 d_L_write_8 fun H2 locs2 hW2 => ?_
    refine lv_goto hx hb d_L_write_9 rfl ?_
    refine lv_iconst hx hb d_L_write_21 rfl ?_
    exact hm_iret S hW2 d_L_write_22
  · rename_i j σr heq
    obtain ⟨hroom, h⟩ := gd_s h
    split at h
    · rename_i hj
      cases h
      subst hj
      refine lm_callX (pre := []) (x := ⟨0, 9, 12, 25⟩) (post := [⟨0, 9, 15, 13⟩, ⟨0, 9, 18, 30⟩]) (by decide) S hW (cx_P_write v1 σ hfl heq) hroom q_P_write wd_801 wd_802 wd_800 (by decide) hl.1 rfl rfl (Nat.le_of_ble_eq_true rfl) d_L_write_4 (by rw [htab]; rfl) (fun q hq => nomatch hq) ⟨by decide, by decide, wd_769⟩ fun H1 hW1 => ?_
      refine lv_astore_n hx hb d_L_write_12 rfl hl (Nat.le_of_ble_eq_true rfl) rfl fun ls2 hl2 => ?_
      refine lv_iconst hx hb d_L_write_13 rfl ?_
      exact hm_iret S hW1 d_L_write_14
    · split at h
      · rename_i hj
        cases h
        subst hj
        refine lm_callX (pre := [(⟨0, 9, 12, 25⟩, 3)]) (x := ⟨0, 9, 15, 13⟩) (post := [⟨0, 9, 18, 30⟩]) (by decide) S hW (cx_P_write v1 σ hfl heq) hroom q_P_write wd_801 wd_802 wd_800 (by decide) hl.1 rfl rfl (Nat.le_of_ble_eq_true rfl) d_L_write_4 (by rw [htab]; rfl) (fun q hq => by
          simp only [List.mem_cons, List.not_mem_nil, or_false] at hq
          subst hq
          exact ⟨by decide, by decide, wd_769, by decide, by decide, by decide⟩) ⟨by decide, by decide, wd_653⟩ fun H1 hW1 => ?_
        refine lv_astore_n hx hb d_L_write_15 rfl hl (Nat.le_of_ble_eq_true rfl) rfl fun ls2 hl2 => ?_
        refine lv_iconst hx hb d_L_write_16 rfl ?_
        exact hm_iret S hW1 d_L_write_17
      · split at h
        · rename_i hj
          cases h
          subst hj
          refine lm_callX (pre := [(⟨0, 9, 12, 25⟩, 3), (⟨0, 9, 15, 13⟩, 1)]) (x := ⟨0, 9, 18, 30⟩) (post := []) (by decide) S hW (cx_P_write v1 σ hfl heq) hroom q_P_write wd_801 wd_802 wd_800 (by decide) hl.1 rfl rfl (Nat.le_of_ble_eq_true rfl) d_L_write_4 (by rw [htab]; rfl) (fun q hq => by
            simp only [List.mem_cons, List.not_mem_nil, or_false] at hq
            rcases hq with rfl | rfl
            · exact ⟨by decide, by decide, wd_769, by decide, by decide, by decide⟩
            · exact ⟨by decide, by decide, wd_653, by decide, by decide, by decide⟩) ⟨by decide, by decide, wd_799⟩ fun H1 hW1 => ?_
          refine lv_astore_n hx hb d_L_write_18 rfl hl (Nat.le_of_ble_eq_true rfl) rfl fun ls2 hl2 => ?_
          refine lv_iconst hx hb d_L_write_19 rfl ?_
          exact hm_iret S hW1 d_L_write_20
        · cases h
theorem d_L_read_0 : decode method_7_code 0 = .ok (.aload_n 3, 1) := by decide +kernel
theorem d_L_read_1 : decode method_7_code 1 = .ok (.iconst 0, 1) := by decide +kernel
theorem d_L_read_2 : decode method_7_code 2 = .ok (.aload_n 0, 1) := by decide +kernel
theorem d_L_read_3 : decode method_7_code 3 = .ok (.iload_n 1, 1) := by decide +kernel
theorem d_L_read_4 : decode method_7_code 4 = .ok (.iload_n 2, 1) := by decide +kernel
theorem d_L_read_5 : decode method_7_code 5 = .ok (.invokevirtual 32, 3) := by decide +kernel
theorem d_L_read_8 : decode method_7_code 8 = .ok (.lastore, 1) := by decide +kernel
theorem d_L_read_9 : decode method_7_code 9 = .ok (.goto 19, 3) := by decide +kernel
theorem d_L_read_12 : decode method_7_code 12 = .ok (.astore 4, 2) := by decide +kernel
theorem d_L_read_14 : decode method_7_code 14 = .ok (.iconst 1, 1) := by decide +kernel
theorem d_L_read_15 : decode method_7_code 15 = .ok (.ireturn, 1) := by decide +kernel
theorem d_L_read_16 : decode method_7_code 16 = .ok (.astore 4, 2) := by decide +kernel
theorem d_L_read_18 : decode method_7_code 18 = .ok (.iconst 2, 1) := by decide +kernel
theorem d_L_read_19 : decode method_7_code 19 = .ok (.ireturn, 1) := by decide +kernel
theorem d_L_read_20 : decode method_7_code 20 = .ok (.astore 4, 2) := by decide +kernel
theorem d_L_read_22 : decode method_7_code 22 = .ok (.iconst 3, 1) := by decide +kernel
theorem d_L_read_23 : decode method_7_code 23 = .ok (.ireturn, 1) := by decide +kernel
theorem d_L_read_24 : decode method_7_code 24 = .ok (.astore 4, 2) := by decide +kernel
theorem d_L_read_26 : decode method_7_code 26 = .ok (.iconst 4, 1) := by decide +kernel
theorem d_L_read_27 : decode method_7_code 27 = .ok (.ireturn, 1) := by decide +kernel
theorem d_L_read_28 : decode method_7_code 28 = .ok (.iconst 0, 1) := by decide +kernel
theorem d_L_read_29 : decode method_7_code 29 = .ok (.ireturn, 1) := by decide +kernel
abbrev y_L_read : MethodName := ⟨"StreamPairLaw", "read", "(LStreamPair;II[J)I"⟩
abbrev hh_L_read : List (Nat × Nat × Nat × Nat) := [(0, 9, 12, 25), (0, 9, 16, 19), (0, 9, 20, 13), (0, 9, 24, 30)]
def m_L_read (v1 : Int32) (v2 : Int32) (σ : CS) (v : Int64) : Option (Int32 × CS × Int64) := match m_P_read v1 v2 σ with
  | none => none
  | some (.inr x, σ2) => some (0, σ2, x)
  | some (.inl j, _) => gd (cX σ + 1 ≤ 601024 ∧ cU σ + 6 ≤ 7293034) <| if j = 3 then some (1, wa σ 0 0 6, v) else if j = 2 then some (2, wa σ 0 0 6, v) else if j = 1 then some (3, wa σ 0 0 6, v) else if j = 4 then some (4, wa σ 0 0 6, v) else none
theorem c_L_read {l : Launch} {D : va_G} {tc : Nat → ClassId} {b z : Nat} (hfl : l.flags = flags0) (v1 : Int32) (v2 : Int32) (σ : CS) (ρ : RS) (v : Int64) {k : Int32} {σ2 : CS} {w : Int64} (h : m_L_read v1 v2 σ v = some (k, σ2, w)) : HMet l D tc b z y_L_read method_7_code 5 hh_L_read 13 313 [.ref (b + 0), .int v1, .int v2, .ref (b + 62)] σ ρ v k σ2 w := by
  refine hm_met (by decide) (Nat.le_of_ble_eq_true rfl) fun p e s m args below meth c S htab hW ls hl => ?_
  have hx := S.1.1
  have hb := S.1.2.1
  refine lv_aload_n hx hb d_L_read_0 rfl (lv_at hl 3 rfl) ?_
  refine lv_iconst hx hb d_L_read_1 rfl ?_
  refine lv_aload_n hx hb d_L_read_2 rfl (lv_at hl 0 rfl) ?_
  refine lv_iload_n hx hb d_L_read_3 rfl (lv_at hl 1 rfl) ?_
  refine lv_iload_n hx hb d_L_read_4 rfl (lv_at hl 2 rfl) ?_
  unfold m_L_read at h
  split at h
  · cases h
  · rename_i x σr heq
    cases h
    refine lm_callP S hW (cr_P_read v1 v2 σ hfl heq) q_P_read wd_861 wd_862 wd_860 (by decide) hl.1 rfl rfl (Nat.le_of_ble_eq_true rfl) d_L_read_5 fun H1 locs1 cells1 slots1 hW1 => ?_
    refine lm_outw S hW1 d_L_read_8 fun H2 locs2 hW2 => ?_
    refine lv_goto hx hb d_L_read_9 rfl ?_
    refine lv_iconst hx hb d_L_read_28 rfl ?_
    exact hm_iret S hW2 d_L_read_29
  · rename_i j σr heq
    obtain ⟨hroom, h⟩ := gd_s h
    split at h
    · rename_i hj
      cases h
      subst hj
      refine lm_callX (pre := []) (x := ⟨0, 9, 12, 25⟩) (post := [⟨0, 9, 16, 19⟩, ⟨0, 9, 20, 13⟩, ⟨0, 9, 24, 30⟩]) (by decide) S hW (cx_P_read v1 v2 σ hfl heq) hroom q_P_read wd_861 wd_862 wd_860 (by decide) hl.1 rfl rfl (Nat.le_of_ble_eq_true rfl) d_L_read_5 (by rw [htab]; rfl) (fun q hq => nomatch hq) ⟨by decide, by decide, wd_769⟩ fun H1 hW1 => ?_
      refine lv_astore hx hb d_L_read_12 hl (Nat.le_of_ble_eq_true rfl) rfl fun ls2 hl2 => ?_
      refine lv_iconst hx hb d_L_read_14 rfl ?_
      exact hm_iret S hW1 d_L_read_15
    · split at h
      · rename_i hj
        cases h
        subst hj
        refine lm_callX (pre := [(⟨0, 9, 12, 25⟩, 3)]) (x := ⟨0, 9, 16, 19⟩) (post := [⟨0, 9, 20, 13⟩, ⟨0, 9, 24, 30⟩]) (by decide) S hW (cx_P_read v1 v2 σ hfl heq) hroom q_P_read wd_861 wd_862 wd_860 (by decide) hl.1 rfl rfl (Nat.le_of_ble_eq_true rfl) d_L_read_5 (by rw [htab]; rfl) (fun q hq => by
          simp only [List.mem_cons, List.not_mem_nil, or_false] at hq
          subst hq
          exact ⟨by decide, by decide, wd_769, by decide, by decide, by decide⟩) ⟨by decide, by decide, wd_745⟩ fun H1 hW1 => ?_
        refine lv_astore hx hb d_L_read_16 hl (Nat.le_of_ble_eq_true rfl) rfl fun ls2 hl2 => ?_
        refine lv_iconst hx hb d_L_read_18 rfl ?_
        exact hm_iret S hW1 d_L_read_19
      · split at h
        · rename_i hj
          cases h
          subst hj
          refine lm_callX (pre := [(⟨0, 9, 12, 25⟩, 3), (⟨0, 9, 16, 19⟩, 2)]) (x := ⟨0, 9, 20, 13⟩) (post := [⟨0, 9, 24, 30⟩]) (by decide) S hW (cx_P_read v1 v2 σ hfl heq) hroom q_P_read wd_861 wd_862 wd_860 (by decide) hl.1 rfl rfl (Nat.le_of_ble_eq_true rfl) d_L_read_5 (by rw [htab]; rfl) (fun q hq => by
            simp only [List.mem_cons, List.not_mem_nil, or_false] at hq
            rcases hq with rfl | rfl
            · exact ⟨by decide, by decide, wd_769, by decide, by decide, by decide⟩
            · exact ⟨by decide, by decide, wd_745, by decide, by decide, by decide⟩) ⟨by decide, by decide, wd_653⟩ fun H1 hW1 => ?_
          refine lv_astore hx hb d_L_read_20 hl (Nat.le_of_ble_eq_true rfl) rfl fun ls2 hl2 => ?_
          refine lv_iconst hx hb d_L_read_22 rfl ?_
          exact hm_iret S hW1 d_L_read_23
        · split at h
          · rename_i hj
            cases h
            subst hj
            refine lm_callX (pre := [(⟨0, 9, 12, 25⟩, 3), (⟨0, 9, 16, 19⟩, 2), (⟨0, 9, 20, 13⟩, 1)]) (x := ⟨0, 9, 24, 30⟩) (post := []) (by decide) S hW (cx_P_read v1 v2 σ hfl heq) hroom q_P_read wd_861 wd_862 wd_860 (by decide) hl.1 rfl rfl (Nat.le_of_ble_eq_true rfl) d_L_read_5 (by rw [htab]; rfl) (fun q hq => by
              simp only [List.mem_cons, List.not_mem_nil, or_false] at hq
              rcases hq with rfl | rfl | rfl
              · exact ⟨by decide, by decide, wd_769, by decide, by decide, by decide⟩
              · exact ⟨by decide, by decide, wd_745, by decide, by decide, by decide⟩
              · exact ⟨by decide, by decide, wd_653, by decide, by decide, by decide⟩) ⟨by decide, by decide, wd_799⟩ fun H1 hW1 => ?_
            refine lv_astore hx hb d_L_read_24 hl (Nat.le_of_ble_eq_true rfl) rfl fun ls2 hl2 => ?_
            refine lv_iconst hx hb d_L_read_26 rfl ?_
            exact hm_iret S hW1 d_L_read_27
          · cases h
theorem d_L_close_0 : decode method_8_code 0 = .ok (.aload_n 2, 1) := by decide +kernel
theorem d_L_close_1 : decode method_8_code 1 = .ok (.iconst 0, 1) := by decide +kernel
theorem d_L_close_2 : decode method_8_code 2 = .ok (.aload_n 0, 1) := by decide +kernel
theorem d_L_close_3 : decode method_8_code 3 = .ok (.iload_n 1, 1) := by decide +kernel
theorem d_L_close_4 : decode method_8_code 4 = .ok (.invokevirtual 36, 3) := by decide +kernel
theorem d_L_close_7 : decode method_8_code 7 = .ok (.i2l, 1) := by decide +kernel
theorem d_L_close_8 : decode method_8_code 8 = .ok (.lastore, 1) := by decide +kernel
theorem d_L_close_9 : decode method_8_code 9 = .ok (.goto 9, 3) := by decide +kernel
theorem d_L_close_12 : decode method_8_code 12 = .ok (.astore_n 3, 1) := by decide +kernel
theorem d_L_close_13 : decode method_8_code 13 = .ok (.iconst 1, 1) := by decide +kernel
theorem d_L_close_14 : decode method_8_code 14 = .ok (.ireturn, 1) := by decide +kernel
theorem d_L_close_15 : decode method_8_code 15 = .ok (.astore_n 3, 1) := by decide +kernel
theorem d_L_close_16 : decode method_8_code 16 = .ok (.iconst 2, 1) := by decide +kernel
theorem d_L_close_17 : decode method_8_code 17 = .ok (.ireturn, 1) := by decide +kernel
theorem d_L_close_18 : decode method_8_code 18 = .ok (.iconst 0, 1) := by decide +kernel
theorem d_L_close_19 : decode method_8_code 19 = .ok (.ireturn, 1) := by decide +kernel
abbrev y_L_close : MethodName := ⟨"StreamPairLaw", "close", "(LStreamPair;I[J)I"⟩
abbrev hh_L_close : List (Nat × Nat × Nat × Nat) := [(0, 9, 12, 25), (0, 9, 15, 13)]
def m_L_close (v1 : Int32) (σ : CS) (v : Int64) : Option (Int32 × CS × Int64) := match m_P_close v1 σ with
  | none => none
  | some (.inr x, σ2) => some (0, σ2, x.toInt64)
  | some (.inl j, _) => gd (cX σ + 1 ≤ 601024 ∧ cU σ + 6 ≤ 7293034) <| if j = 3 then some (1, wa σ 0 0 6, v) else if j = 1 then some (2, wa σ 0 0 6, v) else none
theorem c_L_close {l : Launch} {D : va_G} {tc : Nat → ClassId} {b z : Nat} (hfl : l.flags = flags0) (v1 : Int32) (σ : CS) (ρ : RS) (v : Int64) {k : Int32} {σ2 : CS} {w : Int64} (h : m_L_close v1 σ v = some (k, σ2, w)) : HMet l D tc b z y_L_close method_8_code 4 hh_L_close 14 336 [.ref (b + 0), .int v1, .ref (b + 62)] σ ρ v k σ2 w := by
  refine hm_met (by decide) (Nat.le_of_ble_eq_true rfl) fun p e s m args below meth c S htab hW ls hl => ?_
  have hx := S.1.1
  have hb := S.1.2.1
  refine lv_aload_n hx hb d_L_close_0 rfl (lv_at hl 2 rfl) ?_
  refine lv_iconst hx hb d_L_close_1 rfl ?_
  refine lv_aload_n hx hb d_L_close_2 rfl (lv_at hl 0 rfl) ?_
  refine lv_iload_n hx hb d_L_close_3 rfl (lv_at hl 1 rfl) ?_
  unfold m_L_close at h
  split at h
  · cases h
  · rename_i x σr heq
    cases h
    refine lm_callP S hW (cr_P_close v1 σ hfl heq) q_P_close wd_890 wd_891 wd_889 (by decide) hl.1 rfl rfl (Nat.le_of_ble_eq_true rfl) d_L_close_4 fun H1 locs1 cells1 slots1 hW1 => ?_
    refine lv_i2l hx hb d_L_close_7 rfl ?_
    refine lm_outw S hW1 d_L_close_8 fun H2 locs2 hW2 => ?_
    refine lv_goto hx hb d_L_close_9 rfl ?_
    refine lv_iconst hx hb d_L_close_18 rfl ?_
    exact hm_iret S hW2 d_L_close_19
  · rename_i j σr heq
    obtain ⟨hroom, h⟩ := gd_s h
    split at h
    · rename_i hj
      cases h
      subst hj
      refine lm_callX (pre := []) (x := ⟨0, 9, 12, 25⟩) (post := [⟨0, 9, 15, 13⟩]) (by decide) S hW (cx_P_close v1 σ hfl heq) hroom q_P_close wd_890 wd_891 wd_889 (by decide) hl.1 rfl rfl (Nat.le_of_ble_eq_true rfl) d_L_close_4 (by rw [htab]; rfl) (fun q hq => nomatch hq) ⟨by decide, by decide, wd_769⟩ fun H1 hW1 => ?_
      refine lv_astore_n hx hb d_L_close_12 rfl hl (Nat.le_of_ble_eq_true rfl) rfl fun ls2 hl2 => ?_
      refine lv_iconst hx hb d_L_close_13 rfl ?_
      exact hm_iret S hW1 d_L_close_14
    · split at h
      · rename_i hj
        cases h
        subst hj
        refine lm_callX (pre := [(⟨0, 9, 12, 25⟩, 3)]) (x := ⟨0, 9, 15, 13⟩) (post := []) (by decide) S hW (cx_P_close v1 σ hfl heq) hroom q_P_close wd_890 wd_891 wd_889 (by decide) hl.1 rfl rfl (Nat.le_of_ble_eq_true rfl) d_L_close_4 (by rw [htab]; rfl) (fun q hq => by
          simp only [List.mem_cons, List.not_mem_nil, or_false] at hq
          subst hq
          exact ⟨by decide, by decide, wd_769, by decide, by decide, by decide⟩) ⟨by decide, by decide, wd_653⟩ fun H1 hW1 => ?_
        refine lv_astore_n hx hb d_L_close_15 rfl hl (Nat.le_of_ble_eq_true rfl) rfl fun ls2 hl2 => ?_
        refine lv_iconst hx hb d_L_close_16 rfl ?_
        exact hm_iret S hW1 d_L_close_17
      · cases h
theorem d_L_abort_0 : decode method_9_code 0 = .ok (.aload_n 2, 1) := by decide +kernel
theorem d_L_abort_1 : decode method_9_code 1 = .ok (.iconst 0, 1) := by decide +kernel
theorem d_L_abort_2 : decode method_9_code 2 = .ok (.aload_n 0, 1) := by decide +kernel
theorem d_L_abort_3 : decode method_9_code 3 = .ok (.iload_n 1, 1) := by decide +kernel
theorem d_L_abort_4 : decode method_9_code 4 = .ok (.invokevirtual 39, 3) := by decide +kernel
theorem d_L_abort_7 : decode method_9_code 7 = .ok (.i2l, 1) := by decide +kernel
theorem d_L_abort_8 : decode method_9_code 8 = .ok (.lastore, 1) := by decide +kernel
theorem d_L_abort_9 : decode method_9_code 9 = .ok (.goto 6, 3) := by decide +kernel
theorem d_L_abort_12 : decode method_9_code 12 = .ok (.astore_n 3, 1) := by decide +kernel
theorem d_L_abort_13 : decode method_9_code 13 = .ok (.iconst 1, 1) := by decide +kernel
theorem d_L_abort_14 : decode method_9_code 14 = .ok (.ireturn, 1) := by decide +kernel
theorem d_L_abort_15 : decode method_9_code 15 = .ok (.iconst 0, 1) := by decide +kernel
theorem d_L_abort_16 : decode method_9_code 16 = .ok (.ireturn, 1) := by decide +kernel
abbrev y_L_abort : MethodName := ⟨"StreamPairLaw", "abort", "(LStreamPair;I[J)I"⟩
abbrev hh_L_abort : List (Nat × Nat × Nat × Nat) := [(0, 9, 12, 25)]
def m_L_abort (v1 : Int32) (σ : CS) (v : Int64) : Option (Int32 × CS × Int64) := match m_P_abort v1 σ with
  | none => none
  | some (.inr x, σ2) => some (0, σ2, x.toInt64)
  | some (.inl j, _) => gd (cX σ + 1 ≤ 601024 ∧ cU σ + 6 ≤ 7293034) <| if j = 3 then some (1, wa σ 0 0 6, v) else none
theorem c_L_abort {l : Launch} {D : va_G} {tc : Nat → ClassId} {b z : Nat} (hfl : l.flags = flags0) (v1 : Int32) (σ : CS) (ρ : RS) (v : Int64) {k : Int32} {σ2 : CS} {w : Int64} (h : m_L_abort v1 σ v = some (k, σ2, w)) : HMet l D tc b z y_L_abort method_9_code 4 hh_L_abort 12 290 [.ref (b + 0), .int v1, .ref (b + 62)] σ ρ v k σ2 w := by
  refine hm_met (by decide) (Nat.le_of_ble_eq_true rfl) fun p e s m args below meth c S htab hW ls hl => ?_
  have hx := S.1.1
  have hb := S.1.2.1
  refine lv_aload_n hx hb d_L_abort_0 rfl (lv_at hl 2 rfl) ?_
  refine lv_iconst hx hb d_L_abort_1 rfl ?_
  refine lv_aload_n hx hb d_L_abort_2 rfl (lv_at hl 0 rfl) ?_
  refine lv_iload_n hx hb d_L_abort_3 rfl (lv_at hl 1 rfl) ?_
  unfold m_L_abort at h
  split at h
  · cases h
  · rename_i x σr heq
    cases h
    refine lm_callP S hW (cr_P_abort v1 σ hfl heq) q_P_abort wd_911 wd_912 wd_910 (by decide) hl.1 rfl rfl (Nat.le_of_ble_eq_true rfl) d_L_abort_4 fun H1 locs1 cells1 slots1 hW1 => ?_
    refine lv_i2l hx hb d_L_abort_7 rfl ?_
    refine lm_outw S hW1 d_L_abort_8 fun H2 locs2 hW2 => ?_
    refine lv_goto hx hb d_L_abort_9 rfl ?_
    refine lv_iconst hx hb d_L_abort_15 rfl ?_
    exact hm_iret S hW2 d_L_abort_16
  · rename_i j σr heq
    obtain ⟨hroom, h⟩ := gd_s h
    split at h
    · rename_i hj
      cases h
      subst hj
      refine lm_callX (pre := []) (x := ⟨0, 9, 12, 25⟩) (post := []) (by decide) S hW (cx_P_abort v1 σ hfl heq) hroom q_P_abort wd_911 wd_912 wd_910 (by decide) hl.1 rfl rfl (Nat.le_of_ble_eq_true rfl) d_L_abort_4 (by rw [htab]; rfl) (fun q hq => nomatch hq) ⟨by decide, by decide, wd_769⟩ fun H1 hW1 => ?_
      refine lv_astore_n hx hb d_L_abort_12 rfl hl (Nat.le_of_ble_eq_true rfl) rfl fun ls2 hl2 => ?_
      refine lv_iconst hx hb d_L_abort_13 rfl ?_
      exact hm_iret S hW1 d_L_abort_14
    · cases h
theorem d_L_tick_0 : decode method_10_code 0 = .ok (.aload_n 2, 1) := by decide +kernel
theorem d_L_tick_1 : decode method_10_code 1 = .ok (.iconst 0, 1) := by decide +kernel
theorem d_L_tick_2 : decode method_10_code 2 = .ok (.aload_n 0, 1) := by decide +kernel
theorem d_L_tick_3 : decode method_10_code 3 = .ok (.iload_n 1, 1) := by decide +kernel
theorem d_L_tick_4 : decode method_10_code 4 = .ok (.invokevirtual 42, 3) := by decide +kernel
theorem d_L_tick_7 : decode method_10_code 7 = .ok (.lastore, 1) := by decide +kernel
theorem d_L_tick_8 : decode method_10_code 8 = .ok (.goto 6, 3) := by decide +kernel
theorem d_L_tick_11 : decode method_10_code 11 = .ok (.astore_n 3, 1) := by decide +kernel
theorem d_L_tick_12 : decode method_10_code 12 = .ok (.iconst 1, 1) := by decide +kernel
theorem d_L_tick_13 : decode method_10_code 13 = .ok (.ireturn, 1) := by decide +kernel
theorem d_L_tick_14 : decode method_10_code 14 = .ok (.iconst 0, 1) := by decide +kernel
theorem d_L_tick_15 : decode method_10_code 15 = .ok (.ireturn, 1) := by decide +kernel
abbrev y_L_tick : MethodName := ⟨"StreamPairLaw", "tick", "(LStreamPair;I[J)I"⟩
abbrev hh_L_tick : List (Nat × Nat × Nat × Nat) := [(0, 8, 11, 19)]
def m_L_tick (v1 : Int32) (σ : CS) (v : Int64) : Option (Int32 × CS × Int64) := match m_P_tick v1 σ with
  | none => none
  | some (.inr x, σ2) => some (0, σ2, x)
  | some (.inl j, _) => gd (cX σ + 1 ≤ 601024 ∧ cU σ + 6 ≤ 7293034) <| if j = 2 then some (1, wa σ 0 0 6, v) else none
theorem c_L_tick {l : Launch} {D : va_G} {tc : Nat → ClassId} {b z : Nat} (hfl : l.flags = flags0) (v1 : Int32) (σ : CS) (ρ : RS) (v : Int64) {k : Int32} {σ2 : CS} {w : Int64} (h : m_L_tick v1 σ v = some (k, σ2, w)) : HMet l D tc b z y_L_tick method_10_code 4 hh_L_tick 14 339 [.ref (b + 0), .int v1, .ref (b + 62)] σ ρ v k σ2 w := by
  refine hm_met (by decide) (Nat.le_of_ble_eq_true rfl) fun p e s m args below meth c S htab hW ls hl => ?_
  have hx := S.1.1
  have hb := S.1.2.1
  refine lv_aload_n hx hb d_L_tick_0 rfl (lv_at hl 2 rfl) ?_
  refine lv_iconst hx hb d_L_tick_1 rfl ?_
  refine lv_aload_n hx hb d_L_tick_2 rfl (lv_at hl 0 rfl) ?_
  refine lv_iload_n hx hb d_L_tick_3 rfl (lv_at hl 1 rfl) ?_
  unfold m_L_tick at h
  split at h
  · cases h
  · rename_i x σr heq
    cases h
    refine lm_callP S hW (cr_P_tick v1 σ hfl heq) q_P_tick wd_922 wd_923 wd_921 (by decide) hl.1 rfl rfl (Nat.le_of_ble_eq_true rfl) d_L_tick_4 fun H1 locs1 cells1 slots1 hW1 => ?_
    refine lm_outw S hW1 d_L_tick_7 fun H2 locs2 hW2 => ?_
    refine lv_goto hx hb d_L_tick_8 rfl ?_
    refine lv_iconst hx hb d_L_tick_14 rfl ?_
    exact hm_iret S hW2 d_L_tick_15
  · rename_i j σr heq
    obtain ⟨hroom, h⟩ := gd_s h
    split at h
    · rename_i hj
      cases h
      subst hj
      refine lm_callX (pre := []) (x := ⟨0, 8, 11, 19⟩) (post := []) (by decide) S hW (cx_P_tick v1 σ hfl heq) hroom q_P_tick wd_922 wd_923 wd_921 (by decide) hl.1 rfl rfl (Nat.le_of_ble_eq_true rfl) d_L_tick_4 (by rw [htab]; rfl) (fun q hq => nomatch hq) ⟨by decide, by decide, wd_745⟩ fun H1 hW1 => ?_
      refine lv_astore_n hx hb d_L_tick_11 rfl hl (Nat.le_of_ble_eq_true rfl) rfl fun ls2 hl2 => ?_
      refine lv_iconst hx hb d_L_tick_12 rfl ?_
      exact hm_iret S hW1 d_L_tick_13
    · cases h
theorem d_L_deliver_0 : decode method_11_code 0 = .ok (.aload_n 2, 1) := by decide +kernel
theorem d_L_deliver_1 : decode method_11_code 1 = .ok (.iconst 0, 1) := by decide +kernel
theorem d_L_deliver_2 : decode method_11_code 2 = .ok (.aload_n 0, 1) := by decide +kernel
theorem d_L_deliver_3 : decode method_11_code 3 = .ok (.iload_n 1, 1) := by decide +kernel
theorem d_L_deliver_4 : decode method_11_code 4 = .ok (.invokevirtual 46, 3) := by decide +kernel
theorem d_L_deliver_7 : decode method_11_code 7 = .ok (.i2l, 1) := by decide +kernel
theorem d_L_deliver_8 : decode method_11_code 8 = .ok (.lastore, 1) := by decide +kernel
theorem d_L_deliver_9 : decode method_11_code 9 = .ok (.goto 6, 3) := by decide +kernel
theorem d_L_deliver_12 : decode method_11_code 12 = .ok (.astore_n 3, 1) := by decide +kernel
theorem d_L_deliver_13 : decode method_11_code 13 = .ok (.iconst 1, 1) := by decide +kernel
theorem d_L_deliver_14 : decode method_11_code 14 = .ok (.ireturn, 1) := by decide +kernel
theorem d_L_deliver_15 : decode method_11_code 15 = .ok (.iconst 0, 1) := by decide +kernel
theorem d_L_deliver_16 : decode method_11_code 16 = .ok (.ireturn, 1) := by decide +kernel
abbrev y_L_deliver : MethodName := ⟨"StreamPairLaw", "deliver", "(LStreamPair;I[J)I"⟩
abbrev hh_L_deliver : List (Nat × Nat × Nat × Nat) := [(0, 9, 12, 25)]
def m_L_deliver (v1 : Int32) (σ : CS) (v : Int64) : Option (Int32 × CS × Int64) := match m_P_deliver v1 σ with
  | none => none
  | some (.inr x, σ2) => some (0, σ2, x.toInt64)
  | some (.inl j, _) => gd (cX σ + 1 ≤ 601024 ∧ cU σ + 6 ≤ 7293034) <| if j = 3 then some (1, wa σ 0 0 6, v) else none
theorem c_L_deliver {l : Launch} {D : va_G} {tc : Nat → ClassId} {b z : Nat} (hfl : l.flags = flags0) (v1 : Int32) (σ : CS) (ρ : RS) (v : Int64) {k : Int32} {σ2 : CS} {w : Int64} (h : m_L_deliver v1 σ v = some (k, σ2, w)) : HMet l D tc b z y_L_deliver method_11_code 4 hh_L_deliver 14 338 [.ref (b + 0), .int v1, .ref (b + 62)] σ ρ v k σ2 w := by
  refine hm_met (by decide) (Nat.le_of_ble_eq_true rfl) fun p e s m args below meth c S htab hW ls hl => ?_
  have hx := S.1.1
  have hb := S.1.2.1
  refine lv_aload_n hx hb d_L_deliver_0 rfl (lv_at hl 2 rfl) ?_
  refine lv_iconst hx hb d_L_deliver_1 rfl ?_
  refine lv_aload_n hx hb d_L_deliver_2 rfl (lv_at hl 0 rfl) ?_
  refine lv_iload_n hx hb d_L_deliver_3 rfl (lv_at hl 1 rfl) ?_
  unfold m_L_deliver at h
  split at h
  · cases h
  · rename_i x σr heq
    cases h
    refine lm_callP S hW (cr_P_deliver v1 σ hfl heq) q_P_deliver wd_954 wd_955 wd_953 (by decide) hl.1 rfl rfl (Nat.le_of_ble_eq_true rfl) d_L_deliver_4 fun H1 locs1 cells1 slots1 hW1 => ?_
    refine lv_i2l hx hb d_L_deliver_7 rfl ?_
    refine lm_outw S hW1 d_L_deliver_8 fun H2 locs2 hW2 => ?_
    refine lv_goto hx hb d_L_deliver_9 rfl ?_
    refine lv_iconst hx hb d_L_deliver_15 rfl ?_
    exact hm_iret S hW2 d_L_deliver_16
  · rename_i j σr heq
    obtain ⟨hroom, h⟩ := gd_s h
    split at h
    · rename_i hj
      cases h
      subst hj
      refine lm_callX (pre := []) (x := ⟨0, 9, 12, 25⟩) (post := []) (by decide) S hW (cx_P_deliver v1 σ hfl heq) hroom q_P_deliver wd_954 wd_955 wd_953 (by decide) hl.1 rfl rfl (Nat.le_of_ble_eq_true rfl) d_L_deliver_4 (by rw [htab]; rfl) (fun q hq => nomatch hq) ⟨by decide, by decide, wd_769⟩ fun H1 hW1 => ?_
      refine lv_astore_n hx hb d_L_deliver_12 rfl hl (Nat.le_of_ble_eq_true rfl) rfl fun ls2 hl2 => ?_
      refine lv_iconst hx hb d_L_deliver_13 rfl ?_
      exact hm_iret S hW1 d_L_deliver_14
    · cases h
theorem d_L_drop_0 : decode method_12_code 0 = .ok (.aload_n 2, 1) := by decide +kernel
theorem d_L_drop_1 : decode method_12_code 1 = .ok (.iconst 0, 1) := by decide +kernel
theorem d_L_drop_2 : decode method_12_code 2 = .ok (.aload_n 0, 1) := by decide +kernel
theorem d_L_drop_3 : decode method_12_code 3 = .ok (.iload_n 1, 1) := by decide +kernel
theorem d_L_drop_4 : decode method_12_code 4 = .ok (.invokevirtual 49, 3) := by decide +kernel
theorem d_L_drop_7 : decode method_12_code 7 = .ok (.i2l, 1) := by decide +kernel
theorem d_L_drop_8 : decode method_12_code 8 = .ok (.lastore, 1) := by decide +kernel
theorem d_L_drop_9 : decode method_12_code 9 = .ok (.goto 6, 3) := by decide +kernel
theorem d_L_drop_12 : decode method_12_code 12 = .ok (.astore_n 3, 1) := by decide +kernel
theorem d_L_drop_13 : decode method_12_code 13 = .ok (.iconst 1, 1) := by decide +kernel
theorem d_L_drop_14 : decode method_12_code 14 = .ok (.ireturn, 1) := by decide +kernel
theorem d_L_drop_15 : decode method_12_code 15 = .ok (.iconst 0, 1) := by decide +kernel
theorem d_L_drop_16 : decode method_12_code 16 = .ok (.ireturn, 1) := by decide +kernel
abbrev y_L_drop : MethodName := ⟨"StreamPairLaw", "drop", "(LStreamPair;I[J)I"⟩
abbrev hh_L_drop : List (Nat × Nat × Nat × Nat) := [(0, 9, 12, 25)]
def m_L_drop (v1 : Int32) (σ : CS) (v : Int64) : Option (Int32 × CS × Int64) := match m_P_drop v1 σ with
  | none => none
  | some (.inr x, σ2) => some (0, σ2, x.toInt64)
  | some (.inl j, _) => gd (cX σ + 1 ≤ 601024 ∧ cU σ + 6 ≤ 7293034) <| if j = 3 then some (1, wa σ 0 0 6, v) else none
theorem c_L_drop {l : Launch} {D : va_G} {tc : Nat → ClassId} {b z : Nat} (hfl : l.flags = flags0) (v1 : Int32) (σ : CS) (ρ : RS) (v : Int64) {k : Int32} {σ2 : CS} {w : Int64} (h : m_L_drop v1 σ v = some (k, σ2, w)) : HMet l D tc b z y_L_drop method_12_code 4 hh_L_drop 8 193 [.ref (b + 0), .int v1, .ref (b + 62)] σ ρ v k σ2 w := by
  refine hm_met (by decide) (Nat.le_of_ble_eq_true rfl) fun p e s m args below meth c S htab hW ls hl => ?_
  have hx := S.1.1
  have hb := S.1.2.1
  refine lv_aload_n hx hb d_L_drop_0 rfl (lv_at hl 2 rfl) ?_
  refine lv_iconst hx hb d_L_drop_1 rfl ?_
  refine lv_aload_n hx hb d_L_drop_2 rfl (lv_at hl 0 rfl) ?_
  refine lv_iload_n hx hb d_L_drop_3 rfl (lv_at hl 1 rfl) ?_
  unfold m_L_drop at h
  split at h
  · cases h
  · rename_i x σr heq
    cases h
    refine lm_callP S hW (cr_P_drop v1 σ hfl heq) q_P_drop wd_1171 wd_1172 wd_1170 (by decide) hl.1 rfl rfl (Nat.le_of_ble_eq_true rfl) d_L_drop_4 fun H1 locs1 cells1 slots1 hW1 => ?_
    refine lv_i2l hx hb d_L_drop_7 rfl ?_
    refine lm_outw S hW1 d_L_drop_8 fun H2 locs2 hW2 => ?_
    refine lv_goto hx hb d_L_drop_9 rfl ?_
    refine lv_iconst hx hb d_L_drop_15 rfl ?_
    exact hm_iret S hW2 d_L_drop_16
  · rename_i j σr heq
    obtain ⟨hroom, h⟩ := gd_s h
    split at h
    · rename_i hj
      cases h
      subst hj
      refine lm_callX (pre := []) (x := ⟨0, 9, 12, 25⟩) (post := []) (by decide) S hW (cx_P_drop v1 σ hfl heq) hroom q_P_drop wd_1171 wd_1172 wd_1170 (by decide) hl.1 rfl rfl (Nat.le_of_ble_eq_true rfl) d_L_drop_4 (by rw [htab]; rfl) (fun q hq => nomatch hq) ⟨by decide, by decide, wd_769⟩ fun H1 hW1 => ?_
      refine lv_astore_n hx hb d_L_drop_12 rfl hl (Nat.le_of_ble_eq_true rfl) rfl fun ls2 hl2 => ?_
      refine lv_iconst hx hb d_L_drop_13 rfl ?_
      exact hm_iret S hW1 d_L_drop_14
    · cases h
theorem d_L_copy_0 : decode method_13_code 0 = .ok (.aload_n 2, 1) := by decide +kernel
theorem d_L_copy_1 : decode method_13_code 1 = .ok (.iconst 0, 1) := by decide +kernel
theorem d_L_copy_2 : decode method_13_code 2 = .ok (.aload_n 0, 1) := by decide +kernel
theorem d_L_copy_3 : decode method_13_code 3 = .ok (.iload_n 1, 1) := by decide +kernel
theorem d_L_copy_4 : decode method_13_code 4 = .ok (.invokevirtual 52, 3) := by decide +kernel
theorem d_L_copy_7 : decode method_13_code 7 = .ok (.i2l, 1) := by decide +kernel
theorem d_L_copy_8 : decode method_13_code 8 = .ok (.lastore, 1) := by decide +kernel
theorem d_L_copy_9 : decode method_13_code 9 = .ok (.goto 6, 3) := by decide +kernel
theorem d_L_copy_12 : decode method_13_code 12 = .ok (.astore_n 3, 1) := by decide +kernel
theorem d_L_copy_13 : decode method_13_code 13 = .ok (.iconst 1, 1) := by decide +kernel
theorem d_L_copy_14 : decode method_13_code 14 = .ok (.ireturn, 1) := by decide +kernel
theorem d_L_copy_15 : decode method_13_code 15 = .ok (.iconst 0, 1) := by decide +kernel
theorem d_L_copy_16 : decode method_13_code 16 = .ok (.ireturn, 1) := by decide +kernel
abbrev y_L_copy : MethodName := ⟨"StreamPairLaw", "copy", "(LStreamPair;I[J)I"⟩
abbrev hh_L_copy : List (Nat × Nat × Nat × Nat) := [(0, 9, 12, 25)]
def m_L_copy (v1 : Int32) (σ : CS) (v : Int64) : Option (Int32 × CS × Int64) := match m_P_copy v1 σ with
  | none => none
  | some (.inr x, σ2) => some (0, σ2, x.toInt64)
  | some (.inl j, _) => gd (cX σ + 1 ≤ 601024 ∧ cU σ + 6 ≤ 7293034) <| if j = 3 then some (1, wa σ 0 0 6, v) else none
theorem c_L_copy {l : Launch} {D : va_G} {tc : Nat → ClassId} {b z : Nat} (hfl : l.flags = flags0) (v1 : Int32) (σ : CS) (ρ : RS) (v : Int64) {k : Int32} {σ2 : CS} {w : Int64} (h : m_L_copy v1 σ v = some (k, σ2, w)) : HMet l D tc b z y_L_copy method_13_code 4 hh_L_copy 10 240 [.ref (b + 0), .int v1, .ref (b + 62)] σ ρ v k σ2 w := by
  refine hm_met (by decide) (Nat.le_of_ble_eq_true rfl) fun p e s m args below meth c S htab hW ls hl => ?_
  have hx := S.1.1
  have hb := S.1.2.1
  refine lv_aload_n hx hb d_L_copy_0 rfl (lv_at hl 2 rfl) ?_
  refine lv_iconst hx hb d_L_copy_1 rfl ?_
  refine lv_aload_n hx hb d_L_copy_2 rfl (lv_at hl 0 rfl) ?_
  refine lv_iload_n hx hb d_L_copy_3 rfl (lv_at hl 1 rfl) ?_
  unfold m_L_copy at h
  split at h
  · cases h
  · rename_i x σr heq
    cases h
    refine lm_callP S hW (cr_P_copy v1 σ hfl heq) q_P_copy wd_1178 wd_1179 wd_1177 (by decide) hl.1 rfl rfl (Nat.le_of_ble_eq_true rfl) d_L_copy_4 fun H1 locs1 cells1 slots1 hW1 => ?_
    refine lv_i2l hx hb d_L_copy_7 rfl ?_
    refine lm_outw S hW1 d_L_copy_8 fun H2 locs2 hW2 => ?_
    refine lv_goto hx hb d_L_copy_9 rfl ?_
    refine lv_iconst hx hb d_L_copy_15 rfl ?_
    exact hm_iret S hW2 d_L_copy_16
  · rename_i j σr heq
    obtain ⟨hroom, h⟩ := gd_s h
    split at h
    · rename_i hj
      cases h
      subst hj
      refine lm_callX (pre := []) (x := ⟨0, 9, 12, 25⟩) (post := []) (by decide) S hW (cx_P_copy v1 σ hfl heq) hroom q_P_copy wd_1178 wd_1179 wd_1177 (by decide) hl.1 rfl rfl (Nat.le_of_ble_eq_true rfl) d_L_copy_4 (by rw [htab]; rfl) (fun q hq => nomatch hq) ⟨by decide, by decide, wd_769⟩ fun H1 hW1 => ?_
      refine lv_astore_n hx hb d_L_copy_12 rfl hl (Nat.le_of_ble_eq_true rfl) rfl fun ls2 hl2 => ?_
      refine lv_iconst hx hb d_L_copy_13 rfl ?_
      exact hm_iret S hW1 d_L_copy_14
    · cases h
theorem d_L_flip_0 : decode method_14_code 0 = .ok (.aload 5, 2) := by decide +kernel
theorem d_L_flip_2 : decode method_14_code 2 = .ok (.iconst 0, 1) := by decide +kernel
theorem d_L_flip_3 : decode method_14_code 3 = .ok (.aload_n 0, 1) := by decide +kernel
theorem d_L_flip_4 : decode method_14_code 4 = .ok (.iload_n 1, 1) := by decide +kernel
theorem d_L_flip_5 : decode method_14_code 5 = .ok (.iload_n 2, 1) := by decide +kernel
theorem d_L_flip_6 : decode method_14_code 6 = .ok (.iload_n 3, 1) := by decide +kernel
theorem d_L_flip_7 : decode method_14_code 7 = .ok (.iload 4, 2) := by decide +kernel
theorem d_L_flip_9 : decode method_14_code 9 = .ok (.invokevirtual 55, 3) := by decide +kernel
theorem d_L_flip_12 : decode method_14_code 12 = .ok (.i2l, 1) := by decide +kernel
theorem d_L_flip_13 : decode method_14_code 13 = .ok (.lastore, 1) := by decide +kernel
theorem d_L_flip_14 : decode method_14_code 14 = .ok (.goto 11, 3) := by decide +kernel
theorem d_L_flip_17 : decode method_14_code 17 = .ok (.astore 6, 2) := by decide +kernel
theorem d_L_flip_19 : decode method_14_code 19 = .ok (.iconst 1, 1) := by decide +kernel
theorem d_L_flip_20 : decode method_14_code 20 = .ok (.ireturn, 1) := by decide +kernel
theorem d_L_flip_21 : decode method_14_code 21 = .ok (.astore 6, 2) := by decide +kernel
theorem d_L_flip_23 : decode method_14_code 23 = .ok (.iconst 2, 1) := by decide +kernel
theorem d_L_flip_24 : decode method_14_code 24 = .ok (.ireturn, 1) := by decide +kernel
theorem d_L_flip_25 : decode method_14_code 25 = .ok (.iconst 0, 1) := by decide +kernel
theorem d_L_flip_26 : decode method_14_code 26 = .ok (.ireturn, 1) := by decide +kernel
abbrev y_L_flip : MethodName := ⟨"StreamPairLaw", "flip", "(LStreamPair;IIIZ[J)I"⟩
abbrev hh_L_flip : List (Nat × Nat × Nat × Nat) := [(0, 14, 17, 25), (0, 14, 21, 59)]
def m_L_flip (v1 : Int32) (v2 : Int32) (v3 : Int32) (v4 : Int32) (σ : CS) (v : Int64) : Option (Int32 × CS × Int64) := match m_P_flip v1 v2 v3 v4 σ with
  | none => none
  | some (.inr x, σ2) => some (0, σ2, x.toInt64)
  | some (.inl j, _) => gd (cX σ + 1 ≤ 601024 ∧ cU σ + 6 ≤ 7293034) <| if j = 3 then some (1, wa σ 0 0 6, v) else if j = 5 then some (2, wa σ 0 0 6, v) else none
theorem c_L_flip {l : Launch} {D : va_G} {tc : Nat → ClassId} {b z : Nat} (hfl : l.flags = flags0) (v1 : Int32) (v2 : Int32) (v3 : Int32) (v4 : Int32) (σ : CS) (ρ : RS) (v : Int64) {k : Int32} {σ2 : CS} {w : Int64} (h : m_L_flip v1 v2 v3 v4 σ v = some (k, σ2, w)) : HMet l D tc b z y_L_flip method_14_code 7 hh_L_flip 8 129 [.ref (b + 0), .int v1, .int v2, .int v3, .int v4, .ref (b + 62)] σ ρ v k σ2 w := by
  refine hm_met (by decide) (Nat.le_of_ble_eq_true rfl) fun p e s m args below meth c S htab hW ls hl => ?_
  have hx := S.1.1
  have hb := S.1.2.1
  refine lv_aload hx hb d_L_flip_0 (lv_at hl 5 rfl) ?_
  refine lv_iconst hx hb d_L_flip_2 rfl ?_
  refine lv_aload_n hx hb d_L_flip_3 rfl (lv_at hl 0 rfl) ?_
  refine lv_iload_n hx hb d_L_flip_4 rfl (lv_at hl 1 rfl) ?_
  refine lv_iload_n hx hb d_L_flip_5 rfl (lv_at hl 2 rfl) ?_
  refine lv_iload_n hx hb d_L_flip_6 rfl (lv_at hl 3 rfl) ?_
  refine lv_iload hx hb d_L_flip_7 (lv_at hl 4 rfl) ?_
  unfold m_L_flip at h
  split at h
  · cases h
  · rename_i x σr heq
    cases h
    refine lm_callP S hW (cr_P_flip v1 v2 v3 v4 σ hfl heq) q_P_flip wd_1192 wd_1193 wd_1191 (by decide) hl.1 rfl rfl (Nat.le_of_ble_eq_true rfl) d_L_flip_9 fun H1 locs1 cells1 slots1 hW1 => ?_
    refine lv_i2l hx hb d_L_flip_12 rfl ?_
    refine lm_outw S hW1 d_L_flip_13 fun H2 locs2 hW2 => ?_
    refine lv_goto hx hb d_L_flip_14 rfl ?_
    refine lv_iconst hx hb d_L_flip_25 rfl ?_
    exact hm_iret S hW2 d_L_flip_26
  · rename_i j σr heq
    obtain ⟨hroom, h⟩ := gd_s h
    split at h
    · rename_i hj
      cases h
      subst hj
      refine lm_callX (pre := []) (x := ⟨0, 14, 17, 25⟩) (post := [⟨0, 14, 21, 59⟩]) (by decide) S hW (cx_P_flip v1 v2 v3 v4 σ hfl heq) hroom q_P_flip wd_1192 wd_1193 wd_1191 (by decide) hl.1 rfl rfl (Nat.le_of_ble_eq_true rfl) d_L_flip_9 (by rw [htab]; rfl) (fun q hq => nomatch hq) ⟨by decide, by decide, wd_769⟩ fun H1 hW1 => ?_
      refine lv_astore hx hb d_L_flip_17 hl (Nat.le_of_ble_eq_true rfl) rfl fun ls2 hl2 => ?_
      refine lv_iconst hx hb d_L_flip_19 rfl ?_
      exact hm_iret S hW1 d_L_flip_20
    · split at h
      · rename_i hj
        cases h
        subst hj
        refine lm_callX (pre := [(⟨0, 14, 17, 25⟩, 3)]) (x := ⟨0, 14, 21, 59⟩) (post := []) (by decide) S hW (cx_P_flip v1 v2 v3 v4 σ hfl heq) hroom q_P_flip wd_1192 wd_1193 wd_1191 (by decide) hl.1 rfl rfl (Nat.le_of_ble_eq_true rfl) d_L_flip_9 (by rw [htab]; rfl) (fun q hq => by
          simp only [List.mem_cons, List.not_mem_nil, or_false] at hq
          subst hq
          exact ⟨by decide, by decide, wd_769, by decide, by decide, by decide⟩) ⟨by decide, by decide, wd_1190⟩ fun H1 hW1 => ?_
        refine lv_astore hx hb d_L_flip_21 hl (Nat.le_of_ble_eq_true rfl) rfl fun ls2 hl2 => ?_
        refine lv_iconst hx hb d_L_flip_23 rfl ?_
        exact hm_iret S hW1 d_L_flip_24
      · cases h
theorem d_L_inject_0 : decode method_15_code 0 = .ok (.aload_n 2, 1) := by decide +kernel
theorem d_L_inject_1 : decode method_15_code 1 = .ok (.iconst 0, 1) := by decide +kernel
theorem d_L_inject_2 : decode method_15_code 2 = .ok (.aload_n 0, 1) := by decide +kernel
theorem d_L_inject_3 : decode method_15_code 3 = .ok (.iload_n 1, 1) := by decide +kernel
theorem d_L_inject_4 : decode method_15_code 4 = .ok (.invokevirtual 61, 3) := by decide +kernel
theorem d_L_inject_7 : decode method_15_code 7 = .ok (.i2l, 1) := by decide +kernel
theorem d_L_inject_8 : decode method_15_code 8 = .ok (.lastore, 1) := by decide +kernel
theorem d_L_inject_9 : decode method_15_code 9 = .ok (.goto 9, 3) := by decide +kernel
theorem d_L_inject_12 : decode method_15_code 12 = .ok (.astore_n 3, 1) := by decide +kernel
theorem d_L_inject_13 : decode method_15_code 13 = .ok (.iconst 1, 1) := by decide +kernel
theorem d_L_inject_14 : decode method_15_code 14 = .ok (.ireturn, 1) := by decide +kernel
theorem d_L_inject_15 : decode method_15_code 15 = .ok (.astore_n 3, 1) := by decide +kernel
theorem d_L_inject_16 : decode method_15_code 16 = .ok (.iconst 2, 1) := by decide +kernel
theorem d_L_inject_17 : decode method_15_code 17 = .ok (.ireturn, 1) := by decide +kernel
theorem d_L_inject_18 : decode method_15_code 18 = .ok (.iconst 0, 1) := by decide +kernel
theorem d_L_inject_19 : decode method_15_code 19 = .ok (.ireturn, 1) := by decide +kernel
abbrev y_L_inject : MethodName := ⟨"StreamPairLaw", "inject", "(LStreamPair;I[J)I"⟩
abbrev hh_L_inject : List (Nat × Nat × Nat × Nat) := [(0, 9, 12, 25), (0, 9, 15, 19)]
def m_L_inject (v1 : Int32) (σ : CS) (v : Int64) : Option (Int32 × CS × Int64) := match m_P_inject v1 σ with
  | none => none
  | some (.inr x, σ2) => some (0, σ2, x.toInt64)
  | some (.inl j, _) => gd (cX σ + 1 ≤ 601024 ∧ cU σ + 6 ≤ 7293034) <| if j = 3 then some (1, wa σ 0 0 6, v) else if j = 2 then some (2, wa σ 0 0 6, v) else none
theorem c_L_inject {l : Launch} {D : va_G} {tc : Nat → ClassId} {b z : Nat} (hfl : l.flags = flags0) (v1 : Int32) (σ : CS) (ρ : RS) (v : Int64) {k : Int32} {σ2 : CS} {w : Int64} (h : m_L_inject v1 σ v = some (k, σ2, w)) : HMet l D tc b z y_L_inject method_15_code 4 hh_L_inject 10 240 [.ref (b + 0), .int v1, .ref (b + 62)] σ ρ v k σ2 w := by
  refine hm_met (by decide) (Nat.le_of_ble_eq_true rfl) fun p e s m args below meth c S htab hW ls hl => ?_
  have hx := S.1.1
  have hb := S.1.2.1
  refine lv_aload_n hx hb d_L_inject_0 rfl (lv_at hl 2 rfl) ?_
  refine lv_iconst hx hb d_L_inject_1 rfl ?_
  refine lv_aload_n hx hb d_L_inject_2 rfl (lv_at hl 0 rfl) ?_
  refine lv_iload_n hx hb d_L_inject_3 rfl (lv_at hl 1 rfl) ?_
  unfold m_L_inject at h
  split at h
  · cases h
  · rename_i x σr heq
    cases h
    refine lm_callP S hW (cr_P_inject v1 σ hfl heq) q_P_inject wd_1217 wd_1218 wd_1216 (by decide) hl.1 rfl rfl (Nat.le_of_ble_eq_true rfl) d_L_inject_4 fun H1 locs1 cells1 slots1 hW1 => ?_
    refine lv_i2l hx hb d_L_inject_7 rfl ?_
    refine lm_outw S hW1 d_L_inject_8 fun H2 locs2 hW2 => ?_
    refine lv_goto hx hb d_L_inject_9 rfl ?_
    refine lv_iconst hx hb d_L_inject_18 rfl ?_
    exact hm_iret S hW2 d_L_inject_19
  · rename_i j σr heq
    obtain ⟨hroom, h⟩ := gd_s h
    split at h
    · rename_i hj
      cases h
      subst hj
      refine lm_callX (pre := []) (x := ⟨0, 9, 12, 25⟩) (post := [⟨0, 9, 15, 19⟩]) (by decide) S hW (cx_P_inject v1 σ hfl heq) hroom q_P_inject wd_1217 wd_1218 wd_1216 (by decide) hl.1 rfl rfl (Nat.le_of_ble_eq_true rfl) d_L_inject_4 (by rw [htab]; rfl) (fun q hq => nomatch hq) ⟨by decide, by decide, wd_769⟩ fun H1 hW1 => ?_
      refine lv_astore_n hx hb d_L_inject_12 rfl hl (Nat.le_of_ble_eq_true rfl) rfl fun ls2 hl2 => ?_
      refine lv_iconst hx hb d_L_inject_13 rfl ?_
      exact hm_iret S hW1 d_L_inject_14
    · split at h
      · rename_i hj
        cases h
        subst hj
        refine lm_callX (pre := [(⟨0, 9, 12, 25⟩, 3)]) (x := ⟨0, 9, 15, 19⟩) (post := []) (by decide) S hW (cx_P_inject v1 σ hfl heq) hroom q_P_inject wd_1217 wd_1218 wd_1216 (by decide) hl.1 rfl rfl (Nat.le_of_ble_eq_true rfl) d_L_inject_4 (by rw [htab]; rfl) (fun q hq => by
          simp only [List.mem_cons, List.not_mem_nil, or_false] at hq
          subst hq
          exact ⟨by decide, by decide, wd_769, by decide, by decide, by decide⟩) ⟨by decide, by decide, wd_745⟩ fun H1 hW1 => ?_
        refine lv_astore_n hx hb d_L_inject_15 rfl hl (Nat.le_of_ble_eq_true rfl) rfl fun ls2 hl2 => ?_
        refine lv_iconst hx hb d_L_inject_16 rfl ?_
        exact hm_iret S hW1 d_L_inject_17
      · cases h
theorem d_L_seen_0 : decode method_16_code 0 = .ok (.aload_n 3, 1) := by decide +kernel
theorem d_L_seen_1 : decode method_16_code 1 = .ok (.iconst 0, 1) := by decide +kernel
theorem d_L_seen_2 : decode method_16_code 2 = .ok (.aload_n 0, 1) := by decide +kernel
theorem d_L_seen_3 : decode method_16_code 3 = .ok (.iload_n 1, 1) := by decide +kernel
theorem d_L_seen_4 : decode method_16_code 4 = .ok (.iload_n 2, 1) := by decide +kernel
theorem d_L_seen_5 : decode method_16_code 5 = .ok (.invokevirtual 64, 3) := by decide +kernel
theorem d_L_seen_8 : decode method_16_code 8 = .ok (.i2l, 1) := by decide +kernel
theorem d_L_seen_9 : decode method_16_code 9 = .ok (.lastore, 1) := by decide +kernel
theorem d_L_seen_10 : decode method_16_code 10 = .ok (.goto 11, 3) := by decide +kernel
theorem d_L_seen_13 : decode method_16_code 13 = .ok (.astore 4, 2) := by decide +kernel
theorem d_L_seen_15 : decode method_16_code 15 = .ok (.iconst 1, 1) := by decide +kernel
theorem d_L_seen_16 : decode method_16_code 16 = .ok (.ireturn, 1) := by decide +kernel
theorem d_L_seen_17 : decode method_16_code 17 = .ok (.astore 4, 2) := by decide +kernel
theorem d_L_seen_19 : decode method_16_code 19 = .ok (.iconst 2, 1) := by decide +kernel
theorem d_L_seen_20 : decode method_16_code 20 = .ok (.ireturn, 1) := by decide +kernel
theorem d_L_seen_21 : decode method_16_code 21 = .ok (.iconst 0, 1) := by decide +kernel
theorem d_L_seen_22 : decode method_16_code 22 = .ok (.ireturn, 1) := by decide +kernel
abbrev y_L_seen : MethodName := ⟨"StreamPairLaw", "seen", "(LStreamPair;II[J)I"⟩
abbrev hh_L_seen : List (Nat × Nat × Nat × Nat) := [(0, 10, 13, 25), (0, 10, 17, 59)]
def m_L_seen (v1 : Int32) (v2 : Int32) (σ : CS) (v : Int64) : Option (Int32 × CS × Int64) := match m_P_seen v1 v2 σ with
  | none => none
  | some (.inr x, σ2) => some (0, σ2, x.toInt64)
  | some (.inl j, _) => gd (cX σ + 1 ≤ 601024 ∧ cU σ + 6 ≤ 7293034) <| if j = 3 then some (1, wa σ 0 0 6, v) else if j = 5 then some (2, wa σ 0 0 6, v) else none
theorem c_L_seen {l : Launch} {D : va_G} {tc : Nat → ClassId} {b z : Nat} (hfl : l.flags = flags0) (v1 : Int32) (v2 : Int32) (σ : CS) (ρ : RS) (v : Int64) {k : Int32} {σ2 : CS} {w : Int64} (h : m_L_seen v1 v2 σ v = some (k, σ2, w)) : HMet l D tc b z y_L_seen method_16_code 5 hh_L_seen 8 127 [.ref (b + 0), .int v1, .int v2, .ref (b + 62)] σ ρ v k σ2 w := by
  refine hm_met (by decide) (Nat.le_of_ble_eq_true rfl) fun p e s m args below meth c S htab hW ls hl => ?_
  have hx := S.1.1
  have hb := S.1.2.1
  refine lv_aload_n hx hb d_L_seen_0 rfl (lv_at hl 3 rfl) ?_
  refine lv_iconst hx hb d_L_seen_1 rfl ?_
  refine lv_aload_n hx hb d_L_seen_2 rfl (lv_at hl 0 rfl) ?_
  refine lv_iload_n hx hb d_L_seen_3 rfl (lv_at hl 1 rfl) ?_
  refine lv_iload_n hx hb d_L_seen_4 rfl (lv_at hl 2 rfl) ?_
  unfold m_L_seen at h
  split at h
  · cases h
  · rename_i x σr heq
    cases h
    refine lm_callP S hW (cr_P_seen v1 v2 σ hfl heq) q_P_seen wd_1225 wd_1226 wd_1224 (by decide) hl.1 rfl rfl (Nat.le_of_ble_eq_true rfl) d_L_seen_5 fun H1 locs1 cells1 slots1 hW1 => ?_
    refine lv_i2l hx hb d_L_seen_8 rfl ?_
    refine lm_outw S hW1 d_L_seen_9 fun H2 locs2 hW2 => ?_
    refine lv_goto hx hb d_L_seen_10 rfl ?_
    refine lv_iconst hx hb d_L_seen_21 rfl ?_
    exact hm_iret S hW2 d_L_seen_22
  · rename_i j σr heq
    obtain ⟨hroom, h⟩ := gd_s h
    split at h
    · rename_i hj
      cases h
      subst hj
      refine lm_callX (pre := []) (x := ⟨0, 10, 13, 25⟩) (post := [⟨0, 10, 17, 59⟩]) (by decide) S hW (cx_P_seen v1 v2 σ hfl heq) hroom q_P_seen wd_1225 wd_1226 wd_1224 (by decide) hl.1 rfl rfl (Nat.le_of_ble_eq_true rfl) d_L_seen_5 (by rw [htab]; rfl) (fun q hq => nomatch hq) ⟨by decide, by decide, wd_769⟩ fun H1 hW1 => ?_
      refine lv_astore hx hb d_L_seen_13 hl (Nat.le_of_ble_eq_true rfl) rfl fun ls2 hl2 => ?_
      refine lv_iconst hx hb d_L_seen_15 rfl ?_
      exact hm_iret S hW1 d_L_seen_16
    · split at h
      · rename_i hj
        cases h
        subst hj
        refine lm_callX (pre := [(⟨0, 10, 13, 25⟩, 3)]) (x := ⟨0, 10, 17, 59⟩) (post := []) (by decide) S hW (cx_P_seen v1 v2 σ hfl heq) hroom q_P_seen wd_1225 wd_1226 wd_1224 (by decide) hl.1 rfl rfl (Nat.le_of_ble_eq_true rfl) d_L_seen_5 (by rw [htab]; rfl) (fun q hq => by
          simp only [List.mem_cons, List.not_mem_nil, or_false] at hq
          subst hq
          exact ⟨by decide, by decide, wd_769, by decide, by decide, by decide⟩) ⟨by decide, by decide, wd_1190⟩ fun H1 hW1 => ?_
        refine lv_astore hx hb d_L_seen_17 hl (Nat.le_of_ble_eq_true rfl) rfl fun ls2 hl2 => ?_
        refine lv_iconst hx hb d_L_seen_19 rfl ?_
        exact hm_iret S hW1 d_L_seen_20
      · cases h
theorem d_L_about_0 : decode method_17_code 0 = .ok (.aload_n 3, 1) := by decide +kernel
theorem d_L_about_1 : decode method_17_code 1 = .ok (.iconst 0, 1) := by decide +kernel
theorem d_L_about_2 : decode method_17_code 2 = .ok (.aload_n 0, 1) := by decide +kernel
theorem d_L_about_3 : decode method_17_code 3 = .ok (.iload_n 1, 1) := by decide +kernel
theorem d_L_about_4 : decode method_17_code 4 = .ok (.iload_n 2, 1) := by decide +kernel
theorem d_L_about_5 : decode method_17_code 5 = .ok (.invokevirtual 68, 3) := by decide +kernel
theorem d_L_about_8 : decode method_17_code 8 = .ok (.i2l, 1) := by decide +kernel
theorem d_L_about_9 : decode method_17_code 9 = .ok (.lastore, 1) := by decide +kernel
theorem d_L_about_10 : decode method_17_code 10 = .ok (.goto 11, 3) := by decide +kernel
theorem d_L_about_13 : decode method_17_code 13 = .ok (.astore 4, 2) := by decide +kernel
theorem d_L_about_15 : decode method_17_code 15 = .ok (.iconst 1, 1) := by decide +kernel
theorem d_L_about_16 : decode method_17_code 16 = .ok (.ireturn, 1) := by decide +kernel
theorem d_L_about_17 : decode method_17_code 17 = .ok (.astore 4, 2) := by decide +kernel
theorem d_L_about_19 : decode method_17_code 19 = .ok (.iconst 2, 1) := by decide +kernel
theorem d_L_about_20 : decode method_17_code 20 = .ok (.ireturn, 1) := by decide +kernel
theorem d_L_about_21 : decode method_17_code 21 = .ok (.iconst 0, 1) := by decide +kernel
theorem d_L_about_22 : decode method_17_code 22 = .ok (.ireturn, 1) := by decide +kernel
abbrev y_L_about : MethodName := ⟨"StreamPairLaw", "about", "(LStreamPair;II[J)I"⟩
abbrev hh_L_about : List (Nat × Nat × Nat × Nat) := [(0, 10, 13, 25), (0, 10, 17, 19)]
def m_L_about (v1 : Int32) (v2 : Int32) (σ : CS) (v : Int64) : Option (Int32 × CS × Int64) := match m_P_about v1 v2 σ with
  | none => none
  | some (.inr x, σ2) => some (0, σ2, x.toInt64)
  | some (.inl j, _) => gd (cX σ + 1 ≤ 601024 ∧ cU σ + 6 ≤ 7293034) <| if j = 3 then some (1, wa σ 0 0 6, v) else if j = 2 then some (2, wa σ 0 0 6, v) else none
theorem c_L_about {l : Launch} {D : va_G} {tc : Nat → ClassId} {b z : Nat} (hfl : l.flags = flags0) (v1 : Int32) (v2 : Int32) (σ : CS) (ρ : RS) (v : Int64) {k : Int32} {σ2 : CS} {w : Int64} (h : m_L_about v1 v2 σ v = some (k, σ2, w)) : HMet l D tc b z y_L_about method_17_code 5 hh_L_about 8 127 [.ref (b + 0), .int v1, .int v2, .ref (b + 62)] σ ρ v k σ2 w := by
  refine hm_met (by decide) (Nat.le_of_ble_eq_true rfl) fun p e s m args below meth c S htab hW ls hl => ?_
  have hx := S.1.1
  have hb := S.1.2.1
  refine lv_aload_n hx hb d_L_about_0 rfl (lv_at hl 3 rfl) ?_
  refine lv_iconst hx hb d_L_about_1 rfl ?_
  refine lv_aload_n hx hb d_L_about_2 rfl (lv_at hl 0 rfl) ?_
  refine lv_iload_n hx hb d_L_about_3 rfl (lv_at hl 1 rfl) ?_
  refine lv_iload_n hx hb d_L_about_4 rfl (lv_at hl 2 rfl) ?_
  unfold m_L_about at h
  split at h
  · cases h
  · rename_i x σr heq
    cases h
    refine lm_callP S hW (cr_P_about v1 v2 σ hfl heq) q_P_about wd_1232 wd_1233 wd_1231 (by decide) hl.1 rfl rfl (Nat.le_of_ble_eq_true rfl) d_L_about_5 fun H1 locs1 cells1 slots1 hW1 => ?_
    refine lv_i2l hx hb d_L_about_8 rfl ?_
    refine lm_outw S hW1 d_L_about_9 fun H2 locs2 hW2 => ?_
    refine lv_goto hx hb d_L_about_10 rfl ?_
    refine lv_iconst hx hb d_L_about_21 rfl ?_
    exact hm_iret S hW2 d_L_about_22
  · rename_i j σr heq
    obtain ⟨hroom, h⟩ := gd_s h
    split at h
    · rename_i hj
      cases h
      subst hj
      refine lm_callX (pre := []) (x := ⟨0, 10, 13, 25⟩) (post := [⟨0, 10, 17, 19⟩]) (by decide) S hW (cx_P_about v1 v2 σ hfl heq) hroom q_P_about wd_1232 wd_1233 wd_1231 (by decide) hl.1 rfl rfl (Nat.le_of_ble_eq_true rfl) d_L_about_5 (by rw [htab]; rfl) (fun q hq => nomatch hq) ⟨by decide, by decide, wd_769⟩ fun H1 hW1 => ?_
      refine lv_astore hx hb d_L_about_13 hl (Nat.le_of_ble_eq_true rfl) rfl fun ls2 hl2 => ?_
      refine lv_iconst hx hb d_L_about_15 rfl ?_
      exact hm_iret S hW1 d_L_about_16
    · split at h
      · rename_i hj
        cases h
        subst hj
        refine lm_callX (pre := [(⟨0, 10, 13, 25⟩, 3)]) (x := ⟨0, 10, 17, 19⟩) (post := []) (by decide) S hW (cx_P_about v1 v2 σ hfl heq) hroom q_P_about wd_1232 wd_1233 wd_1231 (by decide) hl.1 rfl rfl (Nat.le_of_ble_eq_true rfl) d_L_about_5 (by rw [htab]; rfl) (fun q hq => by
          simp only [List.mem_cons, List.not_mem_nil, or_false] at hq
          subst hq
          exact ⟨by decide, by decide, wd_769, by decide, by decide, by decide⟩) ⟨by decide, by decide, wd_745⟩ fun H1 hW1 => ?_
        refine lv_astore hx hb d_L_about_17 hl (Nat.le_of_ble_eq_true rfl) rfl fun ls2 hl2 => ?_
        refine lv_iconst hx hb d_L_about_19 rfl ?_
        exact hm_iret S hW1 d_L_about_20
      · cases h
