/-! Arrays.copyOf of a row of objects (by hand: the class object is compared) -/
abbrev k_K2 : ByteArray := prog_29_method_119_code
abbrev y_K2 : MethodName := ⟨"java/util/Arrays", "copyOf", "([Ljava/lang/Object;I)[Ljava/lang/Object;"⟩
theorem q_K2 : Calee y_K2 k_K2 2 (some (.array (.object "java/lang/Object"))) 2 := ⟨wd_477, wd_95, by decide, by decide +kernel⟩
theorem d_K2_0 : decode k_K2 0 = .ok (.aload_n 0, 1) := by decide +kernel
theorem d_K2_1 : decode k_K2 1 = .ok (.iload_n 1, 1) := by decide +kernel
theorem d_K2_2 : decode k_K2 2 = .ok (.aload_n 0, 1) := by decide +kernel
theorem d_K2_3 : decode k_K2 3 = .ok (.invokevirtual 86, 3) := by decide +kernel
theorem d_K2_6 : decode k_K2 6 = .ok (.invokestatic 300, 3) := by decide +kernel
theorem d_K2_9 : decode k_K2 9 = .ok (.areturn, 1) := by decide +kernel
abbrev k_K3 : ByteArray := prog_29_method_120_code
abbrev y_K3 : MethodName := ⟨"java/util/Arrays", "copyOf", "([Ljava/lang/Object;ILjava/lang/Class;)[Ljava/lang/Object;"⟩
theorem q_K3 : Calee y_K3 k_K3 4 (some (.array (.object "java/lang/Object"))) 3 := ⟨wd_501, wd_95, by decide, by decide +kernel⟩
theorem d_K3_0 : decode k_K3 0 = .ok (.aload_n 2, 1) := by decide +kernel
theorem d_K3_1 : decode k_K3 1 = .ok (.ldc 110, 2) := by decide +kernel
theorem d_K3_3 : decode k_K3 3 = .ok (.if_acmp .ne 10, 3) := by decide +kernel
theorem d_K3_6 : decode k_K3 6 = .ok (.iload_n 1, 1) := by decide +kernel
theorem d_K3_7 : decode k_K3 7 = .ok (.anewarray 2, 3) := by decide +kernel
theorem d_K3_10 : decode k_K3 10 = .ok (.goto 14, 3) := by decide +kernel
theorem d_K3_24 : decode k_K3 24 = .ok (.astore_n 3, 1) := by decide +kernel
theorem d_K3_25 : decode k_K3 25 = .ok (.aload_n 0, 1) := by decide +kernel
theorem d_K3_26 : decode k_K3 26 = .ok (.iconst 0, 1) := by decide +kernel
theorem d_K3_27 : decode k_K3 27 = .ok (.aload_n 3, 1) := by decide +kernel
theorem d_K3_28 : decode k_K3 28 = .ok (.iconst 0, 1) := by decide +kernel
theorem d_K3_29 : decode k_K3 29 = .ok (.aload_n 0, 1) := by decide +kernel
theorem d_K3_30 : decode k_K3 30 = .ok (.arraylength, 1) := by decide +kernel
theorem d_K3_31 : decode k_K3 31 = .ok (.iload_n 1, 1) := by decide +kernel
theorem d_K3_32 : decode k_K3 32 = .ok (.invokestatic 304, 3) := by decide +kernel
theorem d_K3_35 : decode k_K3 35 = .ok (.invokestatic 150, 3) := by decide +kernel
theorem d_K3_38 : decode k_K3 38 = .ok (.aload_n 3, 1) := by decide +kernel
theorem d_K3_39 : decode k_K3 39 = .ok (.areturn, 1) := by decide +kernel
def m_K3 (v0 : Nat) (v1 : Int32) (σ : CS) : Option (Nat × CS) :=
  gd (¬ v1 < 0 ∧ cX σ + 1 ≤ 601024 ∧ cU σ + v1.toNatClampNeg ≤ 7293034) <| bd2 (cX σ) (wa σ 25 v1.toNatClampNeg v1.toNatClampNeg) fun a1 r2 => gd (kd r2 v0 = 21 ∨ kd r2 v0 = 24 ∨ kd r2 v0 = 25) <| bd (nI (cN r2 v0)) fun x3 => bd (if v1 < x3 then v1 else x3) fun x4 => gd (kd r2 v0 = 25 ∧ kd r2 a1 = 25 ∧ ¬ (0 : Int32) < 0 ∧ ¬ (0 : Int32) < 0 ∧ ¬ x4 < 0 ∧ (0 : Int32).toNatClampNeg + x4.toNatClampNeg ≤ cN r2 v0 ∧ (0 : Int32).toNatClampNeg + x4.toNatClampNeg ≤ cN r2 a1) <| bd (wcq r2 v0 a1 (0 : Int32).toNatClampNeg (0 : Int32).toNatClampNeg x4.toNatClampNeg) fun r5 => some (a1, r5)
def m_K_copyOf_oI (v0 : Nat) (v1 : Int32) (σ : CS) : Option (Nat × CS) := gd (kd σ v0 = 25) (m_K3 v0 v1 σ)
def CP3 (D : va_G) (tc : Nat → ClassId) (b z : Nat) (σ : CS) (mi : Nat) : State → Prop := fun U => CP D tc b z σ U ∧ va_Mi "[Ljava/lang/Object;" mi U
section
variable {p : Program} {l : Launch} {e : Env} {s : State} {m : MethodId} {args : Array Value} {below : List Frame} {meth : Method} {c : Code} {D : va_G} {tc : Nat → ClassId} {b z : Nat} {σ0 : CS}
theorem t_K3_0 (S : CC p m c k_K3 4 s args "java/util/Arrays" meth (some (.array (.object "java/lang/Object"))) D tc b z) {mi : Nat} (hmi : va_Mi "[Ljava/lang/Object;" mi s) (v0 : Nat) (v1 : Int32) (σ : CS) {B : Nat × CS} (h : m_K3 v0 v1 σ = some B) {ls : Array Slot} {H : Heap} {locs : List Loc} {cells slots : Nat} (hl : lv_has ls 4 [(0, .ref (b + v0)), (1, .int v1), (2, .ref mi)]) (hW : CWS D tc b z s σ0 σ H locs cells slots) : W p l e (CR 1 40 σ0) s m args below meth c H locs cells slots (CE D tc b z below args s σ0 (some (.ref (b + B.1))) B.2) (F0 m 0 ls []) := by
  have hx := S.1.1
  have hb := S.1.2.1
  unfold m_K3 at h
  refine lv_aload_n hx hb d_K3_0 rfl (lv_at hl 2 rfl) ?_
  refine va_ldcM hx hb S.1.2.2.2.1 (S.1.2.2.2.2 _ (gi wd_502 rfl)) hmi d_K3_1 ?_
  refine lv_acmp_ne (rx := some mi) (ry := some mi) (tgt := 13) hx hb d_K3_3 (by decide) (fun hn => absurd rfl hn) (fun _ => ?_)
  refine lv_iload_n hx hb d_K3_6 rfl (lv_at hl 1 rfl) ?_
  refine cm_newo S hW d_K3_7 wd_504 h (fun a1 r2 H cells slots h hW => ?_)
  refine lv_goto (tgt := 24) hx hb d_K3_10 (by decide) ?_
  refine lv_astore_n (lv' := [(3, .ref (b + a1)), (0, .ref (b + v0)), (1, .int v1), (2, .ref mi)]) hx hb d_K3_24 rfl hl (by decide) rfl (fun ls hl => ?_)
  refine lv_aload_n hx hb d_K3_25 rfl (lv_at hl 1 rfl) ?_
  refine lv_iconst (v := 0) hx hb d_K3_26 (by decide) ?_
  refine lv_aload_n hx hb d_K3_27 rfl (lv_at hl 0 rfl) ?_
  refine lv_iconst (v := 0) hx hb d_K3_28 (by decide) ?_
  refine lv_aload_n hx hb d_K3_29 rfl (lv_at hl 1 rfl) ?_
  refine cm_alen S hW d_K3_30 h (fun x3 h => ?_)
  refine lv_iload_n hx hb d_K3_31 rfl (lv_at hl 2 rfl) ?_
  refine cm_jmin S hW wd_505 wd_506 wd_96 wd_507 hl.1 (by decide) (Nat.le_of_ble_eq_true rfl) d_K3_32 ?_
  refine rv_i h (fun x4 h => ?_)
  refine cm_copyq S hW wd_508 wd_510 wd_509 wd_97 hl.1 (by decide) (by decide) d_K3_35 h (fun r5 H locs h hW => ?_)
  refine lv_aload_n hx hb d_K3_38 rfl (lv_at hl 0 rfl) ?_
  exact cm_rret S (Or.inr ⟨_, rfl⟩) hW d_K3_39 h
theorem c_K3 (v0 : Nat) (v1 : Int32) (σ : CS) {mi x : Nat} {σ' : CS} (h : m_K3 v0 v1 σ = some (x, σ')) : Met l y_K3 (Cond.code y_K3 k_K3 4 (some (.array (.object "java/lang/Object"))) :: gt) (CR 1 40 σ) (va_Pc [.ref (b + v0), .int v1, .ref mi] (CP3 D tc b z σ mi)) (CQ D tc b z σ (some (.ref (b + x))) σ') (cX σ' - cX σ) (cU σ' - cU σ) (creg b) := by
  refine Met.ofW (cc := k_K3) (maxL := 4) (ret := some (.array (.object "java/lang/Object"))) (by decide) rfl ?_
  intro p e s m args below meth c s₁ Bd hml hv
  obtain ⟨rfl, ⟨hW0, hK⟩, hmi⟩ := hv
  have S : CC p m c k_K3 4 s [Value.ref (b + v0), .int v1, .ref mi].toArray "java/util/Arrays" meth (some (.array (.object "java/lang/Object"))) D tc b z := ⟨⟨Bd.exec, Bd.bytes, hml, findClass_of_methodNamed Bd.named, fun w hw => atoms_spec (ws := Cond.code y_K3 k_K3 4 (some (.array (.object "java/lang/Object"))) :: gt) Bd.pre w (List.mem_cons_of_mem _ hw)⟩, hK, Bd.returns, Bd.notSynchronized⟩
  have hl := lv_entry [Value.ref (b + v0), .int v1, .ref mi] (n := 4) (Nat.le_of_ble_eq_true rfl)
  rw [lg_entry_eq]
  exact t_K3_0 S hmi v0 v1 σ h hl ⟨hW0, va_S.rf, rfl, rfl⟩
theorem t_K2_0 (S : CC p m c k_K2 2 s args "java/util/Arrays" meth (some (.array (.object "java/lang/Object"))) D tc b z) (v0 : Nat) (v1 : Int32) (σ : CS) {B : Nat × CS} (h : m_K_copyOf_oI v0 v1 σ = some B) {ls : Array Slot} {H : Heap} {locs : List Loc} {cells slots : Nat} (hl : lv_has ls 2 [(0, .ref (b + v0)), (1, .int v1)]) (hW : CWS D tc b z s σ0 σ H locs cells slots) : W p l e (CR 2 63 σ0) s m args below meth c H locs cells slots (CE D tc b z below args s σ0 (some (.ref (b + B.1))) B.2) (F0 m 0 ls []) := by
  have hx := S.1.1
  have hb := S.1.2.1
  obtain ⟨hg, h⟩ := gd_s h
  obtain ⟨⟨⟨mi, hmi⟩, hdc⟩, -⟩ := S.2.1.2.2.2.2.2.2.2.2
  have hts := S.1.2.2.2.2
  refine lv_aload_n hx hb d_K2_0 rfl (lv_at hl 0 rfl) ?_
  refine lv_iload_n hx hb d_K2_1 rfl (lv_at hl 1 rfl) ?_
  refine lv_aload_n hx hb d_K2_2 rfl (lv_at hl 0 rfl) ?_
  refine va_getC (C := "[Ljava/lang/Object;") (mi := mi) hx hb (S.1.2.2.1.trans hl.1.symm) S.1.2.2.2.1 (hts _ (gi wd_478 rfl)) hdc.use (hts _ (gi wd_1688 rfl)) (hts _ (gi wd_479 rfl)) (hts _ (gi wd_498 rfl)) hmi ⟨_, hW.ob1 hg, rfl, va_nmO (S.2.1.1.2 5 _ rfl).2 rfl⟩ (by show 1 ≤ 2; decide) (Nat.le_of_ble_eq_true rfl) d_K2_3 ?_
  refine cm_goon (rest := []) (cx_runS (As := [.ref (b + v0), .int v1, .ref mi]) (rest := []) S.1 (c_K3 (mi := mi) v0 v1 σ (x := B.1) (σ' := B.2) h) ⟨rm_callB S.1 q_K3 wd_499 ⟨by show 1 + 1 ≤ 2; decide, by show 8 + (4 + 11) + 40 ≤ 63; decide⟩, hts _ (gi wd_500 rfl)⟩ ⟨fun a U g mk q => ?_, fun U hU hWa => ⟨rfl, CP.of S hW hU hWa, hmi.moved hWa.alike⟩⟩ rfl rfl hl.1 rfl (lv_room (Nat.le_of_ble_eq_true rfl)) d_K2_6 hW.fit) hW (fun H locs cells slots hW => ?_)
  · obtain ⟨q0, ⟨q1, q2⟩, q3⟩ := q
    exact ⟨q0, ⟨q1, CK.moved (u := U) (U := U.calling g mk a) (State.WarmedH.refl U) (fun _ _ _ => rfl) (Nat.le_refl _) q2⟩, q3⟩
  · exact cm_rret S (Or.inr ⟨_, rfl⟩) hW d_K2_9 rfl
theorem c_K_copyOf_oI (v0 : Nat) (v1 : Int32) (σ : CS) {x : Nat} {σ' : CS} (h : m_K_copyOf_oI v0 v1 σ = some (x, σ')) : CMet l D tc b z y_K2 k_K2 2 (some (.array (.object "java/lang/Object"))) 2 63 [.ref (b + v0), .int v1] σ (some (.ref (b + x))) σ' := cm_met (by decide) (Nat.le_of_ble_eq_true rfl) fun p e s m args below meth c S hW ls hl => t_K2_0 S v0 v1 σ h hl hW
end
theorem q_K_copyOf_oI : Calee y_K2 k_K2 2 (some (.array (.object "java/lang/Object"))) 2 := q_K2
