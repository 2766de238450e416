/-! arrays, new cells, copies, calls and ends over the class's world -/
def bd2 {α γ β : Type} (a : α) (s : γ) (k : α → γ → Option β) : Option β := k a s
theorem ent_21 (b z : Nat) (tc : Nat → ClassId) (σ : CS) (q : Nat) : ent b z tc σ q 21 = .inl (tc 1, cN σ q, .inl (cI σ q)) := by
  unfold ent; rw [if_neg (by decide), if_pos rfl]
theorem ent_24 (b z : Nat) (tc : Nat → ClassId) (σ : CS) (q : Nat) : ent b z tc σ q 24 = .inl (tc 4, cN σ q, .inl (cI σ q)) := by
  unfold ent; rw [if_neg (by decide), if_neg (by decide), if_pos rfl]
theorem ent_25 (b z : Nat) (tc : Nat → ClassId) (σ : CS) (q : Nat) : ent b z tc σ q 25 = .inl (tc 5, cN σ q, .inr (.inr (.inr (.inr (fun i => (cR σ q i).map fun a => b + a))))) := by
  unfold ent; rw [if_neg (by decide), if_neg (by decide), if_neg (by decide)]
theorem wi_upd (σ : CS) (q i : Nat) (x : Int32) : cI (wi σ q i x) q = upd (cI σ q) i x := by
  funext j
  show (if q = q ∧ j = i then x else cI σ q j) = if j = i then x else cI σ q j
  simp
section CM2
variable {p : Program} {l : Launch} {e : Env} {R : Room} {s : State} {m : MethodId} {args : Array Value} {below : List Frame} {meth : Method} {c : Code} {H : Heap} {locs : List Loc} {cells slots : Nat} {Q : State → Prop}
variable {cc : ByteArray} {pc nL : Nat} {ls : Array Slot} {rest st0 : List Value} {D : va_G} {tc : Nat → ClassId} {b z : Nat} {σ0 σ : CS} {own : String} {β : Type} {B : β} {ret : Option FieldType}
variable {k N q a : Nat} {C : String} {T : u_T} {ty : Nat → FieldType} {ref : String} {index : Nat}
theorem CWS.by1 (hW : CWS D tc b z s σ0 σ H locs cells slots) (hq : kd σ a = 21) : va_at D cls (b + a, .inl (tc 1, cN σ a, .inl (cI σ a))) H := by
  have h := hW.1.1 a (by rw [hq]; decide)
  rw [hq, ent_21] at h
  exact h
theorem CWS.sh1 (hW : CWS D tc b z s σ0 σ H locs cells slots) (hq : kd σ a = 24) : va_at D cls (b + a, .inl (tc 4, cN σ a, .inl (cI σ a))) H := by
  have h := hW.1.1 a (by rw [hq]; decide)
  rw [hq, ent_24] at h
  exact h
theorem CWS.ob1 (hW : CWS D tc b z s σ0 σ H locs cells slots) (hq : kd σ a = 25) : va_at D cls (b + a, .inl (tc 5, cN σ a, .inr (.inr (.inr (.inr (fun i => (cR σ a i).map fun a => b + a)))))) H := by
  have h := hW.1.1 a (by rw [hq]; decide)
  rw [hq, ent_25] at h
  exact h
theorem cm_bald (S : CC p m c cc nL s args own meth ret D tc b z) (hW : CWS D tc b z s σ0 σ H locs cells slots) {i : Int32} (hdg : decode cc pc = .ok (.baload, 1))
    {F : Int32 → Option β} (h : gd (kd σ a = 21 ∧ inb i (cN σ a)) (bd (cI σ a i.toNatClampNeg) F) = some B) (kk : ∀ x, F x = some B → W p l e R s m args below meth c H locs cells slots Q (F0 m (pc + 1) ls (.int x :: rest))) : W p l e R s m args below meth c H locs cells slots Q (F0 m pc ls (.int i :: .ref (b + a) :: rest)) := by
  obtain ⟨⟨g0, g1⟩, g2⟩ := gd_s h
  exact va_bald S.1.1 S.1.2.1 S.2.1.1 (rm_one (hW.by1 g0)) 0 1 rfl rfl g1 hdg (kk _ g2)
theorem cm_sald (S : CC p m c cc nL s args own meth ret D tc b z) (hW : CWS D tc b z s σ0 σ H locs cells slots) {i : Int32} (hdg : decode cc pc = .ok (.saload, 1))
    {F : Int32 → Option β} (h : gd (kd σ a = 24 ∧ inb i (cN σ a)) (bd (cI σ a i.toNatClampNeg) F) = some B) (kk : ∀ x, F x = some B → W p l e R s m args below meth c H locs cells slots Q (F0 m (pc + 1) ls (.int x :: rest))) : W p l e R s m args below meth c H locs cells slots Q (F0 m pc ls (.int i :: .ref (b + a) :: rest)) := by
  obtain ⟨⟨g0, g1⟩, g2⟩ := gd_s h
  exact va_sald S.1.1 S.1.2.1 S.2.1.1 (rm_one (hW.sh1 g0)) 0 4 rfl rfl g1 hdg (kk _ g2)
theorem cm_aald (S : CC p m c cc nL s args own meth ret D tc b z) (hW : CWS D tc b z s σ0 σ H locs cells slots) {i : Int32} (hdg : decode cc pc = .ok (.aaload, 1))
    {F : Option Nat → Option β} (h : gd (kd σ a = 25 ∧ inb i (cN σ a)) (bd (cR σ a i.toNatClampNeg) F) = some B) (kk : ∀ u, F u = some B → W p l e R s m args below meth c H locs cells slots Q (F0 m (pc + 1) ls (vq b u :: rest))) : W p l e R s m args below meth c H locs cells slots Q (F0 m pc ls (.int i :: .ref (b + a) :: rest)) := by
  obtain ⟨⟨g0, g1⟩, g2⟩ := gd_s h
  exact va_aldq (C := "java/lang/Object") S.1.1 S.1.2.1 S.2.1.1 (rm_one (hW.ob1 g0)) 0 5 rfl rfl g1 hdg (kk _ g2)
theorem cm_bast (S : CC p m c cc nL s args own meth ret D tc b z) (hW : CWS D tc b z s σ0 σ H locs cells slots) {i x : Int32} (hdg : decode cc pc = .ok (.bastore, 1))
    {F : CS → Option β} (h : gd (kd σ a = 21 ∧ inb i (cN σ a)) (bd (wi σ a i.toNatClampNeg (vp_nar .byte x)) F) = some B) (kk : ∀ σ' (H1 : Heap) (locs1 : List Loc), F σ' = some B → CWS D tc b z s σ0 σ' H1 locs1 cells slots → W p l e R s m args below meth c H1 locs1 cells slots Q (F0 m (pc + 1) ls rest)) : W p l e R s m args below meth c H locs cells slots Q (F0 m pc ls (.int x :: .int i :: .ref (b + a) :: rest)) := by
  obtain ⟨⟨g0, g1⟩, g2⟩ := gd_s h
  have hc := hW.by1 g0
  refine W.bast S.1.1 S.1.2.1 hc ((S.2.1.1.2 1 _ rfl).1 (cN σ a) (fun j => .int (cI σ a j))) (fun q => by cases q) (by show ¬ (i < 0 ∨ (arrV _ _ _).slots.size ≤ _); rw [arrV_size]; exact g1) rfl rfl hdg fun H1 e z oq => ?_
  refine kk _ H1 _ g2 (hW.put (by rw [g0]; decide) rfl (fun j _ => ?_) (fun j v h9 => absurd (h9.symm.trans g0) (by decide)) (fun y hy => ⟨wi_o σ _ hy, rfl, rfl⟩) ?_ z oq)
  · show fits .byte (.int (if a = a ∧ j = _ then _ else cI σ a j)) = true
    split
    · rw [vp_nar_byte]; exact pk_fb x
    · exact hW.1.2.2.2.2.2.2.1 a j g0
  · rw [g0, ent_21, wi_upd]
    show H1[b + a]? = some (vp_cell _ _)
    rw [e]
    rw [vp_cell_i, vp_cell_i, arrV_store]
    congr 2
    funext q
    by_cases hq : q = i.toNatClampNeg
    · subst hq
      simp [updV, upd, vp_nar]
      try rfl
    · simp [updV, upd, hq]
theorem cm_sast (S : CC p m c cc nL s args own meth ret D tc b z) (hW : CWS D tc b z s σ0 σ H locs cells slots) {i x : Int32} (hdg : decode cc pc = .ok (.sastore, 1))
    {F : CS → Option β} (h : gd (kd σ a = 24 ∧ inb i (cN σ a)) (bd (wi σ a i.toNatClampNeg (vp_nar .short x)) F) = some B) (kk : ∀ σ' (H1 : Heap) (locs1 : List Loc), F σ' = some B → CWS D tc b z s σ0 σ' H1 locs1 cells slots → W p l e R s m args below meth c H1 locs1 cells slots Q (F0 m (pc + 1) ls rest)) : W p l e R s m args below meth c H locs cells slots Q (F0 m pc ls (.int x :: .int i :: .ref (b + a) :: rest)) := by
  obtain ⟨⟨g0, g1⟩, g2⟩ := gd_s h
  have hc := hW.sh1 g0
  refine W.sast S.1.1 S.1.2.1 hc ((S.2.1.1.2 4 _ rfl).1 (cN σ a) (fun j => .int (cI σ a j))) (fun q => by cases q) (by show ¬ (i < 0 ∨ (arrV _ _ _).slots.size ≤ _); rw [arrV_size]; exact g1) rfl rfl hdg fun H1 e z oq => ?_
  refine kk _ H1 _ g2 (hW.put (by rw [g0]; decide) rfl (fun j h9 => absurd (h9.symm.trans g0) (by decide)) (fun j v h9 => absurd (h9.symm.trans g0) (by decide)) (fun y hy => ⟨wi_o σ _ hy, rfl, rfl⟩) ?_ z oq)
  rw [g0, ent_24, wi_upd]
  show H1[b + a]? = some (vp_cell _ _)
  rw [e]
  rw [vp_cell_i, vp_cell_i, arrV_store]
  congr 2
  funext q
  by_cases hq : q = i.toNatClampNeg
  · subst hq
    simp [updV, upd, vp_nar]
    try rfl
  · simp [updV, upd, hq]
theorem wr_va (σ : CS) (q i : Nat) (u : Option Nat) : (fun j => (cR (wr σ q i u) q j).map fun a => b + a) = va_up (fun j => (cR σ q j).map fun a => b + a) i (u.map fun a => b + a) := by
  funext j
  show Option.map _ (if q = q ∧ j = i then u else cR σ q j) = if j = i then _ else _
  by_cases h : j = i
  · rw [if_pos ⟨rfl, h⟩, if_pos h]
  · rw [if_neg (fun g => h g.2), if_neg h]
/-- a segment is put into a row of objects -/
theorem cm_aast {v : Nat} (S : CC p m c cc nL s args own meth ret D tc b z) (hW : CWS D tc b z s σ0 σ H locs cells slots) {i : Int32} (hdg : decode cc pc = .ok (.aastore, 1))
    {F : CS → Option β} (h : gd (kd σ a = 25 ∧ inb i (cN σ a) ∧ kd σ v = 11) (bd (wr σ a i.toNatClampNeg (some v)) F) = some B) (kk : ∀ σ' (H1 : Heap) (locs1 : List Loc), F σ' = some B → CWS D tc b z s σ0 σ' H1 locs1 cells slots → W p l e R s m args below meth c H1 locs1 cells slots Q (F0 m (pc + 1) ls rest)) : W p l e R s m args below meth c H locs cells slots Q (F0 m pc ls (.ref (b + v) :: .int i :: .ref (b + a) :: rest)) := by
  obtain ⟨⟨g0, g1, gv⟩, g2⟩ := gd_s h
  have hc := hW.ob1 g0
  have hlt : i.toNatClampNeg < cN σ a := Nat.not_le.mp fun q => g1 (Or.inr q)
  have h0 : ¬ i < 0 := fun q => g1 (Or.inl q)
  obtain ⟨r', hr', cellV, v1, v2, v3, -⟩ := hW.obj kx_G gv
  obtain ⟨c0, t0, f1, f2, f3⟩ := Cond.castable_spec (va_Nw.use (A := args) rfl S.2.1.2.2.2.2.2.2.1)
  obtain ⟨kA, comp, k1, k2, k3, -⟩ := (S.2.1.1.2 5 _ rfl).2
  have hcls := (S.2.1.1.1 11 _ rfl).2
  have hc0 : c0 = D.1 11 := Option.some.inj (f1.symm.trans hcls.1)
  have ht0 : t0 = comp := Option.some.inj (f2.symm.trans k3)
  subst ht0
  obtain ⟨kE, hkE, -⟩ := Vm.findClass_spec k3
  obtain ⟨kC, hkC, -⟩ := hcls.2
  refine W.aast S.1.1 S.1.2.1 hc (fun q h => by cases h) (fun h => by cases h) k1 k2 rfl hkE ⟨h0, by show _ < (arrV _ _ _).slots.size; rw [arrV_size]; exact hlt⟩ v1 (fun q h => by rw [v3] at h; cases h) (by rw [v2]; exact hkC) (by rw [v2, ← hc0]; exact f3) rfl rfl hdg fun H1 e z oq => ?_
  refine kk _ H1 _ g2 (hW.put (by rw [g0]; decide) rfl (fun j h9 => absurd (h9.symm.trans g0) (by decide)) (fun j w _ hw => ?_) (fun y hy => ⟨rfl, rfl, wr_o σ _ hy⟩) ?_ z oq)
  · have hw' : (if a = a ∧ j = i.toNatClampNeg then some v else cR σ a j) = some w := hw
    split at hw'
    · cases hw'; exact gv
    · exact hW.1.2.2.2.2.2.2.2 a j w g0 hw'
  · rw [g0, ent_25, wr_va]
    show H1[b + a]? = some (vp_cell _ _)
    rw [e]
    rw [vp_cell_q, vp_cell_q, arrV_store]
    congr 2
    funext q
    by_cases hq : q = i.toNatClampNeg
    · subst hq
      simp [updV, va_up, va_rf]
    · simp [updV, va_up, hq]
theorem cm_aastn (S : CC p m c cc nL s args own meth ret D tc b z) (hW : CWS D tc b z s σ0 σ H locs cells slots) {i : Int32} (hdg : decode cc pc = .ok (.aastore, 1))
    {F : CS → Option β} (h : gd (kd σ a = 25 ∧ inb i (cN σ a)) (bd (wr σ a i.toNatClampNeg none) F) = some B) (kk : ∀ σ' (H1 : Heap) (locs1 : List Loc), F σ' = some B → CWS D tc b z s σ0 σ' H1 locs1 cells slots → W p l e R s m args below meth c H1 locs1 cells slots Q (F0 m (pc + 1) ls rest)) : W p l e R s m args below meth c H locs cells slots Q (F0 m pc ls (.null :: .int i :: .ref (b + a) :: rest)) := by
  obtain ⟨⟨g0, g1⟩, g2⟩ := gd_s h
  have hc := hW.ob1 g0
  refine va_WaastN (C := "java/lang/Object") S.1.1 S.1.2.1 hc ((S.2.1.1.2 5 _ rfl).1 (cN σ a) (fun j => va_rf ((cR σ a j).map fun a => b + a))) (fun h => by cases h) (by show ¬ (i < 0 ∨ (arrV _ _ _).slots.size ≤ _); rw [arrV_size]; exact g1) rfl rfl hdg fun H1 e z oq => ?_
  refine kk _ H1 _ g2 (hW.put (by rw [g0]; decide) rfl (fun j h9 => absurd (h9.symm.trans g0) (by decide)) (fun j w _ hw => ?_) (fun y hy => ⟨rfl, rfl, wr_o σ _ hy⟩) ?_ z oq)
  · have hw' : (if a = a ∧ j = i.toNatClampNeg then none else cR σ a j) = some w := hw
    split at hw'
    · cases hw'
    · exact hW.1.2.2.2.2.2.2.2 a j w g0 hw'
  · rw [g0, ent_25, wr_va]
    show H1[b + a]? = some (vp_cell _ _)
    rw [e]
    rw [vp_cell_q, vp_cell_q, arrV_store]
    congr 2
    funext q
    by_cases hq : q = i.toNatClampNeg
    · subst hq
      simp [updV, va_up, va_rf]
    · simp [updV, va_up, hq]
theorem cm_alen (S : CC p m c cc nL s args own meth ret D tc b z) (hW : CWS D tc b z s σ0 σ H locs cells slots) (hdg : decode cc pc = .ok (.arraylength, 1))
    {F : Int32 → Option β} (h : gd (kd σ a = 21 ∨ kd σ a = 24 ∨ kd σ a = 25) (bd (nI (cN σ a)) F) = some B) (kk : ∀ x, F x = some B → W p l e R s m args below meth c H locs cells slots Q (F0 m (pc + 1) ls (.int x :: rest))) : W p l e R s m args below meth c H locs cells slots Q (F0 m pc ls (.ref (b + a) :: rest)) := by
  obtain ⟨g0 | g0 | g0, g2⟩ := gd_s h
  · exact va_alen (v := nI (cN σ a)) S.1.1 S.1.2.1 S.2.1.1 (rm_one (hW.by1 g0)) 0 1 rfl rfl rfl hdg (kk _ g2)
  · exact va_alen (v := nI (cN σ a)) S.1.1 S.1.2.1 S.2.1.1 (rm_one (hW.sh1 g0)) 0 4 rfl rfl rfl hdg (kk _ g2)
  · exact va_alen (v := nI (cN σ a)) S.1.1 S.1.2.1 S.2.1.1 (rm_one (hW.ob1 g0)) 0 5 rfl rfl rfl hdg (kk _ g2)
theorem CWS.z0 (S : CC p m c cc nL s args own meth ret D tc b z) (hW : CWS D tc b z s σ0 σ H locs cells slots) : z0 z s H := by
  obtain ⟨-, ⟨-, h2, -, h4, -, -, -, -, -, h8⟩, -⟩ := S
  refine h4.kept (hW.2.1.2.1 z (by show z < _; omega) (fun q => absurd q.1 (by show ¬ b ≤ z; omega)))
/-- a list's array: none is the empty one that the lists share -/
theorem cm_alend {u : Option Nat} (S : CC p m c cc nL s args own meth ret D tc b z) (hW : CWS D tc b z s σ0 σ H locs cells slots) (hdg : decode cc pc = .ok (.arraylength, 1))
    {F : Int32 → Option β} (h : gd (u.elim 25 (kd σ) = 25) (bd (nI (u.elim 0 (cN σ))) F) = some B) (kk : ∀ x, F x = some B → W p l e R s m args below meth c H locs cells slots Q (F0 m (pc + 1) ls (.int x :: rest))) : W p l e R s m args below meth c H locs cells slots Q (F0 m pc ls (lz b z u :: rest)) := by
  obtain ⟨g0, g2⟩ := gd_s h
  cases u with
  | none =>
    obtain ⟨cell, z1, z2, z3⟩ := CWS.z0 S hW
    exact W.alen (n := nI 0) S.1.1 S.1.2.1 z1 z2 (by rw [z3]; rfl) rfl rfl hdg (kk _ g2)
  | some a => exact va_alen (v := nI (cN σ a)) S.1.1 S.1.2.1 S.2.1.1 (rm_one (hW.ob1 g0)) 0 5 rfl rfl rfl hdg (kk _ g2)
end CM2
