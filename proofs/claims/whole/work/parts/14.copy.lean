/-! System.arraycopy over the class's world -/
def wcp (σ : CS) (src dst sp dp n : Nat) : CS := (fun a i => if a = dst then va_cpy (cI σ src) (cI σ dst) sp dp n i else cI σ a i, σ.2)
def wcq (σ : CS) (src dst sp dp n : Nat) : CS := (σ.1, σ.2.1, fun a i => if a = dst then va_cpy (cR σ src) (cR σ dst) sp dp n i else cR σ a i, σ.2.2.2)
theorem CWS.putL {D : va_G} {tc : Nat → ClassId} {b z : Nat} {s : State} {σ0 σ σ' : CS} {H H1 : Heap} {locs L : List Loc} {cells slots q : Nat} (h : CWS D tc b z s σ0 σ H locs cells slots) (hq : kd σ q ≠ 0) (hT : σ'.2.2.2 = σ.2.2.2) (hB : ∀ i, kd σ q = 21 → fits .byte (.int (cI σ' q i)) = true) (hR : ∀ i a, kd σ q = 25 → cR σ' q i = some a → kd σ a = 11)
    (ho : ∀ a, a ≠ q → cI σ' a = cI σ a ∧ cJ σ' a = cJ σ a ∧ cR σ' a = cR σ a) (he : va_at D cls (b + q, ent b z tc σ' q (kd σ q)) H1) (e2 : H1.size = H.size) (e3 : ∀ a : Nat, a ≠ b + q → H1[a]? = H[a]?) (hL : ∀ l ∈ L, l.base = b + q) : CWS D tc b z s σ0 σ' H1 (locs ++ L) cells slots := by
  have h1 := h.put (k := 0) hq hT hB hR ho he e2 e3
  refine ⟨h1.1, ⟨h1.2.1.1, h1.2.1.2.1, fun x hx => ?_⟩, h1.2.2⟩
  rcases List.mem_append.mp hx with h2 | h2
  · exact h.2.1.2.2 x h2
  · rw [hL x h2]; exact h.1.reg hq
section CCP
variable {p : Program} {l : Launch} {e : Env} {R : Room} {s : State} {m : MethodId} {args : Array Value} {below : List Frame} {meth : Method} {c : Code} {H : Heap} {locs : List Loc} {cells slots : Nat} {Q : State → Prop}
variable {cc : ByteArray} {pc nL : Nat} {ls : Array Slot} {rest st0 : List Value} {D : va_G} {tc : Nat → ClassId} {b z : Nat} {σ0 σ : CS} {own : String} {β : Type} {B : β} {ret : Option FieldType}
variable {src dst index fr0 lo0 : Nat}
theorem cm_copyb (S : CC p m c cc nL s args own meth ret D tc b z) (hW : CWS D tc b z s σ0 σ H locs cells slots) (hlink : Cond.methodLink own index arraycopyName ∈ lw_tbl) (hnat : Cond.native arraycopyName ∈ lw_tbl) (hstat : Cond.static arraycopyName ∈ lw_tbl) (hini : Cond.initialized "java/lang/System" ∈ lw_tbl) {sp dp n : Int32} (hl : ls.size = nL)
    (hframes : 1 ≤ fr0) (hlocals : (rest.map fun v => v.category).sum + (nativeFrameWords "java/lang/System" "arraycopy" 5 + 11) ≤ lo0) (hdg : decode cc pc = .ok (.invokestatic index, 3))
    {F : CS → Option β} (h : gd (kd σ src = 21 ∧ kd σ dst = 21 ∧ ¬ sp < 0 ∧ ¬ dp < 0 ∧ ¬ n < 0 ∧ sp.toNatClampNeg + n.toNatClampNeg ≤ cN σ src ∧ dp.toNatClampNeg + n.toNatClampNeg ≤ cN σ dst) (bd (wcp σ src dst sp.toNatClampNeg dp.toNatClampNeg n.toNatClampNeg) F) = some B)
    (kk : ∀ σ' (H1 : Heap) (locs1 : List Loc), F σ' = some B → CWS D tc b z s σ0 σ' H1 locs1 cells slots → W p l e (CR fr0 lo0 σ0) s m args below meth c H1 locs1 cells slots Q (F0 m (pc + 3) ls rest)) : W p l e (CR fr0 lo0 σ0) s m args below meth c H locs cells slots Q (F0 m pc ls (.int n :: .int dp :: .ref (b + dst) :: .int sp :: .ref (b + src) :: rest)) := by
  obtain ⟨⟨g0, g1, h1, h2, h3, h4, h5⟩, g3⟩ := gd_s h
  obtain ⟨hx, hb, hml, hown, hts⟩ := S.1
  have hc0 : H[b + src]? = some (vp_cell (tc 1) (cN σ src, .inl (cI σ src))) := hW.by1 g0
  have hc1 : H[b + dst]? = some (vp_cell (tc 1) (cN σ dst, .inl (cI σ dst))) := hW.by1 g1
  intro T hT X
  obtain ⟨-, k0, hk0, cm0, hkk0⟩ := (S.2.1.1.2 1 _ rfl).1 (cN σ src) (fun j => .int (cI σ src j))
  obtain ⟨-, k1, hk1, cm1, hkk1⟩ := (S.2.1.1.2 1 _ rfl).1 (cN σ dst) (fun j => .int (cI σ dst j))
  obtain ⟨vm', X', step⟩ := X.arraycopy hx hown (hts _ (gi hlink rfl)) (hts _ (gi hnat rfl)) (hts _ (gi hstat rfl)) (hts _ (gi hini rfl)) (src := b + src) (dst := b + dst) (cs := vp_cell (tc 1) (cN σ src, .inl (cI σ src))) (cd := vp_cell (tc 1) (cN σ dst, .inl (cI σ dst))) (srcPos := sp) (destPos := dp) (n := n) (by rw [hT]; exact hc0) (by rw [hT]; exact hc1)
    (fun _ h => by cases h) (fun _ h => by cases h) (fun h => by cases h) (fun h => by cases h) hk0 hk1 hkk0 hkk1 (by simp [refKind]) h1 h2 h3
    (by rw [nn_clamp sp h1, nn_clamp n h3]; show ¬ _ > ((arrV _ (cN σ src) (fun j => .int (cI σ src j))).slots.size : Int); rw [arrV_size]; omega)
    (by rw [nn_clamp dp h2, nn_clamp n h3]; show ¬ _ > ((arrV _ (cN σ dst) (fun j => .int (cI σ dst j))).slots.size : Int); rw [arrV_size]; omega)
    (fun vm₁ _ i hi => by
      have e9 : (vp_cell (tc 1) (cN σ src, .inl (cI σ src))).slots.getD (sp.toNatClampNeg + i) .null = .int (cI σ src (sp.toNatClampNeg + i)) := by
        show (arrV _ (cN σ src) (fun j => .int (cI σ src j))).slots.getD _ _ = _
        rw [Array.getD_eq_getD_getElem?, arrV_read _ _ (by omega)]
        rfl
      rw [e9]
      exact ⟨hW.1.2.2.2.2.2.2.1 src _ g0, trivial⟩)
    (g := F0 m pc ls (.int n :: .int dp :: .ref (b + dst) :: .int sp :: .ref (b + src) :: rest)) rfl (by rw [hml]; exact hl) (rest := rest) rfl (by rw [hb]; exact hdg) hframes (by show 2 * 0 + _ + _ ≤ lo0; omega)
  have e1 : copied (vp_cell (tc 1) (cN σ src, .inl (cI σ src))) (vp_cell (tc 1) (cN σ dst, .inl (cI σ dst))) sp dp n = vp_cell (tc 1) (cN σ dst, .inl (va_cpy (cI σ src) (cI σ dst) sp.toNatClampNeg dp.toNatClampNeg n.toNatClampNeg)) := va_copied (fun z => .int z) _ _ _ _ h4
  rw [e1] at X' step
  have hl1 : b + dst < H.size := (Array.getElem?_eq_some_iff.mp hc1).1
  have ec : cI (wcp σ src dst sp.toNatClampNeg dp.toNatClampNeg n.toNatClampNeg) dst = va_cpy (cI σ src) (cI σ dst) sp.toNatClampNeg dp.toNatClampNeg n.toNatClampNeg := by funext i; exact if_pos rfl
  obtain ⟨t, a1, b1⟩ := kk _ (H.setIfInBounds (b + dst) (vp_cell (tc 1) (cN σ dst, .inl (va_cpy (cI σ src) (cI σ dst) sp.toNatClampNeg dp.toNatClampNeg n.toNatClampNeg)))) _ g3 (hW.putL (q := dst) (by rw [g1]; decide) rfl (fun i _ => by
      rw [ec]
      unfold va_cpy
      split
      · exact hW.1.2.2.2.2.2.2.1 src _ g0
      · exact hW.1.2.2.2.2.2.2.1 dst _ g1) (fun i v h9 => absurd (h9.symm.trans g1) (by decide)) (fun x hx => ⟨by funext i; exact if_neg hx, rfl, rfl⟩) (by
      rw [g1, ent_21, ec]
      show (H.setIfInBounds (b + dst) _)[b + dst]? = some _
      simp [Array.getElem?_setIfInBounds, hl1]
      rfl) (by simp) (fun x hx => by simp [Array.getElem?_setIfInBounds, Ne.symm hx]) (fun x hx => by
      obtain ⟨w, -, hw⟩ := List.mem_map.mp hx
      rw [← hw])) _ (by rw [← hT]; rfl) X'
  exact ⟨t, step t a1, b1⟩
theorem cm_copyq (S : CC p m c cc nL s args own meth ret D tc b z) (hW : CWS D tc b z s σ0 σ H locs cells slots) (hlink : Cond.methodLink own index arraycopyName ∈ lw_tbl) (hnat : Cond.native arraycopyName ∈ lw_tbl) (hstat : Cond.static arraycopyName ∈ lw_tbl) (hini : Cond.initialized "java/lang/System" ∈ lw_tbl) {sp dp n : Int32} (hl : ls.size = nL)
    (hframes : 1 ≤ fr0) (hlocals : (rest.map fun v => v.category).sum + (nativeFrameWords "java/lang/System" "arraycopy" 5 + 11) ≤ lo0) (hdg : decode cc pc = .ok (.invokestatic index, 3))
    {F : CS → Option β} (h : gd (kd σ src = 25 ∧ kd σ dst = 25 ∧ ¬ sp < 0 ∧ ¬ dp < 0 ∧ ¬ n < 0 ∧ sp.toNatClampNeg + n.toNatClampNeg ≤ cN σ src ∧ dp.toNatClampNeg + n.toNatClampNeg ≤ cN σ dst) (bd (wcq σ src dst sp.toNatClampNeg dp.toNatClampNeg n.toNatClampNeg) F) = some B)
    (kk : ∀ σ' (H1 : Heap) (locs1 : List Loc), F σ' = some B → CWS D tc b z s σ0 σ' H1 locs1 cells slots → W p l e (CR fr0 lo0 σ0) s m args below meth c H1 locs1 cells slots Q (F0 m (pc + 3) ls rest)) : W p l e (CR fr0 lo0 σ0) s m args below meth c H locs cells slots Q (F0 m pc ls (.int n :: .int dp :: .ref (b + dst) :: .int sp :: .ref (b + src) :: rest)) := by
  obtain ⟨⟨g0, g1, h1, h2, h3, h4, h5⟩, g3⟩ := gd_s h
  obtain ⟨hx, hb, hml, hown, hts⟩ := S.1
  generalize hf0 : (fun i => (cR σ src i).map fun a => b + a) = f0
  generalize hf1 : (fun i => (cR σ dst i).map fun a => b + a) = f1
  have hc0 : H[b + src]? = some (vp_cell (tc 5) (cN σ src, .inr (.inr (.inr (.inr f0))))) := by rw [← hf0]; exact hW.ob1 g0
  have hc1 : H[b + dst]? = some (vp_cell (tc 5) (cN σ dst, .inr (.inr (.inr (.inr f1))))) := by rw [← hf1]; exact hW.ob1 g1
  intro T hT X
  obtain ⟨-, k0, hk0, cm0, hkk0⟩ := (S.2.1.1.2 5 _ rfl).1 (cN σ src) (fun j => va_rf (f0 j))
  obtain ⟨-, k1, hk1, cm1, hkk1⟩ := (S.2.1.1.2 5 _ rfl).1 (cN σ dst) (fun j => va_rf (f1 j))
  obtain ⟨vm', X', step⟩ := X.arraycopy hx hown (hts _ (gi hlink rfl)) (hts _ (gi hnat rfl)) (hts _ (gi hstat rfl)) (hts _ (gi hini rfl)) (src := b + src) (dst := b + dst) (cs := vp_cell (tc 5) (cN σ src, .inr (.inr (.inr (.inr f0))))) (cd := vp_cell (tc 5) (cN σ dst, .inr (.inr (.inr (.inr f1))))) (srcPos := sp) (destPos := dp) (n := n) (by rw [hT]; exact hc0) (by rw [hT]; exact hc1)
    (fun _ h => by cases h) (fun _ h => by cases h) (fun h => by cases h) (fun h => by cases h) hk0 hk1 hkk0 hkk1 rfl h1 h2 h3
    (by rw [nn_clamp sp h1, nn_clamp n h3]; show ¬ _ > ((arrV _ (cN σ src) (fun j => va_rf (f0 j))).slots.size : Int); rw [arrV_size]; omega)
    (by rw [nn_clamp dp h2, nn_clamp n h3]; show ¬ _ > ((arrV _ (cN σ dst) (fun j => va_rf (f1 j))).slots.size : Int); rw [arrV_size]; omega)
    (fun vm₁ hal i hi => by
      have e9 : (vp_cell (tc 5) (cN σ src, .inr (.inr (.inr (.inr f0))))).slots.getD (sp.toNatClampNeg + i) .null = va_rf (f0 (sp.toNatClampNeg + i)) := by
        show (arrV _ (cN σ src) (fun j => va_rf (f0 j))).slots.getD _ _ = _
        rw [Array.getD_eq_getD_getElem?, arrV_read _ _ (by omega)]
        rfl
      rw [e9]
      cases hy : f0 (sp.toNatClampNeg + i) with
      | none => exact ⟨rfl, trivial⟩
      | some y =>
        have hy' : (cR σ src (sp.toNatClampNeg + i)).map (fun a => b + a) = some y := by rw [← hf0] at hy; exact hy
        obtain ⟨v, hv, rfl⟩ := Option.map_eq_some_iff.mp hy'
        have gv := hW.1.2.2.2.2.2.2.2 src _ v g0 hv
        obtain ⟨cellV, w1, w2, w3⟩ := va_recv (q0 := 0) S.2.1.1 (rm_one (hW.obj kx_G gv)) kx_G.1 rfl
        obtain ⟨c0, t0, f1', f2, f3⟩ := Cond.castable_spec (va_Nw.use (A := args) rfl S.2.1.2.2.2.2.2.2.1)
        obtain ⟨kA, comp, r1, r2, r3, -⟩ := (S.2.1.1.2 5 _ rfl).2
        cases hk1.symm.trans r1
        cases hkk1.symm.trans r2
        have ht0 := Option.some.inj (f2.symm.trans r3)
        have hcv : cellV.cls = c0 := Option.some.inj (w3.symm.trans f1')
        obtain ⟨kC, hkC, -⟩ := Vm.findClass_spec w3
        obtain ⟨kE, hkE, -⟩ := Vm.findClass_spec r3
        obtain ⟨kC', hkC', -⟩ := hal.2.2 _ _ hkC
        obtain ⟨kE', hkE', -⟩ := hal.2.2 _ _ hkE
        refine ⟨rfl, cellV, (show T.heap[b + v]? = some cellV by rw [hT]; exact w1), (fun q h => by rw [h] at w2; cases w2), ⟨kC', hkC'⟩, ?_, ?_⟩
        · exact ⟨kE', hkE'⟩
        · show vm₁.assignable _ _ = true
          rw [hal.assignable, hcv, ← ht0]
          exact f3)
    (g := F0 m pc ls (.int n :: .int dp :: .ref (b + dst) :: .int sp :: .ref (b + src) :: rest)) rfl (by rw [hml]; exact hl) (rest := rest) rfl (by rw [hb]; exact hdg) hframes (by show 2 * 0 + _ + _ ≤ lo0; omega)
  have e1 : copied (vp_cell (tc 5) (cN σ src, .inr (.inr (.inr (.inr f0))))) (vp_cell (tc 5) (cN σ dst, .inr (.inr (.inr (.inr f1))))) sp dp n = vp_cell (tc 5) (cN σ dst, .inr (.inr (.inr (.inr (va_cpy f0 f1 sp.toNatClampNeg dp.toNatClampNeg n.toNatClampNeg))))) := by
    rw [vp_cell_q, vp_cell_q, vp_cell_q]
    exact va_copied (fun z => va_rf z) _ _ _ _ h4
  rw [e1] at X' step
  have hl1 : b + dst < H.size := (Array.getElem?_eq_some_iff.mp hc1).1
  have ec0 : cR (wcq σ src dst sp.toNatClampNeg dp.toNatClampNeg n.toNatClampNeg) dst = va_cpy (cR σ src) (cR σ dst) sp.toNatClampNeg dp.toNatClampNeg n.toNatClampNeg := by funext i; exact if_pos rfl
  have ec : (fun i => (cR (wcq σ src dst sp.toNatClampNeg dp.toNatClampNeg n.toNatClampNeg) dst i).map fun a => b + a) = va_cpy f0 f1 sp.toNatClampNeg dp.toNatClampNeg n.toNatClampNeg := by
    funext i
    rw [ec0, ← hf0, ← hf1]
    unfold va_cpy
    split <;> rfl
  obtain ⟨t, a1, b1⟩ := kk _ (H.setIfInBounds (b + dst) (vp_cell (tc 5) (cN σ dst, .inr (.inr (.inr (.inr (va_cpy f0 f1 sp.toNatClampNeg dp.toNatClampNeg n.toNatClampNeg))))))) _ g3 (hW.putL (q := dst) (by rw [g1]; decide) rfl (fun i h9 => absurd (h9.symm.trans g1) (by decide)) (fun i v _ hv => by
      rw [ec0] at hv
      unfold va_cpy at hv
      split at hv
      · exact hW.1.2.2.2.2.2.2.2 src _ v g0 hv
      · exact hW.1.2.2.2.2.2.2.2 dst _ v g1 hv) (fun x hx => ⟨rfl, rfl, by funext i; exact if_neg hx⟩) (by
      rw [g1, ent_25, ec]
      show (H.setIfInBounds (b + dst) _)[b + dst]? = some _
      simp [Array.getElem?_setIfInBounds, hl1]
      rfl) (by simp) (fun x hx => by simp [Array.getElem?_setIfInBounds, Ne.symm hx]) (fun x hx => by
      obtain ⟨w, -, hw⟩ := List.mem_map.mp hx
      rw [← hw])) _ (by rw [← hT]; rfl) X'
  exact ⟨t, step t a1, b1⟩
end CCP
