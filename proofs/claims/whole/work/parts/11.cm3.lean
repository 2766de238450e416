/-! new cells, copies, calls and ends over the class's world -/
theorem nn_clamp (w : Int32) (h : ¬ w < 0) : w.toInt = (w.toNatClampNeg : Int) := by
  have h0 : (0 : Int) ≤ w.toInt := by
    have := Int32.not_lt.mp h
    simpa using Int32.le_iff_toInt_le.mp this
  show w.toInt = ((w.toInt.toNat : Nat) : Int)
  omega
section CM3
variable {p : Program} {l : Launch} {e : Env} {R : Room} {s : State} {m : MethodId} {args : Array Value} {below : List Frame} {meth : Method} {c : Code} {H : Heap} {locs : List Loc} {cells slots : Nat} {Q : State → Prop}
variable {cc : ByteArray} {pc nL : Nat} {ls : Array Slot} {rest st0 : List Value} {D : va_G} {tc : Nat → ClassId} {b z : Nat} {σ0 σ : CS} {own : String} {β : Type} {B : β} {ret : Option FieldType}
variable {k N q a : Nat} {C : String} {T : u_T} {ty : Nat → FieldType} {ref : String} {index : Nat}
/-- the room that a method of the class has: all that is left -/
abbrev CR (fr lo : Nat) (σ0 : CS) : Room := { frames := fr, cells := 601024 - cX σ0, slots := 7293034 - cU σ0, locals := lo }
theorem cm_newb {fr lo : Nat} (S : CC p m c cc nL s args own meth ret D tc b z) (hW : CWS D tc b z s σ0 σ H locs cells slots) {n : Int32} (hdg : decode cc pc = .ok (.newarray .byte, 2)) (hw : Cond.arrayClass .byte ∈ lw_tbl)
    {F : Nat → CS → Option β} (h : gd (¬ n < 0 ∧ cX σ + 1 ≤ 601024 ∧ cU σ + n.toNatClampNeg ≤ 7293034) (bd2 (cX σ) (wa σ 21 n.toNatClampNeg n.toNatClampNeg) F) = some B) (kk : ∀ a σ' (H1 : Heap) (cells1 slots1 : Nat), F a σ' = some B → CWS D tc b z s σ0 σ' H1 locs cells1 slots1 → W p l e (CR fr lo σ0) s m args below meth c H1 locs cells1 slots1 Q (F0 m (pc + 2) ls (.ref (b + a) :: rest))) : W p l e (CR fr lo σ0) s m args below meth c H locs cells slots Q (F0 m pc ls (.int n :: rest)) := by
  obtain ⟨⟨g0, g1, g2⟩, g3⟩ := gd_s h
  obtain ⟨hc1, hc2⟩ := hW.2.2
  refine va_newaK (atype := .byte) S.1.1 S.1.2.1 (S.1.2.2.2.2 _ (gi hw rfl)) rfl hdg rfl g0 rfl (by show _ * 1 ≤ _; omega) (by show cells + 1 ≤ 601024 - cX σ0; omega) (by show slots + n.toNatClampNeg ≤ 7293034 - cU σ0; omega) hW.1.2.2.2.1 fun H1 cA e1 z1 o1 hAr hNm => ?_
  have hA : cA = tc 1 := Option.some.inj (hNm.symm.trans (S.2.1.1.2 1 _ rfl).2)
  subst hA
  refine kk (cX σ) _ H1 _ _ g3 (hW.make (by decide) g1 g2 ?_ (by rw [z1, hW.1.2.2.2.1]) (fun x hx => o1 x (by rw [← hW.1.2.2.2.1]; exact hx)))
  rw [ent_21, hW.1.2.2.2.1]
  show H1[b + cX σ]? = some (vp_cell _ _)
  rw [e1, vp_cell_i]
  show some (arrV _ _ _) = some (arrV _ (if cX σ = cX σ then n.toNatClampNeg else cN σ (cX σ)) (fun j => .int (if cX σ = cX σ then 0 else cI σ (cX σ) j)))
  rw [if_pos rfl]
  congr 2
  funext j
  rw [if_pos rfl]
  rfl
theorem cm_news {fr lo : Nat} (S : CC p m c cc nL s args own meth ret D tc b z) (hW : CWS D tc b z s σ0 σ H locs cells slots) {n : Int32} (hdg : decode cc pc = .ok (.newarray .short, 2)) (hw : Cond.arrayClass .short ∈ lw_tbl)
    {F : Nat → CS → Option β} (h : gd (¬ n < 0 ∧ cX σ + 1 ≤ 601024 ∧ cU σ + n.toNatClampNeg ≤ 7293034) (bd2 (cX σ) (wa σ 24 n.toNatClampNeg n.toNatClampNeg) F) = some B) (kk : ∀ a σ' (H1 : Heap) (cells1 slots1 : Nat), F a σ' = some B → CWS D tc b z s σ0 σ' H1 locs cells1 slots1 → W p l e (CR fr lo σ0) s m args below meth c H1 locs cells1 slots1 Q (F0 m (pc + 2) ls (.ref (b + a) :: rest))) : W p l e (CR fr lo σ0) s m args below meth c H locs cells slots Q (F0 m pc ls (.int n :: rest)) := by
  obtain ⟨⟨g0, g1, g2⟩, g3⟩ := gd_s h
  obtain ⟨hc1, hc2⟩ := hW.2.2
  refine va_newaK (atype := .short) S.1.1 S.1.2.1 (S.1.2.2.2.2 _ (gi hw rfl)) rfl hdg rfl g0 rfl (by show _ * 2 ≤ _; omega) (by show cells + 1 ≤ 601024 - cX σ0; omega) (by show slots + n.toNatClampNeg ≤ 7293034 - cU σ0; omega) hW.1.2.2.2.1 fun H1 cA e1 z1 o1 hAr hNm => ?_
  have hA : cA = tc 4 := Option.some.inj (hNm.symm.trans (S.2.1.1.2 4 _ rfl).2)
  subst hA
  refine kk (cX σ) _ H1 _ _ g3 (hW.make (by decide) g1 g2 ?_ (by rw [z1, hW.1.2.2.2.1]) (fun x hx => o1 x (by rw [← hW.1.2.2.2.1]; exact hx)))
  rw [ent_24, hW.1.2.2.2.1]
  show H1[b + cX σ]? = some (vp_cell _ _)
  rw [e1, vp_cell_i]
  show some (arrV _ _ _) = some (arrV _ (if cX σ = cX σ then n.toNatClampNeg else cN σ (cX σ)) (fun j => .int (if cX σ = cX σ then 0 else cI σ (cX σ) j)))
  rw [if_pos rfl]
  congr 2
  funext j
  rw [if_pos rfl]
  rfl
theorem cm_newo {fr lo : Nat} (S : CC p m c cc nL s args own meth ret D tc b z) (hW : CWS D tc b z s σ0 σ H locs cells slots) {n : Int32} (hdg : decode cc pc = .ok (.anewarray index, 3)) (hw : Cond.classLink own index "java/lang/Object" ∈ lw_tbl)
    {F : Nat → CS → Option β} (h : gd (¬ n < 0 ∧ cX σ + 1 ≤ 601024 ∧ cU σ + n.toNatClampNeg ≤ 7293034) (bd2 (cX σ) (wa σ 25 n.toNatClampNeg n.toNatClampNeg) F) = some B) (kk : ∀ a σ' (H1 : Heap) (cells1 slots1 : Nat), F a σ' = some B → CWS D tc b z s σ0 σ' H1 locs cells1 slots1 → W p l e (CR fr lo σ0) s m args below meth c H1 locs cells1 slots1 Q (F0 m (pc + 3) ls (.ref (b + a) :: rest))) : W p l e (CR fr lo σ0) s m args below meth c H locs cells slots Q (F0 m pc ls (.int n :: rest)) := by
  obtain ⟨⟨g0, g1, g2⟩, g3⟩ := gd_s h
  obtain ⟨hc1, hc2⟩ := hW.2.2
  refine W.anew S.1.1 S.1.2.1 S.1.2.2.2.1 (S.1.2.2.2.2 _ (gi hw rfl)) (va_AO.use S.2.1.2.2.2.2.1) rfl hdg rfl g0 (by show n.toNatClampNeg * 4 ≤ _; omega) (by show cells + 1 ≤ 601024 - cX σ0; omega) (by show slots + n.toNatClampNeg ≤ 7293034 - cU σ0; omega) fun cA kA comp f1 f2 f3 f4 => ?_
  obtain ⟨kA5, comp5, r1, r2, r3, r4⟩ := (S.2.1.1.2 5 _ rfl).2
  have hA : cA = tc 5 := Option.some.inj (f1.symm.trans r4)
  subst hA
  generalize hH1 : H.push ({ cls := tc 5, slots := Array.replicate n.toNatClampNeg .null, vm := .none } : Cell) = H1
  have z1 : H1.size = H.size + 1 := by rw [← hH1, Array.size_push]
  have e1 : H1[H.size]? = some (arrV (tc 5) n.toNatClampNeg (fun _ => .null)) := by rw [← hH1, Array.getElem?_push_size, ← arrV_new]
  have o1 : ∀ x : Nat, x < H.size → H1[x]? = H[x]? := fun x hx => by rw [← hH1, Array.getElem?_push, if_neg (Nat.ne_of_lt hx)]
  have hs : H.size = b + cX σ := hW.1.2.2.2.1
  rw [show (Value.ref H.size) = Value.ref (b + cX σ) by rw [hs]]
  refine kk (cX σ) _ H1 _ _ g3 (hW.make (by decide) g1 g2 ?_ z1 o1)
  rw [ent_25]
  show H1[H.size]? = some (vp_cell _ _)
  rw [e1, vp_cell_q]
  show some (arrV _ _ _) = some (arrV _ (if cX σ = cX σ then n.toNatClampNeg else cN σ (cX σ)) (fun j => va_rf (Option.map _ (if cX σ = cX σ then none else cR σ (cX σ) j))))
  rw [if_pos rfl]
  congr 2
  funext j
  rw [if_pos rfl]
  rfl
theorem cm_newg {fr lo : Nat} (S : CC p m c cc nL s args own meth ret D tc b z) (hW : CWS D tc b z s σ0 σ H locs cells slots) (hdg : decode cc pc = .ok (.new index, 3)) (hw : Cond.classLink own index cn_G ∈ lw_tbl) (hi : Cond.instantiable cn_G 3 ∈ lw_tbl) (hi2 : Cond.initialized cn_G ∈ lw_tbl)
    {F : Nat → CS → Option β} (h : gd (cX σ + 1 ≤ 601024 ∧ cU σ + 3 ≤ 7293034) (bd2 (cX σ) (wa σ 11 0 3) F) = some B) (kk : ∀ a σ' (H1 : Heap) (cells1 slots1 : Nat), F a σ' = some B → CWS D tc b z s σ0 σ' H1 locs cells1 slots1 → W p l e (CR fr lo σ0) s m args below meth c H1 locs cells1 slots1 Q (F0 m (pc + 3) ls (.ref (b + a) :: rest))) : W p l e (CR fr lo σ0) s m args below meth c H locs cells slots Q (F0 m pc ls rest) := by
  obtain ⟨⟨g1, g2⟩, g3⟩ := gd_s h
  obtain ⟨hc1, hc2⟩ := hW.2.2
  have hts := S.1.2.2.2.2
  have hKn := S.2.1.1.1 11 _ rfl
  refine W.newcK (n := 3) S.1.1 S.1.2.1 S.1.2.2.2.1 (hts _ (gi hw rfl)) (hts _ (gi hi rfl)) (hts _ (gi hi2 rfl)) rfl hdg (by show cells + 1 ≤ 601024 - cX σ0; omega) (by show slots + 3 ≤ 7293034 - cU σ0; omega) hKn.2.1 hW.1.2.2.2.1 fun H1 kC hkC e1 z1 o1 => ?_
  refine kk (cX σ) _ H1 _ _ g3 (hW.make (by decide) g1 g2 ?_ (by rw [z1, hW.1.2.2.2.1]) (fun x hx => o1 x (by rw [← hW.1.2.2.2.1]; exact hx)))
  rw [ent_obj b z tc _ _ (by decide), hW.1.2.2.2.1]
  refine ⟨_, rfl, (u_born ft_G hts fi_G hKn hkC e1 fo_G).to (fun j hj => ?_)⟩
  rw [cvs_V b z _ _ 11 hj]
  have hz : cI (wa σ 11 0 3) (cX σ) j = 0 := if_pos rfl
  have hz2 : cR (wa σ 11 0 3) (cX σ) j = none := if_pos rfl
  unfold cv
  rw [hz, hz2]
  match j, hj with
  | 0, _ => rfl
  | 1, _ => rfl
  | 2, _ => rfl
/-- the contract of a method of the class -/
def CQ (D : va_G) (tc : Nat → ClassId) (b z : Nat) (σ0 : CS) (res : Option Value) (σ' : CS) : Array Value → State → Outcome → State → Prop := fun _ st oc t => oc = .returned res ∧ CW D tc b z σ' t.heap ∧ va_F (creg b) st t ∧ cX σ0 ≤ cX σ' ∧ cU σ0 ≤ cU σ'
def CP (D : va_G) (tc : Nat → ClassId) (b z : Nat) (σ : CS) : State → Prop := fun U => CW D tc b z σ U.heap ∧ CK D tc b z U
def CMet (l : Launch) (D : va_G) (tc : Nat → ClassId) (b z : Nat) (y : MethodName) (bytes : ByteArray) (maxL : Nat) (ret : Option FieldType) (fr lo : Nat) (As : List Value) (σ : CS) (res : Option Value) (σ' : CS) : Prop :=
  Met l y (Cond.code y bytes maxL ret :: gt) (CR fr lo σ) (va_Pc As (CP D tc b z σ)) (CQ D tc b z σ res σ') (cX σ' - cX σ) (cU σ' - cU σ) (creg b)
/-- the end of a walk -/
abbrev CE (D : va_G) (tc : Nat → ClassId) (b z : Nat) (below : List Frame) (args : Array Value) (s : State) (σ0 : CS) (res : Option Value) (σ' : CS) : State → Prop := MQ below (CQ D tc b z σ0 res σ') args s (cX σ' - cX σ0) (cU σ' - cU σ0) (creg b)
theorem CWS.end_ {t : State} (h : CWS D tc b z s σ0 σ H locs cells slots) (ht : t.heap = H) : CW D tc b z σ t.heap ∧ va_F (creg b) s t ∧ cX σ0 ≤ cX σ ∧ cU σ0 ≤ cU σ := ⟨by rw [ht]; exact h.1, h.2.1.F ht, by rw [h.2.2.1]; omega, by rw [h.2.2.2]; omega⟩
theorem cm_iret {B : Int32 × CS} (S : CC p m c cc nL s args own meth (some .int) D tc b z) (hW : CWS D tc b z s σ0 σ H locs cells slots) {x : Int32} (hdg : decode cc pc = .ok (.ireturn, 1)) (h : some (x, σ) = some B) :
    W p l e R s m args below meth c H locs cells slots (CE D tc b z below args s σ0 (some (.int B.1)) B.2) (F0 m pc ls [.int x]) := by
  cases h
  obtain rfl : cells = cX σ - cX σ0 := by have := hW.2.2.1; omega
  obtain rfl : slots = cU σ - cU σ0 := by have := hW.2.2.2; omega
  exact W.iret S.1.1 S.1.2.1 S.2.2.1 (fun t ht _ => ⟨rfl, hW.end_ ht⟩) hW.2.1.2.2 hdg S.2.2.2
theorem cm_zret {B : Int32 × CS} (S : CC p m c cc nL s args own meth (some .boolean) D tc b z) (hW : CWS D tc b z s σ0 σ H locs cells slots) {x : Int32} (hdg : decode cc pc = .ok (.ireturn, 1)) (h : gd (x = 0 ∨ x = 1) (some (x, σ)) = some B) :
    W p l e R s m args below meth c H locs cells slots (CE D tc b z below args s σ0 (some (.int B.1)) B.2) (F0 m pc ls [.int x]) := by
  obtain ⟨h1, h2⟩ := gd_s h
  cases h2
  obtain rfl : cells = cX σ - cX σ0 := by have := hW.2.2.1; omega
  obtain rfl : slots = cU σ - cU σ0 := by have := hW.2.2.2; omega
  exact W.zret S.1.1 S.1.2.1 S.2.2.1 (by rcases h1 with h1 | h1 <;> rw [h1] <;> decide) (fun t ht _ => ⟨rfl, hW.end_ ht⟩) hW.2.1.2.2 hdg S.2.2.2
theorem cm_lret {B : Int64 × CS} (S : CC p m c cc nL s args own meth (some .long) D tc b z) (hW : CWS D tc b z s σ0 σ H locs cells slots) {x : Int64} (hdg : decode cc pc = .ok (.lreturn, 1)) (h : some (x, σ) = some B) :
    W p l e R s m args below meth c H locs cells slots (CE D tc b z below args s σ0 (some (.long B.1)) B.2) (F0 m pc ls [.long x]) := by
  cases h
  obtain rfl : cells = cX σ - cX σ0 := by have := hW.2.2.1; omega
  obtain rfl : slots = cU σ - cU σ0 := by have := hW.2.2.2; omega
  exact W.lret S.1.1 S.1.2.1 S.2.2.1 (fun t ht _ => ⟨rfl, hW.end_ ht⟩) hW.2.1.2.2 hdg S.2.2.2
theorem cm_vret {B : CS} (S : CC p m c cc nL s args own meth none D tc b z) (hW : CWS D tc b z s σ0 σ H locs cells slots) (hdg : decode cc pc = .ok (.return_, 1)) (h : some σ = some B) :
    W p l e R s m args below meth c H locs cells slots (CE D tc b z below args s σ0 none B) (F0 m pc ls []) := by
  cases h
  obtain rfl : cells = cX σ - cX σ0 := by have := hW.2.2.1; omega
  obtain rfl : slots = cU σ - cU σ0 := by have := hW.2.2.2; omega
  exact W.vret S.1.1 S.1.2.1 S.2.2.1 (fun t ht _ => ⟨rfl, hW.end_ ht⟩) hW.2.1.2.2 hdg S.2.2.2
theorem cm_rret {rt : FieldType} {B : Nat × CS} (S : CC p m c cc nL s args own meth (some rt) D tc b z) (hrt : (∃ n, rt = .object n) ∨ ∃ t, rt = .array t) (hW : CWS D tc b z s σ0 σ H locs cells slots) {a : Nat} (hdg : decode cc pc = .ok (.areturn, 1)) (h : some (a, σ) = some B) :
    W p l e R s m args below meth c H locs cells slots (CE D tc b z below args s σ0 (some (.ref (b + B.1))) B.2) (F0 m pc ls [.ref (b + a)]) := by
  cases h
  obtain rfl : cells = cX σ - cX σ0 := by have := hW.2.2.1; omega
  obtain rfl : slots = cU σ - cU σ0 := by have := hW.2.2.2; omega
  exact W.aret S.1.1 S.1.2.1 S.2.2.1 hrt (Or.inr ⟨_, rfl⟩) (fun t ht _ => ⟨rfl, hW.end_ ht⟩) hW.2.1.2.2 hdg S.2.2.2
theorem cm_qret {rt : FieldType} {B : Option Nat × CS} (S : CC p m c cc nL s args own meth (some rt) D tc b z) (hrt : (∃ n, rt = .object n) ∨ ∃ t, rt = .array t) (hW : CWS D tc b z s σ0 σ H locs cells slots) {u : Option Nat} (hdg : decode cc pc = .ok (.areturn, 1)) (h : some (u, σ) = some B) :
    W p l e R s m args below meth c H locs cells slots (CE D tc b z below args s σ0 (some (vq b B.1)) B.2) (F0 m pc ls [vq b u]) := by
  cases h
  obtain rfl : cells = cX σ - cX σ0 := by have := hW.2.2.1; omega
  obtain rfl : slots = cU σ - cU σ0 := by have := hW.2.2.2; omega
  exact W.aret S.1.1 S.1.2.1 S.2.2.1 hrt (by cases u with | none => exact Or.inl rfl | some a => exact Or.inr ⟨_, rfl⟩) (fun t ht _ => ⟨rfl, hW.end_ ht⟩) hW.2.1.2.2 hdg S.2.2.2
end CM3
