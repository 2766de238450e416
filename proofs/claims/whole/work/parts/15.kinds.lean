/-! kinds of the fixed objects, a reference that may be null, and ArrayList's inherited field -/
section KIND
variable {σ : CS} {q : Nat}
theorem kA (h : q = 5 ∨ q = 6) : kd σ q = 5 := by rcases h with rfl | rfl <;> rfl
theorem kE (h : q = 7 ∨ q = 14) : kd σ q = 6 := by rcases h with rfl | rfl <;> rfl
theorem kU (h : q = 8 ∨ q = 15) : kd σ q = 7 := by rcases h with rfl | rfl <;> rfl
theorem kV (h : q = 10 ∨ q = 17) : kd σ q = 8 := by rcases h with rfl | rfl <;> rfl
theorem kZ (h : q = 12 ∨ q = 19) : kd σ q = 9 := by rcases h with rfl | rfl <;> rfl
theorem kO (h : q = 13 ∨ q = 20) : kd σ q = 10 := by rcases h with rfl | rfl <;> rfl
theorem kEU (h : q = 7 ∨ q = 14) : kd σ (q + 1) = 7 := kU (by omega)
theorem kEV (h : q = 7 ∨ q = 14) : kd σ (q + 3) = 8 := kV (by omega)
theorem kEZ (h : q = 7 ∨ q = 14) : kd σ (q + 5) = 9 := kZ (by omega)
theorem kEO (h : q = 7 ∨ q = 14) : kd σ (q + 6) = 10 := kO (by omega)
end KIND
/-- null, or a cell -/
def bq {β : Type} (u : Option Nat) (A : Option β) (F : Nat → Option β) : Option β := match u with
  | none => A
  | some a => F a
section CM6
variable {p : Program} {l : Launch} {e : Env} {R : Room} {s : State} {m : MethodId} {args : Array Value} {below : List Frame} {meth : Method} {c : Code} {H : Heap} {locs : List Loc} {cells slots : Nat} {Q : State → Prop}
variable {cc : ByteArray} {pc nL : Nat} {ls : Array Slot} {rest st0 : List Value} {D : va_G} {tc : Nat → ClassId} {b z : Nat} {σ0 σ : CS} {own : String} {β : Type} {B : β} {ret : Option FieldType} {q index : Nat}
theorem cm_qcase {u : Option Nat} {A : Option β} {F : Nat → Option β} (h : bq u A F = some B) (kn : A = some B → W p l e R s m args below meth c H locs cells slots Q (F0 m pc ls (.null :: rest))) (ks : ∀ a, F a = some B → W p l e R s m args below meth c H locs cells slots Q (F0 m pc ls (.ref (b + a) :: rest))) : W p l e R s m args below meth c H locs cells slots Q (F0 m pc ls (vq b u :: rest)) := by
  cases u with
  | none => exact kn h
  | some a => exact ks a h
theorem cm_aaldr {a : Nat} (S : CC p m c cc nL s args own meth ret D tc b z) (hW : CWS D tc b z s σ0 σ H locs cells slots) {i : Int32} (hdg : decode cc pc = .ok (.aaload, 1))
    {F : Nat → Option β} (h : gd (kd σ a = 25 ∧ inb i (cN σ a)) (bc (cR σ a i.toNatClampNeg) F) = some B) (kk : ∀ v, F v = some B → W p l e R s m args below meth c H locs cells slots Q (F0 m (pc + 1) ls (.ref (b + v) :: rest))) : W p l e R s m args below meth c H locs cells slots Q (F0 m pc ls (.int i :: .ref (b + a) :: rest)) := by
  refine cm_aald (F := fun u => bc u F) S hW hdg h (fun u hu => ?_)
  exact cm_nn hu kk
theorem cm_getmod (S : CC p m c cc nL s args own meth ret D tc b z) (hW : CWS D tc b z s σ0 σ H locs cells slots) (hq : kd σ q = 5) (hlink : Cond.fieldLink own index "java/util/ArrayList" "modCount" "I" ∈ lw_tbl) (hsm : Cond.sameField "java/util/ArrayList" "java/util/AbstractList" "modCount" "I" ∈ lw_tbl) (hdg : decode cc pc = .ok (.getfield index, 3))
    {F : Int32 → Option β} (h : bd (cI σ q 2) F = some B) (kk : ∀ x, F x = some B → W p l e R s m args below meth c H locs cells slots Q (F0 m (pc + 3) ls (.int x :: rest))) : W p l e R s m args below meth c H locs cells slots Q (F0 m pc ls (.ref (b + q) :: rest)) := by
  refine cm_get kx_A S hW hq 2 (by decide) hlink (u_same (S.1.2.2.2.2 _ (gi hsm rfl))) hdg ?_
  exact kk _ h
theorem cm_putmod (S : CC p m c cc nL s args own meth ret D tc b z) (hW : CWS D tc b z s σ0 σ H locs cells slots) (hq : kd σ q = 5) (hlink : Cond.fieldLink own index "java/util/ArrayList" "modCount" "I" ∈ lw_tbl) (hsm : Cond.sameField "java/util/ArrayList" "java/util/AbstractList" "modCount" "I" ∈ lw_tbl) (hdg : decode cc pc = .ok (.putfield index, 3))
    {x : Int32} {F : CS → Option β} (h : bd (wi σ q 2 x) F = some B) (kk : ∀ σ' (H1 : Heap) (locs1 : List Loc), F σ' = some B → CWS D tc b z s σ0 σ' H1 locs1 cells slots → W p l e R s m args below meth c H1 locs1 cells slots Q (F0 m (pc + 3) ls rest)) : W p l e R s m args below meth c H locs cells slots Q (F0 m pc ls (.int x :: .ref (b + q) :: rest)) :=
  cm_puti' kx_A S hW hq 2 hlink (by decide) (u_same (S.1.2.2.2.2 _ (gi hsm rfl))) hdg h kk
end CM6
