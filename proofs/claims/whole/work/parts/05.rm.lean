/-! THE REFERENCE'S WORLD: one object at o, its forty arrays at o + 1 .. o + 40; what they hold is (ints, longs) by offset and place -/
abbrev RS : Type := (Nat → Nat → Int32) × (Nat → Nat → Int64)
def si (ρ : RS) (a k : Nat) (x : Int32) : RS := (fun b j => if b = a ∧ j = k then x else ρ.1 b j, ρ.2)
def sl (ρ : RS) (a k : Nat) (x : Int64) : RS := (ρ.1, fun b j => if b = a ∧ j = k then x else ρ.2 b j)
def rv (o : Nat) (ρ : RS) (k : Nat) : Value := if rk k = 0 then .int (ρ.1 0 k) else if rk k = 1 then .long (ρ.2 0 k) else .ref (o + (rk k - 10))
def rf (o : Nat) (ρ : RS) : List Value := (List.range 54).map (rv o ρ)
def ra (tc : Nat → ClassId) (ρ : RS) (r : Nat) : va_E := if rt r = 3 then .inl (tc 3, rn r, .inr (.inl (ρ.2 r))) else .inl (tc (rt r), rn r, .inl (ρ.1 r))
def RW (D : va_G) (tc : Nat → ClassId) (o : Nat) (ρ : RS) (H : Heap) : Prop := va_at D cls (o, .inr (0, rf o ρ)) H ∧ ∀ r, 1 ≤ r → r < 41 → va_at D cls (o + r, ra tc ρ r) H
def rreg (o : Nat) : Nat → Prop := fun q => o ≤ q ∧ q < o + 41
def RWS (D : va_G) (tc : Nat → ClassId) (o : Nat) (s : State) (ρ : RS) (H : Heap) (locs : List Loc) : Prop := RW D tc o ρ H ∧ va_S (rreg o) s.heap H locs ∧ H.size = s.heap.size
theorem rf_at (o : Nat) (ρ : RS) {k : Nat} (hk : k < 54) : (rf o ρ)[k]? = some (rv o ρ k) := by
  simp [rf, hk]
theorem rf_V (o : Nat) (ρ : RS) {k : Nat} (hk : k < 54) : vp_V (rf o ρ) k = rv o ρ k := by
  simp [vp_V, rf, hk]
theorem rf_arr (o : Nat) (ρ : RS) {r i : Nat} (hr : 1 ≤ r) (x : Int32) : rf o (si ρ r i x) = rf o ρ := by
  unfold rf
  refine List.map_congr_left fun k _ => ?_
  unfold rv
  have h : (si ρ r i x).1 0 k = ρ.1 0 k := by
    simp only [si]
    rw [if_neg (by omega)]
  rw [h]; rfl
theorem rf_arrL (o : Nat) (ρ : RS) {r i : Nat} (hr : 1 ≤ r) (x : Int64) : rf o (sl ρ r i x) = rf o ρ := by
  unfold rf
  refine List.map_congr_left fun k _ => ?_
  unfold rv
  have h : (sl ρ r i x).2 0 k = ρ.2 0 k := by
    simp only [sl]
    rw [if_neg (by omega)]
  rw [h]; rfl
theorem si_other (ρ : RS) {a b k : Nat} (h : b ≠ a) (x : Int32) : (si ρ a k x).1 b = ρ.1 b := by
  funext j
  simp only [si]
  rw [if_neg (fun z => h z.1)]
theorem sl_other (ρ : RS) {a b k : Nat} (h : b ≠ a) (x : Int64) : (sl ρ a k x).2 b = ρ.2 b := by
  funext j
  simp only [sl]
  rw [if_neg (fun z => h z.1)]
theorem ra_other (tc : Nat → ClassId) (ρ : RS) {a r k : Nat} (h : r ≠ a) (x : Int32) : ra tc (si ρ a k x) r = ra tc ρ r := by
  unfold ra
  rw [si_other ρ h]; rfl
theorem ra_otherL (tc : Nat → ClassId) (ρ : RS) {a r k : Nat} (h : r ≠ a) (x : Int64) : ra tc (sl ρ a k x) r = ra tc ρ r := by
  unfold ra
  rw [sl_other ρ h]; rfl
theorem RWS.arr {D : va_G} {tc : Nat → ClassId} {o : Nat} {s : State} {ρ ρ' : RS} {H H1 : Heap} {locs : List Loc} {r k : Nat} (h : RWS D tc o s ρ H locs) (hr : 1 ≤ r ∧ r < 41) (hob : rf o ρ' = rf o ρ) (hoth : ∀ q, q ≠ r → ra tc ρ' q = ra tc ρ q)
    (he : va_at D cls (o + r, ra tc ρ' r) H1) (z : H1.size = H.size) (oq : ∀ q : Nat, q ≠ o + r → H1[q]? = H[q]?) : RWS D tc o s ρ' H1 (locs ++ [⟨o + r, k⟩]) := by
  refine ⟨⟨?_, fun q h1 h2 => ?_⟩, h.2.1.put z oq ⟨by omega, by omega⟩, z.trans h.2.2⟩
  · rw [hob]
    exact h.1.1.kept (oq o (by omega))
  · by_cases hq : q = r
    · rw [hq]; exact he
    · rw [hoth q hq]
      exact (h.1.2 q h1 h2).kept (oq (o + q) (by omega))
section RM
variable {p : Program} {l : Launch} {e : Env} {R : Room} {s : State} {m : MethodId} {args : Array Value} {below : List Frame} {meth : Method} {c : Code} {H : Heap} {locs : List Loc} {cells slots : Nat} {Q : State → Prop}
variable {cc : ByteArray} {pc nL : Nat} {ls : Array Slot} {rest st0 : List Value} {D : va_G} {tc : Nat → ClassId} {o : Nat} {ρ : RS} {own : String} {β : Type} {B : β} {ret : Option FieldType}
/-- what a walk over this world stands on -/
abbrev RC (p : Program) (m : MethodId) (c : Code) (cc : ByteArray) (nL : Nat) (s : State) (args : Array Value) (own : String) (meth : Method) (ret : Option FieldType) (D : va_G) (tc : Nat → ClassId) : Prop :=
  CallFix p m c cc nL s args gt own ∧ va_K D cls (tys tc) s ∧ meth.sig.returnType = ret ∧ meth.locks = false
theorem rm_get (S : RC p m c cc nL s args own meth ret D tc) (hW : RWS D tc o s ρ H locs) (k : Nat) (hk : k < 54) {index : Nat} (hlink : Cond.fieldLink own index cn_M (fd_M k).2.1 (fd_M k).2.2.1 ∈ lw_tbl) (hT : (fd_M k).1 = cn_M) (hdg : decode cc pc = .ok (.getfield index, 3))
    (kk : W p l e R s m args below meth c H locs cells slots Q (F0 m (pc + 3) ls (rv o ρ k :: rest))) : W p l e R s m args below meth c H locs cells slots Q (F0 m pc ls (.ref o :: rest)) := by
  obtain ⟨⟨hx, hb, -, hown, hts⟩, hK, -⟩ := S
  refine va_get (D := D) (cl := cls) (ci := 0) (C := cn_M) (T := fd_M) (N := 54) (ws := [(o, .inr (0, rf o ρ))]) (ref := cn_M) hx hb hts fi_M hown hK (fun j q hj => ?_) 0 rfl rfl k hk (hts _ (gi hlink rfl)) (fun x h => by rw [hT] at h; exact h) (rf_at o ρ hk) hdg kk
  cases j with
  | zero => cases hj; exact hW.1.1
  | succ j => cases hj
theorem rm_geti (S : RC p m c cc nL s args own meth ret D tc) (hW : RWS D tc o s ρ H locs) (k : Nat) {index : Nat} (hlink : Cond.fieldLink own index cn_M (fd_M k).2.1 (fd_M k).2.2.1 ∈ lw_tbl) (hk : k < 54 ∧ (fd_M k).1 = cn_M ∧ rk k = 0) (hdg : decode cc pc = .ok (.getfield index, 3))
    {K : Int32 → Option β} (h : bd (ρ.1 0 k) K = some B) (kk : ∀ x, K x = some B → W p l e R s m args below meth c H locs cells slots Q (F0 m (pc + 3) ls (.int x :: rest))) : W p l e R s m args below meth c H locs cells slots Q (F0 m pc ls (.ref o :: rest)) := by
  refine rm_get S hW k hk.1 hlink hk.2.1 hdg ?_
  have h1 : rv o ρ k = .int (ρ.1 0 k) := by unfold rv; rw [if_pos hk.2.2]
  rw [h1]
  exact kk _ h
theorem rm_getl (S : RC p m c cc nL s args own meth ret D tc) (hW : RWS D tc o s ρ H locs) (k : Nat) {index : Nat} (hlink : Cond.fieldLink own index cn_M (fd_M k).2.1 (fd_M k).2.2.1 ∈ lw_tbl) (hk : k < 54 ∧ (fd_M k).1 = cn_M ∧ rk k = 1) (hdg : decode cc pc = .ok (.getfield index, 3))
    {K : Int64 → Option β} (h : bd (ρ.2 0 k) K = some B) (kk : ∀ x, K x = some B → W p l e R s m args below meth c H locs cells slots Q (F0 m (pc + 3) ls (.long x :: rest))) : W p l e R s m args below meth c H locs cells slots Q (F0 m pc ls (.ref o :: rest)) := by
  refine rm_get S hW k hk.1 hlink hk.2.1 hdg ?_
  have h1 : rv o ρ k = .long (ρ.2 0 k) := by unfold rv; rw [if_neg (by rw [hk.2.2]; decide), if_pos hk.2.2]
  rw [h1]
  exact kk _ h
theorem rm_geta (S : RC p m c cc nL s args own meth ret D tc) (hW : RWS D tc o s ρ H locs) (k r : Nat) {index : Nat} (hlink : Cond.fieldLink own index cn_M (fd_M k).2.1 (fd_M k).2.2.1 ∈ lw_tbl) (hk : k < 54 ∧ (fd_M k).1 = cn_M ∧ rk k = 10 + r ∧ 1 ≤ r) (hdg : decode cc pc = .ok (.getfield index, 3))
    (kk : W p l e R s m args below meth c H locs cells slots Q (F0 m (pc + 3) ls (.ref (o + r) :: rest))) : W p l e R s m args below meth c H locs cells slots Q (F0 m pc ls (.ref o :: rest)) := by
  refine rm_get S hW k hk.1 hlink hk.2.1 hdg ?_
  have h1 : rv o ρ k = .ref (o + r) := by unfold rv; rw [if_neg (by omega), if_neg (by omega)]; congr 2; omega
  rw [h1]
  exact kk
theorem rm_put {ρ' : RS} {v : Value} (S : RC p m c cc nL s args own meth ret D tc) (hW : RWS D tc o s ρ H locs) (k : Nat) (hk : k < 54) {index : Nat} (hlink : Cond.fieldLink own index cn_M (fd_M k).2.1 (fd_M k).2.2.1 ∈ lw_tbl) (hT : (fd_M k).1 = cn_M) (hfin : (fd_M k).2.2.2 = false) {ty : FieldType} (hd : parseFieldDescriptor (fd_M k).2.2.1 = some ty) (hn : narrow ty v = v) (hfit : fits ty v = true)
    (hv : rv o ρ' k = v) (ho : ∀ j, j < 54 → j ≠ k → rv o ρ' j = rv o ρ j) (hoth : ∀ q, 1 ≤ q → ra tc ρ' q = ra tc ρ q) (hdg : decode cc pc = .ok (.putfield index, 3))
    (kk : ∀ (H1 : Heap) (locs1 : List Loc), RWS D tc o s ρ' H1 locs1 → W p l e R s m args below meth c H1 locs1 cells slots Q (F0 m (pc + 3) ls rest)) : W p l e R s m args below meth c H locs cells slots Q (F0 m pc ls (v :: .ref o :: rest)) := by
  obtain ⟨⟨hx, hb, -, hown, hts⟩, hK, -⟩ := S
  have hap := va_apart (own := own) (ci := 0) hts fi_M ft_M fo_M fn_M hK rfl
  obtain ⟨r, h1, cell, q1, q2, q3, q4⟩ := hW.1.1
  have hr : r = (cn_M, fd_M, 54) := Option.some.inj (h1.symm.trans rfl)
  subst hr
  obtain ⟨hS, hfc, kC, hkC, hkind⟩ := hK.1 0 _ rfl
  obtain ⟨cf, kf, fi, f, hi, hsl⟩ := hS k hk
  have hlay := hts _ (fi_M _ (u_in_lay hk))
  unfold u_lay at hlay
  rw [if_neg (by rw [hfin]; decide)] at hlay
  have hst := (u_facts hfc hkC (u_lays hts fi_M hk) hi).1
  have h6 := u_store hfc hkC hkind hlay hi hd hn hfit
  refine W.putK hx hb (f := f) ⟨hown, hts _ (gi hlink rfl), ⟨_, _, _, by rw [← hT]; exact hi⟩, hst⟩ (by rw [q2]; exact h6) q1 q3 (by rw [hsl]; exact k2_hasslot (q4 k hk)) rfl rfl hdg fun H' e1 e2 e3 => ?_
  rw [hsl] at e1 ⊢
  refine kk H' _ ⟨⟨⟨_, rfl, t_OB.to (V := updV (vp_V (rf o ρ)) k v) ⟨_, e1, q2, q3, t_set q4 hap hk v⟩ (fun j hj => ?_)⟩, fun q g1 g2 => ?_⟩, hW.2.1.put e2 e3 ⟨by omega, by omega⟩, e2.trans hW.2.2⟩
  · rw [rf_V o ρ' hj]
    unfold updV
    split
    · rename_i hjk; rw [hjk, hv]
    · rename_i hjk; rw [ho j hj hjk, rf_V o ρ hj]
  · rw [hoth q g1]
    exact (hW.1.2 q g1 g2).kept (e3 (o + q) (by show o + q ≠ o; omega))
theorem rm_puti (S : RC p m c cc nL s args own meth ret D tc) (hW : RWS D tc o s ρ H locs) (k : Nat) {index : Nat} (hlink : Cond.fieldLink own index cn_M (fd_M k).2.1 (fd_M k).2.2.1 ∈ lw_tbl) (hk : k < 54 ∧ (fd_M k).1 = cn_M ∧ rk k = 0 ∧ (fd_M k).2.2.2 = false ∧ (fd_M k).2.2.1 = "I") (hdg : decode cc pc = .ok (.putfield index, 3))
    {x : Int32} {K : RS → Option β} (h : bd (si ρ 0 k x) K = some B) (kk : ∀ ρ' (H1 : Heap) (locs1 : List Loc), K ρ' = some B → RWS D tc o s ρ' H1 locs1 → W p l e R s m args below meth c H1 locs1 cells slots Q (F0 m (pc + 3) ls rest)) : W p l e R s m args below meth c H locs cells slots Q (F0 m pc ls (.int x :: .ref o :: rest)) := by
  obtain ⟨h1, h2, h3, h4, h5⟩ := hk
  refine rm_put (ρ' := si ρ 0 k x) (ty := .int) S hW k h1 hlink h2 h4 (by rw [h5]; rfl) rfl rfl ?_ ?_ ?_ hdg (fun H1 locs1 hW1 => kk _ H1 locs1 h hW1)
  · unfold rv; rw [if_pos h3]; simp [si]
  · intro j _ hjk
    unfold rv
    have z : (si ρ 0 k x).1 0 j = ρ.1 0 j := by simp [si, hjk]
    rw [z]; rfl
  · intro q hq
    exact ra_other tc ρ (by omega) x
theorem rm_putl (S : RC p m c cc nL s args own meth ret D tc) (hW : RWS D tc o s ρ H locs) (k : Nat) {index : Nat} (hlink : Cond.fieldLink own index cn_M (fd_M k).2.1 (fd_M k).2.2.1 ∈ lw_tbl) (hk : k < 54 ∧ (fd_M k).1 = cn_M ∧ rk k = 1 ∧ (fd_M k).2.2.2 = false ∧ (fd_M k).2.2.1 = "J") (hdg : decode cc pc = .ok (.putfield index, 3))
    {x : Int64} {K : RS → Option β} (h : bd (sl ρ 0 k x) K = some B) (kk : ∀ ρ' (H1 : Heap) (locs1 : List Loc), K ρ' = some B → RWS D tc o s ρ' H1 locs1 → W p l e R s m args below meth c H1 locs1 cells slots Q (F0 m (pc + 3) ls rest)) : W p l e R s m args below meth c H locs cells slots Q (F0 m pc ls (.long x :: .ref o :: rest)) := by
  obtain ⟨h1, h2, h3, h4, h5⟩ := hk
  refine rm_put (ρ' := sl ρ 0 k x) (ty := .long) S hW k h1 hlink h2 h4 (by rw [h5]; rfl) rfl rfl ?_ ?_ ?_ hdg (fun H1 locs1 hW1 => kk _ H1 locs1 h hW1)
  · unfold rv; rw [if_neg (by rw [h3]; decide), if_pos h3]; simp [sl]
  · intro j _ hjk
    unfold rv
    have z : (sl ρ 0 k x).2 0 j = ρ.2 0 j := by simp [sl, hjk]
    rw [z]; rfl
  · intro q hq
    exact ra_otherL tc ρ (by omega) x
theorem ra_i (tc : Nat → ClassId) (ρ : RS) {r t : Nat} (h : rt r = t) (h3 : t ≠ 3) : ra tc ρ r = .inl (tc t, rn r, .inl (ρ.1 r)) := by
  unfold ra; rw [if_neg (by omega), h]
theorem ra_l (tc : Nat → ClassId) (ρ : RS) {r : Nat} (h : rt r = 3) : ra tc ρ r = .inl (tc 3, rn r, .inr (.inl (ρ.2 r))) := by
  unfold ra; rw [if_pos h]
theorem rm_one {a : Nat} {e : va_E} (h : va_at D cls (a, e) H) : va_P D cls [(a, e)] H := fun j q hj => by
  cases j with
  | zero => cases hj; exact h
  | succ j => cases hj
theorem rm_iald (S : RC p m c cc nL s args own meth ret D tc) (hW : RWS D tc o s ρ H locs) (r n : Nat) (hr : 1 ≤ r ∧ r < 41 ∧ rt r = 0 ∧ rn r = n) {i : Int32} (hdg : decode cc pc = .ok (.iaload, 1))
    {K : Int32 → Option β} (h : gd (inb i n) (bd (ρ.1 r i.toNatClampNeg) K) = some B) (kk : ∀ x, K x = some B → W p l e R s m args below meth c H locs cells slots Q (F0 m (pc + 1) ls (.int x :: rest))) : W p l e R s m args below meth c H locs cells slots Q (F0 m pc ls (.int i :: .ref (o + r) :: rest)) := by
  obtain ⟨h1, h2, h3, h4⟩ := hr
  obtain ⟨g1, g2⟩ := gd_s h
  have hP := rm_one (hW.1.2 r h1 h2)
  rw [ra_i tc ρ h3 (by decide), h4] at hP
  exact va_iald S.1.1 S.1.2.1 S.2.1 hP 0 0 rfl rfl g1 hdg (kk _ g2)
theorem rm_bald (S : RC p m c cc nL s args own meth ret D tc) (hW : RWS D tc o s ρ H locs) (r n : Nat) (hr : 1 ≤ r ∧ r < 41 ∧ rt r = 1 ∧ rn r = n) {i : Int32} (hdg : decode cc pc = .ok (.baload, 1))
    {K : Int32 → Option β} (h : gd (inb i n) (bd (ρ.1 r i.toNatClampNeg) K) = some B) (kk : ∀ x, K x = some B → W p l e R s m args below meth c H locs cells slots Q (F0 m (pc + 1) ls (.int x :: rest))) : W p l e R s m args below meth c H locs cells slots Q (F0 m pc ls (.int i :: .ref (o + r) :: rest)) := by
  obtain ⟨h1, h2, h3, h4⟩ := hr
  obtain ⟨g1, g2⟩ := gd_s h
  have hP := rm_one (hW.1.2 r h1 h2)
  rw [ra_i tc ρ h3 (by decide), h4] at hP
  exact va_bald S.1.1 S.1.2.1 S.2.1 hP 0 1 rfl rfl g1 hdg (kk _ g2)
theorem rm_zald (S : RC p m c cc nL s args own meth ret D tc) (hW : RWS D tc o s ρ H locs) (r n : Nat) (hr : 1 ≤ r ∧ r < 41 ∧ rt r = 2 ∧ rn r = n) {i : Int32} (hdg : decode cc pc = .ok (.baload, 1))
    {K : Int32 → Option β} (h : gd (inb i n) (bd (ρ.1 r i.toNatClampNeg) K) = some B) (kk : ∀ x, K x = some B → W p l e R s m args below meth c H locs cells slots Q (F0 m (pc + 1) ls (.int x :: rest))) : W p l e R s m args below meth c H locs cells slots Q (F0 m pc ls (.int i :: .ref (o + r) :: rest)) := by
  obtain ⟨h1, h2, h3, h4⟩ := hr
  obtain ⟨g1, g2⟩ := gd_s h
  have hP := rm_one (hW.1.2 r h1 h2)
  rw [ra_i tc ρ h3 (by decide), h4] at hP
  exact va_zald S.1.1 S.1.2.1 S.2.1 hP 0 2 rfl rfl g1 hdg (kk _ g2)
theorem rm_lald (S : RC p m c cc nL s args own meth ret D tc) (hW : RWS D tc o s ρ H locs) (r n : Nat) (hr : 1 ≤ r ∧ r < 41 ∧ rt r = 3 ∧ rn r = n) {i : Int32} (hdg : decode cc pc = .ok (.laload, 1))
    {K : Int64 → Option β} (h : gd (inb i n) (bd (ρ.2 r i.toNatClampNeg) K) = some B) (kk : ∀ x, K x = some B → W p l e R s m args below meth c H locs cells slots Q (F0 m (pc + 1) ls (.long x :: rest))) : W p l e R s m args below meth c H locs cells slots Q (F0 m pc ls (.int i :: .ref (o + r) :: rest)) := by
  obtain ⟨h1, h2, h3, h4⟩ := hr
  obtain ⟨g1, g2⟩ := gd_s h
  have hP := rm_one (hW.1.2 r h1 h2)
  rw [ra_l tc ρ h3, h4] at hP
  exact va_lald S.1.1 S.1.2.1 S.2.1 hP 0 3 rfl rfl g1 hdg (kk _ g2)
theorem si_upd (ρ : RS) (r i : Nat) (x : Int32) : (si ρ r i x).1 r = upd (ρ.1 r) i x := by
  funext j
  simp [si, upd]
theorem sl_upd (ρ : RS) (r i : Nat) (x : Int64) : (sl ρ r i x).2 r = vp_updL (ρ.2 r) i x := by
  funext j
  simp [sl, vp_updL]
theorem rm_iast (S : RC p m c cc nL s args own meth ret D tc) (hW : RWS D tc o s ρ H locs) (r n : Nat) (hr : 1 ≤ r ∧ r < 41 ∧ rt r = 0 ∧ rn r = n) {i x : Int32} (hdg : decode cc pc = .ok (.iastore, 1))
    {K : RS → Option β} (h : gd (inb i n) (bd (si ρ r i.toNatClampNeg x) K) = some B) (kk : ∀ ρ' (H1 : Heap) (locs1 : List Loc), K ρ' = some B → RWS D tc o s ρ' H1 locs1 → W p l e R s m args below meth c H1 locs1 cells slots Q (F0 m (pc + 1) ls rest)) : W p l e R s m args below meth c H locs cells slots Q (F0 m pc ls (.int x :: .int i :: .ref (o + r) :: rest)) := by
  obtain ⟨h1, h2, h3, h4⟩ := hr
  obtain ⟨g1, g2⟩ := gd_s h
  have hc := hW.1.2 r h1 h2
  rw [ra_i tc ρ h3 (by decide), h4] at hc
  refine W.iast S.1.1 S.1.2.1 hc ((S.2.1.2 0 _ rfl).1 n (fun j => .int (ρ.1 r j))) (fun q => by cases q) (by show ¬ (i < 0 ∨ (arrV _ _ _).slots.size ≤ _); rw [arrV_size]; exact g1) rfl rfl hdg fun H1 e z oq => ?_
  refine kk _ H1 _ g2 (hW.arr ⟨h1, h2⟩ (rf_arr o ρ h1 x) (fun q hq => ra_other tc ρ hq x) ?_ z oq)
  rw [ra_i tc _ h3 (by decide), h4, si_upd]
  show H1[o + r]? = some (vp_cell _ _)
  rw [e]
  rw [vp_cell_i, vp_cell_i, arrV_store]
  congr 2
  funext q
  by_cases hq : q = i.toNatClampNeg
  · subst hq
    simp [updV, upd]
  · simp [updV, upd, hq]
theorem rm_bast (S : RC p m c cc nL s args own meth ret D tc) (hW : RWS D tc o s ρ H locs) (r n : Nat) (hr : 1 ≤ r ∧ r < 41 ∧ rt r = 1 ∧ rn r = n) {i x : Int32} (hdg : decode cc pc = .ok (.bastore, 1))
    {K : RS → Option β} (h : gd (inb i n) (bd (si ρ r i.toNatClampNeg (vp_nar .byte x)) K) = some B) (kk : ∀ ρ' (H1 : Heap) (locs1 : List Loc), K ρ' = some B → RWS D tc o s ρ' H1 locs1 → W p l e R s m args below meth c H1 locs1 cells slots Q (F0 m (pc + 1) ls rest)) : W p l e R s m args below meth c H locs cells slots Q (F0 m pc ls (.int x :: .int i :: .ref (o + r) :: rest)) := by
  obtain ⟨h1, h2, h3, h4⟩ := hr
  obtain ⟨g1, g2⟩ := gd_s h
  have hc := hW.1.2 r h1 h2
  rw [ra_i tc ρ h3 (by decide), h4] at hc
  refine W.bast S.1.1 S.1.2.1 hc ((S.2.1.2 1 _ rfl).1 n (fun j => .int (ρ.1 r j))) (fun q => by cases q) (by show ¬ (i < 0 ∨ (arrV _ _ _).slots.size ≤ _); rw [arrV_size]; exact g1) rfl rfl hdg fun H1 e z oq => ?_
  refine kk _ H1 _ g2 (hW.arr ⟨h1, h2⟩ (rf_arr o ρ h1 _) (fun q hq => ra_other tc ρ hq _) ?_ z oq)
  rw [ra_i tc _ h3 (by decide), h4, si_upd]
  show H1[o + r]? = some (vp_cell _ _)
  rw [e]
  rw [vp_cell_i, vp_cell_i, arrV_store]
  congr 2
  funext q
  by_cases hq : q = i.toNatClampNeg
  · subst hq
    simp [updV, upd, vp_nar]
    try rfl
  · simp [updV, upd, hq]
theorem rm_zast (S : RC p m c cc nL s args own meth ret D tc) (hW : RWS D tc o s ρ H locs) (r n : Nat) (hr : 1 ≤ r ∧ r < 41 ∧ rt r = 2 ∧ rn r = n) {i x : Int32} (hdg : decode cc pc = .ok (.bastore, 1))
    {K : RS → Option β} (h : gd (inb i n) (bd (si ρ r i.toNatClampNeg (vp_nar .boolean x)) K) = some B) (kk : ∀ ρ' (H1 : Heap) (locs1 : List Loc), K ρ' = some B → RWS D tc o s ρ' H1 locs1 → W p l e R s m args below meth c H1 locs1 cells slots Q (F0 m (pc + 1) ls rest)) : W p l e R s m args below meth c H locs cells slots Q (F0 m pc ls (.int x :: .int i :: .ref (o + r) :: rest)) := by
  obtain ⟨h1, h2, h3, h4⟩ := hr
  obtain ⟨g1, g2⟩ := gd_s h
  have hc := hW.1.2 r h1 h2
  rw [ra_i tc ρ h3 (by decide), h4] at hc
  refine W.zast S.1.1 S.1.2.1 hc ((S.2.1.2 2 _ rfl).1 n (fun j => .int (ρ.1 r j))) (fun q => by cases q) (by show ¬ (i < 0 ∨ (arrV _ _ _).slots.size ≤ _); rw [arrV_size]; exact g1) rfl rfl hdg fun H1 e z oq => ?_
  refine kk _ H1 _ g2 (hW.arr ⟨h1, h2⟩ (rf_arr o ρ h1 _) (fun q hq => ra_other tc ρ hq _) ?_ z oq)
  rw [ra_i tc _ h3 (by decide), h4, si_upd]
  show H1[o + r]? = some (vp_cell _ _)
  rw [e]
  rw [vp_cell_i, vp_cell_i, arrV_store]
  congr 2
  funext q
  by_cases hq : q = i.toNatClampNeg
  · subst hq
    simp [updV, upd, vp_nar]
    try rfl
  · simp [updV, upd, hq]
theorem rm_last (S : RC p m c cc nL s args own meth ret D tc) (hW : RWS D tc o s ρ H locs) (r n : Nat) (hr : 1 ≤ r ∧ r < 41 ∧ rt r = 3 ∧ rn r = n) {i : Int32} {x : Int64} (hdg : decode cc pc = .ok (.lastore, 1))
    {K : RS → Option β} (h : gd (inb i n) (bd (sl ρ r i.toNatClampNeg x) K) = some B) (kk : ∀ ρ' (H1 : Heap) (locs1 : List Loc), K ρ' = some B → RWS D tc o s ρ' H1 locs1 → W p l e R s m args below meth c H1 locs1 cells slots Q (F0 m (pc + 1) ls rest)) : W p l e R s m args below meth c H locs cells slots Q (F0 m pc ls (.long x :: .int i :: .ref (o + r) :: rest)) := by
  obtain ⟨h1, h2, h3, h4⟩ := hr
  obtain ⟨g1, g2⟩ := gd_s h
  have hc := hW.1.2 r h1 h2
  rw [ra_l tc ρ h3, h4] at hc
  refine W.last S.1.1 S.1.2.1 hc ((S.2.1.2 3 _ rfl).1 n (fun j => .long (ρ.2 r j))) (fun q => by cases q) (by show ¬ (i < 0 ∨ (arrV _ _ _).slots.size ≤ _); rw [arrV_size]; exact g1) rfl rfl hdg fun H1 e z oq => ?_
  refine kk _ H1 _ g2 (hW.arr ⟨h1, h2⟩ (rf_arrL o ρ h1 x) (fun q hq => ra_otherL tc ρ hq x) ?_ z oq)
  rw [ra_l tc _ h3, h4, sl_upd]
  show H1[o + r]? = some (vp_cell _ _)
  rw [e]
  rw [vp_cell_l, vp_cell_l, arrV_store]
  congr 2
  funext q
  by_cases hq : q = i.toNatClampNeg
  · subst hq
    simp [updV, vp_updL]
  · simp [updV, vp_updL, hq]
/-- how a method of the reference ends -/
def RQ (D : va_G) (tc : Nat → ClassId) (o : Nat) (res : Option Value) (ρ' : RS) : Array Value → State → Outcome → State → Prop := fun _ st oc t => oc = .returned res ∧ RW D tc o ρ' t.heap ∧ t.heap.size = st.heap.size ∧ ∀ q : Nat, ¬ rreg o q → t.heap[q]? = st.heap[q]?
def RP (D : va_G) (tc : Nat → ClassId) (o : Nat) (ρ : RS) : State → Prop := fun U => RW D tc o ρ U.heap ∧ va_K D cls (tys tc) U
/-- a method of the reference at one start: it answers res, and the world is ρ' -/
def RMet (l : Launch) (D : va_G) (tc : Nat → ClassId) (o : Nat) (y : MethodName) (bytes : ByteArray) (maxL : Nat) (ret : Option FieldType) (fr lo : Nat) (As : List Value) (ρ : RS) (res : Option Value) (ρ' : RS) : Prop :=
  Met l y (Cond.code y bytes maxL ret :: gt) { frames := fr, cells := 0, slots := 0, locals := lo } (va_Pc As (RP D tc o ρ)) (RQ D tc o res ρ') 0 0 (rreg o)
theorem RWS.end_ {t : State} (h : RWS D tc o s ρ H locs) (ht : t.heap = H) : RW D tc o ρ t.heap ∧ t.heap.size = s.heap.size ∧ ∀ q : Nat, ¬ rreg o q → t.heap[q]? = s.heap[q]? := by
  refine ⟨by rw [ht]; exact h.1, by rw [ht]; exact h.2.2, fun q hq => ?_⟩
  rw [ht]
  by_cases hl : q < s.heap.size
  · exact h.2.1.2.1 q hl hq
  · rw [Array.getElem?_eq_none (by rw [h.2.2]; omega), Array.getElem?_eq_none (by omega)]
theorem rm_iret {B : Int32 × RS} (S : RC p m c cc nL s args own meth (some .int) D tc) (hW : RWS D tc o s ρ H locs) {x : Int32} (hdg : decode cc pc = .ok (.ireturn, 1)) (h : some (x, ρ) = some B) :
    W p l e R s m args below meth c H locs 0 0 (MQ below (RQ D tc o (some (.int B.1)) B.2) args s 0 0 (rreg o)) (F0 m pc ls [.int x]) := by
  cases h
  exact W.iret S.1.1 S.1.2.1 S.2.2.1 (fun t ht _ => ⟨rfl, hW.end_ ht⟩) hW.2.1.2.2 hdg S.2.2.2
theorem rm_zret {B : Int32 × RS} (S : RC p m c cc nL s args own meth (some .boolean) D tc) (hW : RWS D tc o s ρ H locs) {x : Int32} (hdg : decode cc pc = .ok (.ireturn, 1)) (h : gd (x = 0 ∨ x = 1) (some (x, ρ)) = some B) :
    W p l e R s m args below meth c H locs 0 0 (MQ below (RQ D tc o (some (.int B.1)) B.2) args s 0 0 (rreg o)) (F0 m pc ls [.int x]) := by
  obtain ⟨h1, h2⟩ := gd_s h
  cases h2
  exact W.zret S.1.1 S.1.2.1 S.2.2.1 (by rcases h1 with h1 | h1 <;> rw [h1] <;> decide) (fun t ht _ => ⟨rfl, hW.end_ ht⟩) hW.2.1.2.2 hdg S.2.2.2
theorem rm_lret {B : Int64 × RS} (S : RC p m c cc nL s args own meth (some .long) D tc) (hW : RWS D tc o s ρ H locs) {x : Int64} (hdg : decode cc pc = .ok (.lreturn, 1)) (h : some (x, ρ) = some B) :
    W p l e R s m args below meth c H locs 0 0 (MQ below (RQ D tc o (some (.long B.1)) B.2) args s 0 0 (rreg o)) (F0 m pc ls [.long x]) := by
  cases h
  exact W.lret S.1.1 S.1.2.1 S.2.2.1 (fun t ht _ => ⟨rfl, hW.end_ ht⟩) hW.2.1.2.2 hdg S.2.2.2
theorem rm_vret {B : RS} (S : RC p m c cc nL s args own meth none D tc) (hW : RWS D tc o s ρ H locs) (hdg : decode cc pc = .ok (.return_, 1)) (h : some ρ = some B) :
    W p l e R s m args below meth c H locs 0 0 (MQ below (RQ D tc o none B) args s 0 0 (rreg o)) (F0 m pc ls []) := by
  cases h
  exact W.vret S.1.1 S.1.2.1 S.2.2.1 (fun t ht _ => ⟨rfl, hW.end_ ht⟩) hW.2.1.2.2 hdg S.2.2.2
/-- what a call needs to know of the callee, once for all -/
def Calee (y : MethodName) (bytes : ByteArray) (maxL : Nat) (ret : Option FieldType) (n : Nat) : Prop := Cond.code y bytes maxL ret ∈ lw_tbl ∧ Cond.initialized y.cls ∈ lw_tbl ∧ (y.cls ≠ "java/lang/invoke/MethodHandle" ∧ y.cls ≠ "java/lang/invoke/VarHandle") ∧ (parseMethodDescriptor y.desc).map (fun d => d.parameters.length) = some n
theorem gt_good' {y : MethodName} {b : ByteArray} {n : Nat} {r : Option FieldType} (h : Cond.code y b n r ∈ lw_tbl) : GoodIn gt (Cond.code y b n r :: gt) := by
  intro w hw
  rcases List.mem_cons.mp hw with rfl | hw
  · exact ⟨gi h rfl, Or.inl rfl⟩
  · exact ⟨hw, good_of_word (List.mem_filter.mp hw).2⟩
theorem rm_callB {y : MethodName} {bytes : ByteArray} {maxL fr lo mc ms n idx : Nat} {ret' : Option FieldType} (S : CallFix p m c cc nL s args gt own) (q : Calee y bytes maxL ret' n) (hlink : Cond.methodLink own idx y ∈ lw_tbl) (hR : fr + 1 ≤ R.frames ∧ 8 + (maxL + 11) + lo ≤ R.locals) :
    CallB R s args own idx y bytes maxL ret' (Cond.code y bytes maxL ret' :: gt) { frames := fr, cells := mc, slots := ms, locals := lo } mc ms n := by
  obtain ⟨q1, q2, q3, q4⟩ := q
  refine ⟨rfl, rfl, hR.1, hR.2, pay_in S.2.2.2.2 (gt_good' q1), List.mem_cons_self, S.2.2.2.2 _ (gi q1 rfl), S.2.2.2.2 _ (gi q2 rfl), q3, fun sig h => ?_, S.2.2.2.2 _ (gi hlink rfl)⟩
  rw [h] at q4
  exact (Option.some.inj q4).symm
theorem RP.blind {As : List Value} : FrameBlind (va_Pc As (RP D tc o ρ)) := fun a U g mk q => by
  obtain ⟨q0, q1, q2⟩ := q
  exact ⟨q0, q1, va_K.moved (u := U) (U := U.calling g mk a) (Vm.Alike.refl U.vm) q2⟩
theorem rm_goon {res : Option Value} {ρ' : RS} {a : Array Value} (hr : va_Run p l e R s m args below meth c H locs 0 0 0 0 (F0 m pc ls st0) rest (RQ D tc o res ρ' a) (rreg o)) (hW : RWS D tc o s ρ H locs)
    (kk : ∀ (H1 : Heap) (locs1 : List Loc), RWS D tc o s ρ' H1 locs1 → W p l e R s m args below meth c H1 locs1 0 0 Q (F0 m (pc + 3) ls (res.toList ++ rest))) : W p l e R s m args below meth c H locs 0 0 Q (F0 m pc ls st0) := by
  intro T hT X
  obtain ⟨v, st₀, t, T', L, h0, X', hL, e1, e2, ⟨hv, hRW, hz, hk⟩, st⟩ := hr T hT X
  cases hv
  rw [h0] at hz hk
  obtain ⟨hS1, hS2, hS3⟩ := hW.2.1
  obtain ⟨t2, a1, b1⟩ := kk T'.heap (locs ++ L) ⟨by rw [e1]; exact hRW, ⟨by rw [e1, hz]; exact hS1, fun q h1 h2 => by rw [e1, hk q h2]; exact hS2 q h1 h2, fun q hq => by
      rcases List.mem_append.mp hq with h | h
      · exact hS3 q h
      · exact hL q h⟩, by rw [e1, hz]; exact hW.2.2⟩ T' rfl X'
  exact ⟨t2, st t2 a1, b1⟩
theorem rm_callV {y : MethodName} {bytes : ByteArray} {maxL fr lo n idx : Nat} {ret' : Option FieldType} {As : List Value} {res : Option Value} {ρ' : RS} (S : RC p m c cc nL s args own meth ret D tc) (hW : RWS D tc o s ρ H locs) (hM : RMet l D tc o y bytes maxL ret' fr lo (.ref o :: As) ρ res ρ') (q : Calee y bytes maxL ret' n) (hin : Cond.instanceMethod y ∈ lw_tbl) (hsel : Cond.selects cn_M y y ∈ lw_tbl)
    (hlink : Cond.methodLink own idx y ∈ lw_tbl) (hR : fr + 1 ≤ R.frames ∧ 8 + (maxL + 11) + lo ≤ R.locals) (hl : ls.size = nL) (hn : As.length = n) (hst : st0 = As.reverse ++ .ref o :: rest) (hrm : (rest.map fun v => v.category).sum ≤ 8) (hdg : decode cc pc = .ok (.invokevirtual idx, 3))
    (kk : ∀ (H1 : Heap) (locs1 : List Loc), RWS D tc o s ρ' H1 locs1 → W p l e R s m args below meth c H1 locs1 0 0 Q (F0 m (pc + 3) ls (res.toList ++ rest))) : W p l e R s m args below meth c H locs 0 0 Q (F0 m pc ls st0) := by
  refine rm_goon (va_runV (C := cn_M) (As := As) (rest := rest) S.1 hM ⟨rm_callB S.1 q hlink hR, S.1.2.2.2.2 _ (gi hin rfl), S.1.2.2.2.2 _ (gi hsel rfl)⟩ ⟨RP.blind, va_recv S.2.1 (rm_one hW.1.1) (ci := 0) (q0 := 0) rfl rfl, fun U hU hWa => ⟨rfl, by rw [hU]; exact hW.1, va_K.moved hWa.alike S.2.1⟩⟩ rfl hn hl hst (lv_room hrm) hdg ⟨Nat.zero_le _, Nat.zero_le _⟩) hW kk
theorem rm_callS {y : MethodName} {bytes : ByteArray} {maxL fr lo n idx : Nat} {ret' : Option FieldType} {As : List Value} {res : Option Value} {ρ' : RS} (S : RC p m c cc nL s args own meth ret D tc) (hW : RWS D tc o s ρ H locs) (hM : RMet l D tc o y bytes maxL ret' fr lo As ρ res ρ') (q : Calee y bytes maxL ret' n) (hsta : Cond.static y ∈ lw_tbl)
    (hlink : Cond.methodLink own idx y ∈ lw_tbl) (hR : fr + 1 ≤ R.frames ∧ 8 + (maxL + 11) + lo ≤ R.locals) (hl : ls.size = nL) (hn : As.length = n) (hst : st0 = As.reverse ++ rest) (hrm : (rest.map fun v => v.category).sum ≤ 8) (hdg : decode cc pc = .ok (.invokestatic idx, 3))
    (kk : ∀ (H1 : Heap) (locs1 : List Loc), RWS D tc o s ρ' H1 locs1 → W p l e R s m args below meth c H1 locs1 0 0 Q (F0 m (pc + 3) ls (res.toList ++ rest))) : W p l e R s m args below meth c H locs 0 0 Q (F0 m pc ls st0) := by
  refine rm_goon (va_runS (As := As) (rest := rest) S.1 hM ⟨rm_callB S.1 q hlink hR, S.1.2.2.2.2 _ (gi hsta rfl)⟩ ⟨RP.blind, fun U hU hWa => ⟨rfl, by rw [hU]; exact hW.1, va_K.moved hWa.alike S.2.1⟩⟩ rfl hn hl hst (lv_room hrm) hdg ⟨Nat.zero_le _, Nat.zero_le _⟩) hW kk
end RM
