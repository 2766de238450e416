/-! rows over the class's world -/
def KX (k : Nat) (C : String) (T : u_T) (N : Nat) (ty : Nat → FieldType) : Prop := cls[k]? = some (C, T, N) ∧ (∀ w ∈ u_ws C T N, w ∈ gt) ∧ (∀ k, k < N → parseFieldDescriptor (T k).2.2.1 = some (ty k)) ∧ (∀ a, a < N → ∀ b, b < N → a ≠ b → (T a).2.1 ≠ (T b).2.1) ∧ cfn k = N ∧ k < 20 ∧ k ≠ 0
theorem kx_P : KX 1 cn_P fd_P 6 ft_P := ⟨rfl, fi_P, fo_P, fn_P, rfl, by decide, by decide⟩
theorem kx_T : KX 2 cn_T fd_T 2 ft_T := ⟨rfl, fi_T, fo_T, fn_T, rfl, by decide, by decide⟩
theorem kx_C : KX 3 cn_C fd_C 1 ft_C := ⟨rfl, fi_C, fo_C, fn_C, rfl, by decide, by decide⟩
theorem kx_N : KX 4 cn_N fd_N 3 ft_N := ⟨rfl, fi_N, fo_N, fn_N, rfl, by decide, by decide⟩
theorem kx_A : KX 5 cn_A fd_A 3 ft_A := ⟨rfl, fi_A, fo_A, fn_A, rfl, by decide, by decide⟩
theorem kx_E : KX 6 cn_E fd_E 14 ft_E := ⟨rfl, fi_E, fo_E, fn_E, rfl, by decide, by decide⟩
theorem kx_U : KX 7 cn_U fd_U 12 ft_U := ⟨rfl, fi_U, fo_U, fn_U, rfl, by decide, by decide⟩
theorem kx_V : KX 8 cn_V fd_V 8 ft_V := ⟨rfl, fi_V, fo_V, fn_V, rfl, by decide, by decide⟩
theorem kx_Z : KX 9 cn_Z fd_Z 9 ft_Z := ⟨rfl, fi_Z, fo_Z, fn_Z, rfl, by decide, by decide⟩
theorem kx_O : KX 10 cn_O fd_O 4 ft_O := ⟨rfl, fi_O, fo_O, fn_O, rfl, by decide, by decide⟩
theorem kx_G : KX 11 cn_G fd_G 3 ft_G := ⟨rfl, fi_G, fo_G, fn_G, rfl, by decide, by decide⟩
section CM
variable {p : Program} {l : Launch} {e : Env} {R : Room} {s : State} {m : MethodId} {args : Array Value} {below : List Frame} {meth : Method} {c : Code} {H : Heap} {locs : List Loc} {cells slots : Nat} {Q : State → Prop}
variable {cc : ByteArray} {pc nL : Nat} {ls : Array Slot} {rest st0 : List Value} {D : va_G} {tc : Nat → ClassId} {b z : Nat} {σ0 σ : CS} {own : String} {β : Type} {B : β} {ret : Option FieldType}
variable {k N q : Nat} {C : String} {T : u_T} {ty : Nat → FieldType} {ref : String} {index : Nat}
abbrev CC (p : Program) (m : MethodId) (c : Code) (cc : ByteArray) (nL : Nat) (s : State) (args : Array Value) (own : String) (meth : Method) (ret : Option FieldType) (D : va_G) (tc : Nat → ClassId) (b z : Nat) : Prop :=
  CallFix p m c cc nL s args gt own ∧ CK D tc b z s ∧ meth.sig.returnType = ret ∧ meth.locks = false
theorem CWS.obj (K : KX k C T N ty) (hW : CWS D tc b z s σ0 σ H locs cells slots) (hq : kd σ q = k) : va_at D cls (b + q, .inr (k, cvs b z σ q k)) H := by
  have h := hW.1.1 q (by rw [hq]; exact K.2.2.2.2.2.2)
  rw [hq, ent_obj b z tc σ q K.2.2.2.2.2.1] at h
  exact h
theorem cm_get (K : KX k C T N ty) (S : CC p m c cc nL s args own meth ret D tc b z) (hW : CWS D tc b z s σ0 σ H locs cells slots) (hq : kd σ q = k) (j : Nat) (hj : j < N) (hlink : Cond.fieldLink own index ref (T j).2.1 (T j).2.2.1 ∈ lw_tbl) (hsame : ∀ x, s.fieldFound? (T j).1 (T j).2.1 (T j).2.2.1 = some x → s.fieldFound? ref (T j).2.1 (T j).2.2.1 = some x) (hdg : decode cc pc = .ok (.getfield index, 3))
    (kk : W p l e R s m args below meth c H locs cells slots Q (F0 m (pc + 3) ls (cv b z σ q k j :: rest))) : W p l e R s m args below meth c H locs cells slots Q (F0 m pc ls (.ref (b + q) :: rest)) := by
  obtain ⟨⟨hx, hb, -, hown, hts⟩, hK, -⟩ := S
  exact va_get (D := D) (cl := cls) (ci := k) (C := C) (T := T) (N := N) (ws := [(b + q, .inr (k, cvs b z σ q k))]) (ref := ref) hx hb hts K.2.1 hown hK.1 (rm_one (hW.obj K hq)) 0 rfl K.1 j hj (hts _ (gi hlink rfl)) hsame (cvs_at b z σ q k (by rw [K.2.2.2.2.1]; exact hj)) hdg kk
theorem cm_geti (K : KX k C T N ty) (S : CC p m c cc nL s args own meth ret D tc b z) (hW : CWS D tc b z s σ0 σ H locs cells slots) (hq : kd σ q = k) (j : Nat) (hlink : Cond.fieldLink own index ref (T j).2.1 (T j).2.2.1 ∈ lw_tbl) (hj : j < N ∧ (T j).1 = ref ∧ cfc k j = 0) (hdg : decode cc pc = .ok (.getfield index, 3))
    {F : Int32 → Option β} (h : bd (cI σ q j) F = some B) (kk : ∀ x, F x = some B → W p l e R s m args below meth c H locs cells slots Q (F0 m (pc + 3) ls (.int x :: rest))) : W p l e R s m args below meth c H locs cells slots Q (F0 m pc ls (.ref (b + q) :: rest)) := by
  refine cm_get K S hW hq j hj.1 hlink (fun x hx => by rw [← hj.2.1]; exact hx) hdg ?_
  have h1 : cv b z σ q k j = .int (cI σ q j) := by unfold cv; rw [if_pos hj.2.2]
  rw [h1]
  exact kk _ h
theorem cm_getl (K : KX k C T N ty) (S : CC p m c cc nL s args own meth ret D tc b z) (hW : CWS D tc b z s σ0 σ H locs cells slots) (hq : kd σ q = k) (j : Nat) (hlink : Cond.fieldLink own index ref (T j).2.1 (T j).2.2.1 ∈ lw_tbl) (hj : j < N ∧ (T j).1 = ref ∧ cfc k j = 1) (hdg : decode cc pc = .ok (.getfield index, 3))
    {F : Int64 → Option β} (h : bd (cJ σ q j) F = some B) (kk : ∀ x, F x = some B → W p l e R s m args below meth c H locs cells slots Q (F0 m (pc + 3) ls (.long x :: rest))) : W p l e R s m args below meth c H locs cells slots Q (F0 m pc ls (.ref (b + q) :: rest)) := by
  refine cm_get K S hW hq j hj.1 hlink (fun x hx => by rw [← hj.2.1]; exact hx) hdg ?_
  have h1 : cv b z σ q k j = .long (cJ σ q j) := by unfold cv; rw [if_neg (by rw [hj.2.2]; decide), if_pos hj.2.2]
  rw [h1]
  exact kk _ h
theorem cm_getr (K : KX k C T N ty) (S : CC p m c cc nL s args own meth ret D tc b z) (hW : CWS D tc b z s σ0 σ H locs cells slots) (hq : kd σ q = k) (j : Nat) (hlink : Cond.fieldLink own index ref (T j).2.1 (T j).2.2.1 ∈ lw_tbl) (hj : j < N ∧ (T j).1 = ref ∧ cfc k j = 2) (hdg : decode cc pc = .ok (.getfield index, 3))
    {F : Nat → Option β} (h : bc (cR σ q j) F = some B) (kk : ∀ a, F a = some B → W p l e R s m args below meth c H locs cells slots Q (F0 m (pc + 3) ls (.ref (b + a) :: rest))) : W p l e R s m args below meth c H locs cells slots Q (F0 m pc ls (.ref (b + q) :: rest)) := by
  obtain ⟨a, h1, h2⟩ := bc_s h
  refine cm_get K S hW hq j hj.1 hlink (fun x hx => by rw [← hj.2.1]; exact hx) hdg ?_
  have h3 : cv b z σ q k j = .ref (b + a) := by
    unfold cv
    rw [if_neg (by rw [hj.2.2]; decide), if_neg (by rw [hj.2.2]; decide), if_pos hj.2.2, h1]
    rfl
  rw [h3]
  exact kk a h2
theorem cm_getf (K : KX k C T N ty) (S : CC p m c cc nL s args own meth ret D tc b z) (hW : CWS D tc b z s σ0 σ H locs cells slots) (hq : kd σ q = k) (j t : Nat) (ht : cfr q k j = t) (hlink : Cond.fieldLink own index ref (T j).2.1 (T j).2.2.1 ∈ lw_tbl) (hj : j < N ∧ (T j).1 = ref ∧ cfc k j = 3) (hdg : decode cc pc = .ok (.getfield index, 3))
    (kk : W p l e R s m args below meth c H locs cells slots Q (F0 m (pc + 3) ls (.ref (b + t) :: rest))) : W p l e R s m args below meth c H locs cells slots Q (F0 m pc ls (.ref (b + q) :: rest)) := by
  refine cm_get K S hW hq j hj.1 hlink (fun x hx => by rw [← hj.2.1]; exact hx) hdg ?_
  have h3 : cv b z σ q k j = .ref (b + t) := by
    unfold cv
    rw [if_neg (by rw [hj.2.2]; decide), if_neg (by rw [hj.2.2]; decide), if_neg (by rw [hj.2.2]; decide), if_pos hj.2.2, ht]
  rw [h3]
  exact kk
theorem cm_getd (K : KX k C T N ty) (S : CC p m c cc nL s args own meth ret D tc b z) (hW : CWS D tc b z s σ0 σ H locs cells slots) (hq : kd σ q = k) (j : Nat) (hlink : Cond.fieldLink own index ref (T j).2.1 (T j).2.2.1 ∈ lw_tbl) (hj : j < N ∧ (T j).1 = ref ∧ cfc k j = 4) (hdg : decode cc pc = .ok (.getfield index, 3))
    {F : Option Nat → Option β} (h : bd (cR σ q j) F = some B) (kk : ∀ u, F u = some B → W p l e R s m args below meth c H locs cells slots Q (F0 m (pc + 3) ls (lz b z u :: rest))) : W p l e R s m args below meth c H locs cells slots Q (F0 m pc ls (.ref (b + q) :: rest)) := by
  refine cm_get K S hW hq j hj.1 hlink (fun x hx => by rw [← hj.2.1]; exact hx) hdg ?_
  have h3 : cv b z σ q k j = lz b z (cR σ q j) := by
    unfold cv
    rw [if_neg (by rw [hj.2.2]; decide), if_neg (by rw [hj.2.2]; decide), if_neg (by rw [hj.2.2]; decide), if_neg (by rw [hj.2.2]; decide)]
  rw [h3]
  exact kk _ h
theorem cm_put {σ' : CS} {v : Value} (K : KX k C T N ty) (S : CC p m c cc nL s args own meth ret D tc b z) (hW : CWS D tc b z s σ0 σ H locs cells slots) (hq : kd σ q = k) (j : Nat) (hj : j < N) (hlink : Cond.fieldLink own index ref (T j).2.1 (T j).2.2.1 ∈ lw_tbl) (hsame : ∀ x, s.fieldFound? (T j).1 (T j).2.1 (T j).2.2.1 = some x → s.fieldFound? ref (T j).2.1 (T j).2.2.1 = some x) (hfin : (T j).2.2.2 = false) {t : FieldType} (hd : parseFieldDescriptor (T j).2.2.1 = some t) (hn : narrow t v = v) (hfit : fits t v = true)
    (hT : σ'.2.2.2 = σ.2.2.2) (ho : ∀ a, a ≠ q → cI σ' a = cI σ a ∧ cJ σ' a = cJ σ a ∧ cR σ' a = cR σ a) (hv : cv b z σ' q k j = v) (hoj : ∀ i, i ≠ j → cv b z σ' q k i = cv b z σ q k i) (hdg : decode cc pc = .ok (.putfield index, 3))
    (kk : ∀ (H1 : Heap) (locs1 : List Loc), CWS D tc b z s σ0 σ' H1 locs1 cells slots → W p l e R s m args below meth c H1 locs1 cells slots Q (F0 m (pc + 3) ls rest)) : W p l e R s m args below meth c H locs cells slots Q (F0 m pc ls (v :: .ref (b + q) :: rest)) := by
  obtain ⟨⟨hx, hb, -, hown, hts⟩, ⟨hK, -⟩, -⟩ := S
  obtain ⟨k1, k2, k3, k4, k5, k6, k7⟩ := id K
  have hap := va_apart (own := own) (ci := k) hts k2 ty k3 k4 hK k1
  obtain ⟨r, h1, cell, q1, q2, q3, q4⟩ := hW.obj K hq
  have hr : r = (C, T, N) := Option.some.inj (h1.symm.trans k1)
  subst hr
  obtain ⟨hS, hfc, kC, hkC, hkind⟩ := hK.1 k _ k1
  obtain ⟨cf, kf, fi, f, hi, hsl⟩ := hS j hj
  have hlay := hts _ (k2 _ (u_in_lay hj))
  unfold u_lay at hlay
  rw [if_neg (by rw [hfin]; decide)] at hlay
  have hst := (u_facts hfc hkC (u_lays hts k2 hj) hi).1
  have h6 := u_store hfc hkC hkind hlay hi hd hn hfit
  refine W.putK hx hb (f := f) ⟨hown, hts _ (gi hlink rfl), ⟨_, _, _, hsame _ hi⟩, hst⟩ (by rw [q2]; exact h6) q1 q3 (by rw [hsl]; exact k2_hasslot (q4 j hj)) rfl rfl hdg fun H' e1 e2 e3 => ?_
  rw [hsl] at e1 ⊢
  refine kk H' _ (hW.put (by rw [hq]; exact k7) hT (fun i h9 => absurd (h9.symm.trans hq) (by omega)) (fun i a h9 => absurd (h9.symm.trans hq) (by omega)) ho ?_ e2 e3)
  rw [hq, ent_obj b z tc σ' q k6]
  refine ⟨_, k1, t_OB.to (V := updV (vp_V (cvs b z σ q k)) j v) ⟨_, e1, q2, q3, t_set q4 hap hj v⟩ (fun i hi => ?_)⟩
  rw [cvs_V b z σ' q k (by rw [k5]; exact hi)]
  unfold updV
  split
  · rename_i hij; rw [hij, hv]
  · rename_i hij; rw [hoj i hij, cvs_V b z σ q k (by rw [k5]; exact hi)]
theorem wi_cv {i j : Nat} (x : Int32) (h : i ≠ j) : cv b z (wi σ q j x) q k i = cv b z σ q k i := by
  have e : cI (wi σ q j x) q i = cI σ q i := if_neg (fun g => h g.2)
  unfold cv
  rw [e]; rfl
theorem wl_cv {i j : Nat} (x : Int64) (h : i ≠ j) : cv b z (wl σ q j x) q k i = cv b z σ q k i := by
  have e : cJ (wl σ q j x) q i = cJ σ q i := if_neg (fun g => h g.2)
  unfold cv
  rw [e]; rfl
theorem wr_cv {i j : Nat} (x : Option Nat) (h : i ≠ j) : cv b z (wr σ q j x) q k i = cv b z σ q k i := by
  have e : cR (wr σ q j x) q i = cR σ q i := if_neg (fun g => h g.2)
  unfold cv
  rw [e]; rfl
theorem cm_puti' (K : KX k C T N ty) (S : CC p m c cc nL s args own meth ret D tc b z) (hW : CWS D tc b z s σ0 σ H locs cells slots) (hq : kd σ q = k) (j : Nat) (hlink : Cond.fieldLink own index ref (T j).2.1 (T j).2.2.1 ∈ lw_tbl) (hj : j < N ∧ cfc k j = 0 ∧ (T j).2.2.2 = false ∧ (T j).2.2.1 = "I") (hsame : ∀ x, s.fieldFound? (T j).1 (T j).2.1 (T j).2.2.1 = some x → s.fieldFound? ref (T j).2.1 (T j).2.2.1 = some x) (hdg : decode cc pc = .ok (.putfield index, 3))
    {x : Int32} {F : CS → Option β} (h : bd (wi σ q j x) F = some B) (kk : ∀ σ' (H1 : Heap) (locs1 : List Loc), F σ' = some B → CWS D tc b z s σ0 σ' H1 locs1 cells slots → W p l e R s m args below meth c H1 locs1 cells slots Q (F0 m (pc + 3) ls rest)) : W p l e R s m args below meth c H locs cells slots Q (F0 m pc ls (.int x :: .ref (b + q) :: rest)) := by
  obtain ⟨h1, h3, h4, h5⟩ := hj
  refine cm_put (σ' := wi σ q j x) (t := .int) K S hW hq j h1 hlink hsame h4 (by rw [h5]; rfl) rfl rfl rfl (fun a ha => ⟨wi_o σ x ha, rfl, rfl⟩) ?_ (fun i hi => wi_cv x hi) hdg (fun H1 locs1 hW1 => kk _ H1 locs1 h hW1)
  unfold cv
  rw [if_pos h3]
  show Value.int (if q = q ∧ j = j then x else cI σ q j) = _
  rw [if_pos ⟨rfl, rfl⟩]
theorem cm_puti (K : KX k C T N ty) (S : CC p m c cc nL s args own meth ret D tc b z) (hW : CWS D tc b z s σ0 σ H locs cells slots) (hq : kd σ q = k) (j : Nat) (hlink : Cond.fieldLink own index ref (T j).2.1 (T j).2.2.1 ∈ lw_tbl) (hj : j < N ∧ (T j).1 = ref ∧ cfc k j = 0 ∧ (T j).2.2.2 = false ∧ (T j).2.2.1 = "I") (hdg : decode cc pc = .ok (.putfield index, 3))
    {x : Int32} {F : CS → Option β} (h : bd (wi σ q j x) F = some B) (kk : ∀ σ' (H1 : Heap) (locs1 : List Loc), F σ' = some B → CWS D tc b z s σ0 σ' H1 locs1 cells slots → W p l e R s m args below meth c H1 locs1 cells slots Q (F0 m (pc + 3) ls rest)) : W p l e R s m args below meth c H locs cells slots Q (F0 m pc ls (.int x :: .ref (b + q) :: rest)) :=
  cm_puti' K S hW hq j hlink ⟨hj.1, hj.2.2⟩ (fun x hx => by rw [← hj.2.1]; exact hx) hdg h kk
theorem cm_putz (K : KX k C T N ty) (S : CC p m c cc nL s args own meth ret D tc b z) (hW : CWS D tc b z s σ0 σ H locs cells slots) (hq : kd σ q = k) (j : Nat) (hlink : Cond.fieldLink own index ref (T j).2.1 (T j).2.2.1 ∈ lw_tbl) (hj : j < N ∧ (T j).1 = ref ∧ cfc k j = 0 ∧ (T j).2.2.2 = false ∧ (T j).2.2.1 = "Z") (hdg : decode cc pc = .ok (.putfield index, 3))
    {x : Int32} {F : CS → Option β} (h : gd (x = 0 ∨ x = 1) (bd (wi σ q j x) F) = some B) (kk : ∀ σ' (H1 : Heap) (locs1 : List Loc), F σ' = some B → CWS D tc b z s σ0 σ' H1 locs1 cells slots → W p l e R s m args below meth c H1 locs1 cells slots Q (F0 m (pc + 3) ls rest)) : W p l e R s m args below meth c H locs cells slots Q (F0 m pc ls (.int x :: .ref (b + q) :: rest)) := by
  obtain ⟨h1, h2, h3, h4, h5⟩ := hj
  obtain ⟨g1, g2⟩ := gd_s h
  refine cm_put (σ' := wi σ q j x) (t := .boolean) K S hW hq j h1 hlink (fun x hx => by rw [← h2]; exact hx) h4 (by rw [h5]; rfl) (by rcases g1 with rfl | rfl <;> decide) (by rcases g1 with rfl | rfl <;> decide) rfl (fun a ha => ⟨wi_o σ x ha, rfl, rfl⟩) ?_ (fun i hi => wi_cv x hi) hdg (fun H1 locs1 hW1 => kk _ H1 locs1 g2 hW1)
  unfold cv
  rw [if_pos h3]
  show Value.int (if q = q ∧ j = j then x else cI σ q j) = _
  rw [if_pos ⟨rfl, rfl⟩]
theorem cm_putl (K : KX k C T N ty) (S : CC p m c cc nL s args own meth ret D tc b z) (hW : CWS D tc b z s σ0 σ H locs cells slots) (hq : kd σ q = k) (j : Nat) (hlink : Cond.fieldLink own index ref (T j).2.1 (T j).2.2.1 ∈ lw_tbl) (hj : j < N ∧ (T j).1 = ref ∧ cfc k j = 1 ∧ (T j).2.2.2 = false ∧ (T j).2.2.1 = "J") (hdg : decode cc pc = .ok (.putfield index, 3))
    {x : Int64} {F : CS → Option β} (h : bd (wl σ q j x) F = some B) (kk : ∀ σ' (H1 : Heap) (locs1 : List Loc), F σ' = some B → CWS D tc b z s σ0 σ' H1 locs1 cells slots → W p l e R s m args below meth c H1 locs1 cells slots Q (F0 m (pc + 3) ls rest)) : W p l e R s m args below meth c H locs cells slots Q (F0 m pc ls (.long x :: .ref (b + q) :: rest)) := by
  obtain ⟨h1, h2, h3, h4, h5⟩ := hj
  refine cm_put (σ' := wl σ q j x) (t := .long) K S hW hq j h1 hlink (fun x hx => by rw [← h2]; exact hx) h4 (by rw [h5]; rfl) rfl rfl rfl (fun a ha => ⟨rfl, wl_o σ x ha, rfl⟩) ?_ (fun i hi => wl_cv x hi) hdg (fun H1 locs1 hW1 => kk _ H1 locs1 h hW1)
  unfold cv
  rw [if_neg (by rw [h3]; decide), if_pos h3]
  show Value.long (if q = q ∧ j = j then x else cJ σ q j) = _
  rw [if_pos ⟨rfl, rfl⟩]
theorem cm_putr (K : KX k C T N ty) (S : CC p m c cc nL s args own meth ret D tc b z) (hW : CWS D tc b z s σ0 σ H locs cells slots) (hq : kd σ q = k) (j : Nat) {a : Nat} {t : FieldType} (hlink : Cond.fieldLink own index ref (T j).2.1 (T j).2.2.1 ∈ lw_tbl) (hj : j < N ∧ (T j).1 = ref ∧ (cfc k j = 2 ∨ cfc k j = 4) ∧ (T j).2.2.2 = false) (hd : parseFieldDescriptor (T j).2.2.1 = some t) (hn : ∀ x, narrow t (.ref x) = .ref x) (hfit : ∀ x, fits t (.ref x) = true) (hdg : decode cc pc = .ok (.putfield index, 3))
    {F : CS → Option β} (h : bd (wr σ q j (some a)) F = some B) (kk : ∀ σ' (H1 : Heap) (locs1 : List Loc), F σ' = some B → CWS D tc b z s σ0 σ' H1 locs1 cells slots → W p l e R s m args below meth c H1 locs1 cells slots Q (F0 m (pc + 3) ls rest)) : W p l e R s m args below meth c H locs cells slots Q (F0 m pc ls (.ref (b + a) :: .ref (b + q) :: rest)) := by
  obtain ⟨h1, h2, h3, h4⟩ := hj
  refine cm_put (σ' := wr σ q j (some a)) (t := t) K S hW hq j h1 hlink (fun x hx => by rw [← h2]; exact hx) h4 hd (hn _) (hfit _) rfl (fun x ha => ⟨rfl, rfl, wr_o σ _ ha⟩) ?_ (fun i hi => wr_cv _ hi) hdg (fun H1 locs1 hW1 => kk _ H1 locs1 h hW1)
  have e : cR (wr σ q j (some a)) q j = some a := if_pos ⟨rfl, rfl⟩
  unfold cv
  rw [e]
  rcases h3 with h3 | h3
  · rw [if_neg (by rw [h3]; decide), if_neg (by rw [h3]; decide), if_pos h3]; rfl
  · rw [if_neg (by rw [h3]; decide), if_neg (by rw [h3]; decide), if_neg (by rw [h3]; decide), if_neg (by rw [h3]; decide)]; rfl
end CM
