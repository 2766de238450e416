/-! THE CLASS'S WORLD: cells by their offset from b; the fixed objects at 0 .. 20 (the StreamPair 0, the tape 1, the clock 3, the network 4, its lists 5 and 6, the ends 7 and 14: supply + 1, arrivals + 3, pace + 5, crowd + 6); the reference lies at 21 .. 62; segments and arrays by the map of kinds -/
abbrev CS : Type := (Nat → Nat → Int32) × (Nat → Nat → Int64) × (Nat → Nat → Option Nat) × (Nat → Nat) × (Nat → Nat) × Nat × Nat
abbrev cI (σ : CS) : Nat → Nat → Int32 := σ.1
abbrev cJ (σ : CS) : Nat → Nat → Int64 := σ.2.1
abbrev cR (σ : CS) : Nat → Nat → Option Nat := σ.2.2.1
abbrev cT (σ : CS) : Nat → Nat := σ.2.2.2.1
abbrev cN (σ : CS) : Nat → Nat := σ.2.2.2.2.1
abbrev cX (σ : CS) : Nat := σ.2.2.2.2.2.1
abbrev cU (σ : CS) : Nat := σ.2.2.2.2.2.2
def wi (σ : CS) (q j : Nat) (x : Int32) : CS := (fun a i => if a = q ∧ i = j then x else cI σ a i, σ.2)
def wl (σ : CS) (q j : Nat) (x : Int64) : CS := (σ.1, fun a i => if a = q ∧ i = j then x else cJ σ a i, σ.2.2)
def wr (σ : CS) (q j : Nat) (x : Option Nat) : CS := (σ.1, σ.2.1, fun a i => if a = q ∧ i = j then x else cR σ a i, σ.2.2.2)
/-- a new cell: kind, length, slots -/
def wa (σ : CS) (k n z : Nat) : CS := (fun a i => if a = cX σ then 0 else cI σ a i, fun a i => if a = cX σ then 0 else cJ σ a i, fun a i => if a = cX σ then none else cR σ a i, fun a => if a = cX σ then k else cT σ a, fun a => if a = cX σ then n else cN σ a, cX σ + 1, cU σ + z)
def fxk : Nat → Nat := fun q => match q with
  | 0 => 1 | 1 => 2 | 3 => 3 | 4 => 4 | 5 => 5 | 6 => 5 | 7 => 6 | 8 => 7 | 10 => 8 | 12 => 9 | 13 => 10 | 14 => 6 | 15 => 7 | 17 => 8 | 19 => 9 | 20 => 10 | _ => 0
def kd (σ : CS) (q : Nat) : Nat := if fxk q = 0 then cT σ q else fxk q
/-- fields by kind: 0 an int, 1 a long, 2 a reference, 3 a reference that stays, 4 a list's array -/
def cfc : Nat → Nat → Nat := fun k j => match k, j with
  | 1, 5 => 0 | 1, _ => 3 | 2, 0 => 2 | 3, _ => 1 | 4, 2 => 0 | 4, _ => 3 | 5, 0 => 4 | 6, 1 => 3 | 6, 2 => 3 | 6, 3 => 3 | 6, 4 => 3 | 6, 5 => 3 | 6, 6 => 3 | 7, 0 => 2 | 8, 6 => 2 | 9, 3 => 1 | 9, 4 => 1 | 9, 5 => 1 | 9, 8 => 1 | 11, 0 => 2 | _, _ => 0
def cfr : Nat → Nat → Nat → Nat := fun q k j => match k, j with
  | 1, 0 => 1 | 1, 1 => 3 | 1, 2 => 4 | 1, 3 => 7 | 1, _ => 14 | 4, 0 => 5 | 4, _ => 6 | 6, 1 => 3 | 6, 2 => 4 | 6, 3 => q + 1 | 6, 4 => q + 3 | 6, 5 => q + 5 | _, _ => q + 6
def cfn : Nat → Nat := fun k => match k with
  | 1 => 6 | 2 => 2 | 3 => 1 | 4 => 3 | 5 => 3 | 6 => 14 | 7 => 12 | 8 => 8 | 9 => 9 | 10 => 4 | _ => 3
def lq (b z : Nat) (u : Option Nat) : Nat := u.elim z fun a => b + a
abbrev lz (b z : Nat) (u : Option Nat) : Value := .ref (lq b z u)
def vq (b : Nat) (u : Option Nat) : Value := va_rf (u.map fun a => b + a)
def cv (b z : Nat) (σ : CS) (q k j : Nat) : Value := if cfc k j = 0 then .int (cI σ q j) else if cfc k j = 1 then .long (cJ σ q j) else if cfc k j = 2 then vq b (cR σ q j) else if cfc k j = 3 then .ref (b + cfr q k j) else lz b z (cR σ q j)
def cvs (b z : Nat) (σ : CS) (q k : Nat) : List Value := (List.range (cfn k)).map (cv b z σ q k)
def ent (b z : Nat) (tc : Nat → ClassId) (σ : CS) (q k : Nat) : va_E :=
  if k < 20 then .inr (k, cvs b z σ q k) else if k = 21 then .inl (tc 1, cN σ q, .inl (cI σ q)) else if k = 24 then .inl (tc 4, cN σ q, .inl (cI σ q)) else .inl (tc 5, cN σ q, .inr (.inr (.inr (.inr (fun i => (cR σ q i).map fun a => b + a)))))
def creg (b : Nat) : Nat → Prop := fun q => b ≤ q ∧ ¬ (b + 21 ≤ q ∧ q < b + 63)
def CW (D : va_G) (tc : Nat → ClassId) (b z : Nat) (σ : CS) (H : Heap) : Prop := (∀ q, kd σ q ≠ 0 → va_at D cls (b + q, ent b z tc σ q (kd σ q)) H) ∧ (∀ q, 21 ≤ q → q < 63 → cT σ q = 0) ∧ 63 ≤ cX σ ∧ H.size = b + cX σ ∧ cX σ ≤ 601024 ∧ cU σ ≤ 7293034 ∧ (∀ q i, kd σ q = 21 → fits .byte (.int (cI σ q i)) = true) ∧ (∀ q i a, kd σ q = 25 → cR σ q i = some a → kd σ a = 11)
def CWS (D : va_G) (tc : Nat → ClassId) (b z : Nat) (s : State) (σ0 σ : CS) (H : Heap) (locs : List Loc) (cells slots : Nat) : Prop := CW D tc b z σ H ∧ va_S (creg b) s.heap H locs ∧ cX σ = cX σ0 + cells ∧ cU σ = cU σ0 + slots
/-- the empty array that lists share -/
def z0 (z : Nat) (U : State) (H : Heap) : Prop := ∃ cell : Cell, H[z]? = some cell ∧ U.isArrayOf cell (.object "java/lang/Object") ∧ cell.slots.size = 0
theorem z0.moved {z : Nat} {u U : State} {H : Heap} (hvm : u.vm.Alike U.vm) (h : z0 z u H) : z0 z U H := by
  obtain ⟨cell, h1, h2, h3⟩ := h
  exact ⟨cell, h1, State.isArrayOf_alike hvm h2, h3⟩
theorem z0.kept {z : Nat} {U : State} {H H1 : Heap} (h : z0 z U H) (hq : H1[z]? = H[z]?) : z0 z U H1 := by
  obtain ⟨cell, h1, h2⟩ := h
  exact ⟨cell, by rw [hq]; exact h1, h2⟩
/-- what the tables and the cells ahead of b say -/
def CK (D : va_G) (tc : Nat → ClassId) (b z : Nat) (U : State) : Prop := va_K D cls (tys tc) U ∧ z < b ∧ va_Z "java/util/ArrayList" "DEFAULTCAPACITY_EMPTY_ELEMENTDATA" "[Ljava/lang/Object;" (.ref z) (creg b) U U.heap ∧ z0 z U U.heap ∧ va_AO "java/lang/Object" U ∧ va_Nw (.castable "StreamPair$Segment" "StreamPair$Segment") U ∧ va_Nw (.castable "StreamPair$Segment" "java/lang/Object") U ∧ va_Nw (.methodLinkNest "StreamPair$Network" 33 ⟨"StreamPair$Segment", "<init>", "()V"⟩ "StreamPair") U ∧ ((∃ mi, va_Mi "[Ljava/lang/Object;" mi U) ∧ va_Dc U) ∧ b ≤ U.heap.size
theorem fxk_hi {q : Nat} (h : 21 ≤ q) : fxk q = 0 := by
  unfold fxk
  split <;> first | omega | rfl
theorem fxk_le (q : Nat) : fxk q < 20 := by
  unfold fxk
  split <;> decide
theorem CW.reg {D : va_G} {tc : Nat → ClassId} {b z q : Nat} {σ : CS} {H : Heap} (h : CW D tc b z σ H) (hk : kd σ q ≠ 0) : creg b (b + q) := by
  refine ⟨by omega, fun hq => hk ?_⟩
  unfold kd
  rw [fxk_hi (by omega), if_pos rfl]
  exact h.2.1 q (by omega) (by omega)
theorem CW.lt {D : va_G} {tc : Nat → ClassId} {b z q : Nat} {σ : CS} {H : Heap} (h : CW D tc b z σ H) (hk : kd σ q ≠ 0) : q < cX σ := by
  have h1 := (h.1 q hk).lt
  rw [h.2.2.2.1] at h1
  have h2 : b + q < b + cX σ := h1
  omega
theorem cvs_at (b z : Nat) (σ : CS) (q k : Nat) {j : Nat} (hj : j < cfn k) : (cvs b z σ q k)[j]? = some (cv b z σ q k j) := by
  simp [cvs, hj]
theorem cvs_V (b z : Nat) (σ : CS) (q k : Nat) {j : Nat} (hj : j < cfn k) : vp_V (cvs b z σ q k) j = cv b z σ q k j := by
  simp [vp_V, cvs, hj]
theorem ent_obj (b z : Nat) (tc : Nat → ClassId) (σ : CS) (q : Nat) {k : Nat} (hk : k < 20) : ent b z tc σ q k = .inr (k, cvs b z σ q k) := by
  unfold ent; rw [if_pos hk]
/-- two descriptions agree at a cell -/
theorem ent_congr {b z : Nat} {tc : Nat → ClassId} {σ σ' : CS} {q k : Nat} (h1 : cI σ' q = cI σ q) (h2 : cJ σ' q = cJ σ q) (h3 : cR σ' q = cR σ q) (h4 : cN σ' q = cN σ q) : ent b z tc σ' q k = ent b z tc σ q k := by
  have hc : cvs b z σ' q k = cvs b z σ q k := by
    unfold cvs
    refine List.map_congr_left fun j _ => ?_
    unfold cv
    rw [h1, h2, h3]
  unfold ent
  rw [hc, h1, h3, h4]
theorem wi_o (σ : CS) {q j a : Nat} (x : Int32) (h : a ≠ q) : cI (wi σ q j x) a = cI σ a := by
  funext i
  show (if a = q ∧ i = j then x else cI σ a i) = _
  rw [if_neg (fun z => h z.1)]
theorem wl_o (σ : CS) {q j a : Nat} (x : Int64) (h : a ≠ q) : cJ (wl σ q j x) a = cJ σ a := by
  funext i
  show (if a = q ∧ i = j then x else cJ σ a i) = _
  rw [if_neg (fun z => h z.1)]
theorem wr_o (σ : CS) {q j a : Nat} (x : Option Nat) (h : a ≠ q) : cR (wr σ q j x) a = cR σ a := by
  funext i
  show (if a = q ∧ i = j then x else cR σ a i) = _
  rw [if_neg (fun z => h z.1)]
/-- behind a store into one cell -/
theorem CWS.put {D : va_G} {tc : Nat → ClassId} {b z : Nat} {s : State} {σ0 σ σ' : CS} {H H1 : Heap} {locs : List Loc} {cells slots q k : Nat} (h : CWS D tc b z s σ0 σ H locs cells slots) (hq : kd σ q ≠ 0) (hT : σ'.2.2.2 = σ.2.2.2) (hB : ∀ i, kd σ q = 21 → fits .byte (.int (cI σ' q i)) = true) (hR : ∀ i a, kd σ q = 25 → cR σ' q i = some a → kd σ a = 11)
    (ho : ∀ a, a ≠ q → cI σ' a = cI σ a ∧ cJ σ' a = cJ σ a ∧ cR σ' a = cR σ a) (he : va_at D cls (b + q, ent b z tc σ' q (kd σ q)) H1) (e2 : H1.size = H.size) (e3 : ∀ a : Nat, a ≠ b + q → H1[a]? = H[a]?) : CWS D tc b z s σ0 σ' H1 (locs ++ [⟨b + q, k⟩]) cells slots := by
  have hkd : ∀ a, kd σ' a = kd σ a := fun a => by unfold kd; rw [show cT σ' = cT σ from congrArg (fun t => t.1) hT]
  have hX : cX σ' = cX σ := congrArg (fun t => t.2.2.1) hT
  have hU : cU σ' = cU σ := congrArg (fun t => t.2.2.2) hT
  have hN : cN σ' = cN σ := congrArg (fun t => t.2.1) hT
  refine ⟨⟨fun a ha => ?_, fun a h1 h2 => ?_, by rw [hX]; exact h.1.2.2.1, by rw [e2, hX]; exact h.1.2.2.2.1, by rw [hX]; exact h.1.2.2.2.2.1, by rw [hU]; exact h.1.2.2.2.2.2.1, fun a i ha => ?_, fun a i v ha hv => ?_⟩, h.2.1.put e2 e3 (h.1.reg hq), by rw [hX]; exact h.2.2.1, by rw [hU]; exact h.2.2.2⟩
  · rw [hkd] at ha ⊢
    by_cases hc : a = q
    · subst hc; exact he
    · obtain ⟨g1, g2, g3⟩ := ho a hc
      rw [ent_congr g1 g2 g3 (by rw [hN])]
      exact (h.1.1 a ha).kept (e3 (b + a) (by show b + a ≠ b + q; omega))
  · rw [show cT σ' = cT σ from congrArg (fun t => t.1) hT]
    exact h.1.2.1 a h1 h2
  · rw [hkd] at ha
    by_cases hc : a = q
    · subst hc; exact hB i ha
    · rw [(ho a hc).1]; exact h.1.2.2.2.2.2.2.1 a i ha
  · rw [hkd] at ha ⊢
    by_cases hc : a = q
    · subst hc; exact hR i v ha hv
    · rw [(ho a hc).2.2] at hv; exact h.1.2.2.2.2.2.2.2 a i v ha hv
/-- behind a new cell -/
theorem CWS.make {D : va_G} {tc : Nat → ClassId} {b z : Nat} {s : State} {σ0 σ : CS} {H H1 : Heap} {locs : List Loc} {cells slots k n w : Nat} (h : CWS D tc b z s σ0 σ H locs cells slots) (hk : k ≠ 0) (hc : cX σ + 1 ≤ 601024) (hu : cU σ + w ≤ 7293034)
    (he : va_at D cls (H.size, ent b z tc (wa σ k n w) (cX σ) k) H1) (e2 : H1.size = H.size + 1) (e3 : ∀ a : Nat, a < H.size → H1[a]? = H[a]?) : CWS D tc b z s σ0 (wa σ k n w) H1 locs (cells + 1) (slots + w) := by
  have hlt : ∀ a, kd σ a ≠ 0 → a < cX σ := fun a ha => h.1.lt ha
  obtain ⟨⟨g1, g2, g3, g4, g5, g6, g7, g8⟩, hS, gc, gu⟩ := h
  have hX : cX (wa σ k n w) = cX σ + 1 := rfl
  have hU : cU (wa σ k n w) = cU σ + w := rfl
  refine ⟨⟨fun a ha => ?_, fun a h1 h2 => ?_, by rw [hX]; omega, by rw [e2, g4, hX]; omega, by rw [hX]; exact hc, by rw [hU]; exact hu, fun a i ha => ?_, fun a i v ha hv => ?_⟩, ⟨by rw [e2]; exact Nat.le_trans hS.1 (Nat.le_succ _), fun a h1 h2 => (e3 a (Nat.lt_of_lt_of_le h1 hS.1)).trans (hS.2.1 a h1 h2), hS.2.2⟩, by rw [hX, gc]; omega, by rw [hU, gu]; omega⟩
  · by_cases hq : a = cX σ
    · subst hq
      have hkd : kd (wa σ k n w) (cX σ) = k := by
        unfold kd
        rw [fxk_hi (by omega), if_pos rfl]
        show (if cX σ = cX σ then k else cT σ (cX σ)) = k
        rw [if_pos rfl]
      rw [hkd, ← g4]
      exact he
    · have hkd : kd (wa σ k n w) a = kd σ a := by
        unfold kd
        rw [show cT (wa σ k n w) a = cT σ a from if_neg hq]
      rw [hkd] at ha ⊢
      have hl := (g1 a ha).lt
      rw [ent_congr (σ' := wa σ k n w) (σ := σ) (by funext i; exact if_neg hq) (by funext i; exact if_neg hq) (by funext i; exact if_neg hq) (if_neg hq)]
      exact (g1 a ha).kept (e3 _ hl)
  · show (if a = cX σ then k else cT σ a) = 0
    rw [if_neg (by omega)]
    exact g2 a h1 h2
  · show fits .byte (.int (if a = cX σ then 0 else cI σ a i)) = true
    split
    · decide
    · rename_i hq
      refine g7 a i ?_
      have hkd : kd (wa σ k n w) a = kd σ a := by
        unfold kd
        rw [show cT (wa σ k n w) a = cT σ a from if_neg hq]
      rw [← hkd]; exact ha
  · have hv' : (if a = cX σ then none else cR σ a i) = some v := hv
    by_cases hq : a = cX σ
    · rw [if_pos hq] at hv'; cases hv'
    · rw [if_neg hq] at hv'
      have hkd : kd (wa σ k n w) a = kd σ a := by
        unfold kd
        rw [show cT (wa σ k n w) a = cT σ a from if_neg hq]
      have h11 := g8 a i v (by rw [← hkd]; exact ha) hv'
      have hl := hlt v (by rw [h11]; decide)
      have hkv : kd (wa σ k n w) v = kd σ v := by
        unfold kd
        rw [show cT (wa σ k n w) v = cT σ v from if_neg (by omega)]
      rw [hkv]; exact h11
theorem cast_moved {A B : String} {u U : State} (hvm : u.vm.Alike U.vm) (h : va_Nw (.castable A B) u) : va_Nw (.castable A B) U := by
  have e := Cond.onTables_vm (A := #[]) (A' := #[]) (U := u) (U' := U) U.vm (.castable A B) rfl
  have hU : U.setVm U.vm = U := rfl
  rw [hU] at e
  show (Cond.castable A B).before #[] U = true
  rw [← e, Cond.castable_setVm hvm]
  exact h
theorem CK.moved {D : va_G} {tc : Nat → ClassId} {b z : Nat} {u U : State} (hw : u.WarmedH U.vm) (hh : ∀ q, q < u.heap.size → ¬ creg b q → U.heap[q]? = u.heap[q]?) (hs : u.heap.size ≤ U.heap.size) (h : CK D tc b z u) : CK D tc b z U := by
  obtain ⟨h1, h2, h3, h4, h5, h6, h7, h9, ⟨⟨mi, h10⟩, h11⟩, h8⟩ := h
  have hvm := hw.alike
  have hz : U.heap[z]? = u.heap[z]? := hh z (by omega) (fun q => absurd q.1 (by omega))
  refine ⟨h1.moved hvm, h2, ?_, (h4.moved hvm).kept hz, h5.moved hvm, cast_moved hvm h6, cast_moved hvm h7, va_Nw.warmM hw h9, ⟨⟨mi, h10.moved hvm⟩, h11.moved hvm⟩, by omega⟩
  obtain ⟨cf, kf, fi, f, a, cell, r1, r2, r3, r4, r5, r6, r7, r8⟩ := va_Z.moved hvm h3
  exact ⟨cf, kf, fi, f, a, cell, r1, r2, r3, r4, by rw [hh a (Array.getElem?_eq_some_iff.mp r5).1 r8]; exact r5, r6, r7, r8⟩
