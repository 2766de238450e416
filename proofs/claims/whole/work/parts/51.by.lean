/-! bytes of segments -/
theorem sh_lo (v : Int32) (s : Nat) (hs : s ≤ 24) (h1 : ((BitVec.ofNat 32 s).smod 32#32).toNat = s) : ((v.toUInt32 >>> UInt32.ofNat s).toInt32).toInt8 = (v >>> Int32.ofNat s).toInt8 := by
  apply Int8.toBitVec_inj.mp
  apply BitVec.eq_of_getLsbD_eq
  intro i hi
  simp
  rw [h1, Nat.mod_eq_of_lt (by omega), BitVec.getLsbD_signExtend, BitVec.getLsbD_signExtend]
  have h2 : i < 32 := by omega
  have h3 : s + i < 32 := by omega
  have h4 : ¬ (32 ≤ i) := by omega
  simp [hi, h2, h3, h4, BitVec.getElem_sshiftRight]
theorem cb_x (v : Int32) (s : Nat) (a : UInt32) (b : Int32) (ha : a = UInt32.ofNat s) (hb : b = Int32.ofNat s) (hs : s ≤ 24) (h1 : ((BitVec.ofNat 32 s).smod 32#32).toNat = s) : ((v.toUInt32 >>> a).toInt32).toInt8 = (v >>> b).toInt8 := by
  subst ha; subst hb; exact sh_lo v s hs h1
/-- a byte of a number, as it is stored -/
def bt (v : Int32) (s : Nat) : Int32 := vp_nar .byte ((v >>> (Int32.ofNat (8 * s) &&& 31)).toInt8.toInt32)
theorem bt_c0 (v : Int32) : vp_nar .byte (((v.toUInt32 >>> ((0 : Int32).toUInt32 &&& Int32.toUInt32 31)).toInt32).toInt8.toInt32) = bt v 0 := by
  unfold bt; rw [cb_x v 0 _ (Int32.ofNat (8 * 0) &&& 31) (by decide) (by decide) (by decide) (by decide)]
theorem bt_c1 (v : Int32) : vp_nar .byte (((v.toUInt32 >>> ((8 : Int32).toUInt32 &&& Int32.toUInt32 31)).toInt32).toInt8.toInt32) = bt v 1 := by
  unfold bt; rw [cb_x v 8 _ (Int32.ofNat (8 * 1) &&& 31) (by decide) (by decide) (by decide) (by decide)]
theorem bt_c2 (v : Int32) : vp_nar .byte (((v.toUInt32 >>> ((16 : Int32).toUInt32 &&& Int32.toUInt32 31)).toInt32).toInt8.toInt32) = bt v 2 := by
  unfold bt; rw [cb_x v 16 _ (Int32.ofNat (8 * 2) &&& 31) (by decide) (by decide) (by decide) (by decide)]
theorem bt_c3 (v : Int32) : vp_nar .byte (((v.toUInt32 >>> ((24 : Int32).toUInt32 &&& Int32.toUInt32 31)).toInt32).toInt8.toInt32) = bt v 3 := by
  unfold bt; rw [cb_x v 24 _ (Int32.ofNat (8 * 3) &&& 31) (by decide) (by decide) (by decide) (by decide)]
theorem bt_r0 (v : Int32) : vp_nar .byte ((v >>> ((0 : Int32) &&& 31)).toInt8.toInt32) = bt v 0 := rfl
theorem bt_r1 (v : Int32) : vp_nar .byte ((v >>> ((8 : Int32) &&& 31)).toInt8.toInt32) = bt v 1 := rfl
theorem bt_r2 (v : Int32) : vp_nar .byte ((v >>> ((16 : Int32) &&& 31)).toInt8.toInt32) = bt v 2 := rfl
theorem bt_r3 (v : Int32) : vp_nar .byte ((v >>> ((24 : Int32) &&& 31)).toInt8.toInt32) = bt v 3 := rfl
/-- contents with a number put in -/
def pu (C : Nat → Int32) (at_ n : Nat) (v : Int32) : Nat → Int32 := fun i => if at_ ≤ i ∧ i < at_ + n then bt v (n - 1 - (i - at_)) else C i
theorem pu_in {C : Nat → Int32} {at_ n : Nat} {v : Int32} {i : Nat} (h1 : at_ ≤ i) (h2 : i < at_ + n) : pu C at_ n v i = bt v (n - 1 - (i - at_)) := if_pos ⟨h1, h2⟩
theorem pu_out {C : Nat → Int32} {at_ n : Nat} {v : Int32} {i : Nat} (h : ¬ (at_ ≤ i ∧ i < at_ + n)) : pu C at_ n v i = C i := if_neg h
/-- an array's contents -/
def wA (σ : CS) (a : Nat) (C : Nat → Int32) : CS := (fun x i => if x = a then C i else cI σ x i, σ.2)
theorem wA_I (σ : CS) (a : Nat) (C : Nat → Int32) (x i : Nat) : cI (wA σ a C) x i = if x = a then C i else cI σ x i := rfl
theorem wA_self (σ : CS) (a : Nat) (C : Nat → Int32) : cI (wA σ a C) a = C := by funext i; exact if_pos rfl
theorem wA_ne (σ : CS) (a : Nat) (C : Nat → Int32) {x : Nat} (h : x ≠ a) : cI (wA σ a C) x = cI σ x := by funext i; exact if_neg h
theorem wA_2 (σ : CS) (a : Nat) (C : Nat → Int32) : (wA σ a C).2 = σ.2 := rfl
theorem wA_k (σ : CS) (a : Nat) (C : Nat → Int32) : kd (wA σ a C) = kd σ := rfl
theorem wA_wA (σ : CS) (a : Nat) (C C' : Nat → Int32) : wA (wA σ a C) a C' = wA σ a C' := by
  unfold wA
  refine Prod.ext ?_ rfl
  funext x i
  show (if x = a then C' i else if x = a then C i else cI σ x i) = if x = a then C' i else cI σ x i
  split <;> rfl
theorem wA_id (σ : CS) (a : Nat) : wA σ a (cI σ a) = σ := by
  unfold wA
  refine Prod.ext ?_ rfl
  funext x i
  show (if x = a then cI σ a i else cI σ x i) = cI σ x i
  split
  · rename_i h; rw [h]
  · rfl
theorem wi_wA (σ : CS) (a : Nat) (C : Nat → Int32) (j : Nat) (x : Int32) : wi (wA σ a C) a j x = wA σ a (fun i => if i = j then x else C i) := by
  unfold wA wi
  refine Prod.ext ?_ rfl
  funext y i
  show (if y = a ∧ i = j then x else if y = a then C i else cI σ y i) = if y = a then (if i = j then x else C i) else cI σ y i
  by_cases h1 : y = a <;> by_cases h2 : i = j <;> simp [h1, h2]
/-- a slot's contents -/
def Sk (ρ : RS) (k : Nat) : Nat → Int32 := fun i => ρ.1 2 (1484 * k + i)
def sS (ρ : RS) (k : Nat) (C : Nat → Int32) : RS := (fun r i => if r = 2 ∧ 1484 * k ≤ i ∧ i < 1484 * k + 1484 then C (i - 1484 * k) else ρ.1 r i, ρ.2)
theorem sS_2 (ρ : RS) (k : Nat) (C : Nat → Int32) : (sS ρ k C).2 = ρ.2 := rfl
theorem sS_o (ρ : RS) (k : Nat) (C : Nat → Int32) {r : Nat} (h : r ≠ 2) : (sS ρ k C).1 r = ρ.1 r := by funext i; exact if_neg (fun q => h q.1)
theorem sS_self (ρ : RS) (k : Nat) (C : Nat → Int32) {i : Nat} (h : i < 1484) : Sk (sS ρ k C) k i = C i := by
  show (if 2 = 2 ∧ 1484 * k ≤ 1484 * k + i ∧ 1484 * k + i < 1484 * k + 1484 then C (1484 * k + i - 1484 * k) else ρ.1 2 (1484 * k + i)) = C i
  rw [if_pos ⟨rfl, by omega, by omega⟩, Nat.add_sub_cancel_left]
theorem sS_ne (ρ : RS) (k : Nat) (C : Nat → Int32) {j i : Nat} (h : j ≠ k) (hi : i < 1484) : Sk (sS ρ k C) j i = Sk ρ j i := by
  show (if 2 = 2 ∧ 1484 * k ≤ 1484 * j + i ∧ 1484 * j + i < 1484 * k + 1484 then _ else ρ.1 2 (1484 * j + i)) = ρ.1 2 (1484 * j + i)
  rw [if_neg]
  intro q
  rcases Nat.lt_or_gt_of_ne h with h1 | h1 <;> omega
theorem sS_sS (ρ : RS) (k : Nat) (C C' : Nat → Int32) : sS (sS ρ k C) k C' = sS ρ k C' := by
  unfold sS
  refine Prod.ext ?_ rfl
  funext r i
  show (if r = 2 ∧ 1484 * k ≤ i ∧ i < 1484 * k + 1484 then _ else if r = 2 ∧ 1484 * k ≤ i ∧ i < 1484 * k + 1484 then _ else _) = if r = 2 ∧ 1484 * k ≤ i ∧ i < 1484 * k + 1484 then _ else _
  split <;> rfl
theorem sS_id (ρ : RS) (k : Nat) : sS ρ k (Sk ρ k) = ρ := by
  unfold sS Sk
  refine Prod.ext ?_ rfl
  funext r i
  show (if r = 2 ∧ 1484 * k ≤ i ∧ i < 1484 * k + 1484 then ρ.1 2 (1484 * k + (i - 1484 * k)) else ρ.1 r i) = ρ.1 r i
  split
  · rename_i h
    rw [h.1, show 1484 * k + (i - 1484 * k) = i by omega]
  · rfl
theorem si_sS (ρ : RS) (k : Nat) (C : Nat → Int32) (j : Nat) (x : Int32) (h : j < 1484) : si (sS ρ k C) 2 (1484 * k + j) x = sS ρ k (fun i => if i = j then x else C i) := by
  unfold sS si
  refine Prod.ext ?_ rfl
  funext r i
  show (if r = 2 ∧ i = 1484 * k + j then x else if r = 2 ∧ 1484 * k ≤ i ∧ i < 1484 * k + 1484 then C (i - 1484 * k) else ρ.1 r i) = if r = 2 ∧ 1484 * k ≤ i ∧ i < 1484 * k + 1484 then (if i - 1484 * k = j then x else C (i - 1484 * k)) else ρ.1 r i
  by_cases h1 : r = 2 ∧ 1484 * k ≤ i ∧ i < 1484 * k + 1484
  · rw [if_pos h1, if_pos h1]
    by_cases h2 : i = 1484 * k + j
    · rw [if_pos ⟨h1.1, h2⟩, if_pos (by omega)]
    · rw [if_neg (fun q => h2 q.2), if_neg (by omega)]
  · rw [if_neg h1, if_neg h1, if_neg]
    intro q
    exact h1 ⟨q.1, by omega, by omega⟩
theorem sS_congr (ρ : RS) (k : Nat) {C C' : Nat → Int32} (h : ∀ i, i < 1484 → C i = C' i) : sS ρ k C = sS ρ k C' := by
  unfold sS
  refine Prod.ext ?_ rfl
  funext r i
  show (if r = 2 ∧ 1484 * k ≤ i ∧ i < 1484 * k + 1484 then C (i - 1484 * k) else ρ.1 r i) = if r = 2 ∧ 1484 * k ≤ i ∧ i < 1484 * k + 1484 then C' (i - 1484 * k) else ρ.1 r i
  split
  · rename_i h1; exact h _ (by omega)
  · rfl
