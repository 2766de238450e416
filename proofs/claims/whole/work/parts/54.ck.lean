/-! checksums -/
theorem b32_nat {v : Int32} {n : Nat} (h : v.toInt = (n : Int)) : v.toBitVec.toNat = n := by
  have h1 : v.toBitVec.toInt = (n : Int) := h
  rw [BitVec.toInt_eq_toNat_cond] at h1
  split at h1 <;> have := v.toBitVec.isLt <;> omega
theorem b32_of {v : Int32} {n : Nat} (hn : n < 2147483648) (h : v.toBitVec.toNat = n) : v.toInt = (n : Int) := by
  show v.toBitVec.toInt = (n : Int)
  rw [BitVec.toInt_eq_toNat_cond, h, if_pos (by omega)]
theorem b64_nat {v : Int64} {n : Nat} (h : v.toInt = (n : Int)) : v.toBitVec.toNat = n := by
  have h1 : v.toBitVec.toInt = (n : Int) := h
  rw [BitVec.toInt_eq_toNat_cond] at h1
  split at h1 <;> have := v.toBitVec.isLt <;> omega
theorem b64_of {v : Int64} {n : Nat} (hn : n < 2147483648) (h : v.toBitVec.toNat = n) : v.toInt = (n : Int) := by
  show v.toBitVec.toInt = (n : Int)
  rw [BitVec.toInt_eq_toNat_cond, h, if_pos (by omega)]
theorem and_mask {v : Int32} {n : Nat} (h : v.toInt = (n : Int)) (k : Nat) (m : Int32) (hk : k < 31) (hm : m.toBitVec.toNat = 2 ^ k - 1) : (v &&& m).toInt = ((n % 2 ^ k : Nat) : Int) := by
  refine b32_of ?_ ?_
  · have : n % 2 ^ k < 2 ^ k := Nat.mod_lt _ (Nat.two_pow_pos k)
    have h2 : 2 ^ k ≤ 2 ^ 30 := Nat.pow_le_pow_right (by decide) (by omega)
    omega
  · rw [Int32.toBitVec_and, BitVec.toNat_and, b32_nat h, hm, Nat.and_two_pow_sub_one_eq_mod]
theorem and_255 {v : Int32} : ∃ n : Nat, n < 256 ∧ (v &&& 255).toInt = (n : Int) := by
  refine ⟨v.toBitVec.toNat % 256, Nat.mod_lt _ (by decide), b32_of ?_ ?_⟩
  · have := Nat.mod_lt v.toBitVec.toNat (show 256 > 0 by decide); omega
  · rw [Int32.toBitVec_and, BitVec.toNat_and, show (255 : Int32).toBitVec.toNat = 2 ^ 8 - 1 by decide, Nat.and_two_pow_sub_one_eq_mod]
theorem and_65535 {v : Int32} {n : Nat} (h : v.toInt = (n : Int)) : (v &&& 65535).toInt = ((n % 65536 : Nat) : Int) := and_mask h 16 65535 (by decide) (by decide)
theorem shr_u16 {v : Int32} {n : Nat} (h : v.toInt = (n : Int)) : ((v.toUInt32 >>> ((16 : Int32).toUInt32 &&& Int32.toUInt32 31)).toInt32).toInt = ((n / 65536 : Nat) : Int) := by
  have hn : n < 2 ^ 32 := by have := v.toBitVec.isLt; rw [b32_nat h] at this; exact this
  refine b32_of (by omega) ?_
  rw [show ((16 : Int32).toUInt32 &&& Int32.toUInt32 31) = 16 by decide]
  show (v.toUInt32 >>> (16 : UInt32)).toBitVec.toNat = _
  rw [UInt32.toBitVec_shiftRight]
  rw [show (16 : UInt32).toBitVec % 32 = 16#32 by decide, BitVec.ushiftRight_eq', BitVec.toNat_ushiftRight]
  show v.toBitVec.toNat >>> 16 = _
  rw [b32_nat h, Nat.shiftRight_eq_div_pow]
theorem shr_s16 {v : Int32} {n : Nat} (h : v.toInt = (n : Int)) : (v >>> ((16 : Int32) &&& 31)).toInt = ((n / 65536 : Nat) : Int) := by
  show (v >>> ((16 : Int32) &&& 31)).toBitVec.toInt = _
  rw [Int32.toBitVec_shiftRight, show ((16 : Int32) &&& 31).toBitVec.smod 32 = 16#32 by decide, BitVec.sshiftRight_eq', BitVec.toInt_sshiftRight]
  show v.toInt >>> 16 = _
  rw [h, Int.shiftRight_eq_div_pow]
  rfl
/-- a byte as a number -/
def bv (C : Nat → Int32) (i : Nat) : Nat := (n1 C i).toInt.toNat
theorem bv_s (C : Nat → Int32) (i : Nat) : (n1 C i).toInt = (bv C i : Int) ∧ bv C i < 256 := by
  obtain ⟨n, h1, h2⟩ := and_255 (v := C i)
  have h3 : (n1 C i).toInt = (n : Int) := h2
  unfold bv
  rw [h3]
  exact ⟨by omega, by omega⟩
theorem shl_8 {v : Int32} {n : Nat} (h : v.toInt = (n : Int)) (hn : n < 8388608) : (v <<< ((8 : Int32) &&& 31)).toInt = ((256 * n : Nat) : Int) := by
  refine b32_of (by omega) ?_
  rw [Int32.toBitVec_shiftLeft, show ((8 : Int32) &&& 31).toBitVec.smod 32 = 8#32 by decide, BitVec.shiftLeft_eq', BitVec.toNat_shiftLeft, b32_nat h]
  show n <<< 8 % 2 ^ 32 = 256 * n
  rw [Nat.shiftLeft_eq]
  omega

def fold (s : Nat) : Nat := s % 65536 + s / 65536
def wt (C : Nat → Int32) (i : Nat) : Nat := if i % 2 = 0 then 256 * bv C i else bv C i
def ws (C : Nat → Int32) : Nat → Nat
  | 0 => 0
  | i + 1 => ws C i + wt C i
def wx (C : Nat → Int32) : Nat → Nat
  | 0 => 0
  | i + 1 => wx C i + (if i = 16 ∨ i = 17 then 0 else wt C i)
theorem wt_lt (C : Nat → Int32) (i : Nat) : wt C i ≤ 65280 := by
  have := (bv_s C i).2
  unfold wt
  split <;> omega
theorem ws_le (C : Nat → Int32) : ∀ n, ws C n ≤ 65280 * n
  | 0 => Nat.le_refl _
  | n + 1 => by have := ws_le C n; have := wt_lt C n; show ws C n + wt C n ≤ _; omega
theorem wx_le (C : Nat → Int32) : ∀ n, wx C n ≤ 65280 * n
  | 0 => Nat.le_refl _
  | n + 1 => by
    have := wx_le C n; have := wt_lt C n
    show wx C n + (if n = 16 ∨ n = 17 then 0 else wt C n) ≤ _
    split <;> omega
theorem ws_wx (C : Nat → Int32) : ∀ n, 18 ≤ n → ws C n = wx C n + (256 * bv C 16 + bv C 17)
  | 0, h => by omega
  | n + 1, h => by
    by_cases hn : n = 17
    · subst hn
      simp only [ws, wx]
      simp
      have e16 : wt C 16 = 256 * bv C 16 := rfl
      have e17 : wt C 17 = bv C 17 := rfl
      omega
    · have := ws_wx C n (by omega)
      show ws C n + wt C n = wx C n + (if n = 16 ∨ n = 17 then 0 else wt C n) + _
      rw [if_neg (by omega)]
      omega
theorem wx_congr {C C' : Nat → Int32} : ∀ n, (∀ i, i < n → i ≠ 16 → i ≠ 17 → C i = C' i) → wx C n = wx C' n
  | 0, _ => rfl
  | n + 1, h => by
    have ih := wx_congr n (fun i hi => h i (by omega))
    show wx C n + (if n = 16 ∨ n = 17 then 0 else wt C n) = wx C' n + (if n = 16 ∨ n = 17 then 0 else wt C' n)
    rw [ih]
    by_cases hn : n = 16 ∨ n = 17
    · rw [if_pos hn, if_pos hn]
    · have e : C n = C' n := h n (by omega) (by omega) (by omega)
      rw [if_neg hn, if_neg hn]
      unfold wt bv n1
      rw [e]
theorem ff_iff (T w : Nat) (h0 : 0 < T) (hT : T < 134217728) (hw : w < 65536) : fold (fold (T + w)) = 65535 ↔ fold (fold (fold T) + w) = 65535 := by
  unfold fold
  omega
theorem ff_lt (T : Nat) (hT : T < 134217728) : fold (fold T) < 65536 := by
  unfold fold
  omega
theorem fold_id (T : Nat) (hT : T < 65536) : fold T = T := by
  unfold fold
  omega
