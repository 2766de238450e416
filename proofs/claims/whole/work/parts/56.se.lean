/-! sealing and soundness, on both sides -/
theorem bits8 : ∀ i : Fin 8, (4294967295#32).getLsbD i.val = (65535#32).getLsbD i.val := by decide
theorem bits16 : ∀ i : Fin 8, (4294967295#32).getLsbD (8 + i.val) = (65535#32).getLsbD (8 + i.val) := by decide
theorem btx_0 (x : Int32) : bt (x ^^^ (-1 : Int32)) 0 = bt (x ^^^ 65535) 0 := by
  unfold bt
  congr 2
  apply Int8.toBitVec_inj.mp
  apply BitVec.eq_of_getLsbD_eq
  intro i hi
  rw [show (Int32.ofNat (8 * 0) &&& 31) = 0 by decide]
  have h2 : i < 32 := by omega
  have e0 : (0 : Int32).toBitVec.smod 32 = 0#32 := by decide
  simp only [Int32.toBitVec_toInt8, Int32.toBitVec_shiftRight, e0, BitVec.sshiftRight_eq', BitVec.getLsbD_signExtend, Int32.toBitVec_xor]
  simp [hi, h2, BitVec.getElem_sshiftRight]
  rw [← BitVec.getLsbD_eq_getElem, ← BitVec.getLsbD_eq_getElem]
  exact bits8 ⟨i, hi⟩
theorem btx_1 (x : Int32) : bt (x ^^^ (-1 : Int32)) 1 = bt (x ^^^ 65535) 1 := by
  unfold bt
  congr 2
  apply Int8.toBitVec_inj.mp
  apply BitVec.eq_of_getLsbD_eq
  intro i hi
  rw [show (Int32.ofNat (8 * 1) &&& 31) = 8 by decide]
  have h2 : i < 32 := by omega
  have h3 : 8 + i < 32 := by omega
  have e0 : (8 : Int32).toBitVec.smod 32 = 8#32 := by decide
  simp only [Int32.toBitVec_toInt8, Int32.toBitVec_shiftRight, e0, BitVec.sshiftRight_eq', BitVec.getLsbD_signExtend, Int32.toBitVec_xor]
  simp [hi, h2, h3, BitVec.getElem_sshiftRight]
  rw [← BitVec.getLsbD_eq_getElem, ← BitVec.getLsbD_eq_getElem]
  exact bits16 ⟨i, hi⟩
theorem pux (C : Nat → Int32) (x : Int32) : pu C 16 2 (x ^^^ (-1 : Int32)) = pu C 16 2 (x ^^^ 65535) := by
  funext i
  unfold pu
  by_cases h : 16 ≤ i ∧ i < 16 + 2
  · rw [if_pos h, if_pos h]
    rcases (show i = 16 ∨ i = 17 by omega) with rfl | rfl
    · exact btx_1 x
    · exact btx_0 x
  · rw [if_neg h, if_neg h]
theorem pu_pu (C : Nat → Int32) (a n : Nat) (v w : Int32) : pu (pu C a n v) a n w = pu C a n w := by
  funext i
  unfold pu
  split <;> rfl
theorem ws_p0 (C : Nat → Int32) {len : Nat} (h : 18 ≤ len) : ws (pu C 16 2 0) len = wx C len := by
  rw [ws_wx _ _ h, wx_congr (C := pu C 16 2 0) (C' := C) len (fun i _ h1 h2 => pu_out (by omega))]
  have e16 : bv (pu C 16 2 0) 16 = 0 := by
    unfold bv n1
    rw [pu_in (by decide) (by decide)]
    decide
  have e17 : bv (pu C 16 2 0) 17 = 0 := by
    unfold bv n1
    rw [pu_in (by decide) (by decide)]
    decide
  rw [e16, e17]
  omega
/-- contents with their checksum -/
def sld (C : Nat → Int32) (len : Nat) : Nat → Int32 := pu C 16 2 (Int32.ofNat (fold (fold (5129 + len + wx C len))) ^^^ 65535)
theorem gmend {σ : CS} {g a len N : Nat} (S : SG σ g a len N) (h : 18 ≤ len) : m_G_mendChecksum g σ = some (wA σ a (sld (cI σ a) len)) := by
  unfold m_G_mendChecksum
  have S1 := S.wA (pu (cI σ a) 16 2 0)
  rw [gd_t S.1, gput2 S 0 (at_ := 16) (by decide) (by omega), bc_e, gd_t S1.1, gws S1, bc2_e, gd_t S1.1, gput2 S1 _ (at_ := 16) (by decide) (by omega), bc_e, wA_self, wA_wA, ws_p0 _ h, pu_pu, pux]
  rfl
theorem rseal (ρ : RS) {k len : Nat} {v1 : Int32} (h1 : v1.toInt = (k : Int)) (hk : k < 513) (hlen : ρ.1 3 k = Int32.ofNat len) (hl : len ≤ 1484) (hg : ρ.1 4 k = 0 ∨ ρ.1 4 k = 1) : m_sealed v1 ρ = some (sS ρ k (sld (Sk ρ k) len)) := by
  unfold m_sealed
  rw [rck ρ h1 hk hlen hl hg, bc2_e, rput2 ρ _ h1 (at_ := 16) (by decide) hk (by decide), bc_e]
  rfl
theorem sld_congr {C C' : Nat → Int32} {len : Nat} (h : ∀ i, i < len → i ≠ 16 → i ≠ 17 → C i = C' i) {i : Nat} (hi : i < len) : sld C len i = sld C' len i := by
  unfold sld
  rw [wx_congr len h]
  by_cases h1 : 16 ≤ i ∧ i < 16 + 2
  · rw [pu_in h1.1 h1.2, pu_in h1.1 h1.2]
  · rw [pu_out h1, pu_out h1]
    exact h i hi (by omega) (by omega)
/-- the header's length -/
def ho (C : Nat → Int32) : Nat := 4 * (bv C 12 / 16)
theorem ho_lt (C : Nat → Int32) : ho C ≤ 60 := by have := (bv_s C 12).2; unfold ho; omega
theorem hl4_s (C : Nat → Int32) : (hl4 C).toInt = (ho C : Int) := by
  obtain ⟨b1, b2⟩ := bv_s C 12
  have e : (((n1 C 12).toUInt32 >>> ((4 : Int32).toUInt32 &&& Int32.toUInt32 31)).toInt32).toInt = ((bv C 12 / 16 : Nat) : Int) := by
    refine b32_of (by omega) ?_
    rw [show ((4 : Int32).toUInt32 &&& Int32.toUInt32 31) = 4 by decide]
    show ((n1 C 12).toUInt32 >>> (4 : UInt32)).toBitVec.toNat = _
    rw [UInt32.toBitVec_shiftRight, show (4 : UInt32).toBitVec % 32 = 4#32 by decide, BitVec.ushiftRight_eq', BitVec.toNat_ushiftRight]
    show (n1 C 12).toBitVec.toNat >>> 4 = _
    rw [b32_nat b1, Nat.shiftRight_eq_div_pow]
  unfold hl4 ho
  rw [x32_mul e (show (4 : Int32).toInt = 4 by decide) (by omega) (by omega)]
  omega
theorem hr4_s (C : Nat → Int32) : ((4 : Int32) * (n1 C 12 >>> ((4 : Int32) &&& 31))).toInt = (ho C : Int) := by
  obtain ⟨b1, b2⟩ := bv_s C 12
  have e : (n1 C 12 >>> ((4 : Int32) &&& 31)).toInt = ((bv C 12 / 16 : Nat) : Int) := by
    show (n1 C 12 >>> ((4 : Int32) &&& 31)).toBitVec.toInt = _
    rw [Int32.toBitVec_shiftRight, show ((4 : Int32) &&& 31).toBitVec.smod 32 = 4#32 by decide, BitVec.sshiftRight_eq', BitVec.toInt_sshiftRight]
    show (n1 C 12).toInt >>> 4 = _
    rw [b1, Int.shiftRight_eq_div_pow]
    rfl
  unfold ho
  rw [x32_mul (show (4 : Int32).toInt = 4 by decide) e (by omega) (by omega)]
  omega
theorem n2_s (C : Nat → Int32) (i : Nat) : (n2 C i).toInt = ((256 * bv C i + bv C (i + 1) : Nat) : Int) := by
  obtain ⟨a1, a2⟩ := bv_s C i
  obtain ⟨b1, b2⟩ := bv_s C (i + 1)
  have e := shl_8 a1 (by omega)
  refine b32_of (by omega) ?_
  unfold n2
  rw [Int32.toBitVec_or, BitVec.toNat_or, b32_nat e, b32_nat b1, Nat.mul_comm]
  have h := Nat.shiftLeft_add_eq_or_of_lt (i := 8) b2 (bv C i)
  rw [Nat.shiftLeft_eq] at h
  rw [show bv C i * 256 = bv C i * 2 ^ 8 by rfl, ← h]
/-- well formed: as both say -/
def wf (C : Nat → Int32) (len : Nat) : Prop := 20 ≤ len ∧ 20 ≤ ho C ∧ ho C ≤ len ∧ fold (fold (5129 + len + ws C len)) = 65535
theorem gwf {σ : CS} {g a len N : Nat} (S : SG σ g a len N) : (wf (cI σ a) len → m_G_isWellFormed g σ = some (1, σ)) ∧ (¬ wf (cI σ a) len → m_G_isWellFormed g σ = some (0, σ)) := by
  have h7 := S.2.2.2.2.2.2
  have h6 := S.2.2.2.2.2.1
  have hle := ws_le (cI σ a) len
  have e0 : b_G_isWellFormed_42 g σ = some (0, σ) := gd_t z01_0
  have e1 : b_G_isWellFormed_43 g 1 σ = some (1, σ) := gd_t z01_1
  have hff := ff_lt (5129 + len + ws (cI σ a) len) (by omega)
  have c20 : (20 : Int32).toInt = 20 := by decide
  have hln := x32_nat (n := len) (by omega)
  unfold m_G_isWellFormed
  rw [gd_t S.1, bd_e, S.2.2.2.1]
  by_cases h1 : len < 20
  · rw [if_pos ((x32_lt hln c20).mpr (by omega))]
    exact ⟨fun h => by have := h.1; omega, fun _ => e0⟩
  · rw [if_neg (fun q => by have := (x32_lt hln c20).mp q; omega), gd_t S.1, ghl S (by omega), bc2_e]
    by_cases h2 : ho (cI σ a) < 20
    · rw [if_pos ((x32_lt (hl4_s _) c20).mpr (by omega))]
      exact ⟨fun h => by have := h.2.1; omega, fun _ => e0⟩
    · rw [if_neg (fun q => by have := (x32_lt (hl4_s _) c20).mp q; omega), gd_t S.1, ghl S (by omega), bc2_e, gd_t S.1, bd_e, S.2.2.2.1]
      by_cases h3 : len < ho (cI σ a)
      · rw [if_pos ((x32_lt hln (hl4_s _)).mpr (by omega))]
        exact ⟨fun h => by have := h.2.2.1; omega, fun _ => e0⟩
      · rw [if_neg (fun q => by have := (x32_lt hln (hl4_s _)).mp q; omega), gd_t S.1, gws S, bc2_e]
        have hfn := x32_nat (n := fold (fold (5129 + len + ws (cI σ a) len))) (by omega)
        have c6 : (65535 : Int32).toInt = 65535 := by decide
        by_cases h4 : fold (fold (5129 + len + ws (cI σ a) len)) = 65535
        · rw [if_pos ((x32_eq hfn c6).mpr (by omega))]
          exact ⟨fun _ => e1, fun h => absurd ⟨by omega, by omega, by omega, h4⟩ h⟩
        · rw [if_neg (fun q => by have := (x32_eq hfn c6).mp q; omega)]
          exact ⟨fun h => by have := h.2.2.2; omega, fun _ => e0⟩
theorem rsound (ρ : RS) {k len : Nat} {v1 : Int32} (h1 : v1.toInt = (k : Int)) (hk : k < 513) (hlen : ρ.1 3 k = Int32.ofNat len) (hl : len ≤ 1484) (h18 : 18 ≤ len) (hg : ρ.1 4 k = 0 ∨ ρ.1 4 k = 1) : m_sound v1 ρ = some (if fold (fold (5129 + len + ws (Sk ρ k) len)) = 65535 then 1 else 0, ρ) := by
  have hle := wx_le (Sk ρ k) len
  have hff := ff_lt (5129 + len + wx (Sk ρ k) len) (by omega)
  obtain ⟨a1, a2⟩ := bv_s (Sk ρ k) 16
  obtain ⟨b1, b2⟩ := bv_s (Sk ρ k) 17
  unfold m_sound
  rw [rck ρ h1 hk hlen hl hg, bc2_e, rtwo ρ h1 (at_ := 16) (by decide) hk (by decide), bc2_e, bd_e]
  have ex : (Int32.ofNat (fold (fold (5129 + len + wx (Sk ρ k) len))) ^^^ 65535) ^^^ 65535 = Int32.ofNat (fold (fold (5129 + len + wx (Sk ρ k) len))) := by
    rw [Int32.xor_assoc, show ((65535 : Int32) ^^^ 65535) = 0 by decide, Int32.xor_zero]
  rw [ex]
  have hn2 : (n2 (Sk ρ k) 16).toInt = ((256 * bv (Sk ρ k) 16 + bv (Sk ρ k) 17 : Nat) : Int) := n2_s (Sk ρ k) 16
  have e := x32_add (x32_nat (n := fold (fold (5129 + len + wx (Sk ρ k) len))) (by omega)) hn2 (by omega) (by omega)
  have e' : (Int32.ofNat (fold (fold (5129 + len + wx (Sk ρ k) len))) + n2 (Sk ρ k) 16).toInt = ((fold (fold (5129 + len + wx (Sk ρ k) len)) + (256 * bv (Sk ρ k) 16 + bv (Sk ρ k) 17) : Nat) : Int) := by rw [e]; omega
  have e2 := x32_add (and_65535 e') (shr_s16 e') (by omega) (by omega)
  have hi := ff_iff (5129 + len + wx (Sk ρ k) len) (256 * bv (Sk ρ k) 16 + bv (Sk ρ k) 17) (by omega) (by omega) (by omega)
  have c6 : (65535 : Int32).toInt = 65535 := by decide
  rw [ws_wx _ _ h18, show 5129 + len + (wx (Sk ρ k) len + (256 * bv (Sk ρ k) 16 + bv (Sk ρ k) 17)) = 5129 + len + wx (Sk ρ k) len + (256 * bv (Sk ρ k) 16 + bv (Sk ρ k) 17) by omega]
  generalize fold (fold (5129 + len + wx (Sk ρ k) len + (256 * bv (Sk ρ k) 16 + bv (Sk ρ k) 17))) = lhs at hi ⊢
  generalize fold (fold (5129 + len + wx (Sk ρ k) len)) + (256 * bv (Sk ρ k) 16 + bv (Sk ρ k) 17) = w at hi e2
  by_cases h : lhs = 65535
  · rw [if_pos h]
    have h' := hi.mp h
    rw [if_pos ((x32_eq e2 c6).mpr (by unfold fold at h'; omega))]
    exact gd_t z01_1
  · rw [if_neg h]
    have h' : ¬ _ := fun q => h (hi.mpr q)
    rw [if_neg (fun q => by have := (x32_eq e2 c6).mp q; exact h' (by unfold fold; omega))]
    exact gd_t z01_0
