/-! numbers read, on both sides -/
def n1 (C : Nat → Int32) (i : Nat) : Int32 := C i &&& 255
def n2 (C : Nat → Int32) (i : Nat) : Int32 := (n1 C i <<< ((8 : Int32) &&& 31)) ||| n1 C (i + 1)
def n4 (C : Nat → Int32) (i : Nat) : Int32 := (n2 C i <<< ((16 : Int32) &&& 31)) ||| n2 C (i + 2)
theorem sh0 (y : Int32) : ((0 : Int32) <<< ((8 : Int32) &&& 31)) ||| y = y := by
  apply Int32.toBitVec_inj.mp
  simp
theorem sh4 (a b c d : Int32) : ((((a <<< ((8 : Int32) &&& 31) ||| b) <<< ((8 : Int32) &&& 31)) ||| c) <<< ((8 : Int32) &&& 31)) ||| d = ((a <<< ((8 : Int32) &&& 31) ||| b) <<< ((16 : Int32) &&& 31)) ||| (c <<< ((8 : Int32) &&& 31) ||| d) := by
  apply Int32.toBitVec_inj.mp
  have e8 : ((8 : Int32) &&& 31).toBitVec.smod 32 = 8#32 := by decide
  have e16 : ((16 : Int32) &&& 31).toBitVec.smod 32 = 16#32 := by decide
  simp only [Int32.toBitVec_or, Int32.toBitVec_shiftLeft, e8, e16]
  apply BitVec.eq_of_getLsbD_eq
  intro i hi
  simp [hi]
  by_cases h1 : i < 8
  · have h2 : i < 16 := by omega
    simp [h1, h2]
  · by_cases h2 : i < 16
    · have h3 : i - 8 < 8 := by omega
      simp [h1, h2, h3]
    · have h3 : ¬ i - 8 < 8 := by omega
      have e : i - 8 - 8 = i - 16 := by omega
      by_cases h4 : i - 16 < 8
      · have h5 : i - 8 - 8 < 8 := by omega
        simp [h1, h2, h3, h4, h5, e, Bool.or_assoc]
      · have h5 : ¬ i - 8 - 8 < 8 := by omega
        have e2 : i - 8 - 8 - 8 = i - 16 - 8 := by omega
        simp [h1, h2, h3, h4, h5, e, e2, Bool.or_assoc]
theorem gnum_step {σ : CS} {g a len N : Nat} (S : SG σ g a len N) (rec : Int32 → Int32 → Int32 → Int32 → CS → Option (Int32 × CS)) {v1 v2 v3 v4 : Int32} {at_ n i : Nat} (h1 : v1.toInt = (at_ : Int)) (h2 : v2.toInt = (n : Int)) (h4 : v4.toInt = (i : Int)) (hi : i < n) (hle : at_ + n ≤ len) :
    F_G_number_21 g rec v1 v2 v3 v4 σ = rec v1 v2 ((v3 <<< ((8 : Int32) &&& 31)) ||| n1 (cI σ a) (at_ + i)) (v4 + 1) σ := by
  obtain ⟨s1, s2, s3, s4, s5, s6, s7⟩ := S
  unfold F_G_number_21
  have h14 : (v1 + v4).toInt = ((at_ + i : Nat) : Int) := by
    have := x32_add h1 h4 (by omega) (by omega)
    rw [this]; omega
  rw [if_neg (by rw [x32_le h2 h4]; omega), gd_t s1, s2, bc_e, gd_t ⟨s3, by rw [s5]; exact x32_in h14 (by omega)⟩, bd_e, bd_e, bd_e, x32_n h14]
  rfl
theorem gnum_end {g : Nat} (σ : CS) (rec : Int32 → Int32 → Int32 → Int32 → CS → Option (Int32 × CS)) {v1 v2 v3 v4 : Int32} {n : Nat} (h2 : v2.toInt = (n : Int)) (h4 : v4.toInt = (n : Int)) : F_G_number_21 g rec v1 v2 v3 v4 σ = some (v3, σ) := by
  unfold F_G_number_21
  rw [if_pos (by rw [x32_le h2 h4]; omega)]
theorem gnum_in {σ : CS} {g a len N : Nat} (S : SG σ g a len N) {v1 v2 : Int32} {at_ n : Nat} (h1 : v1.toInt = (at_ : Int)) (h2 : v2.toInt = (n : Int)) (hle : at_ + n ≤ len) : m_G_number g v1 v2 σ = lq5 (F_G_number_21 g) fuel v1 v2 0 0 σ := by
  have h7 := S.2.2.2.2.2.2
  have h6 := S.2.2.2.2.2.1
  unfold m_G_number
  have h0 : (0 : Int32).toInt = 0 := by decide
  rw [if_neg (by rw [x32_lt h1 h0]; omega), gd_t S.1, bd_e, S.2.2.2.1, if_pos]
  rw [x32_le (x32_add h1 h2 (by omega) (by omega)) (x32_nat (n := len) (by omega))]
  omega
theorem gnum1 {σ : CS} {g a len N : Nat} (S : SG σ g a len N) {v1 : Int32} {at_ : Nat} (h1 : v1.toInt = (at_ : Int)) (hle : at_ + 1 ≤ len) : m_G_number g v1 1 σ = some (n1 (cI σ a) at_, σ) := by
  rw [gnum_in S h1 (n := 1) (by decide) hle, show fuel = 9999998 + 1 + 1 from rfl]
  show F_G_number_21 g (lq5 (F_G_number_21 g) (9999998 + 1)) v1 1 0 0 σ = _
  rw [gnum_step S _ (v1 := v1) (v2 := 1) (v4 := 0) (at_ := at_) (n := 1) (i := 0) h1 (by decide) (by decide) (by decide) hle]
  show F_G_number_21 g (lq5 (F_G_number_21 g) 9999998) v1 1 _ (0 + 1) _ = _
  rw [gnum_end _ _ (n := 1) (by decide) (by decide), sh0]
  rfl
theorem gnum2 {σ : CS} {g a len N : Nat} (S : SG σ g a len N) {v1 : Int32} {at_ : Nat} (h1 : v1.toInt = (at_ : Int)) (hle : at_ + 2 ≤ len) : m_G_number g v1 2 σ = some (n2 (cI σ a) at_, σ) := by
  rw [gnum_in S h1 (n := 2) (by decide) hle, show fuel = 9999997 + 1 + 1 + 1 from rfl]
  show F_G_number_21 g (lq5 (F_G_number_21 g) (9999997 + 1 + 1)) v1 2 0 0 σ = _
  rw [gnum_step S _ (v1 := v1) (v2 := 2) (v4 := 0) (at_ := at_) (n := 2) (i := 0) h1 (by decide) (by decide) (by decide) hle]
  show F_G_number_21 g (lq5 (F_G_number_21 g) (9999997 + 1)) v1 2 _ (0 + 1) _ = _
  rw [gnum_step S _ (v1 := v1) (v2 := 2) (v4 := 0 + 1) (at_ := at_) (n := 2) (i := 1) h1 (by decide) (by decide) (by decide) hle]
  show F_G_number_21 g (lq5 (F_G_number_21 g) 9999997) v1 2 _ (0 + 1 + 1) _ = _
  rw [gnum_end _ _ (n := 2) (by decide) (by decide), sh0]
  rfl
theorem gnum4 {σ : CS} {g a len N : Nat} (S : SG σ g a len N) {v1 : Int32} {at_ : Nat} (h1 : v1.toInt = (at_ : Int)) (hle : at_ + 4 ≤ len) : m_G_number g v1 4 σ = some (n4 (cI σ a) at_, σ) := by
  rw [gnum_in S h1 (n := 4) (by decide) hle, show fuel = 9999995 + 1 + 1 + 1 + 1 + 1 from rfl]
  show F_G_number_21 g (lq5 (F_G_number_21 g) (9999995 + 1 + 1 + 1 + 1)) v1 4 0 0 σ = _
  rw [gnum_step S _ (v1 := v1) (v2 := 4) (v4 := 0) (at_ := at_) (n := 4) (i := 0) h1 (by decide) (by decide) (by decide) hle]
  show F_G_number_21 g (lq5 (F_G_number_21 g) (9999995 + 1 + 1 + 1)) v1 4 _ (0 + 1) _ = _
  rw [gnum_step S _ (v1 := v1) (v2 := 4) (v4 := 0 + 1) (at_ := at_) (n := 4) (i := 1) h1 (by decide) (by decide) (by decide) hle]
  show F_G_number_21 g (lq5 (F_G_number_21 g) (9999995 + 1 + 1)) v1 4 _ (0 + 1 + 1) _ = _
  rw [gnum_step S _ (v1 := v1) (v2 := 4) (v4 := 0 + 1 + 1) (at_ := at_) (n := 4) (i := 2) h1 (by decide) (by decide) (by decide) hle]
  show F_G_number_21 g (lq5 (F_G_number_21 g) (9999995 + 1)) v1 4 _ (0 + 1 + 1 + 1) _ = _
  rw [gnum_step S _ (v1 := v1) (v2 := 4) (v4 := 0 + 1 + 1 + 1) (at_ := at_) (n := 4) (i := 3) h1 (by decide) (by decide) (by decide) hle]
  show F_G_number_21 g (lq5 (F_G_number_21 g) 9999995) v1 4 _ (0 + 1 + 1 + 1 + 1) _ = _
  rw [gnum_end _ _ (n := 4) (by decide) (by decide), sh0, sh4]
  rfl
theorem gseq {σ : CS} {g a len N : Nat} (S : SG σ g a len N) (h : 20 ≤ len) : m_G_seq g σ = some (n4 (cI σ a) 4, σ) := by
  unfold m_G_seq; rw [gd_t S.1, gnum4 S (at_ := 4) (by decide) (by omega), bc2_e]
theorem gack {σ : CS} {g a len N : Nat} (S : SG σ g a len N) (h : 20 ≤ len) : m_G_ack g σ = some (n4 (cI σ a) 8, σ) := by
  unfold m_G_ack; rw [gd_t S.1, gnum4 S (at_ := 8) (by decide) (by omega), bc2_e]
theorem gwindow {σ : CS} {g a len N : Nat} (S : SG σ g a len N) (h : 20 ≤ len) : m_G_window g σ = some (n2 (cI σ a) 14, σ) := by
  unfold m_G_window; rw [gd_t S.1, gnum2 S (at_ := 14) (by decide) (by omega), bc2_e]
theorem ghas {σ : CS} {g a len N : Nat} (S : SG σ g a len N) (h : 20 ≤ len) (v : Int32) : m_G_has g v σ = some (if n1 (cI σ a) 13 &&& v = 0 then 0 else 1, σ) := by
  unfold m_G_has
  rw [gd_t S.1, gnum1 S (at_ := 13) (by decide) (by omega), bc2_e]
  split
  · exact gd_t z01_0
  · exact gd_t z01_1
/-- the header's length as the segment tells it -/
def hl4 (C : Nat → Int32) : Int32 := (((n1 C 12).toUInt32 >>> ((4 : Int32).toUInt32 &&& Int32.toUInt32 31)).toInt32) * (4 : Int32)
theorem ghl {σ : CS} {g a len N : Nat} (S : SG σ g a len N) (h : 20 ≤ len) : m_G_headerLength g σ = some (hl4 (cI σ a), σ) := by
  unfold m_G_headerLength; rw [gd_t S.1, gnum1 S (at_ := 12) (by decide) (by omega), bc2_e]; rfl
theorem gdl {σ : CS} {g a len N : Nat} (S : SG σ g a len N) (h : 20 ≤ len) : m_G_dataLength g σ = some (Int32.ofNat len - hl4 (cI σ a), σ) := by
  unfold m_G_dataLength; rw [gd_t S.1, bd_e, gd_t S.1, ghl S h, bc2_e, S.2.2.2.1]
def fl01 (x : Int32) : Int32 := if x = 0 then 0 else 1
theorem gspan {σ : CS} {g a len N : Nat} (S : SG σ g a len N) (h : 20 ≤ len) : m_G_span g σ = some (Int32.ofNat len - hl4 (cI σ a) + fl01 (n1 (cI σ a) 13 &&& 2) + fl01 (n1 (cI σ a) 13 &&& 1), σ) := by
  unfold m_G_span
  rw [gd_t S.1, gdl S h, bc2_e, gd_t S.1, ghas S h 2, bc2_e]
  unfold b_G_span_17 b_G_span_31
  rw [gd_t S.1, ghas S h 1, bc2_e]
  unfold fl01
  by_cases h1 : n1 (cI σ a) 13 &&& 2 = 0 <;> by_cases h2 : n1 (cI σ a) 13 &&& 1 = 0 <;> simp [h1, h2, gd, S.1, bc2]
theorem rhere (ρ : RS) {k at_ : Nat} {v1 v2 : Int32} (h1 : v1.toInt = (k : Int)) (h2 : v2.toInt = (at_ : Int)) (hk : k < 513) (ha : at_ < 1484) : m_here v1 v2 ρ = some (n1 (Sk ρ k) at_, ρ) := by
  have e := x_slot h1 h2 hk ha
  unfold m_here
  rw [gd_t (x32_in e (by omega)), bd_e, x32_n e]
  rfl
theorem rtwo (ρ : RS) {k at_ : Nat} {v1 v2 : Int32} (h1 : v1.toInt = (k : Int)) (h2 : v2.toInt = (at_ : Int)) (hk : k < 513) (ha : at_ + 1 < 1484) : m_two v1 v2 ρ = some (n2 (Sk ρ k) at_, ρ) := by
  have e1 : (v2 + 1).toInt = ((at_ + 1 : Nat) : Int) := by
    have := x32_add h2 (show (1 : Int32).toInt = 1 by decide) (by omega) (by omega)
    rw [this]; omega
  unfold m_two
  rw [rhere ρ h1 h2 hk (by omega), bc2_e, rhere ρ h1 e1 hk ha, bc2_e]
  rfl
theorem rfour (ρ : RS) {k at_ : Nat} {v1 v2 : Int32} (h1 : v1.toInt = (k : Int)) (h2 : v2.toInt = (at_ : Int)) (hk : k < 513) (ha : at_ + 3 < 1484) : m_four v1 v2 ρ = some (n4 (Sk ρ k) at_, ρ) := by
  have e1 : (v2 + 2).toInt = ((at_ + 2 : Nat) : Int) := by
    have := x32_add h2 (show (2 : Int32).toInt = 2 by decide) (by omega) (by omega)
    rw [this]; omega
  unfold m_four
  rw [rtwo ρ h1 h2 hk (by omega), bc2_e, rtwo ρ h1 e1 hk (by omega), bc2_e]
  rfl
