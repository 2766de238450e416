/-! checksums, on both sides -/
theorem x32_div {a b : Int32} {m n : Nat} (ha : a.toInt = (m : Int)) (hb : b.toInt = (n : Int)) (hm : m < 2147483648) (hn : 0 < n) : (a / b).toInt = ((m / n : Nat) : Int) := by
  rw [Int32.toInt_div, ha, hb]
  have h1 : (m : Int).tdiv (n : Int) = ((m / n : Nat) : Int) := rfl
  rw [h1]
  have h2 : m / n ≤ m := Nat.div_le_self m n
  generalize m / n = d at h2 ⊢
  exact Int.bmod_eq_of_le (by omega) (by omega)
theorem x32_even {v : Int32} {i : Nat} (h : v.toInt = (i : Int)) (hi : i < 1073741824) : ((v - v / (2 : Int32) * (2 : Int32)) = 0) ↔ i % 2 = 0 := by
  have e1 := x32_div h (show (2 : Int32).toInt = ((2 : Nat) : Int) by decide) (by omega) (by decide)
  have e2 := x32_mul e1 (show (2 : Int32).toInt = 2 by decide) (by omega) (by omega)
  have e3 := x32_sub h e2 (by omega) (by omega)
  rw [x32_eq e3 (show (0 : Int32).toInt = 0 by decide)]
  omega
theorem x64_add {a b : Int64} {m n : Int} (ha : a.toInt = m) (hb : b.toInt = n) (h1 : -4611686018427387904 ≤ m + n) (h2 : m + n < 4611686018427387904) : (a + b).toInt = m + n := by
  rw [Int64.toInt_add, ha, hb]
  exact Int.bmod_eq_of_le (by omega) (by omega)
theorem x64_sub {a b : Int64} {m n : Int} (ha : a.toInt = m) (hb : b.toInt = n) (h1 : -4611686018427387904 ≤ m - n) (h2 : m - n < 4611686018427387904) : (a - b).toInt = m - n := by
  rw [Int64.toInt_sub, ha, hb]
  exact Int.bmod_eq_of_le (by omega) (by omega)
theorem x64_lt {a b : Int64} {m n : Int} (ha : a.toInt = m) (hb : b.toInt = n) : a < b ↔ m < n := by
  rw [Int64.lt_iff_toInt_lt, ha, hb]
theorem x64_le {a b : Int64} {m n : Int} (ha : a.toInt = m) (hb : b.toInt = n) : a ≤ b ↔ m ≤ n := by
  rw [Int64.le_iff_toInt_le, ha, hb]
theorem x64_of32 {a : Int32} {m : Int} (ha : a.toInt = m) : a.toInt64.toInt = m := by
  rw [Int32.toInt_toInt64, ha]
theorem gws_loop {σ : CS} {g a len N : Nat} (S : SG σ g a len N) : ∀ (r i n : Nat) (v1 v2 : Int32), i + r = len → r < n → v1.toInt = ((5129 + len + ws (cI σ a) i : Nat) : Int) → v2.toInt = (i : Int) → lq3 (F_G_wordSum_11 g) n v1 v2 σ = some (Int32.ofNat (fold (fold (5129 + len + ws (cI σ a) len))), σ) := by
  obtain ⟨s1, s2, s3, s4, s5, s6, s7⟩ := S
  intro r
  induction r with
  | zero =>
    intro i n v1 v2 h1 h2 h3 h4
    obtain ⟨n, rfl⟩ : ∃ k, n = k + 1 := ⟨n - 1, by omega⟩
    have hi : i = len := by omega
    subst hi
    show F_G_wordSum_11 g (lq3 (F_G_wordSum_11 g) n) v1 v2 σ = _
    unfold F_G_wordSum_11
    have hle := ws_le (cI σ a) i
    rw [gd_t s1, bd_e, s4, if_pos (by rw [x32_le (x32_nat (by omega)) h4]; omega), bd_e]
    have f1 : ((v1 &&& (65535 : Int32)) + ((v1.toUInt32 >>> ((16 : Int32).toUInt32 &&& Int32.toUInt32 31)).toInt32)).toInt = ((fold (5129 + i + ws (cI σ a) i) : Nat) : Int) := by
      rw [x32_add (and_65535 h3) (shr_u16 h3) (by omega) (by omega)]
      unfold fold; omega
    have f2 := x32_add (and_65535 f1) (shr_u16 f1) (by unfold fold; omega) (by unfold fold; omega)
    congr 2
    refine x32_of (by have := ff_lt (5129 + i + ws (cI σ a) i) (by omega); omega) ?_
    rw [f2]
    generalize fold (5129 + i + ws (cI σ a) i) = w
    unfold fold
    omega
  | succ r ih =>
    intro i n v1 v2 h1 h2 h3 h4
    obtain ⟨n, rfl⟩ : ∃ k, n = k + 1 := ⟨n - 1, by omega⟩
    show F_G_wordSum_11 g (lq3 (F_G_wordSum_11 g) n) v1 v2 σ = _
    unfold F_G_wordSum_11
    have hle := ws_le (cI σ a) i
    obtain ⟨b1, b2⟩ := bv_s (cI σ a) i
    have hi2 : (v2 + 1).toInt = ((i + 1 : Nat) : Int) := by
      rw [x32_add h4 (show (1 : Int32).toInt = 1 by decide) (by omega) (by omega)]; omega
    rw [gd_t s1, bd_e, s4, if_neg (by rw [x32_le (x32_nat (by omega)) h4]; omega), gd_t s1, s2, bc_e, gd_t ⟨s3, by rw [s5]; exact x32_in h4 (by omega)⟩, bd_e, bd_e, gd_t (by decide), x32_n h4]
    unfold b_G_wordSum_45
    by_cases he : i % 2 = 0
    · rw [if_pos ((x32_even h4 (by omega)).mpr he), bd_e, bd_e]
      refine ih (i + 1) n _ _ (by omega) (by omega) ?_ hi2
      have e := shl_8 b1 (by omega)
      have e2 : (v1 + (cI σ a i &&& 255) <<< ((8 : Int32) &&& 31)).toInt = _ := x32_add h3 e (by omega) (by omega)
      rw [e2]
      show _ = ((5129 + len + (ws (cI σ a) i + wt (cI σ a) i) : Nat) : Int)
      unfold wt
      rw [if_pos he]
      omega
    · rw [if_neg (fun q => he ((x32_even h4 (by omega)).mp q)), bd_e, bd_e]
      refine ih (i + 1) n _ _ (by omega) (by omega) ?_ hi2
      have e2 : (v1 + (cI σ a i &&& 255)).toInt = _ := x32_add h3 b1 (by omega) (by omega)
      rw [e2]
      show _ = ((5129 + len + (ws (cI σ a) i + wt (cI σ a) i) : Nat) : Int)
      unfold wt
      rw [if_neg he]
      omega
theorem gws {σ : CS} {g a len N : Nat} (S : SG σ g a len N) : m_G_wordSum g σ = some (Int32.ofNat (fold (fold (5129 + len + ws (cI σ a) len))), σ) := by
  have h7 := S.2.2.2.2.2.2
  have h6 := S.2.2.2.2.2.1
  unfold m_G_wordSum
  rw [gd_t S.1, bd_e, bd_e, S.2.2.2.1]
  refine gws_loop S len 0 fuel _ _ (by omega) (by show len < 10000000; omega) ?_ (by decide)
  rw [x32_add (show (5129 : Int32).toInt = 5129 by decide) (x32_nat (n := len) (by omega)) (by omega) (by omega)]
  show _ = ((5129 + len + 0 : Nat) : Int)
  omega
theorem and64_65535 {v : Int64} {n : Nat} (h : v.toInt = (n : Int)) : (v &&& 65535).toInt = ((n % 65536 : Nat) : Int) := by
  refine b64_of (by omega) ?_
  rw [Int64.toBitVec_and, BitVec.toNat_and, b64_nat h, show (65535 : Int64).toBitVec.toNat = 2 ^ 16 - 1 by decide, Nat.and_two_pow_sub_one_eq_mod]
theorem shr64_16 {v : Int64} {n : Nat} (h : v.toInt = (n : Int)) : (v >>> ((16 : Int32).toInt64 &&& 63)).toInt = ((n / 65536 : Nat) : Int) := by
  show (v >>> ((16 : Int32).toInt64 &&& 63)).toBitVec.toInt = _
  rw [Int64.toBitVec_shiftRight, show ((16 : Int32).toInt64 &&& 63).toBitVec.smod 64 = 16#64 by decide, BitVec.sshiftRight_eq', BitVec.toInt_sshiftRight]
  show v.toInt >>> 16 = _
  rw [h, Int.shiftRight_eq_div_pow]
  rfl
theorem x32_of64 {v : Int64} {n : Nat} (h : v.toInt = (n : Int)) (hn : n < 2147483648) : v.toInt32 = Int32.ofNat n := by
  refine x32_of hn ?_
  rw [Int64.toInt_toInt32, h]
  exact Int.bmod_eq_of_le (by omega) (by omega)
theorem rck_end (ρ : RS) {v3 : Int64} {T : Nat} (hT : T < 65536) (h : v3.toInt = (T : Int)) (n : Nat) : lq2 F_checksum_110 (n + 1) v3 ρ = some (Int32.ofNat T ^^^ 65535, ρ) := by
  show F_checksum_110 (lq2 F_checksum_110 n) v3 ρ = _
  unfold F_checksum_110
  rw [if_pos (by rw [lg_cmp_le, x64_le h (show (65535 : Int64).toInt = 65535 by decide)]; omega), x32_of64 h (by omega)]
theorem rck_one (ρ : RS) {v3 : Int64} {T : Nat} (hT : T < 134217728) (hb : 65536 ≤ T) (h : v3.toInt = (T : Int)) (n : Nat) : ∃ w : Int64, w.toInt = ((fold T : Nat) : Int) ∧ lq2 F_checksum_110 (n + 1) v3 ρ = lq2 F_checksum_110 n w ρ := by
  refine ⟨(v3 &&& (65535 : Int64)) + (v3 >>> ((16 : Int32).toInt64 &&& 63)), ?_, ?_⟩
  · rw [x64_add (and64_65535 h) (shr64_16 h) (by omega) (by omega)]
    unfold fold; omega
  · show F_checksum_110 (lq2 F_checksum_110 n) v3 ρ = _
    unfold F_checksum_110
    rw [if_neg (by rw [lg_cmp_le, x64_le h (show (65535 : Int64).toInt = 65535 by decide)]; omega), bd_e]
theorem rck_all (ρ : RS) {v3 : Int64} {T : Nat} (hT : T < 134217728) (h : v3.toInt = (T : Int)) (n : Nat) : lq2 F_checksum_110 (n + 3) v3 ρ = some (Int32.ofNat (fold (fold T)) ^^^ 65535, ρ) := by
  by_cases h1 : T < 65536
  · rw [rck_end ρ h1 h, fold_id T h1, fold_id T h1]
  · obtain ⟨w, hw, e⟩ := rck_one ρ hT (by omega) h (n + 2)
    rw [e]
    have hf : fold T < 134217728 := by unfold fold; omega
    by_cases h2 : fold T < 65536
    · rw [rck_end ρ h2 hw, fold_id _ h2]
    · obtain ⟨w2, hw2, e2⟩ := rck_one ρ hf (by omega) hw (n + 1)
      rw [e2, rck_end ρ (ff_lt T hT) hw2]
theorem rck_loop (ρ : RS) {k len : Nat} {v1 : Int32} (h1 : v1.toInt = (k : Int)) (hk : k < 513) (hlen : ρ.1 3 k = Int32.ofNat len) (hl : len ≤ 1484) : ∀ (r i n : Nat) (v3 : Int64) (v5 : Int32), i + r = len → r < n → v3.toInt = ((5129 + len + wx (Sk ρ k) i : Nat) : Int) → v5.toInt = (i : Int) → lq4 F_checksum_47 n v1 v3 v5 ρ = some (Int32.ofNat (fold (fold (5129 + len + wx (Sk ρ k) len))) ^^^ 65535, ρ) := by
  intro r
  induction r with
  | zero =>
    intro i n v3 v5 e1 e2 h3 h5
    obtain ⟨n, rfl⟩ : ∃ k, n = k + 1 := ⟨n - 1, by omega⟩
    have hi : i = len := by omega
    subst hi
    show F_checksum_47 (lq4 F_checksum_47 n) v1 v3 v5 ρ = _
    have hle := wx_le (Sk ρ k) i
    unfold F_checksum_47
    rw [gd_t (x32_in h1 hk), bd_e, x32_n h1, hlen, if_pos (by rw [x32_le (x32_nat (by omega)) h5]; omega)]
    exact rck_all ρ (by omega) h3 9999997
  | succ r ih =>
    intro i n v3 v5 e1 e2 h3 h5
    obtain ⟨n, rfl⟩ : ∃ k, n = k + 1 := ⟨n - 1, by omega⟩
    show F_checksum_47 (lq4 F_checksum_47 n) v1 v3 v5 ρ = _
    have hle := wx_le (Sk ρ k) i
    obtain ⟨b1, b2⟩ := bv_s (Sk ρ k) i
    have hi2 : (v5 + 1).toInt = ((i + 1 : Nat) : Int) := by
      rw [x32_add h5 (show (1 : Int32).toInt = 1 by decide) (by omega) (by omega)]; omega
    unfold F_checksum_47
    rw [gd_t (x32_in h1 hk), bd_e, x32_n h1, hlen, if_neg (by rw [x32_le (x32_nat (by omega)) h5]; omega)]
    by_cases h16 : i = 16
    · rw [if_pos (by rw [x32_eq h5 (show (16 : Int32).toInt = 16 by decide)]; omega)]
      unfold b_checksum_104
      rw [bd_e]
      refine ih (i + 1) n _ _ (by omega) (by omega) ?_ hi2
      rw [h3]
      show _ = ((5129 + len + (wx (Sk ρ k) i + (if i = 16 ∨ i = 17 then 0 else wt (Sk ρ k) i)) : Nat) : Int)
      rw [if_pos (Or.inl h16)]; rfl
    · rw [if_neg (by rw [x32_eq h5 (show (16 : Int32).toInt = 16 by decide)]; omega)]
      by_cases h17 : i = 17
      · rw [if_pos (by rw [x32_eq h5 (show (17 : Int32).toInt = 17 by decide)]; omega)]
        unfold b_checksum_104
        rw [bd_e]
        refine ih (i + 1) n _ _ (by omega) (by omega) ?_ hi2
        rw [h3]
        show _ = ((5129 + len + (wx (Sk ρ k) i + (if i = 16 ∨ i = 17 then 0 else wt (Sk ρ k) i)) : Nat) : Int)
        rw [if_pos (Or.inr h17)]; rfl
      · rw [if_neg (by rw [x32_eq h5 (show (17 : Int32).toInt = 17 by decide)]; omega), gd_t (by decide)]
        have hne : ¬ (i = 16 ∨ i = 17) := by omega
        unfold b_checksum_102 b_checksum_104
        by_cases he : i % 2 = 0
        · rw [if_pos ((x32_even h5 (by omega)).mpr he), rhere ρ h1 h5 hk (by omega), bc2_e, bd_e, bd_e]
          refine ih (i + 1) n _ _ (by omega) (by omega) ?_ hi2
          rw [x64_add h3 (x64_of32 (shl_8 b1 (by omega))) (by omega) (by omega)]
          show _ = ((5129 + len + (wx (Sk ρ k) i + (if i = 16 ∨ i = 17 then 0 else wt (Sk ρ k) i)) : Nat) : Int)
          unfold wt
          rw [if_neg hne, if_pos he]
          omega
        · rw [if_neg (fun q => he ((x32_even h5 (by omega)).mp q)), rhere ρ h1 h5 hk (by omega), bc2_e, bd_e, bd_e]
          refine ih (i + 1) n _ _ (by omega) (by omega) ?_ hi2
          rw [x64_add h3 (x64_of32 b1) (by omega) (by omega)]
          show _ = ((5129 + len + (wx (Sk ρ k) i + (if i = 16 ∨ i = 17 then 0 else wt (Sk ρ k) i)) : Nat) : Int)
          unfold wt
          rw [if_neg hne, if_neg he]
          omega
theorem rck (ρ : RS) {k len : Nat} {v1 : Int32} (h1 : v1.toInt = (k : Int)) (hk : k < 513) (hlen : ρ.1 3 k = Int32.ofNat len) (hl : len ≤ 1484) (hg : ρ.1 4 k = 0 ∨ ρ.1 4 k = 1) : m_checksum v1 ρ = some (Int32.ofNat (fold (fold (5129 + len + wx (Sk ρ k) len))) ^^^ 65535, ρ) := by
  unfold m_checksum
  rw [gd_t (x32_in h1 hk), bd_e, bd_e, gd_t (x32_in h1 hk), bd_e, gd_t (x32_in h1 hk), bd_e, bd_e, x32_n h1, hlen]
  refine rck_loop ρ h1 hk hlen hl len 0 fuel _ _ (by omega) (by show len < 10000000; omega) ?_ (by decide)
  have hl64 := x64_of32 (x32_nat (n := len) (by omega))
  rcases hg with hg | hg
  · rw [hg, show ((2560 : Int64) + ((1 : Int32) - 0 + 1).toInt64 + 2560 + ((0 : Int32) + 1).toInt64 + 6) = 5129 by decide, x64_add (show (5129 : Int64).toInt = 5129 by decide) hl64 (by omega) (by omega)]
    show _ = ((5129 + len + 0 : Nat) : Int)
    omega
  · rw [hg, show ((2560 : Int64) + ((1 : Int32) - 1 + 1).toInt64 + 2560 + ((1 : Int32) + 1).toInt64 + 6) = 5129 by decide, x64_add (show (5129 : Int64).toInt = 5129 by decide) hl64 (by omega) (by omega)]
    show _ = ((5129 + len + 0 : Nat) : Int)
    omega
