/-! round-trip times, both sides -/
theorem x64_mul {a b : Int64} {m n : Int} (ha : a.toInt = m) (hb : b.toInt = n) (h1 : -4611686018427387904 ≤ m * n) (h2 : m * n < 4611686018427387904) : (a * b).toInt = m * n := by
  rw [Int64.toInt_mul, ha, hb]
  exact Int.bmod_eq_of_le (by omega) (by omega)
theorem x64_div {a b : Int64} {m n : Nat} (ha : a.toInt = (m : Int)) (hb : b.toInt = (n : Int)) (hm : m < 4611686018427387904) (hn : 0 < n) : (a / b).toInt = ((m / n : Nat) : Int) := by
  rw [Int64.toInt_div, ha, hb]
  have h1 : (m : Int).tdiv (n : Int) = ((m / n : Nat) : Int) := rfl
  rw [h1]
  have h2 : m / n ≤ m := Nat.div_le_self m n
  generalize m / n = d at h2 ⊢
  exact Int.bmod_eq_of_le (by omega) (by omega)
theorem x64_eq' {a b : Int64} {m n : Int} (ha : a.toInt = m) (hb : b.toInt = n) (h : m = n) : a = b := Int64.toInt_inj.mp (by rw [ha, hb, h])
theorem o64 {n : Nat} (h : n < 2147483648) : (Int32.ofNat n).toInt64.toInt = (n : Int) := x64_of32 (x32_nat h)
theorem x64_nlt {a b : Int64} {m n : Int} (ha : a.toInt = m) (hb : b.toInt = n) (h : n ≤ m) : ¬ a < b := fun q => by have := (x64_lt ha hb).mp q; omega
theorem x64_nle {a b : Int64} {m n : Int} (ha : a.toInt = m) (hb : b.toInt = n) (h : n < m) : ¬ a ≤ b := fun q => by have := (x64_le ha hb).mp q; omega
section MS
variable {q e : Nat} {σ : CS} {ρ : RS} {τ : Nat} {rn : Int32} {tr : Nat}
/-- the last line: RTO out of the two -/
theorem rto_sim (hq : q = 7 ∨ q = 14) (he : e < 2) {v1 : Int32} (hv : v1.toInt = (e : Int)) {s v : Nat} (h4 : cJ σ (q + 5) 4 = (Int32.ofNat s).toInt64) (h5 : cJ σ (q + 5) 5 = (Int32.ofNat v).toInt64) (h25 : ρ.1 25 e = Int32.ofNat s) (h26 : ρ.1 26 e = Int32.ofNat v) (hs : s ≤ 600000000) (hvv : v ≤ 600000000) :
    ∃ r, 200 ≤ r ∧ r ≤ 60000 ∧ b_Z_measure_70 (q + 5) σ = some (wi σ (q + 5) 0 (Int32.ofNat r)) ∧ b_measured_151 v1 ρ = some (si ρ 23 e (Int32.ofNat r)) := by
  have hi := x32_in hv he
  have hcl := x32_n hv
  have hx : ((Int32.ofNat s).toInt64 + (4 : Int64) * (Int32.ofNat v).toInt64).toInt = ((s + 4 * v : Nat) : Int) := by
    rw [x64_add (o64 (by omega)) (x64_mul (show (4 : Int64).toInt = 4 by decide) (o64 (by omega)) (by omega) (by omega)) (by omega) (by omega)]; omega
  have t6 : (60000 : Int64).toInt = 60000 := by decide
  have t2 : (200 : Int64).toInt = 200 := by decide
  refine ⟨max 200 (min (s + 4 * v) 60000), by omega, by omega, ?_, ?_⟩
  · unfold b_Z_measure_70
    rw [bd_e, bd_e, h4, h5]
    generalize (Int32.ofNat s).toInt64 + (4 : Int64) * (Int32.ofNat v).toInt64 = x at hx
    rw [bd_e, bd_e, bd_e]
    by_cases a : s + 4 * v < 60000
    · rw [if_pos ((x64_lt hx t6).mpr (by omega))]
      by_cases b : s + 4 * v < 200
      · rw [if_pos ((x64_lt hx t2).mpr (by omega)), show max 200 (min (s + 4 * v) 60000) = 200 by omega]; rfl
      · rw [if_neg (x64_nlt hx t2 (by omega)), x32_of64 hx (by omega), show max 200 (min (s + 4 * v) 60000) = s + 4 * v by omega]
    · rw [if_neg (x64_nlt hx t6 (by omega)), if_neg (show ¬ (60000 : Int64) < 200 by decide), show max 200 (min (s + 4 * v) 60000) = 60000 by omega]; rfl
  · unfold b_measured_151 b_measured_209
    simp only [gd_t hi, bd_e]
    rw [hcl, h25, h26]
    generalize (Int32.ofNat s).toInt64 + (4 : Int64) * (Int32.ofNat v).toInt64 = x at hx
    by_cases b : s + 4 * v < 200
    · rw [if_neg (fun h => by have := (x64_le t2 hx).mp ((lg_cmp_ge _ _).mp h); omega), show max 200 (min (s + 4 * v) 60000) = 200 by omega]; rfl
    · rw [if_pos ((lg_cmp_ge _ _).mpr ((x64_le t2 hx).mpr (by omega)))]
      by_cases a : s + 4 * v ≤ 60000
      · rw [if_pos ((lg_cmp_le _ _).mpr ((x64_le hx t6).mpr (by omega))), x32_of64 hx (by omega), show max 200 (min (s + 4 * v) 60000) = s + 4 * v by omega]
      · rw [if_neg (fun h => by have := (x64_le hx t6).mp ((lg_cmp_le _ _).mp h); omega), show max 200 (min (s + 4 * v) 60000) = 60000 by omega]; rfl
theorem measured_sim (hqe : q = 7 ∧ e = 0 ∨ q = 14 ∧ e = 1) (G : G4 q e σ ρ τ rn tr) (ht : cJ σ 3 0 = ρ.2 0 3) (htt : (cJ σ 3 0).toInt = (τ : Int)) (hτ : τ ≤ 600000000) {v1 : Int32} (hv : v1.toInt = (e : Int)) (ak : Int32) :
    ∃ σ' ρ', m_Z_heedAck (q + 5) ak (cJ σ 3 0) σ = some σ' ∧ m_measured v1 ak ρ = some ρ' ∧ G4 q e σ' ρ' τ rn tr ∧ fr (fun x => x ≠ q + 5) σ σ' ∧ σ'.2.2 = σ.2.2 ∧ (∀ r, r ≠ 23 → r ≠ 25 → r ≠ 26 → r ≠ 35 → ρ'.1 r = ρ.1 r) ∧ ρ'.2 = ρ.2 ∧ RF e ρ ρ' := by
  have hq : q = 7 ∨ q = 14 := by omega
  have he : e < 2 := by omega
  have hi := x32_in hv he
  have hcl := x32_n hv
  have G0 := G
  obtain ⟨⟨q1, rt, rt1, rt2, rt3⟩, q2, q5, q6, ⟨q7, q7a, q7b⟩, ⟨q8, q8a, q8b⟩, ⟨q9, q9a⟩, q10, ⟨q11, A, A1, A2⟩⟩ := G
  unfold m_Z_heedAck b_Z_heedAck_31 m_measured b_measured_20
  rw [gd_t (by omega), bd_e]
  simp only [gd_t hi, bd_e]
  rw [hcl, q9, q10]
  have same : ∃ σ' ρ', some σ = some σ' ∧ some ρ = some ρ' ∧ G4 q e σ' ρ' τ rn tr ∧ fr (fun x => x ≠ q + 5) σ σ' ∧ σ'.2.2 = σ.2.2 ∧ (∀ r, r ≠ 23 → r ≠ 25 → r ≠ 26 → r ≠ 35 → ρ'.1 r = ρ.1 r) ∧ ρ'.2 = ρ.2 ∧ RF e ρ ρ' := ⟨σ, ρ, rfl, rfl, G0, fr.rf, rfl, fun _ _ _ _ _ => rfl, rfl, RF.rf e ρ⟩
  by_cases h6 : cI σ (q + 5) 6 = 0
  · rw [if_pos h6, if_pos h6]
    exact same
  rw [if_neg h6, if_neg h6]
  by_cases hge : ak - cI σ (q + 5) 7 < 0
  · have hge' : ¬ (0 : Int32) ≤ ak - cI σ (q + 5) 7 := fun h => by
      have := Int32.lt_iff_toInt_lt.mp hge
      have := Int32.le_iff_toInt_le.mp h
      omega
    rw [if_pos hge, if_neg hge']
    exact same
  have hge' : (0 : Int32) ≤ ak - cI σ (q + 5) 7 := Int32.not_lt.mp hge
  rw [if_neg hge, if_pos hge', gd_t (Or.inl trivial), nar_b0]
  clear same
  obtain ⟨r, hr⟩ : ∃ r, r = τ - A := ⟨_, rfl⟩
  obtain ⟨σ1, hσ1⟩ : ∃ x, x = wi σ (q + 5) 6 0 := ⟨_, rfl⟩
  obtain ⟨ρ1, hρ1⟩ : ∃ x, x = si ρ 35 e 0 := ⟨_, rfl⟩
  rw [← hσ1, ← hρ1]
  have j1 : cJ σ1 = cJ σ := by rw [hσ1]; rfl
  have d64 : (cJ σ 3 0 - cJ σ (q + 5) 8).toInt = (r : Int) := by rw [x64_sub htt A2 (by omega) (by omega)]; omega
  have d64' : cJ σ 3 0 - cJ σ (q + 5) 8 = (Int32.ofNat r).toInt64 := x64_eq' d64 (o64 (by omega)) rfl
  have d32' : (ρ.2 0 3 - ρ.2 34 e).toInt32 = Int32.ofNat r := by rw [← ht, q11]; exact x32_of64 d64 (by omega)
  have r25 : ρ1.1 25 e = ρ.1 25 e := by rw [hρ1, si_ne _ _ _ _ (by omega)]
  rw [j1, d64', d32', r25]
  have c1 : ∀ j, j ≠ 6 → cI σ1 (q + 5) j = cI σ (q + 5) j := fun j hj => by rw [hσ1, wi_ne _ _ _ _ (by omega)]
  have F1 : fr (fun x => x ≠ q + 5) σ σ1 := by rw [hσ1]; exact fr_wi σ (q + 5) 6 0
  have R1 : RF e ρ ρ1 := by rw [hρ1]; exact RF.si ρ 0 (by omega) (by omega)
  -- what comes out of the new pair
  have fin : ∀ (s v : Nat) (σ2 : CS) (ρ2 : RS), s ≤ 600000000 → v ≤ 600000000 → cI σ2 = cI σ1 → cJ σ2 (q + 5) 4 = (Int32.ofNat s).toInt64 → cJ σ2 (q + 5) 5 = (Int32.ofNat v).toInt64 → (∀ x j, x ≠ q + 5 ∨ j ≠ 4 ∧ j ≠ 5 → cJ σ2 x j = cJ σ1 x j) → σ2.2.2 = σ1.2.2 → ρ2.1 25 e = Int32.ofNat s → ρ2.1 26 e = Int32.ofNat v → (∀ r, r ≠ 25 → r ≠ 26 → ρ2.1 r = ρ1.1 r) → ρ2.2 = ρ1.2 → RF e ρ1 ρ2 →
      ∃ σ' ρ', b_Z_measure_70 (q + 5) σ2 = some σ' ∧ b_measured_151 v1 ρ2 = some ρ' ∧ G4 q e σ' ρ' τ rn tr ∧ fr (fun x => x ≠ q + 5) σ σ' ∧ σ'.2.2 = σ.2.2 ∧ (∀ r, r ≠ 23 → r ≠ 25 → r ≠ 26 → r ≠ 35 → ρ'.1 r = ρ.1 r) ∧ ρ'.2 = ρ.2 ∧ RF e ρ ρ' := by
    intro s v σ2 ρ2 hs hvv a1 a2 a3 a4 a5 a6 a7 a8 a9 a10
    obtain ⟨w, w1, w2, w3, w4⟩ := rto_sim hq he hv a2 a3 a6 a7 hs hvv
    refine ⟨_, _, w3, w4, ?_, ?_, ?_, fun r' x1 x2 x3 x4 => ?_, ?_, ?_⟩
    · unfold G4
      have k0 : ∀ j, j ≠ 0 → j ≠ 6 → cI (wi σ2 (q + 5) 0 (Int32.ofNat w)) (q + 5) j = cI σ (q + 5) j := fun j x y => by rw [wi_ne _ _ _ _ (by omega), a1, c1 j y]
      have k8 : ∀ r', r' ≠ 23 → r' ≠ 25 → r' ≠ 26 → r' ≠ 35 → (si ρ2 23 e (Int32.ofNat w)).1 r' e = ρ.1 r' e := fun r' x y z t => by rw [si_ne _ _ _ _ (by omega), a8 r' y z, hρ1, si_ne _ _ _ _ (by omega)]
      rw [wi_eq, k0 1 (by omega) (by omega), k0 2 (by omega) (by omega), k0 7 (by omega) (by omega), wi_J, a2, a3, a4 (q + 5) 3 (by omega), a4 (q + 5) 8 (by omega), j1, si_eq, k8 24 (by omega) (by omega) (by omega) (by omega), k8 27 (by omega) (by omega) (by omega) (by omega), si_ne _ _ _ _ (by omega : (25 : Nat) ≠ 23 ∨ e ≠ e), si_ne _ _ _ _ (by omega : (26 : Nat) ≠ 23 ∨ e ≠ e), a6, a7, si_2, a9, show ρ1.2 = ρ.2 by rw [hρ1]; rfl]
      have k6 : cI (wi σ2 (q + 5) 0 (Int32.ofNat w)) (q + 5) 6 = 0 := by rw [wi_ne _ _ _ _ (by omega), a1, hσ1, wi_eq]
      have k35 : (si ρ2 23 e (Int32.ofNat w)).1 35 e = 0 := by rw [si_ne _ _ _ _ (by omega), a8 35 (by omega) (by omega), hρ1, si_eq]
      rw [k6, k35]
      have es : (Int32.ofNat s).toInt = (s : Int) := x32_nat (by omega)
      have ev : (Int32.ofNat v).toInt = (v : Int) := x32_nat (by omega)
      exact ⟨⟨rfl, w, by omega, w2, rfl⟩, q2, q5, q6, ⟨rfl, by omega, by omega⟩, ⟨rfl, by omega, by omega⟩, ⟨rfl, Or.inl rfl⟩, q10, ⟨q11, A, A1, A2⟩⟩
    · refine fr.tr (fr.tr F1 (Q := fun x => x ≠ q + 5) (fun x hx => ⟨by rw [a1], funext fun j => a4 x j (by omega), ?_, ?_, ?_⟩) (fun _ h => h)) (fr_wi σ2 (q + 5) 0 _) (fun _ h => h)
      · unfold cR; rw [a5]
      · unfold cN; rw [a5]
      · unfold kd cT; rw [a5]
    · show σ2.2.2 = _
      rw [a5, hσ1]; rfl
    · funext j
      rw [si_ne _ _ _ _ (by omega), a8 r' x2 x3, hρ1, si_ne _ _ _ _ (by omega)]
    · rw [si_2, a9, hρ1]; rfl
    · exact (R1.tr a10).tr (RF.si ρ2 _ (by omega) (by omega))
  unfold m_Z_measure
  rw [gd_t (by omega), bd_e, j1, q7]
  generalize hs0 : ρ.1 25 e = s0 at q7 q7a q7b
  have r26 : ρ1.1 26 e = ρ.1 26 e := by rw [hρ1, si_ne _ _ _ _ (by omega)]
  by_cases hneg : s0.toInt < 0
  · have n64 : s0.toInt64.toInt = s0.toInt := x64_of32 rfl
    have hx0 : ¬ (0 : Int32) ≤ s0 := fun h => by have := Int32.le_iff_toInt_le.mp h; have := z32_0; omega
    have hx1 : ¬ (0 : Int32) ≤ lg_cmp s0.toInt64 0 := fun h => by have := (x64_le z64_0 n64).mp ((lg_cmp_ge _ _).mp h); omega
    rw [if_neg hx1, bd_e, gd_t (by decide), bd_e, if_neg hx0, gd_t (by decide)]
    have h2 : (Int32.ofNat r).toInt64 / (2 : Int64) = (Int32.ofNat (r / 2)).toInt64 := x64_eq' (x64_div (o64 (by omega)) (show (2 : Int64).toInt = ((2 : Nat) : Int) by decide) (by omega) (by omega)) (o64 (by omega)) rfl
    have h2' : Int32.ofNat r / (2 : Int32) = Int32.ofNat (r / 2) := x32_of (by omega) (x32_div (x32_nat (by omega)) (show (2 : Int32).toInt = ((2 : Nat) : Int) by decide) (by omega) (by omega))
    rw [h2, h2']
    obtain ⟨σ', ρ', z1, z2, z3⟩ := fin r (r / 2) (wl (wl σ1 (q + 5) 4 (Int32.ofNat r).toInt64) (q + 5) 5 (Int32.ofNat (r / 2)).toInt64) (si (si ρ1 25 e (Int32.ofNat r)) 26 e (Int32.ofNat (r / 2))) (by omega) (by omega) rfl (by rw [wl_J, if_neg (by omega), wl_J, if_pos ⟨rfl, rfl⟩]) (by rw [wl_J, if_pos ⟨rfl, rfl⟩]) (fun x j h => by rw [wl_J, if_neg (by omega), wl_J, if_neg (by omega)]) rfl (by rw [si_ne _ _ _ _ (by omega), si_eq]) (by rw [si_eq]) (fun r x y => funext fun j => by rw [si_ne _ _ _ _ (by omega), si_ne _ _ _ _ (by omega)]) rfl (((RF.rf e ρ1).sis _ (by omega) (by omega)).sis _ (by omega) (by omega))
    exact ⟨σ', ρ', by rw [z1, bc_e], z2, z3⟩
  · have n64 : s0.toInt64.toInt = s0.toInt := x64_of32 rfl
    obtain ⟨Sn, hSn⟩ : ∃ x, x = s0.toInt.toNat := ⟨_, rfl⟩
    obtain ⟨Vn, hVn⟩ : ∃ x, x = (ρ.1 26 e).toInt.toNat := ⟨_, rfl⟩
    have s32 : s0.toInt = (Sn : Int) := by omega
    have v32 : (ρ.1 26 e).toInt = (Vn : Int) := by omega
    have s64 : s0.toInt64.toInt = (Sn : Int) := by rw [n64]; exact s32
    have v64 : (ρ.1 26 e).toInt64.toInt = (Vn : Int) := by rw [x64_of32 v32]
    obtain ⟨off, hoff⟩ : ∃ x, x = (if r ≤ Sn then Sn - r else r - Sn) := ⟨_, rfl⟩
    have hoffle : off ≤ 600000000 := by rw [hoff]; split <;> omega
    have hx0 : (0 : Int32) ≤ s0 := x32_le' z32_0 s32 (by omega)
    rw [if_pos ((lg_cmp_ge _ _).mpr ((x64_le z64_0 s64).mpr (by omega))), bd_e, q8, bd_e, bd_e, gd_t (by decide), bd_e, bd_e, gd_t (by decide), bd_e, if_pos hx0]
    have hr64 := o64 (n := r) (by omega)
    have hd := x64_sub s64 hr64 (by omega) (by omega)
    have habs : (if 0 < s0.toInt64 - (Int32.ofNat r).toInt64 then s0.toInt64 - (Int32.ofNat r).toInt64 else -(s0.toInt64 - (Int32.ofNat r).toInt64)).toInt = (off : Int) := by
      by_cases hc : r < Sn
      · rw [if_pos ((x64_lt z64_0 hd).mpr (by omega)), hd, hoff, if_pos (by omega)]; omega
      · rw [if_neg (x64_nlt z64_0 hd (by omega))]
        have : (-(s0.toInt64 - (Int32.ofNat r).toInt64)).toInt = -((Sn : Int) - (r : Int)) := by
          rw [show -(s0.toInt64 - (Int32.ofNat r).toInt64) = 0 - (s0.toInt64 - (Int32.ofNat r).toInt64) by grind, x64_sub z64_0 hd (by omega) (by omega)]; omega
        rw [this, hoff]
        split <;> omega
    generalize (if 0 < s0.toInt64 - (Int32.ofNat r).toInt64 then s0.toInt64 - (Int32.ofNat r).toInt64 else -(s0.toInt64 - (Int32.ofNat r).toInt64)) = ab at habs
    have hvc : (((3 : Int64) * (ρ.1 26 e).toInt64 + ab) / (4 : Int64)).toInt = (((3 * Vn + off) / 4 : Nat) : Int) := by
      refine x64_div ?_ (show (4 : Int64).toInt = ((4 : Nat) : Int) by decide) (by omega) (by omega)
      rw [x64_add (x64_mul (show (3 : Int64).toInt = 3 by decide) v64 (by omega) (by omega)) habs (by omega) (by omega)]; omega
    have hsc : (((7 : Int64) * s0.toInt64 + (Int32.ofNat r).toInt64) / (8 : Int64)).toInt = (((7 * Sn + r) / 8 : Nat) : Int) := by
      refine x64_div ?_ (show (8 : Int64).toInt = ((8 : Nat) : Int) by decide) (by omega) (by omega)
      rw [x64_add (x64_mul (show (7 : Int64).toInt = 7 by decide) s64 (by omega) (by omega)) hr64 (by omega) (by omega)]; omega
    have ec : ∀ x : Int64, cJ (wl σ1 (q + 5) 5 x) (q + 5) 4 = s0.toInt64 := fun x => by rw [wl_J, if_neg (by omega), j1]; exact q7
    rw [ec]
    have href : (if Int32.ofNat r ≤ s0 then b_measured_98 v1 (Int32.ofNat r) (s0 - Int32.ofNat r) ρ1 else b_measured_98 v1 (Int32.ofNat r) (Int32.ofNat r - s0) ρ1) = b_measured_98 v1 (Int32.ofNat r) (Int32.ofNat off) ρ1 := by
      have hrr : (Int32.ofNat r).toInt = (r : Int) := x32_nat (by omega)
      by_cases hc : r ≤ Sn
      · rw [if_pos (x32_le' hrr s32 (by omega)), hoff, if_pos hc, x32_of (by omega) (by rw [x32_sub s32 hrr (by omega) (by omega)]; omega : (s0 - Int32.ofNat r).toInt = ((Sn - r : Nat) : Int))]
      · rw [if_neg (x32_nle hrr s32 (by omega)), hoff, if_neg hc, x32_of (by omega) (by rw [x32_sub hrr s32 (by omega) (by omega)]; omega : (Int32.ofNat r - s0).toInt = ((r - Sn : Nat) : Int))]
    rw [href]
    unfold b_measured_98
    simp only [gd_t hi, bd_e]
    rw [gd_t (by decide), gd_t (by decide), hcl, r26]
    have hr1 : (((3 : Int64) * (ρ.1 26 e).toInt64 + (Int32.ofNat off).toInt64) / (4 : Int64)).toInt32 = Int32.ofNat ((3 * Vn + off) / 4) := by
      refine x32_of64 ?_ (by omega)
      refine x64_div ?_ (show (4 : Int64).toInt = ((4 : Nat) : Int) by decide) (by omega) (by omega)
      rw [x64_add (x64_mul (show (3 : Int64).toInt = 3 by decide) v64 (by omega) (by omega)) (o64 (by omega)) (by omega) (by omega)]; omega
    rw [hr1, si_ne _ _ _ _ (by omega : (25 : Nat) ≠ 26 ∨ e ≠ e), r25, hs0, x32_of64 hsc (by omega)]
    have e5 : ((3 : Int64) * (ρ.1 26 e).toInt64 + ab) / (4 : Int64) = (Int32.ofNat ((3 * Vn + off) / 4)).toInt64 := x64_eq' hvc (o64 (by omega)) rfl
    have e4 : ((7 : Int64) * s0.toInt64 + (Int32.ofNat r).toInt64) / (8 : Int64) = (Int32.ofNat ((7 * Sn + r) / 8)).toInt64 := x64_eq' hsc (o64 (by omega)) rfl
    rw [e5, e4]
    obtain ⟨σ', ρ', z1, z2, z3⟩ := fin ((7 * Sn + r) / 8) ((3 * Vn + off) / 4) (wl (wl σ1 (q + 5) 5 (Int32.ofNat ((3 * Vn + off) / 4)).toInt64) (q + 5) 4 (Int32.ofNat ((7 * Sn + r) / 8)).toInt64) (si (si ρ1 26 e (Int32.ofNat ((3 * Vn + off) / 4))) 25 e (Int32.ofNat ((7 * Sn + r) / 8))) (by omega) (by omega) rfl (by rw [wl_J, if_pos ⟨rfl, rfl⟩]) (by rw [wl_J, if_neg (by omega), wl_J, if_pos ⟨rfl, rfl⟩]) (fun x j h => by rw [wl_J, if_neg (by omega), wl_J, if_neg (by omega)]) rfl (by rw [si_eq]) (by rw [si_ne _ _ _ _ (by omega), si_eq]) (fun r x y => funext fun j => by rw [si_ne _ _ _ _ (by omega), si_ne _ _ _ _ (by omega)]) rfl (((RF.rf e ρ1).sis _ (by omega) (by omega)).sis _ (by omega) (by omega))
    exact ⟨σ', ρ', by rw [z1, bc_e], z2, z3⟩
end MS
