/-! what comes is kept, both sides -/
def RK (e : Nat) (ρ ρ' : RS) : Prop := ρ'.2 = ρ.2 ∧ (∀ r j, r ≠ 18 → r ≠ 31 → r ≠ 39 → r ≠ 40 → ρ'.1 r j = ρ.1 r j) ∧ (∀ r j, r = 18 ∨ r = 31 → j ≠ e → ρ'.1 r j = ρ.1 r j) ∧ (∀ r j, r = 39 ∨ r = 40 → ¬ (65536 * e ≤ j ∧ j < 65536 * e + 65536) → ρ'.1 r j = ρ.1 r j)
theorem RK.rf (e : Nat) (ρ : RS) : RK e ρ ρ := ⟨rfl, fun _ _ _ _ _ _ => rfl, fun _ _ _ _ => rfl, fun _ _ _ _ => rfl⟩
theorem RK.tr {e : Nat} {a b c : RS} (h : RK e a b) (h' : RK e b c) : RK e a c := ⟨by rw [h'.1, h.1], fun r j x y z t => by rw [h'.2.1 r j x y z t, h.2.1 r j x y z t], fun r j x y => by rw [h'.2.2.1 r j x y, h.2.2.1 r j x y], fun r j x y => by rw [h'.2.2.2 r j x y, h.2.2.2 r j x y]⟩
section KP
variable {own : Nat → Nat} {q e : Nat}
theorem take_loop (hqe : q = 7 ∧ e = 0 ∨ q = 14 ∧ e = 1) {v1 : Int32} (hv : v1.toInt = (e : Int)) : ∀ (d U i nC nR : Nat) (v : Int32) (σ : CS) (ρ : RS), G3x own q e σ ρ U 0 → cI σ (q + 3) 3 = 0 → cI σ (q + 3) 2 = cI σ (q + 3) 1 + Int32.ofNat d → d + U ≤ 65535 → v.toInt = (i : Int) → i + d ≤ 65535 → d < nC → d < nR →
    ∃ σ' ρ' U', lq2 (F_V_takeWithoutGap_2 (q + 3)) nC v σ = some σ' ∧ lq2 F_received_90 nR v1 ρ = b_received_173 v1 ρ' ∧ G3x own q e σ' ρ' U' 1 ∧ fr (fun x => x ≠ q + 3) σ σ' ∧ σ'.2 = σ.2 ∧ cI σ' (q + 3) 3 = 0 ∧ RK e ρ ρ' := by
  have hq : q = 7 ∨ q = 14 := by omega
  have he : e < 2 := by omega
  have hi := x32_in hv he
  have hcl := x32_n hv
  have t6 : (65536 : Int32).toInt = 65536 := by decide
  intro d
  induction d with
  | zero =>
    intro U i nC nR v σ ρ G hft hed hdu hvi hid hC hR
    obtain ⟨nC, rfl⟩ : ∃ k, nC = k + 1 := ⟨nC - 1, by omega⟩
    obtain ⟨nR, rfl⟩ : ∃ k, nR = k + 1 := ⟨nR - 1, by omega⟩
    have G' := G
    unfold G3x at G
    obtain ⟨h1, h2, h3, h4, ⟨h5, h5a, h5b⟩, h6, h7, h8, h9, ra, k1, k2, k3, k4⟩ := G
    obtain ⟨d', d1, d2, d3⟩ := h8 hft
    have hdd : d' = 0 := by
      have : cI σ (q + 3) 1 + Int32.ofNat d' = cI σ (q + 3) 1 + Int32.ofNat 0 := by rw [← d1, hed]
      exact (e32 _ (by omega) (by omega)).mp this
    subst hdd
    have hz : kc (ρ.1 40) e 65536 = 0 := kc_all0 65536 fun p hp => Decidable.byContradiction fun hne => by have := (d3 p hp hne).2; omega
    refine ⟨σ, ρ, U, ?_, ?_, ?_, fr.rf, rfl, hft, RK.rf e ρ⟩
    · show F_V_takeWithoutGap_2 (q + 3) (lq2 (F_V_takeWithoutGap_2 (q + 3)) nC) v σ = _
      unfold F_V_takeWithoutGap_2 b_V_takeWithoutGap_66
      rw [if_neg (x32_nle t6 hvi (by omega)), bd_e, h6, hz, if_pos (by decide)]
    · show F_received_90 (lq2 F_received_90 nR) v1 ρ = _
      unfold F_received_90 m_above b_above_11
      rw [gd_t hi, bd_e, gd_t hi, bd_e, show ρ.1 19 v1.toNatClampNeg = cI σ (q + 3) 1 by rw [hcl, h3, hed]; show _ + 0 = _; grind, show ρ.1 18 v1.toNatClampNeg = cI σ (q + 3) 1 by rw [hcl, h2], if_pos (by rw [show cI σ (q + 3) 1 - cI σ (q + 3) 1 = 0 by grind]; decide), gd_t z01_0, bc2_e, if_pos rfl]
    · unfold G3x at G' ⊢
      obtain ⟨a1, a2, a3, a4, a5, a6, a7, a8, a9, a10⟩ := G'
      refine ⟨a1, a2, a3, a4, a5, a6, a7, fun x => ?_, a9, a10⟩
      obtain ⟨d', e1, e2, e3⟩ := a8 x
      exact ⟨d', e1, e2, fun p hp hne => absurd (kc_zero 65536 hz p hp) hne⟩
  | succ d ih =>
    intro U i nC nR v σ ρ G hft hed hdu hvi hid hC hR
    obtain ⟨nC, rfl⟩ : ∃ k, nC = k + 1 := ⟨nC - 1, by omega⟩
    obtain ⟨nR, rfl⟩ : ∃ k, nR = k + 1 := ⟨nR - 1, by omega⟩
    have G' := G
    have G'' := G
    unfold G3x at G
    obtain ⟨h1, h2, h3, h4, ⟨h5, h5a, h5b⟩, h6, h7, h8, h9, ra, k1, k2, k3, k4⟩ := G
    have hr := ps_lt (cI σ (q + 3) 1)
    have hpa := ps_and (cI σ (q + 3) 1)
    have hix : (((65536 : Int32) * v1) + (cI σ (q + 3) 1 &&& (65535 : Int32))).toInt = ((65536 * e + ps (cI σ (q + 3) 1) : Nat) : Int) := by
      rw [x32_add (x32_mul t6 hv (by omega) (by omega)) hpa (by omega) (by omega)]; omega
    have hab : (cI σ (q + 3) 1 + Int32.ofNat (d + 1) - cI σ (q + 3) 1).toInt = ((d + 1 : Nat) : Int) := by
      rw [show cI σ (q + 3) 1 + Int32.ofNat (d + 1) - cI σ (q + 3) 1 = Int32.ofNat (d + 1) by grind]; exact x32_nat (by omega)
    have rstart : lq2 F_received_90 (nR + 1) v1 ρ = if ρ.1 40 (65536 * e + ps (cI σ (q + 3) 1)) = 0 then b_received_173 v1 ρ else lq2 F_received_90 nR v1 (si (si (si ρ 40 (65536 * e + ps (cI σ (q + 3) 1)) 0) 18 e (ρ.1 18 e + 1)) 31 e (ρ.1 31 e + 1)) := by
      show F_received_90 (lq2 F_received_90 nR) v1 ρ = _
      have z18 : ρ.1 18 v1.toNatClampNeg = cI σ (q + 3) 1 := by rw [hcl, h2]
      unfold F_received_90 m_above b_above_11
      rw [gd_t hi, bd_e, gd_t hi, bd_e, show ρ.1 19 v1.toNatClampNeg = cI σ (q + 3) 1 + Int32.ofNat (d + 1) by rw [hcl, h3, hed], z18, if_neg (x32_nle hab z32_0 (by omega)), gd_t z01_1, bc2_e, if_neg (by decide), gd_t hi, bd_e, z18, gd_t (x32_in hix (by omega)), bd_e, x32_n hix]
      by_cases hk0 : ρ.1 40 (65536 * e + ps (cI σ (q + 3) 1)) = 0
      · rw [if_pos hk0, if_pos hk0]
      · rw [if_neg hk0, if_neg hk0, gd_t hi, bd_e, gd_t (x32_in hix (by omega)), bd_e, x32_n hix, nar_b0, gd_t hi, bd_e, gd_t hi, bd_e, gd_t hi, bd_e, gd_t hi, bd_e, hcl, si_ne _ _ _ _ (by omega : (18 : Nat) ≠ 40 ∨ e ≠ _), si_ne _ _ _ _ (by omega : (31 : Nat) ≠ 18 ∨ e ≠ e), si_ne _ _ _ _ (by omega : (31 : Nat) ≠ 40 ∨ e ≠ _)]
    have cstart : lq2 (F_V_takeWithoutGap_2 (q + 3)) (nC + 1) v σ = if ρ.1 40 (65536 * e + ps (cI σ (q + 3) 1)) = 0 then some σ else lq2 (F_V_takeWithoutGap_2 (q + 3)) nC (v + 1) (wi (wi (wi σ (q + 3) 1 (cI σ (q + 3) 1 + 1)) (q + 3) 5 (cI σ (q + 3) 5 - 1)) (q + 3) 4 (cI σ (q + 3) 4 + 1)) := by
      show F_V_takeWithoutGap_2 (q + 3) (lq2 (F_V_takeWithoutGap_2 (q + 3)) nC) v σ = _
      unfold F_V_takeWithoutGap_2 b_V_takeWithoutGap_66
      have hkl := kc_le (ρ.1 40) e 65536
      have hkI : (Int32.ofNat (kc (ρ.1 40) e 65536)).toInt = ((kc (ρ.1 40) e 65536 : Nat) : Int) := x32_nat (by omega)
      rw [if_neg (x32_nle t6 hvi (by omega)), bd_e, h6]
      have hfu : ps (cI σ (q + 3) 1) = (ps (cI σ (q + 3) 7) + U) % 65536 := by
        rw [← ps_add _ _ (by omega)]
        congr 1
        rw [h7, hft, h5a]; grind
      have hb := ps_lt (cI σ (q + 3) 7)
      have hnup : ¬ up (cI σ (q + 3) 7) U (ps (cI σ (q + 3) 1)) := fun hh => by unfold up at hh; omega
      by_cases hk0 : ρ.1 40 (65536 * e + ps (cI σ (q + 3) 1)) = 0
      · rw [if_pos hk0]
        by_cases hz : kc (ρ.1 40) e 65536 = 0
        · rw [hz, if_pos (by decide)]
        · rw [if_neg (x32_nle hkI z32_0 (by omega)), k1, bc_e, bd_e]
          rcases k4 with ⟨k4, k5, k6⟩ | ⟨k4, k5⟩
          · exact absurd (kc_all0 65536 k6) hz
          · rw [gd_t ⟨k2, by rw [k4]; exact x32_in hpa (by omega)⟩, bd_e, x32_n hpa, (k5 _ hr).2 hnup hk0, if_pos rfl]
      · rw [if_neg hk0]
        have hpos := kc_pos (f := ρ.1 40) hr hk0
        rw [if_neg (x32_nle hkI z32_0 (by omega)), k1, bc_e, bd_e]
        rcases k4 with ⟨k4, k5, k6⟩ | ⟨k4, k5⟩
        · exact absurd (k6 _ hr) hk0
        · rw [gd_t ⟨k2, by rw [k4]; exact x32_in hpa (by omega)⟩, bd_e, x32_n hpa, if_neg ((k5 _ hr).1 (Or.inr hk0)).1, bd_e, bd_e, bd_e, bd_e, bd_e, bd_e, bd_e, wi_ne _ _ _ _ (by omega : q + 3 ≠ q + 3 ∨ (5 : Nat) ≠ 1), wi_ne _ _ _ _ (by omega : q + 3 ≠ q + 3 ∨ (4 : Nat) ≠ 5), wi_ne _ _ _ _ (by omega : q + 3 ≠ q + 3 ∨ (4 : Nat) ≠ 1), ← h6]
    rw [cstart, rstart]
    by_cases hk0 : ρ.1 40 (65536 * e + ps (cI σ (q + 3) 1)) = 0
    · rw [if_pos hk0, if_pos hk0]
      refine ⟨σ, ρ, U, rfl, rfl, ?_, fr.rf, rfl, hft, RK.rf e ρ⟩
      unfold G3x at G' ⊢
      obtain ⟨a1, a2, a3, a4, a5, a6, a7, a8, a9, a10⟩ := G'
      refine ⟨a1, a2, a3, a4, a5, a6, a7, fun x => ?_, a9, a10⟩
      obtain ⟨d', e1, e2, e3⟩ := a8 x
      refine ⟨d', e1, e2, fun p hp hne => ⟨?_, (e3 p hp hne).2⟩⟩
      rcases Nat.eq_zero_or_pos ((p + 65536 - ps (cI σ (q + 3) 1)) % 65536) with h0 | h0
      · have : p = ps (cI σ (q + 3) 1) := by omega
        rw [this] at hne
        exact absurd hk0 hne
      · omega
    · rw [if_neg hk0, if_neg hk0]
      have Gn := G''.take hq hft hed hdu rfl hk0
      obtain ⟨σ1, hσ1⟩ : ∃ x, x = wi (wi (wi σ (q + 3) 1 (cI σ (q + 3) 1 + 1)) (q + 3) 5 (cI σ (q + 3) 5 - 1)) (q + 3) 4 (cI σ (q + 3) 4 + 1) := ⟨_, rfl⟩
      obtain ⟨ρ1, hρ1⟩ : ∃ x, x = si (si (si ρ 40 (65536 * e + ps (cI σ (q + 3) 1)) 0) 18 e (ρ.1 18 e + 1)) 31 e (ρ.1 31 e + 1) := ⟨_, rfl⟩
      rw [← hσ1, ← hρ1] at Gn ⊢
      have c13 : cI σ1 (q + 3) 3 = 0 := by rw [hσ1, wi_ne _ _ _ _ (by omega), wi_ne _ _ _ _ (by omega), wi_ne _ _ _ _ (by omega)]; exact hft
      have c12 : cI σ1 (q + 3) 2 = cI σ1 (q + 3) 1 + Int32.ofNat d := by
        rw [hσ1, wi_ne _ _ _ _ (by omega : q + 3 ≠ q + 3 ∨ (2 : Nat) ≠ 4), wi_ne _ _ _ _ (by omega : q + 3 ≠ q + 3 ∨ (2 : Nat) ≠ 5), wi_ne _ _ _ _ (by omega : q + 3 ≠ q + 3 ∨ (2 : Nat) ≠ 1), wi_ne _ _ _ _ (by omega : q + 3 ≠ q + 3 ∨ (1 : Nat) ≠ 4), wi_ne _ _ _ _ (by omega : q + 3 ≠ q + 3 ∨ (1 : Nat) ≠ 5), wi_eq, hed, show Int32.ofNat (d + 1) = Int32.ofNat d + 1 from nI_succ d]; grind
      obtain ⟨σ', ρ', U', w1, w2, w3, w4, w5, w6, w7⟩ := ih (U + 1) (i + 1) nC nR (v + 1) σ1 ρ1 Gn c13 c12 (by omega) (by rw [x32_add hvi z32_1 (by omega) (by omega)]; omega) (by omega) (by omega) (by omega)
      refine ⟨σ', ρ', U', w1, w2, w3, fr.tr ?_ w4 (fun _ h => h), by rw [w5, hσ1]; rfl, w6, RK.tr ?_ w7⟩
      · rw [hσ1]; exact fr.tr (fr.tr (fr_wi σ (q + 3) 1 _) (fr_wi _ (q + 3) 5 _) (fun _ h => h)) (fr_wi _ (q + 3) 4 _) (fun _ h => h)
      · rw [hρ1]
        refine ⟨rfl, fun r j a b c d => by rw [si_ne _ _ _ _ (by omega), si_ne _ _ _ _ (by omega), si_ne _ _ _ _ (by omega)], fun r j a b => by rw [si_ne _ _ _ _ (by omega), si_ne _ _ _ _ (by omega), si_ne _ _ _ _ (by omega)], fun r j a b => by rw [si_ne _ _ _ _ (by omega), si_ne _ _ _ _ (by omega), si_ne _ _ _ _ (by omega)]⟩
end KP
