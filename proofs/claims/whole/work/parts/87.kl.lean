/-! keeping: the loop over the bytes -/
theorem SC.fk {g0 s0 a len N : Nat} {W : Nat → Int32} {σ σ' : CS} {ρ ρ' : RS} (h : SC g0 s0 a len N W σ ρ) (F : fr (fun y => y = g0 ∨ y = a) σ σ') (R : ∀ j, 46 ≤ j → ρ'.1 0 j = ρ.1 0 j) : SC g0 s0 a len N W σ' ρ' := by
  obtain ⟨⟨s1, s2, s3, s4, s5, s6, s7⟩, ha, hW, h4, h5, h6, h7, h8, h9, h10, h11, h12, h13, h14⟩ := h
  obtain ⟨a1, a2, a3, a4, a5⟩ := F g0 (Or.inl rfl)
  obtain ⟨b1, b2, b3, b4, b5⟩ := F a (Or.inr rfl)
  refine ⟨⟨by rw [a5]; exact s1, by rw [a3]; exact s2, by rw [b5]; exact s3, by rw [a1]; exact s4, by rw [b4]; exact s5, s6, s7⟩, by rw [ha]; unfold ar; rw [a3], by rw [b1]; exact hW, h4, h5, h6, ?_, ?_, ?_, ?_, ?_, ?_, ?_, ?_⟩
  · rw [R 46 (by omega)]; exact h7
  · rw [R 47 (by omega)]; exact h8
  · rw [R 48 (by omega)]; exact h9
  · rw [R 49 (by omega)]; exact h10
  · rw [R 50 (by omega)]; exact h11
  · rw [R 51 (by omega)]; exact h12
  · rw [R 52 (by omega)]; exact h13
  · rw [R 53 (by omega)]; exact h14
section KL
variable {own : Nat → Nat} {q e : Nat} {g0 s0 a len N0 : Nat} {W : Nat → Int32}
theorem keep_loop (hqe : q = 7 ∧ e = 0 ∨ q = 14 ∧ e = 1) {v1 : Int32} (hv : v1.toInt = (e : Int)) {U d ra : Nat} (hdl : d ≤ 65535) (ora : own ra = 4 + e) (og : own g0 = 60) (oa : own a = 100 + g0) :
    ∀ (r i nC nR : Nat) (v4 v2 : Int32) (σ : CS) (ρ : RS), ho W + i + r = len → r < nC → r < nR → v4.toInt = ((ho W + i : Nat) : Int) → v2.toInt = (i : Int) → Ow own σ → G3x own q e σ ρ U 0 → cI σ (q + 3) 3 = 0 → cI σ (q + 3) 2 = cI σ (q + 3) 1 + Int32.ofNat d → SC g0 s0 a len N0 W σ ρ → (∀ i, i < len → W i = Sk ρ s0 i) → (∀ i, isB (ρ.1 2 i)) → cR σ (q + 3) 6 = some ra → cN σ ra = 65536 →
    ∃ σ' ρ', lq5 (F_V_keep_29 (q + 3)) nC g0 (Int32.ofNat (ho W)) (n4 W 4) v4 σ = bc (m_V_takeWithoutGap (q + 3) σ') (fun r2 => some r2) ∧ lq3 F_received_2 nR v1 v2 ρ = lq2 F_received_90 fuel v1 ρ' ∧ G3x own q e σ' ρ' U 0 ∧ (∀ j, j ≠ 5 → cI σ' (q + 3) j = cI σ (q + 3) j) ∧ fr (fun x => x ≠ q + 3 ∧ x ≠ ra) σ σ' ∧ σ'.2 = σ.2 ∧ RK e ρ ρ' := by
  have hq : q = 7 ∨ q = 14 := by omega
  have he : e < 2 := by omega
  have hi := x32_in hv he
  have hcl := x32_n hv
  have t6 : (65536 : Int32).toInt = 65536 := by decide
  intro r
  induction r with
  | zero =>
    intro i nC nR v4 v2 σ ρ h1 h2 h3 h4 h5 O G hft hed H hc hb hra hN
    obtain ⟨nC, rfl⟩ : ∃ k, nC = k + 1 := ⟨nC - 1, by omega⟩
    obtain ⟨nR, rfl⟩ : ∃ k, nR = k + 1 := ⟨nR - 1, by omega⟩
    have hlen : len ≤ 1484 := H.2.2.2.2.2.1
    refine ⟨σ, ρ, ?_, ?_, G, fun _ _ => rfl, fr.rf, rfl, RK.rf e ρ⟩
    · show F_V_keep_29 (q + 3) (lq5 (F_V_keep_29 (q + 3)) nC) g0 (Int32.ofNat (ho W)) (n4 W 4) v4 σ = _
      rw [F_V_keep_29, gd_t H.kd, bd_e, H.1.2.2.2.1, if_pos (x32_le' (x32_nat (by omega)) h4 (by omega))]
    · show F_received_2 (lq3 F_received_2 nR) v1 v2 ρ = _
      rw [F_received_2, bd_e, H.2.2.2.2.2.2.2.2.2.2.2.1, if_pos (x32_le' (x32_nat (by omega)) h5 (by omega))]
  | succ r ih =>
    intro i nC nR v4 v2 σ ρ h1 h2 h3 h4 h5 O G hft hed H hc hb hra hN
    obtain ⟨nC, rfl⟩ : ∃ k, nC = k + 1 := ⟨nC - 1, by omega⟩
    obtain ⟨nR, rfl⟩ : ∃ k, nR = k + 1 := ⟨nR - 1, by omega⟩
    have hlen : len ≤ 1484 := H.2.2.2.2.2.1
    have hs0 : s0 < 513 := H.2.2.2.2.1
    have h60 := ho_lt W
    have hoq3 : own (q + 3) = 10 + e := (own_q hqe O).2.2.1
    have kra : kd σ ra = 24 := by
      unfold G3x at G
      obtain ⟨_, _, _, _, _, _, _, _, _, ra', k1, k2, _⟩ := G
      rw [hra] at k1
      rw [Option.some.inj k1]; exact k2
    obtain ⟨num, hnum⟩ : ∃ x, x = n4 W 4 + Int32.ofNat i := ⟨_, rfl⟩
    have hv4 : v4 = Int32.ofNat (ho W) + Int32.ofNat i := by
      refine Int32.toInt_inj.mp ?_
      rw [h4, x32_add (x32_nat (by omega)) (x32_nat (by omega)) (by omega) (by omega)]; omega
    have hv2 : v2 = Int32.ofNat i := x32_of (by omega) h5
    have e1 : n4 W 4 + v4 - Int32.ofNat (ho W) = num := by rw [hv4, hnum]; grind
    have e2 : ρ.1 0 46 + v2 = num := by rw [H.2.2.2.2.2.2.1, hv2, hnum]
    have hpa := ps_and num
    have hpl := ps_lt num
    have hix : (((65536 : Int32) * v1) + (num &&& (65535 : Int32))).toInt = ((65536 * e + ps num : Nat) : Int) := by
      rw [x32_add (x32_mul t6 hv (by omega) (by omega)) hpa (by omega) (by omega)]; omega
    have h18 : ρ.1 18 e = cI σ (q + 3) 1 := by unfold G3x at G; exact G.2.1
    have h19 : ρ.1 19 e = cI σ (q + 3) 2 := by unfold G3x at G; exact G.2.2.1
    have h4' : (v4 + 1).toInt = ((ho W + (i + 1) : Nat) : Int) := by rw [x32_add h4 z32_1 (by omega) (by omega)]; omega
    have h5' : (v2 + 1).toInt = ((i + 1 : Nat) : Int) := by rw [x32_add h5 z32_1 (by omega) (by omega)]; omega
    have cU : lq5 (F_V_keep_29 (q + 3)) (nC + 1) g0 (Int32.ofNat (ho W)) (n4 W 4) v4 σ = F_V_keep_29 (q + 3) (lq5 (F_V_keep_29 (q + 3)) nC) g0 (Int32.ofNat (ho W)) (n4 W 4) v4 σ := rfl
    have rU : lq3 F_received_2 (nR + 1) v1 v2 ρ = F_received_2 (lq3 F_received_2 nR) v1 v2 ρ := rfl
    rw [cU, rU, F_V_keep_29, gd_t H.kd, bd_e, H.1.2.2.2.1, if_neg (x32_nle (x32_nat (by omega)) h4 (by omega)), bd_e, e1, bd_e, c_exp hq, bc2_e, F_received_2, bd_e, H.2.2.2.2.2.2.2.2.2.2.2.1, if_neg (x32_nle (x32_nat (by omega)) h5 (by omega)), bd_e, e2, bd_e, bd_e, e2, r_exp he hv, bc2_e, h18, h19]
    by_cases hx : ¬ (num - cI σ (q + 3) 1 < 0) ∧ num - cI σ (q + 3) 2 < 0
    · obtain ⟨j, j1, j2⟩ := (exp_iff hed hdl).mp hx
      rw [if_pos hx, if_neg (by decide), if_neg (by decide), hra, bc_e, gd_t ⟨kra, by rw [hN]; exact x32_in hpa hpl⟩, bd_e, gd_t (x32_in hix (by omega)), bd_e]
      have hp : ps num = (ps (cI σ (q + 3) 1) + j) % 65536 := by rw [j2, ps_add _ _ (by omega)]
      -- the two tests agree
      have hagree : cI σ ra (ps num) = 0 ↔ ρ.1 40 (65536 * e + ps num) = 0 := by
        unfold G3x at G
        obtain ⟨g1, g2, g3, g4, ⟨g5, g5a, g5b⟩, g6, g7, g8, g9, ra', k1, k2, k3, k4⟩ := G
        rw [hra] at k1
        have era := Option.some.inj k1
        subst era
        obtain ⟨d', d1, d2, d3⟩ := g8 hft
        have hdd : d' = d := by
          have : cI σ (q + 3) 1 + Int32.ofNat d' = cI σ (q + 3) 1 + Int32.ofNat d := by rw [← d1, hed]
          exact (e32 _ (by omega) (by omega)).mp this
        have hfu : ps (cI σ (q + 3) 1) = (ps (cI σ (q + 3) 7) + U) % 65536 := by
          rw [← ps_add _ _ (by omega)]
          congr 1
          rw [g7, hft, g5a]; grind
        have hb7 := ps_lt (cI σ (q + 3) 7)
        have hnup : ¬ up (cI σ (q + 3) 7) U (ps num) := fun hh => by unfold up at hh; omega
        rcases k4 with ⟨k4, _⟩ | ⟨k4, k5⟩
        · omega
        · constructor
          · intro hz
            exact Decidable.byContradiction fun hne => ((k5 _ hpl).1 (Or.inr hne)).1 hz
          · intro hz
            exact (k5 _ hpl).2 hnup hz
      by_cases hk : ρ.1 40 (65536 * e + ps num) = 0
      · have hwb := hb_ne (W (ho W + i))
        have hSk : ρ.1 2 (1484 * s0 + (ho W + i)) = W (ho W + i) := (hc (ho W + i) (by omega)).symm
        rw [if_pos (show cI σ ra (num &&& 65535).toNatClampNeg = 0 from hagree.mpr hk), if_pos (show ρ.1 40 (((65536 : Int32) * v1) + (num &&& (65535 : Int32))).toNatClampNeg = 0 by rw [x32_n hix]; exact hk), bc_e, gd_t H.kd, H.1.2.1, bc_e, gd_t ⟨H.1.2.2.1, by rw [H.1.2.2.2.2.1]; have := H.1.2.2.2.2.2.1; exact x32_in h4 (by omega)⟩, bd_e, x32_n h4, show cI σ a (ho W + i) = W (ho W + i) by rw [H.2.2.1], gd_t ⟨kra, by rw [hN]; exact x32_in hpa hpl⟩, bd_e, bd_e, bd_e, gd_t (x32_in hix (by omega)), bd_e, bd_e, bd_e]
        have z52 : (si ρ 40 (((65536 : Int32) * v1) + (num &&& (65535 : Int32))).toNatClampNeg (vp_nar .boolean 1)).1 0 52 = nI s0 := by rw [si_ne _ _ _ _ (by omega)]; exact H.2.2.2.2.2.2.2.2.2.2.2.2.1
        have z50 : (si ρ 40 (((65536 : Int32) * v1) + (num &&& (65535 : Int32))).toNatClampNeg (vp_nar .boolean 1)).1 0 50 = Int32.ofNat (ho W) := by rw [si_ne _ _ _ _ (by omega)]; exact H.2.2.2.2.2.2.2.2.2.2.1
        have hy : ((((1484 : Int32) * nI s0) + Int32.ofNat (ho W)) + v2).toInt = ((1484 * s0 + (ho W + i) : Nat) : Int) := by
          rw [x32_add (x32_add (x32_mul (show (1484 : Int32).toInt = 1484 by decide) (nI_t (show s0 < 2147483648 by omega)) (by omega) (by omega)) (x32_nat (by omega)) (by omega) (by omega)) h5 (by omega) (by omega)]; omega
        rw [z52, z50, gd_t (x32_in hy (by omega)), bd_e, gd_t (x32_in hix (by omega)), bd_e, x32_n hy, x32_n hix, si_ne _ _ _ _ (by omega : (2 : Nat) ≠ 40 ∨ (1484 * s0 + (ho W + i)) ≠ 65536 * e + ps num), hSk, nar_b1, show vp_nar .byte (W (ho W + i)) = W (ho W + i) by rw [← hSk]; exact hb _]
        have hra3 : ra ≠ q + 3 := fun e => by rw [e] at ora; omega
        have c5e : ∀ x, cI (wi σ ra (ps num) x) (q + 3) 5 = cI σ (q + 3) 5 := fun x => wi_ne _ _ _ _ (by omega)
        rw [show (num &&& 65535).toNatClampNeg = ps num from rfl, c5e]
        have Gn := G.put hq O hoq3 he rfl hft hra hN (rv := 0) hed hdl j1 hp hk hwb.1 hwb.2
        obtain ⟨σ1, hσ1⟩ : ∃ x, x = wi (wi σ ra (ps num) (vp_nar .short (((256 : Int32) ||| (W (ho W + i) &&& (255 : Int32))).toInt16.toInt32))) (q + 3) 5 (cI σ (q + 3) 5 + 1) := ⟨_, rfl⟩
        obtain ⟨ρ1, hρ1⟩ : ∃ x, x = si (si ρ 40 (65536 * e + ps num) 1) 39 (65536 * e + ps num) (W (ho W + i)) := ⟨_, rfl⟩
        rw [← hσ1, ← hρ1] at Gn ⊢
        unfold b_V_keep_105 b_received_84
        rw [bd_e, bd_e]
        have F1 : fr (fun x => x ≠ q + 3 ∧ x ≠ ra) σ σ1 := by rw [hσ1]; exact fr.tr ((fr_wi σ ra _ _).sub fun x hx => hx.2) (fr_wi _ (q + 3) 5 _) (fun x hx => hx.1)
        have cc1 : ∀ j, j ≠ 5 → cI σ1 (q + 3) j = cI σ (q + 3) j := fun j hj => by rw [hσ1, wi_ne _ _ _ _ (by omega), wi_ne _ _ _ _ (by omega)]
        have R1 : RK e ρ ρ1 := by
          rw [hρ1]
          exact ⟨rfl, fun r j a b c d => by rw [si_ne _ _ _ _ (by omega), si_ne _ _ _ _ (by omega)], fun r j a b => by rw [si_ne _ _ _ _ (by omega), si_ne _ _ _ _ (by omega)], fun r j a b => by rw [si_ne _ _ _ _ (by omega), si_ne _ _ _ _ (by omega)]⟩
        have H1 : SC g0 s0 a len N0 W σ1 ρ1 := H.fk (F1.sub fun y hy => by
          rcases hy with rfl | rfl
          · exact ⟨fun e => by rw [e] at og; omega, fun e => by rw [e] at og; omega⟩
          · exact ⟨fun e => by rw [e] at oa; omega, fun e => by rw [e] at oa; omega⟩) (fun j _ => R1.2.1 0 j (by omega) (by omega) (by omega) (by omega))
        obtain ⟨σ', ρ', w1, w2, w3, w4, w5, w6, w7⟩ := ih (i + 1) nC nR (v4 + 1) (v2 + 1) σ1 ρ1 (by omega) (by omega) (by omega) h4' h5' (by rw [hσ1]; exact O) Gn (by rw [cc1 3 (by omega)]; exact hft) (by rw [cc1 2 (by omega), cc1 1 (by omega)]; exact hed) H1 (fun i' hi' => by unfold Sk; rw [R1.2.1 2 _ (by omega) (by omega) (by omega) (by omega)]; exact hc i' hi') (fun i' => by rw [R1.2.1 2 _ (by omega) (by omega) (by omega) (by omega)]; exact hb i') (by rw [hσ1]; exact hra) (by rw [hσ1]; exact hN)
        exact ⟨σ', ρ', w1, w2, w3, fun j hj => by rw [w4 j hj, cc1 j hj], fr.tr F1 w5 (fun _ h => h), by rw [w6, hσ1]; rfl, R1.tr w7⟩
      · rw [if_neg (show ¬ cI σ ra (num &&& 65535).toNatClampNeg = 0 from fun h => hk (hagree.mp h)), if_neg (show ¬ ρ.1 40 (((65536 : Int32) * v1) + (num &&& (65535 : Int32))).toNatClampNeg = 0 by rw [x32_n hix]; exact hk)]
        unfold b_V_keep_105 b_received_84
        rw [bd_e, bd_e]
        exact ih (i + 1) nC nR (v4 + 1) (v2 + 1) σ ρ (by omega) (by omega) (by omega) h4' h5' O G hft hed H hc hb hra hN
    · rw [if_neg hx, if_pos rfl, if_pos rfl]
      unfold b_V_keep_105 b_received_84
      rw [bd_e, bd_e]
      exact ih (i + 1) nC nR (v4 + 1) (v2 + 1) σ ρ (by omega) (by omega) (by omega) h4' h5' O G hft hed H hc hb hra hN
end KL
