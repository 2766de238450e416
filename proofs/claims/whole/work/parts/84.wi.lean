/-! windows and FINs acknowledged, both sides -/
section WI
variable {own : Nat → Nat} {P C : List (Nat × Nat)} {S : List Nat} {c1 c2 K q e : Nat} {σ : CS} {ρ : RS} {τ st u nr n m g U : Nat} {rn : Int32} {tr : Nat}
theorem state_sim (hqe : q = 7 ∧ e = 0 ∨ q = 14 ∧ e = 1) (N : NB own P C S c1 c2 K σ ρ) (E : EGx own q e σ ρ τ st u nr n m g U rn tr) {st' : Nat} (h0 : st ≠ 0) (hs : st' ≤ 10) (hg5 : G5 q e σ ρ st') :
    EGx own q e (wi σ q 8 (Int32.ofNat st')) (si ρ 9 e (Int32.ofNat st')) τ st' u nr n m g U rn tr ∧ EP K C own own e σ (wi σ q 8 (Int32.ofNat st')) ρ (si ρ 9 e (Int32.ofNat st')) ∧ NB own P C S c1 c2 K (wi σ q 8 (Int32.ofNat st')) (si ρ 9 e (Int32.ofNat st')) := by
  have he : e < 2 := by omega
  have hoq := own_q hqe N.2.2.1
  have F : fr (fun x => x ≠ q) σ (wi σ q 8 (Int32.ofNat st')) := fr_wi _ _ _ _
  have r1 : ∀ r j, r ≠ 9 → (si ρ 9 e (Int32.ofNat st')).1 r j = ρ.1 r j := fun r j x => si_ne _ _ _ _ (by omega)
  have hen : cI σ q 9 = 0 := by
    rcases E.1.2.2.2.2.2.2.2.1 with h | h
    · exact h
    · exact absurd h.1 h0
  have hg1 : G1 q e (wi σ q 8 (Int32.ofNat st')) (si ρ 9 e (Int32.ofNat st')) st' := E.1.set (en := 0) (by rw [wi_eq]) (by rw [wi_ne _ _ _ _ (by omega)]; exact hen) (fun j a b => wi_ne _ _ _ _ (by omega)) (by rw [si_eq]) (by rw [r1 30 e (by omega), E.1.2.2.2.2.2.2.1]; exact hen) (fun r h => r1 r e (by omega)) (r1 0 4 (by omega)) hs (Or.inl rfl) (fun h => by
    rcases E.1.2.2.2.2.2.2.2.2.2.2 with h' | h'
    · exact absurd h'.2.2 h0
    · exact absurd h h'.1)
  obtain ⟨z1, z2⟩ := EP.wr N (fr_end F hoq.1) he rfl (RF.si ρ (Int32.ofNat st') (by omega) (by omega)) (fun r _ _ => funext fun j => r1 r j (by omega)) (r1 0 5 (by omega)) (r1 0 10 (by omega))
  refine ⟨?_, z1, z2⟩
  obtain ⟨_, g2, g3, g4, _⟩ := E
  refine ⟨hg1, g2.cg (F.sub fun x hx e => ?_) (fun _ h => h) (fun r h => r1 r _ (by omega)) (fun i _ => r1 38 _ (by omega)), g3.cg (F.sub fun x hx e => ?_) (fun _ h => h) (fun r h => r1 r _ (by omega)) (fun i _ => r1 39 _ (by omega)) (fun i _ => r1 40 _ (by omega)), g4.cg (F (q + 5) (by omega)).1 (F (q + 5) (by omega)).2.1 (fun r h => r1 r _ (by omega)) (fun r h => rfl), hg5.cg (F (q + 6) (by omega)).1 (fun r h => r1 r _ (by omega))⟩
  · rcases hx with hx | hx
    · omega
    · rw [e] at hx; omega
  · rcases hx with hx | hx
    · omega
    · rw [e] at hx; omega
theorem c_newer {g0 s0 a len N0 : Nat} {W : Nat → Int32} (hq : q = 7 ∨ q = 14) (H : SC g0 s0 a len N0 W σ ρ) : m_U_isNewerWindow (q + 1) g0 σ = some (if ¬ (n4 W 8 - cI σ (q + 1) 4 < 0) ∧ (0 < n4 W 4 - cI σ (q + 1) 10 ∨ n4 W 4 = cI σ (q + 1) 10 ∧ ¬ (n4 W 8 - cI σ (q + 1) 11 < 0)) then 1 else 0, σ) := by
  unfold m_U_isNewerWindow b_U_isNewerWindow_49 b_U_isNewerWindow_45 b_U_isNewerWindow_50
  rw [gd_t (by omega), gd_t H.kd, H.seq, bc2_e, gd_t H.kd, H.ack, bc2_e, bd_e, bd_e, bd_e, bd_e, gd_t z01_0, gd_t z01_1]
  by_cases h1 : n4 W 8 - cI σ (q + 1) 4 < 0
  · rw [if_pos h1, if_neg (fun h => h.1 h1)]
  · rw [if_neg h1]
    by_cases h2 : 0 < n4 W 4 - cI σ (q + 1) 10
    · rw [if_pos h2, if_pos ⟨h1, Or.inl h2⟩]
    · rw [if_neg h2]
      by_cases h3 : n4 W 4 = cI σ (q + 1) 10
      · rw [if_pos h3]
        by_cases h4 : n4 W 8 - cI σ (q + 1) 11 < 0
        · rw [if_pos h4, if_neg (fun h => h.2.elim h2 fun h => h.2 h4)]
        · rw [if_neg h4, if_pos ⟨h1, Or.inr ⟨h3, h4⟩⟩]
      · rw [if_neg h3, if_neg (fun h => h.2.elim h2 fun h => h3 h.1)]
theorem r_newer (he : e < 2) {v1 : Int32} (hv : v1.toInt = (e : Int)) : b_acknowledged_197 v1 ρ = if ¬ (ρ.1 0 47 - ρ.1 11 e < 0) ∧ (0 < ρ.1 0 46 - ρ.1 15 e ∨ ρ.1 0 46 = ρ.1 15 e ∧ ¬ (ρ.1 0 47 - ρ.1 16 e < 0)) then b_acknowledged_254 v1 ρ else b_acknowledged_275 v1 ρ := by
  have hi := x32_in hv he
  have hcl := x32_n hv
  subst hcl
  unfold b_acknowledged_197 m_above b_above_11
  rw [bd_e, gd_t hi, bd_e]
  by_cases h1 : ρ.1 0 47 - ρ.1 11 v1.toNatClampNeg < 0
  · rw [if_pos h1, if_neg (fun h => h.1 h1)]
  · rw [if_neg h1, bd_e, gd_t hi, bd_e]
    by_cases h2 : ρ.1 0 46 - ρ.1 15 v1.toNatClampNeg ≤ 0
    · have h2' : ¬ 0 < ρ.1 0 46 - ρ.1 15 v1.toNatClampNeg := fun h => by
        have a1 := Int32.lt_iff_toInt_lt.mp h
        have a2 := Int32.le_iff_toInt_le.mp h2
        omega
      rw [if_pos h2, gd_t z01_0, bc2_e, if_pos rfl, bd_e, gd_t hi, bd_e]
      by_cases h3 : ρ.1 0 46 = ρ.1 15 v1.toNatClampNeg
      · rw [if_pos h3, bd_e, gd_t hi, bd_e]
        by_cases h4 : ρ.1 0 47 - ρ.1 16 v1.toNatClampNeg < 0
        · rw [if_pos h4, if_neg (fun h => h.2.elim h2' fun h => h.2 h4)]
        · rw [if_neg h4, if_pos ⟨h1, Or.inr ⟨h3, h4⟩⟩]
      · rw [if_neg h3, if_neg (fun h => h.2.elim h2' fun h => h3 h.1)]
    · have h2' : 0 < ρ.1 0 46 - ρ.1 15 v1.toNatClampNeg := Int32.not_le.mp h2
      rw [if_neg h2, gd_t z01_1, bc2_e, if_neg (by decide), if_pos ⟨h1, Or.inl h2'⟩]
theorem win_sim {g0 s0 a len N0 : Nat} {W : Nat → Int32} (hqe : q = 7 ∧ e = 0 ∨ q = 14 ∧ e = 1) (N : NB own P C S c1 c2 K σ ρ) (E : EG own q e σ ρ τ st u n m g U rn tr) (H : SC g0 s0 a len N0 W σ ρ) (hC : C = [(g0, s0)]) {v1 : Int32} (hv : v1.toInt = (e : Int)) :
    ∃ σ' ρ' tr', m_E_heedWindow q g0 σ = some σ' ∧ b_acknowledged_197 v1 ρ = b_acknowledged_275 v1 ρ' ∧ EG own q e σ' ρ' τ st u n m g U rn tr' ∧ EP K C own own e σ σ' ρ ρ' ∧ NB own P C S c1 c2 K σ' ρ' ∧ KF q σ σ' ρ ρ' := by
  have hq : q = 7 ∨ q = 14 := by omega
  have he : e < 2 := by omega
  have hi := x32_in hv he
  have hcl := x32_n hv
  have O := N.2.2.1
  have hoq := own_q hqe O
  have h46 : ρ.1 0 46 = n4 W 4 := H.2.2.2.2.2.2.1
  have h47 : ρ.1 0 47 = n4 W 8 := H.2.2.2.2.2.2.2.1
  have h49 : ρ.1 0 49 = n2 W 14 := H.2.2.2.2.2.2.2.2.2.1
  have e11 : ρ.1 11 e = cI σ (q + 1) 4 := E.2.1.2.1.1
  have e15 : ρ.1 15 e = cI σ (q + 1) 10 := E.2.1.2.2.2.2.2.2.2.1
  have e16 : ρ.1 16 e = cI σ (q + 1) 11 := E.2.1.2.2.2.2.2.2.2.2.1
  unfold m_E_heedWindow
  rw [gd_t hq, c_newer hq H, bc2_e, r_newer he hv, h46, h47, e11, e15, e16]
  by_cases hc : ¬ (n4 W 8 - cI σ (q + 1) 4 < 0) ∧ (0 < n4 W 4 - cI σ (q + 1) 10 ∨ n4 W 4 = cI σ (q + 1) 10 ∧ ¬ (n4 W 8 - cI σ (q + 1) 11 < 0))
  · rw [if_pos hc, if_neg (by decide), if_pos hc]
    obtain ⟨σ2, hσ2⟩ : ∃ x, x = wi (wi (wi σ (q + 1) 9 (n2 W 14)) (q + 1) 10 (n4 W 4)) (q + 1) 11 (n4 W 8) := ⟨_, rfl⟩
    obtain ⟨ρ2, hρ2⟩ : ∃ x, x = si (si (si ρ 14 e (n2 W 14)) 15 e (n4 W 4)) 16 e (n4 W 8) := ⟨_, rfl⟩
    have F2 : fr (fun x => x ≠ q + 1) σ σ2 := by rw [hσ2]; exact fr.tr (fr.tr (fr_wi σ (q + 1) 9 _) (fr_wi _ (q + 1) 10 _) (fun _ h => h)) (fr_wi _ (q + 1) 11 _) (fun _ h => h)
    have r2 : ∀ r j, r ≠ 14 → r ≠ 15 → r ≠ 16 → ρ2.1 r j = ρ.1 r j := fun r j x y z => by rw [hρ2, si_ne _ _ _ _ (by omega), si_ne _ _ _ _ (by omega), si_ne _ _ _ _ (by omega)]
    have R2 : RF e ρ ρ2 := by rw [hρ2]; exact (((RF.rf e ρ).sis _ (by omega) (by omega)).sis _ (by omega) (by omega)).sis _ (by omega) (by omega)
    obtain ⟨P2, N2⟩ := EP.wr N (fr_end F2 hoq.2.1) he (by rw [hσ2]; rfl) R2 (fun r _ _ => funext fun j => r2 r j (by omega) (by omega) (by omega)) (r2 0 5 (by omega) (by omega) (by omega)) (r2 0 10 (by omega) (by omega) (by omega))
    have c2 : ∀ j, j ≠ 9 → j ≠ 10 → j ≠ 11 → cI σ2 (q + 1) j = cI σ (q + 1) j := fun j x y z => by rw [hσ2, wi_ne _ _ _ _ (by omega), wi_ne _ _ _ _ (by omega), wi_ne _ _ _ _ (by omega)]
    have d9 : cI σ2 (q + 1) 9 = n2 W 14 := by rw [hσ2, wi_ne _ _ _ _ (by omega), wi_ne _ _ _ _ (by omega), wi_eq]
    have E2 : EG own q e σ2 ρ2 τ st u n m g U rn tr := by
      refine E.at1 hqe N.2.2.1 F2 (fun r _ a b c => funext fun j => r2 r j (by omega) (by omega) (by omega)) (by rw [hρ2]; rfl) (r2 0 4 (by omega) (by omega) (by omega)) ?_
      obtain ⟨h1, h2, h3, h4, h5, h6, h7, h8, h9, h10, s, ab, k1, k2, k3, k4, k5, k6, k7, k8, k9⟩ := E.2.1
      obtain ⟨b1, b2, b3, b4, b5⟩ := F2 ab (fun e => by rw [e] at k5; omega)
      have d10 : cI σ2 (q + 1) 10 = n4 W 4 := by rw [hσ2, wi_ne _ _ _ _ (by omega), wi_eq]
      have d11 : cI σ2 (q + 1) 11 = n4 W 8 := by rw [hσ2, wi_eq]
      unfold G2x
      rw [c2 3 (by omega) (by omega) (by omega), c2 4 (by omega) (by omega) (by omega), c2 5 (by omega) (by omega) (by omega), c2 6 (by omega) (by omega) (by omega), c2 7 (by omega) (by omega) (by omega), c2 8 (by omega) (by omega) (by omega), d9, d10, d11, c2 1 (by omega) (by omega) (by omega), c2 2 (by omega) (by omega) (by omega), show cR σ2 = cR σ by rw [hσ2]; rfl, r2 10 e (by omega) (by omega) (by omega), r2 11 e (by omega) (by omega) (by omega), r2 12 e (by omega) (by omega) (by omega), r2 13 e (by omega) (by omega) (by omega), r2 32 e (by omega) (by omega) (by omega), r2 36 e (by omega) (by omega) (by omega), show ρ2.1 14 e = n2 W 14 by rw [hρ2, si_ne _ _ _ _ (by omega), si_ne _ _ _ _ (by omega), si_eq], show ρ2.1 15 e = n4 W 4 by rw [hρ2, si_ne _ _ _ _ (by omega), si_eq], show ρ2.1 16 e = n4 W 8 by rw [hρ2, si_eq], show ρ2.1 38 = ρ.1 38 from funext fun j => r2 38 j (by omega) (by omega) (by omega)]
      obtain ⟨bb1, bb2⟩ := bv_s W 14
      obtain ⟨bb3, bb4⟩ := bv_s W 15
      exact ⟨h1, h2, h3, h4, ⟨h5.1, fun z => h5.2 (by rw [← r2 0 4 (by omega) (by omega) (by omega)]; exact z)⟩, h6, ⟨rfl, 256 * bv W 14 + bv W 15, by omega, x32_of (by omega) (n2_s W 14)⟩, rfl, rfl, h10, s, ab, k1, k2, k3, by rw [b5]; exact k4, k5, by rw [b4]; exact k6, by rw [b4]; exact k7, by rw [b4]; exact k8, fun i hi => by rw [b1]; exact k9 i hi⟩
    have K2 : KF q σ σ2 ρ ρ2 := ⟨c2 8 (by omega) (by omega) (by omega), by rw [(F2 (q + 3) (by omega)).1], funext fun j => r2 40 j (by omega) (by omega) (by omega), c2 3 (by omega) (by omega) (by omega), fun j _ => by rw [(F2 q (by omega)).1]⟩
    have hcw : m_U_heedWindow (q + 1) g0 σ = some σ2 := by
      subst hC
      unfold m_U_heedWindow
      rw [gd_t (by omega : q + 1 = 8 ∨ q + 1 = 15), gd_t H.kd, H.win, bc2_e, bd_e]
      have P1a : EP K [(g0, s0)] own own e σ (wi σ (q + 1) 9 (n2 W 14)) ρ (si ρ 14 e (n2 W 14)) := (EP.wr N (fr_end (fr_wi σ (q + 1) 9 _) hoq.2.1) he rfl (RF.si ρ _ (by omega) (by omega)) (fun r _ _ => funext fun j => si_ne _ _ _ _ (by omega)) (si_ne _ _ _ _ (by omega)) (si_ne _ _ _ _ (by omega))).1
      have H1a := H.ep P1a
      rw [gd_t H1a.kd, H1a.seq, bc2_e, bd_e]
      have P1b : EP K [(g0, s0)] own own e σ (wi (wi σ (q + 1) 9 (n2 W 14)) (q + 1) 10 (n4 W 4)) ρ (si (si ρ 14 e (n2 W 14)) 15 e (n4 W 4)) := (EP.wr N (fr_end (fr.tr (fr_wi σ (q + 1) 9 _) (fr_wi _ (q + 1) 10 _) (fun _ h => h)) hoq.2.1) he rfl (((RF.rf e ρ).sis _ (by omega) (by omega)).sis _ (by omega) (by omega)) (fun r _ _ => funext fun j => by rw [si_ne _ _ _ _ (by omega), si_ne _ _ _ _ (by omega)]) (by rw [si_ne _ _ _ _ (by omega), si_ne _ _ _ _ (by omega)]) (by rw [si_ne _ _ _ _ (by omega), si_ne _ _ _ _ (by omega)])).1
      have H1b := H.ep P1b
      rw [gd_t H1b.kd, H1b.ack, bc2_e, bd_e, ← hσ2]
    have hrw : b_acknowledged_254 v1 ρ = if n2 W 14 = 0 then b_acknowledged_275 v1 (si ρ2 24 e 0) else b_acknowledged_275 v1 ρ2 := by
      unfold b_acknowledged_254 m_follow
      rw [bd_e, h49, gd_t hi, bd_e, bd_e, gd_t hi, bd_e, bd_e, gd_t hi, bd_e, bc_e]
      have a1 : (si ρ 14 v1.toNatClampNeg (n2 W 14)).1 0 46 = n4 W 4 := by rw [hcl, si_ne _ _ _ _ (by omega)]; exact h46
      rw [a1]
      have a2 : (si (si ρ 14 v1.toNatClampNeg (n2 W 14)) 15 v1.toNatClampNeg (n4 W 4)).1 0 47 = n4 W 8 := by rw [hcl, si_ne _ _ _ _ (by omega), si_ne _ _ _ _ (by omega)]; exact h47
      rw [a2, show si (si (si ρ 14 v1.toNatClampNeg (n2 W 14)) 15 v1.toNatClampNeg (n4 W 4)) 16 v1.toNatClampNeg (n4 W 8) = ρ2 by rw [hcl, hρ2], gd_t hi, bd_e, gd_t hi, bd_e, show ρ2.1 14 v1.toNatClampNeg = n2 W 14 by rw [hcl, hρ2, si_ne _ _ _ _ (by omega), si_ne _ _ _ _ (by omega), si_eq], hcl]
    rw [hcw, bc_e, bd_e, d9, hrw]
    unfold b_E_heedWindow_38
    by_cases hz : n2 W 14 = 0
    · rw [if_pos hz, if_pos hz, bd_e]
      have F4 : fr (fun x => x ≠ q + 5) σ2 (wi σ2 (q + 5) 1 0) := fr_wi _ _ _ _
      have r4 : ∀ r j, r ≠ 24 → (si ρ2 24 e 0).1 r j = ρ2.1 r j := fun r j x => si_ne _ _ _ _ (by omega)
      obtain ⟨P4, N4⟩ := EP.wr N2 (fr_end F4 hoq.2.2.2.1) he rfl (RF.si ρ2 0 (by omega) (by omega)) (fun r _ _ => funext fun j => r4 r j (by omega)) (r4 0 5 (by omega)) (r4 0 10 (by omega))
      have E4 := E2.at5 hqe N2.2.2.1 F4 (fun r _ b _ => funext fun j => r4 r j (by omega)) (r4 0 4 (by omega)) E2.2.2.2.1.tz
      exact ⟨_, _, 0, rfl, rfl, E4, P2.tr P4, N4, K2.tr ⟨by rw [(F4 (q + 1) (by omega)).1], by rw [(F4 (q + 3) (by omega)).1], funext fun j => r4 40 j (by omega), by rw [(F4 (q + 1) (by omega)).1], fun j _ => by rw [(F4 q (by omega)).1]⟩⟩
    · rw [if_neg hz, if_neg hz]
      exact ⟨σ2, ρ2, tr, rfl, rfl, E2, P2, N2, K2⟩
  · rw [if_neg hc, if_pos rfl, if_neg hc]
    obtain ⟨z1, z2⟩ := EP.wr N fr.rf he rfl (RF.rf e ρ) (fun _ _ _ => rfl) rfl rfl
    exact ⟨σ, ρ, tr, rfl, rfl, E, z1, z2, KF.rf⟩
theorem c_finack (hq : q = 7 ∨ q = 14) (h : G2 own q e σ ρ u n m g) (hc4 : ρ.1 0 4 ≠ 0) : m_U_finIsAcknowledged (q + 1) σ = some (if cI σ (q + 1) 8 ≠ 0 ∧ g + 1 < u then 1 else 0, σ) := by
  obtain ⟨h1, h2, h3, h4, h5, h6, h7, h8, h9, h10, _⟩ := h
  have hfin : cI σ (q + 1) 7 = cI σ (q + 1) 3 + Int32.ofNat (g + 1) := by rw [h5.2 hc4, show Int32.ofNat (g + 1) = Int32.ofNat g + 1 from nI_succ g]; grind
  have hd : (cI σ (q + 1) 3 + Int32.ofNat u - (cI σ (q + 1) 3 + Int32.ofNat (g + 1))).toInt = (u : Int) - ((g + 1 : Nat) : Int) := d32 _ (by omega) (by omega)
  unfold m_U_finIsAcknowledged b_U_finIsAcknowledged_23 b_U_finIsAcknowledged_24
  rw [gd_t (by omega : q + 1 = 8 ∨ q + 1 = 15), bd_e, bd_e, bd_e, gd_t z01_0, gd_t z01_1, h2.2, hfin]
  by_cases hc0 : cI σ (q + 1) 8 = 0
  · rw [if_pos hc0, if_neg (fun h => h.1 hc0)]
  · rw [if_neg hc0]
    by_cases hle : u ≤ g + 1
    · rw [if_pos (x32_le' hd z32_0 (by omega)), if_neg (fun h => by omega)]
    · rw [if_neg (x32_nle hd z32_0 (by omega)), if_pos ⟨hc0, by omega⟩]
theorem c_hfin (hq : q = 7 ∨ q = 14) (hst8 : cI σ q 8 = Int32.ofNat st) (hst : st ≤ 10) : m_E_heedFinAcknowledged q σ = if st = 5 then some (wi σ q 8 (Int32.ofNat 6)) else if st = 8 then some (wi σ q 8 (Int32.ofNat 10)) else if st = 9 then m_E_shut q 0 σ else some σ := by
  have hs : (Int32.ofNat st).toInt = (st : Int) := x32_nat (by omega)
  have t5 : (5 : Int32).toInt = 5 := by decide
  have t8 : (8 : Int32).toInt = 8 := by decide
  have t9 : (9 : Int32).toInt = 9 := by decide
  unfold m_E_heedFinAcknowledged b_E_heedFinAcknowledged_49
  rw [gd_t hq, bd_e, bd_e, bd_e, hst8]
  by_cases s5 : st = 5
  · rw [if_pos (x32_eq' hs t5 (by omega)), if_pos s5]; rfl
  rw [if_neg (x32_ne hs t5 (by omega)), if_neg s5]
  by_cases s8 : st = 8
  · rw [if_pos (x32_eq' hs t8 (by omega)), if_pos s8]; rfl
  rw [if_neg (x32_ne hs t8 (by omega)), if_neg s8, bd_e]
  by_cases s9 : st = 9
  · rw [if_pos (x32_eq' hs t9 (by omega)), if_pos s9]
    cases m_E_shut q 0 σ <;> rfl
  · rw [if_neg (x32_ne hs t9 (by omega)), if_neg s9]
theorem r_finack (he : e < 2) {v1 : Int32} (hv : v1.toInt = (e : Int)) (h : G2 own q e σ ρ u n m g) (hst9 : ρ.1 9 e = Int32.ofNat st) (hst : st ≤ 10) : b_acknowledged_275 v1 ρ = if cI σ (q + 1) 8 ≠ 0 ∧ g + 1 < u then (if st = 5 then some (1, si ρ 9 e (Int32.ofNat 6)) else if st = 8 then some (1, si ρ 9 e (Int32.ofNat 10)) else if st = 9 then bc (m_finished v1 ρ) fun r => some (0, r) else some (1, ρ)) else some (1, ρ) := by
  have hi := x32_in hv he
  have hcl := x32_n hv
  obtain ⟨h1, h2, h3, h4, h5, h6, h7, h8, h9, h10, _⟩ := h
  have hfr : ρ.1 10 e + 1 + ρ.1 32 e = cI σ (q + 1) 3 + Int32.ofNat (g + 1) := by rw [h1, h5.1, show Int32.ofNat (g + 1) = Int32.ofNat g + 1 from nI_succ g]; grind
  have hd : (ρ.1 11 e - (ρ.1 10 e + 1 + ρ.1 32 e)).toInt = (u : Int) - ((g + 1 : Nat) : Int) := by rw [hfr, h2.1, h2.2]; exact d32 _ (by omega) (by omega)
  have hs : (Int32.ofNat st).toInt = (st : Int) := x32_nat (by omega)
  have t5 : (5 : Int32).toInt = 5 := by decide
  have t8 : (8 : Int32).toInt = 8 := by decide
  have t9 : (9 : Int32).toInt = 9 := by decide
  rw [← h6.1]
  subst hcl
  unfold b_acknowledged_275 m_finNumber m_above b_above_11 b_acknowledged_301 b_acknowledged_364
  rw [gd_t hi, bd_e]
  by_cases hc0 : ρ.1 36 v1.toNatClampNeg = 0
  · rw [if_pos hc0, if_neg (fun h => h.1 hc0), gd_t z01_1]
  rw [if_neg hc0, gd_t hi, bd_e, gd_t hi, bd_e, gd_t hi, bd_e, bc2_e]
  by_cases hle : u ≤ g + 1
  · rw [if_pos (x32_le' hd z32_0 (by omega)), gd_t z01_0, bc2_e, if_pos rfl, gd_t z01_1, if_neg (fun h => by omega)]
  have hcond : ρ.1 36 v1.toNatClampNeg ≠ 0 ∧ g + 1 < u := ⟨hc0, by omega⟩
  rw [if_neg (x32_nle hd z32_0 (by omega)), gd_t z01_1, bc2_e, if_neg (by decide : ¬ (1 : Int32) = 0), gd_t hi, bd_e, hst9, if_pos hcond]
  by_cases s5 : st = 5
  · rw [if_pos (x32_eq' hs t5 (by omega)), if_pos s5, gd_t hi, bd_e, gd_t z01_1]; rfl
  rw [if_neg (x32_ne hs t5 (by omega)), if_neg s5, gd_t hi, bd_e]
  by_cases s8 : st = 8
  · rw [if_pos (x32_eq' hs t8 (by omega)), if_pos s8, gd_t hi, bd_e, gd_t z01_1]; rfl
  rw [if_neg (x32_ne hs t8 (by omega)), if_neg s8, gd_t hi, bd_e]
  by_cases s9 : st = 9
  · rw [if_pos (x32_eq' hs t9 (by omega)), if_pos s9]
    cases m_finished v1 ρ <;> rfl
  · rw [if_neg (x32_ne hs t9 (by omega)), if_neg s9, gd_t z01_1]
theorem fin_sim (hqe : q = 7 ∧ e = 0 ∨ q = 14 ∧ e = 1) (N : NB own P C S c1 c2 K σ ρ) (E : EG own q e σ ρ τ st u n m g U rn tr) (X : XQ q e σ ρ st u n m g U rn) (hst : 4 ≤ st) {v1 : Int32} (hv : v1.toInt = (e : Int)) (g0 : Nat) :
    ∃ σ' ρ' st' rn', (bc2 (m_U_finIsAcknowledged (q + 1) σ) fun x3 r2 => if x3 = 0 then (b_E_heedInOthers_84 q g0 r2) else (bc (m_E_heedFinAcknowledged q r2) fun r4 => b_E_heedInOthers_84 q g0 r4)) = b_E_heedInOthers_84 q g0 σ' ∧ b_acknowledged_275 v1 ρ = some (if st' = 0 then 0 else 1, ρ') ∧ EE own q e σ' ρ' τ st' u n m g U rn' tr ∧ EP K C own own e σ σ' ρ ρ' ∧ (st' = 0 ∨ 4 ≤ st') := by
  have hq : q = 7 ∨ q = 14 := by omega
  have he : e < 2 := by omega
  have hst8 : cI σ q 8 = Int32.ofNat st := E.1.2.2.2.2.1
  have hst9 : ρ.1 9 e = Int32.ofNat st := by rw [E.1.2.2.2.1]; exact hst8
  have hst10 : st ≤ 10 := E.1.2.2.2.2.2.1
  have same : ∃ σ' ρ' st' rn', b_E_heedInOthers_84 q g0 σ = b_E_heedInOthers_84 q g0 σ' ∧ some ((1 : Int32), ρ) = some (if st' = 0 then 0 else 1, ρ') ∧ EE own q e σ' ρ' τ st' u n m g U rn' tr ∧ EP K C own own e σ σ' ρ ρ' ∧ (st' = 0 ∨ 4 ≤ st') :=
    ⟨σ, ρ, st, rn, rfl, by rw [if_neg (by omega)], ⟨E, X⟩, (EP.wr N fr.rf he rfl (RF.rf e ρ) (fun _ _ _ => rfl) rfl rfl).1, Or.inr hst⟩
  have go : ∀ st', (st = 5 ∧ st' = 6 ∨ st = 8 ∧ st' = 10) → ∃ σ' ρ' st'' rn', b_E_heedInOthers_84 q g0 (wi σ q 8 (Int32.ofNat st')) = b_E_heedInOthers_84 q g0 σ' ∧ some ((1 : Int32), si ρ 9 e (Int32.ofNat st')) = some (if st'' = 0 then 0 else 1, ρ') ∧ EE own q e σ' ρ' τ st'' u n m g U rn' tr ∧ EP K C own own e σ σ' ρ ρ' ∧ (st'' = 0 ∨ 4 ≤ st'') := by
    intro st' hh
    obtain ⟨z1, z2, z3⟩ := state_sim (st' := st') hqe N E (by omega) (by omega) (by
      have gg := E.2.2.2.2
      exact ⟨gg.1, gg.2.1, gg.2.2.1, gg.2.2.2.1, fun _ => gg.2.2.2.2 (by omega)⟩)
    refine ⟨_, _, st', rn, rfl, by rw [if_neg (by omega)], ⟨z1, ?_⟩, z2, Or.inr (by omega)⟩
    have X' : XQ q e (wi σ q 8 (Int32.ofNat st')) (si ρ 9 e (Int32.ofNat st')) st u n m g U rn := X.cg (wi_ne _ _ _ _ (by omega)) (wi_ne _ _ _ _ (by omega)) (funext fun j => si_ne _ _ _ _ (by omega))
    obtain ⟨a1, a2, a3, a4, a5, a6, a7, a8, a9⟩ := X'
    exact ⟨fun h => by omega, fun h => by omega, fun h => by omega, fun _ => a4 hst, fun h => by omega, fun h => a6 (by omega), fun h => by omega, fun h => ⟨by omega, by omega⟩, fun h => by omega⟩
  have hc4 : ρ.1 0 4 ≠ 0 := by
    rcases E.1.2.2.2.2.2.2.2.2.2.2 with h' | h'
    · exact absurd h'.2.2 (by omega)
    · exact h'.1
  rw [c_finack hq E.2.1 hc4, bc2_e, r_finack he hv E.2.1 hst9 hst10]
  by_cases hc : cI σ (q + 1) 8 ≠ 0 ∧ g + 1 < u
  · rw [if_pos hc, if_neg (by decide), if_pos hc, c_hfin hq hst8 hst10]
    by_cases s5 : st = 5
    · rw [if_pos s5, if_pos s5, bc_e]
      exact go 6 (Or.inl ⟨s5, rfl⟩)
    rw [if_neg s5, if_neg s5]
    by_cases s8 : st = 8
    · rw [if_pos s8, if_pos s8, bc_e]
      exact go 10 (Or.inr ⟨s8, rfl⟩)
    rw [if_neg s8, if_neg s8]
    by_cases s9 : st = 9
    · rw [if_pos s9, if_pos s9]
      obtain ⟨σ', ρ', z1, z2, z3, z4, z5, z6⟩ := shut_sim (how := 0) hqe N E hv (by omega) (Or.inl rfl)
      rw [z1, bc_e, z2 rfl, bc_e]
      exact ⟨σ', ρ', 0, 0, rfl, rfl, ⟨z4, z5⟩, z6, Or.inl rfl⟩
    · rw [if_neg s9, if_neg s9, bc_e]
      exact same
  · rw [if_neg hc, if_pos rfl, if_neg hc]
    exact same
end WI
