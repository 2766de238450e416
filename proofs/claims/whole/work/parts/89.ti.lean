/-! a FIN is taken; step 13 as a whole -/
section TK
variable {own : Nat → Nat} {P C : List (Nat × Nat)} {S : List Nat} {c1 c2 K q e : Nat} {σ : CS} {ρ : RS} {τ st u n m g U : Nat} {rn : Int32} {tr : Nat} {g0 s0 a len N0 : Nat} {W : Nat → Int32}
theorem fin_in (hqe : q = 7 ∧ e = 0 ∨ q = 14 ∧ e = 1) (N : NB own P C S c1 c2 K σ ρ) (E : EG own q e σ ρ τ st u n m g U rn tr) (X : XQ q e σ ρ st u n m g U rn) (H : SC g0 s0 a len N0 W σ ρ) {v1 : Int32} (hv : v1.toInt = (e : Int)) (hst : 4 ≤ st ∧ st ≤ 6) (hft : cI σ (q + 3) 3 = 0) :
    ∃ σ' ρ' st', b_E_takeIn_17 q g0 (Int32.ofNat (len - ho W)) σ = some σ' ∧ b_received_173 v1 ρ = some ρ' ∧ EE own q e σ' ρ' τ st' u n m g U rn tr ∧ EP K C own own e σ σ' ρ ρ' ∧ NB own P C S c1 c2 K σ' ρ' ∧ 4 ≤ st' ∧ cI σ' q 10 = cI σ q 10 ∧ cR σ' = cR σ ∧ cN σ' = cN σ := by
  have hq : q = 7 ∨ q = 14 := by omega
  have he : e < 2 := by omega
  have hi := x32_in hv he
  have hcl := x32_n hv
  have O := N.2.2.1
  have hoq := own_q hqe O
  have h46 : ρ.1 0 46 = n4 W 4 := H.2.2.2.2.2.2.1
  have h48 : ρ.1 0 48 = n1 W 13 := H.2.2.2.2.2.2.2.2.1
  have h51 : ρ.1 0 51 = Int32.ofNat (len - ho W) := H.2.2.2.2.2.2.2.2.2.2.2.1
  have h18 : ρ.1 18 e = cI σ (q + 3) 1 := E.2.2.1.2.1
  have hst8 : cI σ q 8 = Int32.ofNat st := E.1.2.2.2.2.1
  have hst9 : ρ.1 9 e = Int32.ofNat st := by rw [E.1.2.2.2.1]; exact hst8
  have hs : (Int32.ofNat st).toInt = (st : Int) := x32_nat (by omega)
  have t4 : (4 : Int32).toInt = 4 := by decide
  have t5 : (5 : Int32).toInt = 5 := by decide
  have same : ∃ σ' ρ' st', some σ = some σ' ∧ some ρ = some ρ' ∧ EE own q e σ' ρ' τ st' u n m g U rn tr ∧ EP K C own own e σ σ' ρ ρ' ∧ NB own P C S c1 c2 K σ' ρ' ∧ 4 ≤ st' ∧ cI σ' q 10 = cI σ q 10 ∧ cR σ' = cR σ ∧ cN σ' = cN σ := by
    obtain ⟨z1, z2⟩ := EP.wr N fr.rf he rfl (RF.rf e ρ) (fun _ _ _ => rfl) rfl rfl
    exact ⟨σ, ρ, st, rfl, rfl, ⟨E, X⟩, z1, z2, hst.1, rfl, rfl, rfl⟩
  unfold b_E_takeIn_17 b_E_takeIn_41 b_E_takeIn_89 b_received_173 b_received_200
  rw [gd_t H.kd, H.has 1, bc2_e, bd_e, h48]
  by_cases hf : n1 W 13 &&& 1 = 0
  · rw [if_pos hf, if_pos rfl, if_pos hf]
    exact same
  rw [if_neg hf, if_neg (by decide), gd_t H.kd, H.seq, bc2_e, bd_e, if_neg hf, bd_e, h46, bd_e, h51, gd_t hi, bd_e, show ρ.1 18 v1.toNatClampNeg = cI σ (q + 3) 1 by rw [hcl]; exact h18]
  by_cases hr : n4 W 4 + Int32.ofNat (len - ho W) = cI σ (q + 3) 1
  · rw [if_pos hr, if_pos hr]
    -- rcv goes on, the FIN is taken
    obtain ⟨w, hw⟩ : ∃ w, w = cI σ (q + 3) 1 + 1 := ⟨_, rfl⟩
    obtain ⟨σ1, hσ1⟩ : ∃ x, x = wi (wi σ (q + 3) 1 w) (q + 3) 3 1 := ⟨_, rfl⟩
    obtain ⟨ρ1, hρ1⟩ : ∃ x, x = si (si ρ 18 e w) 37 e 1 := ⟨_, rfl⟩
    have F1 : fr (fun x => x ≠ q + 3) σ σ1 := by rw [hσ1]; exact fr.tr (fr_wi _ _ _ _) (fr_wi _ _ _ _) (fun _ h => h)
    have r1 : ∀ r j, r ≠ 18 → r ≠ 37 → ρ1.1 r j = ρ.1 r j := fun r j x y => by rw [hρ1, si_ne _ _ _ _ (by omega), si_ne _ _ _ _ (by omega)]
    obtain ⟨P1, N1⟩ := EP.wr N (fr_end F1 hoq.2.2.1) he (by rw [hσ1]; rfl) (by rw [hρ1]; exact ((RF.rf e ρ).sis w (by omega) (by omega)).sis 1 (by omega) (by omega)) (fun r _ _ => funext fun j => r1 r j (by omega) (by omega)) (r1 0 5 (by omega) (by omega)) (r1 0 10 (by omega) (by omega))
    have cc : ∀ j, j ≠ 1 → j ≠ 3 → cI σ1 (q + 3) j = cI σ (q + 3) j := fun j x y => by rw [hσ1, wi_ne _ _ _ _ (by omega), wi_ne _ _ _ _ (by omega)]
    have v3 : cI σ1 (q + 3) 3 = 1 := by rw [hσ1, wi_eq]
    have E1 : EG own q e σ1 ρ1 τ st u n m g U rn tr := by
      refine E.at3 hqe O (F1.sub fun x hx => hx.1) (fun r _ _ a _ _ b _ _ => funext fun j => r1 r j a b) (by rw [hρ1]; rfl) (r1 0 4 (by omega) (by omega)) ?_
      have g3 := E.2.2.1
      unfold G3 G3x at g3 ⊢
      obtain ⟨h1, h2, h3, h4, h5, h6, h7, h8, h9, ra, k1, k2, k3, k4⟩ := g3
      have hra : ra ≠ q + 3 := fun e => by have := (qkd hq σ).2.2.1; rw [← e] at this; omega
      obtain ⟨b1, b2, b3, b4, b5⟩ := F1 ra hra
      rw [cc 0 (by omega) (by omega), show cI σ1 (q + 3) 1 = w by rw [hσ1, wi_ne _ _ _ _ (by omega), wi_eq], cc 2 (by omega) (by omega), v3, cc 4 (by omega) (by omega), cc 5 (by omega) (by omega), cc 7 (by omega) (by omega), r1 7 e (by omega) (by omega), show ρ1.1 18 e = w by rw [hρ1, si_ne _ _ _ _ (by omega), si_eq], r1 19 e (by omega) (by omega), show ρ1.1 37 e = 1 by rw [hρ1, si_eq], r1 31 e (by omega) (by omega), show ρ1.1 40 = ρ.1 40 from funext fun j => r1 40 j (by omega) (by omega), show ρ1.1 39 = ρ.1 39 from funext fun j => r1 39 j (by omega) (by omega), show cR σ1 = cR σ by rw [hσ1]; rfl]
      exact ⟨h1, rfl, h3, ⟨rfl, Or.inr rfl⟩, h5, h6, by rw [h7, hft, hw]; grind, fun x => absurd x (by decide), h9, ra, k1, by rw [b5]; exact k2, k3, by rw [b4, b1]; exact k4⟩
    have go : ∀ st', (st = 4 ∧ st' = 7 ∨ st = 5 ∧ st' = 8 ∨ st = 6 ∧ st' = 10) → ∃ σ' ρ' st'', some (wi σ1 q 8 (Int32.ofNat st')) = some σ' ∧ some (si ρ1 9 e (Int32.ofNat st')) = some ρ' ∧ EE own q e σ' ρ' τ st'' u n m g U rn tr ∧ EP K C own own e σ σ' ρ ρ' ∧ NB own P C S c1 c2 K σ' ρ' ∧ 4 ≤ st'' ∧ cI σ' q 10 = cI σ q 10 ∧ cR σ' = cR σ ∧ cN σ' = cN σ := by
      intro st' hh
      obtain ⟨z1, z2, z3⟩ := state_sim (st' := st') hqe N1 E1 (by omega) (by omega) (by
        have gg := E1.2.2.2.2
        exact ⟨gg.1, gg.2.1, gg.2.2.1, gg.2.2.2.1, fun _ => gg.2.2.2.2 (by omega)⟩)
      refine ⟨_, _, st', rfl, rfl, ⟨z1, ?_⟩, P1.tr z2, z3, by omega, ?_, by rw [hσ1]; rfl, by rw [hσ1]; rfl⟩
      · obtain ⟨a1, a2, a3, a4, a5, a6, a7, a8, a9⟩ := X
        unfold XQ XX
        rw [wi_ne _ _ _ _ (by omega : q + 1 ≠ q ∨ (8 : Nat) ≠ 8), (F1 (q + 1) (by omega)).1]
        exact ⟨fun h => by omega, fun h => by omega, fun h => by omega, fun _ => a4 hst.1, fun h => a5 (by omega), fun h => by omega, fun h => by omega, fun h => ⟨by omega, by omega⟩, fun h => by omega⟩
      · rw [wi_ne _ _ _ _ (by omega), (F1 q (by omega)).1]
    obtain ⟨stn, hstn⟩ : ∃ stn : Nat, stn = if st = 4 then 7 else if st = 5 then 8 else 10 := ⟨_, rfl⟩
    have hcls : (bc (m_V_takeFin (q + 3) σ) fun r6 => bd (cI r6 q 8) fun x7 => if x7 = (4 : Int32) then (bd (wi r6 q 8 (7 : Int32)) fun r11 => some r11) else (bd (cI r6 q 8) fun x8 => if x8 = (5 : Int32) then (bd (wi r6 q 8 (8 : Int32)) fun r10 => some r10) else (bd (wi r6 q 8 (10 : Int32)) fun r9 => some r9))) = some (wi σ1 q 8 (Int32.ofNat stn)) := by
      unfold m_V_takeFin
      rw [gd_t (by omega : q + 3 = 10 ∨ q + 3 = 17), bd_e, ← hw, bd_e, gd_t z01_1, bd_e, bc_e, ← hσ1, bd_e, bd_e, (F1 q (by omega)).1, hst8, bd_e, bd_e, bd_e, hstn]
      by_cases s4 : st = 4
      · rw [if_pos (x32_eq' hs t4 (by omega)), if_pos s4]; rfl
      rw [if_neg (x32_ne hs t4 (by omega)), if_neg s4]
      by_cases s5 : st = 5
      · rw [if_pos (x32_eq' hs t5 (by omega)), if_pos s5]; rfl
      · rw [if_neg (x32_ne hs t5 (by omega)), if_neg s5]; rfl
    have hrf : (gd (inb v1 2) <| bd (cI σ (q + 3) 1) fun x5 => gd (inb v1 2) <| bd (si ρ 18 v1.toNatClampNeg (x5 + (1 : Int32))) fun r6 => gd (inb v1 2) <| bd (si r6 37 v1.toNatClampNeg (vp_nar .boolean (1 : Int32))) fun r7 => gd (inb v1 2) <| bd (r7.1 9 v1.toNatClampNeg) fun x8 => if x8 = (4 : Int32) then (b_received_255 v1 (7 : Int32) r7) else (gd (inb v1 2) <| bd (r7.1 9 v1.toNatClampNeg) fun x9 => if x9 = (5 : Int32) then (b_received_255 v1 (8 : Int32) r7) else (b_received_255 v1 (10 : Int32) r7))) = some (si ρ1 9 e (Int32.ofNat stn)) := by
      have h255 : ∀ w r, b_received_255 v1 w r = some (si r 9 e w) := fun w r => by unfold b_received_255; rw [gd_t hi, bd_e, hcl]
      have z9 : ρ1.1 9 v1.toNatClampNeg = Int32.ofNat st := by rw [hcl, r1 9 e (by omega) (by omega)]; exact hst9
      rw [gd_t hi, bd_e, ← hw, gd_t hi, bd_e, gd_t hi, bd_e, nar_b1, show si (si ρ 18 v1.toNatClampNeg w) 37 v1.toNatClampNeg 1 = ρ1 by rw [hcl, hρ1], gd_t hi, bd_e, z9, h255, gd_t hi, bd_e, h255, h255, hstn]
      by_cases s4 : st = 4
      · rw [if_pos (x32_eq' hs t4 (by omega)), if_pos s4]; rfl
      rw [if_neg (x32_ne hs t4 (by omega)), if_neg s4]
      by_cases s5 : st = 5
      · rw [if_pos (x32_eq' hs t5 (by omega)), if_pos s5]; rfl
      · rw [if_neg (x32_ne hs t5 (by omega)), if_neg s5]; rfl
    have hcase : st = 4 ∧ stn = 7 ∨ st = 5 ∧ stn = 8 ∨ st = 6 ∧ stn = 10 := by
      rw [hstn]
      by_cases s4 : st = 4
      · rw [if_pos s4]; exact Or.inl ⟨s4, rfl⟩
      rw [if_neg s4]
      by_cases s5 : st = 5
      · rw [if_pos s5]; exact Or.inr (Or.inl ⟨s5, rfl⟩)
      · rw [if_neg s5]; exact Or.inr (Or.inr ⟨by omega, rfl⟩)
    obtain ⟨σ', ρ', st'', w1, w2, w3⟩ := go stn hcase
    exact ⟨σ', ρ', st'', hcls.trans w1, hrf.trans w2, w3⟩
  · rw [if_neg hr, if_neg hr]
    exact same
/-- what a step of an end leaves -/
def ER (own own' : Nat → Nat) (e : Nat) (σ σ' : CS) (ρ ρ' : RS) : Prop := (∀ x, own x ≠ 99 → own' x = own x) ∧ fr (fun x => own x < 50 ∧ own x ≠ 10 + e ∧ own x ≠ 4 + e ∧ own x ≠ 2 + e) σ σ' ∧ QF e ρ ρ' ∧ (∀ x, own x < 50 → own x ≠ 4 + e → x ≠ (if e = 0 then 10 else 17) → cR σ' x = cR σ x) ∧ ∀ x, own x = 2 + e → cN σ' x = cN σ x
theorem ER.rf (own : Nat → Nat) (e : Nat) (σ : CS) (ρ : RS) : ER own own e σ σ ρ ρ := ⟨fun _ _ => rfl, fr.rf, QF.rf e ρ, fun _ _ _ _ => rfl, fun _ _ => rfl⟩
theorem EP.ER {own own' : Nat → Nat} {ρ' : RS} {σ' : CS} (h : EP K C own own' e σ σ' ρ ρ') (he : e < 2) : ER own own' e σ σ' ρ ρ' := by
  obtain ⟨_, h2, h3, h4, _, h6⟩ := h
  exact ⟨keepO h2, h3.sub fun x hx => ⟨hx.1, hx.2.1⟩, h4.QF, fun x hx _ _ => h6 x hx, fun x hx => (h3 x ⟨by omega, by omega⟩).2.2.2.1⟩
end TK
