/-! a timer is due, both sides -/
theorem wi_ne (σ : CS) (q j : Nat) (x : Int32) {a i : Nat} (h : a ≠ q ∨ i ≠ j) : cI (wi σ q j x) a i = cI σ a i := if_neg (by omega)
theorem wi_eq (σ : CS) (q j : Nat) (x : Int32) : cI (wi σ q j x) q j = x := if_pos ⟨rfl, rfl⟩
theorem si_ne (ρ : RS) (r j : Nat) (x : Int32) {a i : Nat} (h : a ≠ r ∨ i ≠ j) : (si ρ r j x).1 a i = ρ.1 a i := if_neg (by omega)
theorem si_eq (ρ : RS) (r j : Nat) (x : Int32) : (si ρ r j x).1 r j = x := if_pos ⟨rfl, rfl⟩
section TI
variable {own : Nat → Nat} {P C : List (Nat × Nat)} {S : List Nat} {c1 c2 K q e : Nat} {σ : CS} {ρ : RS} {τ st u n m g U : Nat} {rn : Int32} {tr : Nat}
theorem timer_fin (hqe : q = 7 ∧ e = 0 ∨ q = 14 ∧ e = 1) (N : NB own P C S c1 c2 K σ ρ) (E : EG own q e σ ρ τ st u n m g U rn tr) (T : CT σ ρ τ) {v1 : Int32} (hv : v1.toInt = (e : Int)) :
    ∃ σ' ρ', b_E_timerDue_138 q σ = some σ' ∧ b_timer_225 v1 ρ = some ρ' ∧ EG own q e σ' ρ' τ st u n m g U 1 tr ∧ EP K C own own e σ σ' ρ ρ' ∧ OT q e σ σ' ρ ρ' := by
  have hq : q = 7 ∨ q = 14 := by omega
  have he : e < 2 := by omega
  have hi := x32_in hv he
  have hcl := x32_n hv
  obtain ⟨⟨a1, r, r1, r2, r3⟩, _⟩ := E.2.2.2.1
  obtain ⟨s1, s2, s3⟩ := start_sim hqe N E r3 r2 T.2.2.2.1 T.2.2.2.2
  refine ⟨_, _, ?_, ?_, s1, s2, s3⟩
  · unfold b_E_timerDue_138
    rw [bd_e, bd_e, zstart hq, bc_e]
  · unfold b_timer_225
    simp only [gd_t hi, bd_e]
    rw [hcl, ← T.2.2.1, a1]
theorem low_eq (x s : Int32) : (if x / 2 < 2 * s then 2 * s else x / 2) = (if x / 2 ≤ 2 * s then 2 * s else x / 2) := by
  by_cases h : x / 2 < 2 * s
  · rw [if_pos h, if_pos (Int32.le_of_lt h)]
  · rw [if_neg h]
    by_cases h2 : x / 2 ≤ 2 * s
    · rw [if_pos h2]
      exact Int32.le_antisymm h2 (Int32.not_lt.mp h)
    · rw [if_neg h2]
def lw (n u : Nat) (s : Int32) : Int32 := if Int32.ofNat (n - u) / 2 < 2 * s then 2 * s else Int32.ofNat (n - u) / 2
theorem r_least (he : e < 2) {v1 : Int32} (hv : v1.toInt = (e : Int)) (h : G2 own q e σ ρ u n m g) : m_least v1 ρ = some (lw n u (ρ.1 17 e), ρ) := by
  have hi := x32_in hv he
  have hcl := x32_n hv
  have h10 := h.2.2.2.2.2.2.2.2.2.1
  have hnu : ρ.1 12 e - ρ.1 11 e = Int32.ofNat (n - u) := by
    rw [h.2.2.1.1, h.2.1.1, h.2.1.2]
    exact x32_of (by omega) (by rw [d32 _ (by omega) (by omega)]; omega)
  unfold m_least b_least_40 lw
  simp only [gd_t hi, bd_e]
  rw [hcl, hnu, low_eq]
  rw [gd_t (by decide)]
  split <;> rfl
theorem lw_nat {sg : Nat} {s : Int32} (hs : s = Int32.ofNat sg) (h1 : 64 ≤ sg) (h2 : sg ≤ 1460) (hn : n ≤ 11000) : ∃ x, 64 ≤ x ∧ x ≤ 1000000 ∧ lw n u s = Int32.ofNat x := by
  have a1 : (Int32.ofNat (n - u) / 2).toInt = (((n - u) / 2 : Nat) : Int) := x32_div (x32_nat (by omega)) (show (2 : Int32).toInt = ((2 : Nat) : Int) by decide) (by omega) (by omega)
  have a2 : (2 * s).toInt = 2 * (sg : Int) := by rw [hs]; exact x32_mul z32_2 (x32_nat (by omega)) (by omega) (by omega)
  unfold lw
  by_cases h : (n - u) / 2 < 2 * sg
  · rw [if_pos (x32_lt' a1 a2 (by omega))]
    exact ⟨2 * sg, by omega, by omega, x32_of (by omega) (by rw [a2]; omega)⟩
  · rw [if_neg (x32_nlt a1 a2 (by omega))]
    exact ⟨(n - u) / 2, by omega, by omega, x32_of (by omega) a1⟩
theorem c_collapse (hq : q = 7 ∨ q = 14) : m_O_collapse (q + 6) (Int32.ofNat (n - u)) σ = some (wi (wi (wi σ (q + 6) 2 (lw n u (cI σ (q + 6) 0))) (q + 6) 1 (cI σ (q + 6) 0)) (q + 6) 3 0) := by
  unfold m_O_collapse m_O_lowered lw
  rw [gd_t (by omega), gd_t (by omega), gd_t (by decide), bd_e, bd_e, bc2_e, bd_e, bd_e, bd_e, bd_e, wi_ne _ _ _ _ (by omega)]
theorem timer_sim (hqe : q = 7 ∧ e = 0 ∨ q = 14 ∧ e = 1) (N : NB own P C S c1 c2 K σ ρ) (E : EG own q e σ ρ τ st u n m g U 1 tr) (X : XQ q e σ ρ st u n m g U 1) (T : CT σ ρ τ) {v1 : Int32} (hv : v1.toInt = (e : Int)) :
    ∃ σ' ρ' own' st' n' m' rn' tr', m_E_timerDue q σ = some σ' ∧ m_timer v1 ρ = some ρ' ∧ EE own' q e σ' ρ' τ st' u n' m' g U rn' tr' ∧ EP K C own own' e σ σ' ρ ρ' ∧ (rn' = 0 ∨ tr' = tr + 1) := by
  have hq : q = 7 ∨ q = 14 := by omega
  have he : e < 2 := by omega
  have hi := x32_in hv he
  have hcl := x32_n hv
  have o3 : own 3 = 14 := N.2.2.1.2.2 3 (by decide)
  have hst2 : 2 ≤ st := by
    rcases Nat.lt_or_ge st 2 with h | h
    · exact absurd (X.1 (by omega)) (by decide)
    · exact h
  have hst10 : st ≤ 10 := E.1.2.2.2.2.2.1
  have hs : (Int32.ofNat st).toInt = (st : Int) := x32_nat (by omega)
  have t10 : (10 : Int32).toInt = 10 := by decide
  have t8 : (8 : Int32).toInt = 8 := by decide
  have t3 : (3 : Int32).toInt = 3 := by decide
  obtain ⟨E1, P1, N1⟩ := stop_sim hqe N E
  have T1 := T.ep P1 o3 he
  obtain ⟨σ1, hσ1⟩ : ∃ x, x = wi σ (q + 5) 2 0 := ⟨_, rfl⟩
  obtain ⟨ρ1, hρ1⟩ : ∃ x, x = sl ρ 33 e (-1) := ⟨_, rfl⟩
  have X1 : XQ q e σ1 ρ1 st u n m g U 0 := by
    have : XQ q e σ1 ρ1 st u n m g U 1 := X.cg (by rw [hσ1, wi_I, if_neg (by omega)]) (by rw [hσ1, wi_I, if_neg (by omega)]) (by rw [hρ1]; rfl)
    obtain ⟨a1, a2, a3, a4, a5, a6, a7, a8, a9⟩ := this
    exact ⟨fun _ => rfl, a2, a3, a4, a5, a6, a7, a8, a9⟩
  unfold m_E_timerDue m_timer
  rw [gd_t hq, gd_t z01_0, bd_e, bd_e]
  rw [← hσ1] at E1 P1 N1 T1 ⊢
  simp only [gd_t hi, bd_e]
  rw [hcl, ← hρ1]
  rw [← hρ1] at E1 P1 N1 T1
  have c8 : cI σ1 q 8 = Int32.ofNat st := E1.1.2.2.2.2.1
  have r9 : ρ1.1 9 e = Int32.ofNat st := by rw [E1.1.2.2.2.1]; exact c8
  obtain ⟨⟨q1, rt, rt1, rt2, rt3⟩, ⟨q2, q3, q4⟩, q5, q6, q7, q8, q9, q10, q11⟩ := E1.2.2.2.1
  have htr : (Int32.ofNat tr).toInt = (tr : Int) := x32_nat (by omega)
  rw [c8, r9]
  by_cases h10 : st = 10
  · rw [if_pos (x32_eq' hs t10 (by omega)), if_pos (x32_eq' hs t10 (by omega))]
    obtain ⟨σ', ρ', z1, z2, z3, z4, z5, z6⟩ := shut_sim (how := 0) hqe N1 E1 hv (by omega) (Or.inl rfl)
    exact ⟨σ', ρ', own, 0, n, m, 0, tr, by rw [z1, bc_e], by rw [z2 rfl, bc_e], ⟨z4, z5⟩, P1.tr z6, Or.inl rfl⟩
  rw [if_neg (x32_ne hs t10 (by omega)), if_neg (x32_ne hs t10 (by omega)), q3, q2, q3]
  by_cases h8 : tr = 8
  · rw [if_neg (x32_nlt htr t8 (by omega)), if_pos (x32_eq' htr t8 (by omega))]
    obtain ⟨σ', ρ', z1, z2, z3, z4, z5, z6⟩ := shut_sim (how := 2) hqe N1 E1 hv (by omega) (Or.inr (Or.inr rfl))
    exact ⟨σ', ρ', own, 0, n, m, 0, tr, by rw [z1, bc_e], by rw [z3 (by decide), bc_e], ⟨z4, z5⟩, P1.tr z6, Or.inl rfl⟩
  rw [if_pos (x32_lt' htr t8 (by omega)), if_neg (x32_ne htr t8 (by omega))]
  -- back off
  obtain ⟨w, hw⟩ : ∃ w, w = Int32.ofNat (min (2 * rt) 60000) := ⟨_, rfl⟩
  have hrt : (Int32.ofNat rt).toInt = (rt : Int) := x32_nat (by omega)
  have h2rt : ((2 : Int32) * Int32.ofNat rt).toInt = 2 * (rt : Int) := x32_mul z32_2 hrt (by omega) (by omega)
  have t6 : (60000 : Int32).toInt = 60000 := by decide
  have t30 : (30000 : Int32).toInt = 30000 := by decide
  have tr1 : Int32.ofNat tr + 1 = Int32.ofNat (tr + 1) := (nI_succ tr).symm
  obtain ⟨σ2, hσ2⟩ : ∃ x, x = wi (wi (wi σ1 (q + 5) 1 (Int32.ofNat (tr + 1))) (q + 5) 0 w) (q + 5) 6 0 := ⟨_, rfl⟩
  obtain ⟨ρ2, hρ2⟩ : ∃ x, x = si (si (si ρ1 24 e (Int32.ofNat (tr + 1))) 23 e w) 35 e 0 := ⟨_, rfl⟩
  have hbo : m_Z_backOff (q + 5) σ1 = some σ2 := by
    unfold m_Z_backOff
    rw [gd_t (by omega), bd_e, bd_e, bd_e, wi_ne _ _ _ _ (by omega), rt3, bd_e, bd_e, gd_t z01_0, bd_e, q3, tr1, hσ2, hw]
    by_cases hle : 60000 < 2 * rt
    · rw [if_pos (x32_lt' t6 h2rt (by omega)), show min (2 * rt) 60000 = 60000 by omega]
      rfl
    · rw [if_neg (x32_nlt t6 h2rt (by omega)), show min (2 * rt) 60000 = 2 * rt by omega, x32_of (by omega) (by rw [h2rt]; omega : ((2 : Int32) * Int32.ofNat rt).toInt = ((2 * rt : Nat) : Int))]
  rw [hbo, bc_e, tr1]
  have hrf : (if (si ρ1 24 e (Int32.ofNat (tr + 1))).1 23 e ≤ 30000 then b_timer_84 v1 v1 (2 * (si ρ1 24 e (Int32.ofNat (tr + 1))).1 23 e) (si ρ1 24 e (Int32.ofNat (tr + 1))) else b_timer_84 v1 v1 60000 (si ρ1 24 e (Int32.ofNat (tr + 1)))) = b_timer_84 v1 v1 w (si ρ1 24 e (Int32.ofNat (tr + 1))) := by
    rw [si_ne _ _ _ _ (by omega), q1, rt3, hw]
    by_cases hle : rt ≤ 30000
    · rw [if_pos (x32_le' hrt t30 (by omega)), show min (2 * rt) 60000 = 2 * rt by omega, x32_of (by omega) (by rw [h2rt]; omega : ((2 : Int32) * Int32.ofNat rt).toInt = ((2 * rt : Nat) : Int))]
    · rw [if_neg (x32_nle hrt t30 (by omega)), show min (2 * rt) 60000 = 60000 by omega]
      rfl
  rw [hrf]
  unfold b_timer_84
  simp only [gd_t hi, bd_e]
  rw [hcl, nar_b0, ← hρ2]
  have F2 : fr (fun x => x ≠ q + 5) σ1 σ2 := by rw [hσ2]; exact fr.tr (fr.tr (fr_wi σ1 (q + 5) 1 _) (fr_wi _ (q + 5) 0 w) (fun _ h => h)) (fr_wi _ (q + 5) 6 0) (fun _ h => h)
  have R2 : RF e ρ1 ρ2 := by rw [hρ2]; exact ((RF.si ρ1 _ (by omega) (by omega)).tr (RF.si _ w (by omega) (by omega))).tr (RF.si _ 0 (by omega) (by omega))
  have r2 : ∀ r j, r ≠ 24 → r ≠ 23 → r ≠ 35 → ρ2.1 r j = ρ1.1 r j := fun r j a b c => by rw [hρ2, si_1, if_neg (by omega), si_1, if_neg (by omega), si_1, if_neg (by omega)]
  have hoq := own_q hqe N1.2.2.1
  obtain ⟨P2, N2⟩ := EP.wr N1 (fr_end F2 hoq.2.2.2.1) he (by rw [hσ2]; rfl) R2 (fun r _ _ => funext fun j => r2 r j (by omega) (by omega) (by omega)) (r2 0 5 (by omega) (by omega) (by omega)) (r2 0 10 (by omega) (by omega) (by omega))
  have E2 : EG own q e σ2 ρ2 τ st u n m g U 0 (tr + 1) := by
    refine E1.at5 hqe N1.2.2.1 F2 (fun r a b c => funext fun j => r2 r j (by omega) (by omega) c) (r2 0 4 (by omega) (by omega) (by omega)) ?_
    have cc : ∀ j, j ≠ 0 → j ≠ 1 → j ≠ 6 → cI σ2 (q + 5) j = cI σ1 (q + 5) j := fun j a b c => by rw [hσ2, wi_I, if_neg (by omega), wi_I, if_neg (by omega), wi_I, if_neg (by omega)]
    have cj : cJ σ2 = cJ σ1 := by rw [hσ2]; rfl
    have rl : ρ2.2 = ρ1.2 := by rw [hρ2]; rfl
    unfold G4
    rw [cc 2 (by omega) (by omega) (by omega), cc 7 (by omega) (by omega) (by omega), cj, rl, r2 25 e (by omega) (by omega) (by omega), r2 26 e (by omega) (by omega) (by omega), r2 27 e (by omega) (by omega) (by omega)]
    have v0 : cI σ2 (q + 5) 0 = w := by rw [hσ2, wi_I, if_neg (by omega), wi_I, if_pos ⟨rfl, rfl⟩]
    have v1' : cI σ2 (q + 5) 1 = Int32.ofNat (tr + 1) := by rw [hσ2, wi_I, if_neg (by omega), wi_I, if_neg (by omega), wi_I, if_pos ⟨rfl, rfl⟩]
    have v6 : cI σ2 (q + 5) 6 = 0 := by rw [hσ2, wi_I, if_pos ⟨rfl, rfl⟩]
    rw [v0, v1', v6]
    refine ⟨⟨?_, min (2 * rt) 60000, by omega, by omega, hw⟩, ⟨?_, rfl, by omega⟩, q5, q6, q7, q8, ⟨?_, Or.inl rfl⟩, q10, q11⟩
    · rw [hρ2, si_1, if_neg (by omega), si_1, if_pos ⟨rfl, rfl⟩]
    · rw [hρ2, si_1, if_neg (by omega), si_1, if_neg (by omega), si_1, if_pos ⟨rfl, rfl⟩]
    · rw [hρ2, si_1, if_pos ⟨rfl, rfl⟩]
  have X2 : XQ q e σ2 ρ2 st u n m g U 0 := X1.cg (by rw [(F2 (q + 1) (by omega)).1]) (by rw [(F2 (q + 3) (by omega)).1]) (funext fun j => r2 40 j (by omega) (by omega) (by omega))
  have T2 := T1.ep P2 o3 he
  have P12 := P1.tr P2
  have c8' : cI σ2 q 8 = Int32.ofNat st := E2.1.2.2.2.2.1
  have r9' : ρ2.1 9 e = Int32.ofNat st := by rw [E2.1.2.2.2.1]; exact c8'
  rw [c8', r9']
  by_cases h23 : st = 2 ∨ st = 3
  · obtain ⟨x1, x2, x3, x4, x5⟩ := X2.2.2.1 h23
    subst x1 x2 x3 x4
    have hse : e = 0 ↔ st = 2 := by
      have a8 := X2.2.2.2.2.2.2.2.1
      have a9 := X2.2.2.2.2.2.2.2.2
      constructor
      · intro h; have := a8 h; omega
      · intro h
        rcases Nat.eq_zero_or_pos e with h0 | h0
        · exact h0
        · exact absurd h (a9 (by omega))
    obtain ⟨σ3, hσ3⟩ : ∃ x, x = wi σ2 (q + 1) 5 (cI σ2 (q + 1) 3) := ⟨_, rfl⟩
    have F3 : fr (fun x => x ≠ q + 1) σ2 σ3 := by rw [hσ3]; exact fr_wi σ2 (q + 1) 5 _
    have c3 : ∀ j, j ≠ 5 → cI σ3 (q + 1) j = cI σ2 (q + 1) j := fun j hj => by rw [hσ3, wi_ne _ _ _ _ (by omega)]
    have c35 : cI σ3 (q + 1) 5 = cI σ2 (q + 1) 3 := by rw [hσ3, wi_eq]
    have a00 : ∀ I : Int32, I = I + Int32.ofNat 0 := fun I => by show I = I + 0; grind
    have E3 : EGx own q e σ3 ρ2 τ st 0 1 0 1 0 U 0 (tr + 1) := by
      refine E2.at1 hqe N2.2.2.1 F3 (fun _ _ _ _ _ => rfl) rfl rfl ?_
      obtain ⟨h1, h2, h3, h4, h5, h6, h7, h8, h9, h10, s, ab, k1, k2, k3, k4, k5, k6, k7, k8, k9⟩ := E2.2.1
      obtain ⟨b1, b2, b3, b4, b5⟩ := F3 ab (fun e => by rw [e] at k5; omega)
      unfold G2x
      rw [c3 3 (by omega), c3 4 (by omega), c35, c3 6 (by omega), c3 7 (by omega), c3 8 (by omega), c3 9 (by omega), c3 10 (by omega), c3 11 (by omega), c3 1 (by omega), c3 2 (by omega), show cR σ3 = cR σ2 by rw [hσ3]; rfl]
      exact ⟨h1, h2, ⟨h3.1, a00 _⟩, h4, h5, h6, h7, h8, h9, ⟨by omega, by omega, by omega, by omega⟩, s, ab, k1, k2, k3, by rw [b5]; exact k4, k5, by rw [b4]; exact k6, by rw [b4]; exact k7, by rw [b4]; exact k8, fun i hi => by omega⟩
    obtain ⟨P3, N3⟩ := EP.wr (ρ' := ρ2) N2 (fr_end F3 hoq.2.1) he (by rw [hσ3]; rfl) (RF.rf e ρ2) (fun _ _ _ => rfl) rfl rfl
    have T3 := T2.ep P3 o3 he
    have i2 : inc 2 = 1 := by decide
    obtain ⟨σ4, ρ4, o4, y1, y2, y3, y4, y5⟩ := again_sim (f := 2) (num := cI σ2 (q + 1) 3) (nn := 0) (v4 := 0) (k := 0) (a := 0) hqe N3 E3 T3.1 T3.2.1 hv (by decide) (by omega) (by rw [c3 3 (by omega)]; exact a00 _) (Or.inl rfl) (Or.inr (Or.inr ⟨rfl, rfl, hse⟩)) (by omega) (by omega)
    obtain ⟨P4, S4, c14, c24, N4⟩ := y4.1
    have f41 : cI σ4 (q + 1) = cI σ3 (q + 1) := (y5.1 (q + 1) (Or.inl rfl)).1
    obtain ⟨w5, hw5⟩ : ∃ x, x = cI σ2 (q + 1) 3 + Int32.ofNat 1 := ⟨_, rfl⟩
    obtain ⟨σ5, hσ5⟩ : ∃ x, x = wi σ4 (q + 1) 5 w5 := ⟨_, rfl⟩
    have F5 : fr (fun x => x ≠ q + 1) σ4 σ5 := by rw [hσ5]; exact fr_wi σ4 (q + 1) 5 _
    have c5 : ∀ j, j ≠ 5 → cI σ5 (q + 1) j = cI σ4 (q + 1) j := fun j hj => by rw [hσ5, wi_ne _ _ _ _ (by omega)]
    have c55 : cI σ5 (q + 1) 5 = w5 := by rw [hσ5, wi_eq]
    have hoq4 := own_q hqe N4.2.2.1
    have h43 : cI σ4 (q + 1) 3 = cI σ2 (q + 1) 3 := by rw [f41, c3 3 (by omega)]
    have E5 : EG o4 q e σ5 ρ4 τ st 0 1 1 0 U 0 (tr + 1) := by
      refine y3.at1 hqe N4.2.2.1 F5 (fun _ _ _ _ _ => rfl) rfl rfl ?_
      obtain ⟨h1, h2, h3, h4, h5, h6, h7, h8, h9, h10, s, ab, k1, k2, k3, k4, k5, k6, k7, k8, k9⟩ := y3.2.1
      obtain ⟨b1, b2, b3, b4, b5⟩ := F5 ab (fun e => by rw [e] at k5; omega)
      unfold G2x
      rw [c5 3 (by omega), c5 4 (by omega), c55, c5 6 (by omega), c5 7 (by omega), c5 8 (by omega), c5 9 (by omega), c5 10 (by omega), c5 11 (by omega), c5 1 (by omega), c5 2 (by omega), show cR σ5 = cR σ4 by rw [hσ5]; rfl]
      exact ⟨h1, h2, ⟨h3.1, by rw [hw5, h43]⟩, h4, h5, h6, h7, h8, h9, ⟨by omega, by omega, by omega, by omega⟩, s, ab, k1, k2, k3, by rw [b5]; exact k4, k5, by rw [b4]; exact k6, by rw [b4]; exact k7, by rw [b4]; exact k8, fun i hi => by omega⟩
    obtain ⟨P5, N5⟩ := EP.wr (ρ' := ρ4) N4 (fr_end F5 hoq4.2.1) he (by rw [hσ5]; rfl) (RF.rf e ρ4) (fun _ _ _ => rfl) rfl rfl
    have o43 : o4 3 = 14 := N4.2.2.1.2.2 3 (by decide)
    have T5 := (T3.ep y4 o3 he).ep P5 o43 he
    obtain ⟨σ', ρ', z1, z2, z3, z4, z5⟩ := timer_fin hqe N5 E5 T5 hv
    have m4 : cI σ4 (q + 1) 6 = cI σ2 (q + 1) 3 + Int32.ofNat 1 := by rw [y3.2.1.2.2.2.1.2, h43]
    have hsn : m_E_sendNext q 2 0 σ3 = some σ5 := by
      unfold m_E_sendNext b_E_sendNext_20 b_E_sendNext_57
      have ex : cI σ2 (q + 1) 3 + 0 + 1 = w5 := by rw [hw5]; show cI σ2 (q + 1) 3 + 0 + 1 = cI σ2 (q + 1) 3 + 1; grind
      rw [gd_t hq, bd_e, if_neg (by decide), c35, bd_e, ex, y1, bc_e, bd_e, if_neg (by
        rw [m4]
        intro h
        have := (e32 (cI σ2 (q + 1) 3) (a := 0) (b := 1) (by omega) (by omega)).mp (by rw [← a00]; exact h)
        omega), ufollow hq, if_pos (by rw [m4, hw5]; exact x32_le' (d32 _ (by omega) (by omega)) z32_0 (by omega)), bc_e, hσ5]
    have hcc : ∀ X : Option CS, (if Int32.ofNat st = 2 then b_E_timerDue_64 q σ2 else if Int32.ofNat st = 3 then b_E_timerDue_64 q σ2 else X) = b_E_timerDue_64 q σ2 := fun X => by
      rcases h23 with h | h
      · rw [if_pos (x32_eq' hs z32_2 (by omega))]
      · rw [if_neg (x32_ne hs z32_2 (by omega)), if_pos (x32_eq' hs t3 (by omega))]
    have hrr : ∀ X : Option RS, (if Int32.ofNat st = 2 then b_timer_112 v1 ρ2 else if Int32.ofNat st = 3 then b_timer_112 v1 ρ2 else X) = b_timer_112 v1 ρ2 := fun X => by
      rcases h23 with h | h
      · rw [if_pos (x32_eq' hs z32_2 (by omega))]
      · rw [if_neg (x32_ne hs z32_2 (by omega)), if_pos (x32_eq' hs t3 (by omega))]
    rw [hcc, hrr]
    unfold b_E_timerDue_64 b_timer_112
    rw [bd_e, bd_e, ← hσ3, hsn, bc_e, gd_t hi, bd_e, hcl, E2.2.1.1, y2, bc_e]
    refine ⟨σ', ρ', o4, st, 1, 1, 1, tr + 1, z1, z2, ⟨z3, ?_⟩, P12.tr (P3.tr (y4.tr (P5.tr z4))), Or.inr rfl⟩
    have hX : XQ q e σ' ρ' st 0 1 1 0 U 0 := X2.cg (by rw [z5.2.2.2.1 8 (by omega) (by omega), c5 8 (by omega), f41, c3 8 (by omega)]) (by rw [z5.2.1 3 (by omega), (F5 (q + 3) (by omega)).1, y5.2.2.2.1 3 (by omega), (F3 (q + 3) (by omega)).1]) (by rw [z4.2.2.2.1.1 40 (by omega), y4.2.2.2.1.1 40 (by omega)])
    obtain ⟨a1, a2, a3, a4, a5, a6, a7, a8, a9⟩ := hX
    exact ⟨fun h => by omega, a2, a3, a4, a5, a6, a7, a8, a9⟩
  · have hst4 : 4 ≤ st := by omega
    rw [if_neg (x32_ne hs z32_2 (by omega)), if_neg (x32_ne hs t3 (by omega)), if_neg (x32_ne hs z32_2 (by omega)), if_neg (x32_ne hs t3 (by omega))]
    have h10 := E2.2.1.2.2.2.2.2.2.2.2.2.1
    have hu1 : 1 ≤ u := X2.2.2.2.1 hst4
    obtain ⟨sg, cw, s1, s2, s3, s4, s5, s6⟩ := E2.2.2.2.2.2.2.2.2 (by omega)
    rw [c_flight hq E2.2.1, bc2_e, c_collapse hq, bc_e, r_least he hv E2.2.1, bc2_e]
    have e17 : ρ2.1 17 e = cI σ2 (q + 6) 0 := E2.2.2.2.2.1
    rw [e17]
    obtain ⟨lo, hlo⟩ : ∃ x, x = lw n u (cI σ2 (q + 6) 0) := ⟨_, rfl⟩
    rw [← hlo]
    obtain ⟨σ3, hσ3⟩ : ∃ x, x = wi (wi (wi σ2 (q + 6) 2 lo) (q + 6) 1 (cI σ2 (q + 6) 0)) (q + 6) 3 0 := ⟨_, rfl⟩
    obtain ⟨ρ3, hρ3⟩ : ∃ x, x = si (si (si ρ2 21 e lo) 20 e (cI σ2 (q + 6) 0)) 22 e 0 := ⟨_, rfl⟩
    have F3 : fr (fun x => x ≠ q + 6) σ2 σ3 := by rw [hσ3]; exact fr.tr (fr.tr (fr_wi σ2 (q + 6) 2 _) (fr_wi _ (q + 6) 1 _) (fun _ h => h)) (fr_wi _ (q + 6) 3 0) (fun _ h => h)
    have R3 : RF e ρ2 ρ3 := by rw [hρ3]; exact ((RF.si ρ2 _ (by omega) (by omega)).tr (RF.si _ _ (by omega) (by omega))).tr (RF.si _ 0 (by omega) (by omega))
    have r3 : ∀ r j, r ≠ 21 → r ≠ 20 → r ≠ 22 → ρ3.1 r j = ρ2.1 r j := fun r j a b c => by rw [hρ3, si_ne _ _ _ _ (by omega), si_ne _ _ _ _ (by omega), si_ne _ _ _ _ (by omega)]
    have E3 : EG own q e σ3 ρ3 τ st u n m g U 0 (tr + 1) := by
      refine E2.at6 hqe N2.2.2.1 F3 (fun r a b c => funext fun j => r3 r j (by omega) (by omega) (by omega)) (by rw [hρ3]; rfl) (r3 0 4 (by omega) (by omega) (by omega)) ?_
      have v0 : cI σ3 (q + 6) 0 = cI σ2 (q + 6) 0 := by rw [hσ3, wi_ne _ _ _ _ (by omega), wi_ne _ _ _ _ (by omega), wi_ne _ _ _ _ (by omega)]
      have v1' : cI σ3 (q + 6) 1 = cI σ2 (q + 6) 0 := by rw [hσ3, wi_ne _ _ _ _ (by omega), wi_eq]
      have v2 : cI σ3 (q + 6) 2 = lo := by rw [hσ3, wi_ne _ _ _ _ (by omega), wi_ne _ _ _ _ (by omega), wi_eq]
      have v3 : cI σ3 (q + 6) 3 = 0 := by rw [hσ3, wi_eq]
      unfold G5
      rw [v0, v1', v2, v3, r3 17 e (by omega) (by omega) (by omega)]
      refine ⟨e17, ?_, ?_, ?_, fun _ => ⟨sg, sg, s1, s2, s3, by omega, by omega, s3⟩⟩
      · rw [hρ3, si_ne _ _ _ _ (by omega), si_eq]
      · rw [hρ3, si_ne _ _ _ _ (by omega), si_ne _ _ _ _ (by omega), si_eq]
      · rw [hρ3, si_eq]
    obtain ⟨P3, N3⟩ := EP.wr N2 (fr_end F3 hoq.2.2.2.2) he (by rw [hσ3]; rfl) R3 (fun r _ _ => funext fun j => r3 r j (by omega) (by omega) (by omega)) (r3 0 5 (by omega) (by omega) (by omega)) (r3 0 10 (by omega) (by omega) (by omega))
    obtain ⟨w4, hw4⟩ : ∃ x, x = cI σ3 (q + 1) 4 := ⟨_, rfl⟩
    obtain ⟨σ4, hσ4⟩ : ∃ x, x = wi σ3 (q + 1) 5 w4 := ⟨_, rfl⟩
    obtain ⟨ρ4, hρ4⟩ : ∃ x, x = si ρ3 12 e w4 := ⟨_, rfl⟩
    have F4 : fr (fun x => x ≠ q + 1) σ3 σ4 := by rw [hσ4]; exact fr_wi σ3 (q + 1) 5 _
    have r4 : ∀ r j, r ≠ 12 → ρ4.1 r j = ρ3.1 r j := fun r j a => by rw [hρ4, si_ne _ _ _ _ (by omega)]
    have E4 : EG own q e σ4 ρ4 τ st u u m g U 0 (tr + 1) := by
      refine E3.at1 hqe N3.2.2.1 F4 (fun r a b c d => funext fun j => r4 r j (by omega)) (by rw [hρ4]; rfl) (r4 0 4 (by omega)) ?_
      have hm6 := E3.2.1.2.2.2.1
      refine E3.2.1.num hq rfl ?_ ?_ (fun j a b => by rw [hσ4, wi_ne _ _ _ _ (by omega)]) (by rw [hσ4]; rfl) (F4.sub fun x hx e => by rw [e] at hx; omega) ?_ ?_ (fun r h => r4 r e (by omega)) (funext fun j => r4 38 j (by omega)) ⟨by omega, by omega, by omega⟩ (fun h => ?_) (r4 0 4 (by omega))
      · rw [hσ4, wi_eq, hw4]; exact E3.2.1.2.1.2
      · rw [hσ4, wi_ne _ _ _ _ (by omega)]; exact hm6.2
      · rw [hρ4, si_eq, hσ4, wi_eq]
      · rw [r4 13 e (by omega), hσ4, wi_ne _ _ _ _ (by omega)]; exact hm6.1
      · rcases E3.2.1.2.2.2.2.2.1.2 with h' | h'
        · exact h'.2
        · rw [h] at h'; exact absurd h' (by decide)
    obtain ⟨P4, N4⟩ := EP.wr N3 (fr_end F4 hoq.2.1) he (by rw [hσ4]; rfl) (by rw [hρ4]; exact RF.si ρ3 w4 (by omega) (by omega)) (fun r _ _ => funext fun j => r4 r j (by omega)) (r4 0 5 (by omega)) (r4 0 10 (by omega))
    have X4 : XQ q e σ4 ρ4 st u u m g U 0 := X2.up4 hst4 (by rw [hσ4, wi_ne _ _ _ _ (by omega), (F3 (q + 1) (by omega)).1]) (by rw [(F4 (q + 3) (by omega)).1, (F3 (q + 3) (by omega)).1]) (funext fun j => by rw [r4 40 j (by omega), r3 40 j (by omega) (by omega) (by omega)])
    have T4 := (T2.ep P3 o3 he).ep P4 o3 he
    have P14 := P12.tr (P3.tr P4)
    obtain ⟨σ5, ρ5, o5, n5, m5, rn5, y, y1, y2, y3, y4, y5, y6, y7⟩ := output_sim hqe N4 E4 T4 hv (fun _ => hu1)
    have hcl3 : (si (si ρ2 21 e lo) 20 e (cI σ2 (q + 6) 0)) = si (si ρ2 21 e lo) 20 e (cI σ2 (q + 6) 0) := rfl
    -- the reference comes to its OUTPUT
    have e17' : (si ρ2 21 e lo).1 17 e = cI σ2 (q + 6) 0 := by rw [si_ne _ _ _ _ (by omega)]; exact e17
    rw [← hσ3, ← hw4, ← hσ4, y1, bc2_e]
    simp only [e17']
    rw [← hρ3, show ρ3.1 11 e = w4 by rw [hw4]; exact E3.2.1.2.1.1, ← hρ4, y2, bc2_e]
    obtain ⟨P5, S5, c15, c25, N5⟩ := y4.1
    have o53 : o5 3 = 14 := N5.2.2.1.2.2 3 (by decide)
    have T5 := T4.ep y4 o3 he
    have X5 : XQ q e σ5 ρ5 st u n5 m5 g U rn5 := X4.up4 hst4 (y5.2.2.2.1 8 (by omega) (by omega)) (y5.2.1 3 (by omega)) (y4.2.2.2.1.1 40 (by omega))
    obtain ⟨σ6, ρ6, z1, z2, z3, z4, z5⟩ := timer_fin hqe N5 y3 T5 hv
    have X6 : XQ q e σ6 ρ6 st u n5 m5 g U 1 := X5.up4 hst4 (z5.2.2.2.1 8 (by omega) (by omega)) (z5.2.1 3 (by omega)) (z4.2.2.2.1.1 40 (by omega))
    have hfinal : ∃ σ' ρ' own' st' n' m' rn' tr', some σ6 = some σ' ∧ some ρ6 = some ρ' ∧ EE own' q e σ' ρ' τ st' u n' m' g U rn' tr' ∧ EP K C own own' e σ σ' ρ ρ' ∧ (rn' = 0 ∨ tr' = tr + 1) := ⟨σ6, ρ6, o5, st, n5, m5, 1, tr + 1, rfl, rfl, ⟨z3, X6⟩, P14.tr (y4.tr z4), Or.inr rfl⟩
    rcases y6 with ⟨y6, _⟩ | ⟨y6, _⟩
    · subst y6
      have h510 := y3.2.1.2.2.2.2.2.2.2.2.2.1
      rw [if_pos rfl, if_pos rfl, c_unsent hq y3.2.1 T5.2.1, bc2_e, r_left he hv y3.2.1, bc2_e]
      by_cases hl : g + 1 - n5 = 0
      · rw [if_pos (x32_le' (x32_nat (by omega)) z32_0 (by omega)), if_pos (x32_le' (x32_nat (by omega)) z32_0 (by omega)), z1, z2]
        exact hfinal
      · rw [if_neg (x32_nle (x32_nat (by omega)) z32_0 (by omega)), if_neg (x32_nle (x32_nat (by omega)) z32_0 (by omega))]
        have hnx : ρ5.1 12 e = cI σ5 (q + 1) 3 + Int32.ofNat n5 := y3.2.1.2.2.1.1
        obtain ⟨σ7, ρ7, o7, v1', v2', v3', v4', v5'⟩ := sendNext_sim (f := 0) (nn := 1) (v4 := Int32.ofNat (n5 - 1)) (k := 1) (b := n5 + 1) hqe N5 y3 T5.1 T5.2.1 T5.2.2.1 T5.2.2.2.1 hv (by decide) (by omega) (Or.inr ⟨by omega, rfl, by omega⟩) (Or.inl ⟨rfl, by omega⟩) (by rw [show inc 0 = 0 by decide]) (by omega) (fun _ => by omega)
        have e4 : ρ5.1 12 e - ρ5.1 10 e - 1 = Int32.ofNat (n5 - 1) := by
          rw [hnx, y3.2.1.1]
          obtain ⟨b, hb⟩ : ∃ b, n5 = b + 1 := ⟨n5 - 1, by omega⟩
          rw [hb, show Int32.ofNat (b + 1) = Int32.ofNat b + 1 from nI_succ b, show b + 1 - 1 = b by omega]; grind
        have e12 : ρ7.1 12 e + 1 = cI σ5 (q + 1) 3 + Int32.ofNat (n5 + 1) := by
          rw [v5'.2.2.2.2.2.2.2.1 12 (by omega) (by omega) (by omega) (by omega) (by omega) (by omega), hnx, show Int32.ofNat (n5 + 1) = Int32.ofNat n5 + 1 from nI_succ n5]; grind
        rw [v1', bc_e, e4, v2', bc_e, e12]
        obtain ⟨P7, S7, c17, c27, N7⟩ := v4'.1
        have o73 : o7 3 = 14 := N7.2.2.1.2.2 3 (by decide)
        have T7 := T5.ep v4' o53 he
        obtain ⟨σ8, ρ8, t1, t2, t3', t4, t5⟩ := timer_fin hqe N7 v3' T7 hv
        have hOT : OT q e σ5 σ7 ρ5 (si ρ7 12 e (cI σ5 (q + 1) 3 + Int32.ofNat (n5 + 1))) := v5'.OT
        have X8 : XQ q e σ8 ρ8 st u (n5 + 1) (max m5 (n5 + 1)) g U 1 := X5.up4 hst4 (by rw [t5.2.2.2.1 8 (by omega) (by omega), hOT.2.2.2.1 8 (by omega) (by omega)]) (by rw [t5.2.1 3 (by omega), hOT.2.1 3 (by omega)]) (by rw [t4.2.2.2.1.1 40 (by omega), v4'.2.2.2.1.1 40 (by omega)])
        rw [t1, t2]
        exact ⟨σ8, ρ8, o7, st, n5 + 1, _, 1, tr + 1, rfl, rfl, ⟨t3', X8⟩, P14.tr (y4.tr (v4'.tr t4)), Or.inr rfl⟩
    · subst y6
      rw [if_neg (by decide), if_neg (by decide), z1, z2]
      exact hfinal
end TI
