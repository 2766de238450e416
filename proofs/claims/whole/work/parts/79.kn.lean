/-! a SYN is heeded, both sides -/
theorem kc_zero {f : Nat → Int32} {e : Nat} : ∀ n, kc f e n = 0 → ∀ i, i < n → f (65536 * e + i) = 0
  | 0, _, i, hi => by omega
  | n + 1, h, i, hi => by
    have h' : kc f e n + (if f (65536 * e + n) = 0 then 0 else 1) = 0 := h
    by_cases hz : f (65536 * e + n) = 0
    · by_cases e1 : i = n
      · rw [e1]; exact hz
      · exact kc_zero n (by omega) i (by omega)
    · rw [if_neg hz] at h'; omega
theorem kc_all0 {f : Nat → Int32} {e : Nat} : ∀ n, (∀ i, i < n → f (65536 * e + i) = 0) → kc f e n = 0
  | 0, _ => rfl
  | n + 1, h => by
    show kc f e n + (if f (65536 * e + n) = 0 then 0 else 1) = 0
    rw [kc_all0 n (fun i hi => h i (by omega)), if_pos (h n (by omega))]
section KN
variable {own : Nat → Nat} {P C : List (Nat × Nat)} {S : List Nat} {c1 c2 K q e : Nat} {σ : CS} {ρ : RS} {τ st u nr n m g U : Nat} {rn : Int32} {tr : Nat}
theorem EGx.at3 (hqe : q = 7 ∧ e = 0 ∨ q = 14 ∧ e = 1) (O : Ow own σ) (E : EGx own q e σ ρ τ st u nr n m g U rn tr) {σ' : CS} {ρ' : RS} {U' : Nat} (F : fr (fun x => x ≠ q + 3 ∧ own x ≠ 4 + e) σ σ') (hr : ∀ r, 7 ≤ r → r ≠ 7 → r ≠ 18 → r ≠ 19 → r ≠ 31 → r ≠ 37 → r ≠ 39 → r ≠ 40 → ρ'.1 r = ρ.1 r) (hl : ρ'.2 = ρ.2) (h4 : ρ'.1 0 4 = ρ.1 0 4) (g3 : G3 own q e σ' ρ' U') : EGx own q e σ' ρ' τ st u nr n m g U' rn tr := by
  have hoq := own_q hqe O
  obtain ⟨g1, g2, _, g4, g5⟩ := E
  refine ⟨g1.cg (F q ⟨by omega, by omega⟩).1 (fun r h => by rw [hr r (by omega) (by omega) (by omega) (by omega) (by omega) (by omega) (by omega) (by omega)]) h4, g2.cg (F.sub fun x hx => ⟨fun e => ?_, fun e => ?_⟩) (fun _ h => h) (fun r h => by rw [hr r (by omega) (by omega) (by omega) (by omega) (by omega) (by omega) (by omega) (by omega)]) (fun i _ => by rw [hr 38 (by omega) (by omega) (by omega) (by omega) (by omega) (by omega) (by omega) (by omega)]), g3, g4.cg (F (q + 5) ⟨by omega, by omega⟩).1 (F (q + 5) ⟨by omega, by omega⟩).2.1 (fun r h => by rw [hr r (by omega) (by omega) (by omega) (by omega) (by omega) (by omega) (by omega) (by omega)]) (fun r h => by rw [hl]), g5.cg (F (q + 6) ⟨by omega, by omega⟩).1 (fun r h => by rw [hr r (by omega) (by omega) (by omega) (by omega) (by omega) (by omega) (by omega) (by omega)])⟩
  · rcases hx with hx | hx
    · omega
    · rw [e] at hx; omega
  · rcases hx with hx | hx
    · rw [hx] at e; omega
    · omega
/-- the two ends of a write of scalars: a shorthand -/
abbrev sj (ρ : RS) (a k : Nat) (x : Int32) : RS := si ρ a k x
theorem RF.sis {e r : Nat} {ρ ρ' : RS} (h : RF e ρ ρ') (v : Int32) (a : 7 ≤ r) (b : r ≤ 37) : RF e ρ (sj ρ' r e v) := h.tr (RF.si ρ' v a b)
theorem known_sim {g0 s0 a len N0 : Nat} {W : Nat → Int32} (hqe : q = 7 ∧ e = 0 ∨ q = 14 ∧ e = 1) (N : NB own P C S c1 c2 K σ ρ) (E : EGx own q e σ ρ τ st u nr n m g 0 rn tr) (H : SC g0 s0 a len N0 W σ ρ) (hC : C = [(g0, s0)]) {v1 : Int32} (hv : v1.toInt = (e : Int)) (hk : kc (ρ.1 40) e 65536 = 0) (hft : cI σ (q + 3) 3 = 0) (hsy : ¬ n1 W 13 &&& 2 = 0) :
    ∃ σ' ρ', m_E_heedSyn q g0 σ = some σ' ∧ m_known v1 ρ = some ρ' ∧ EGx own q e σ' ρ' τ st u nr n m g 0 rn tr ∧ (∀ st', G5 q e σ' ρ' st') ∧ EP K C own own e σ σ' ρ ρ' ∧ NB own P C S c1 c2 K σ' ρ' ∧ cI σ' (q + 1) 8 = cI σ (q + 1) 8 ∧ cI σ' (q + 3) 3 = cI σ (q + 3) 3 ∧ ρ'.1 40 = ρ.1 40 ∧ cI σ' (q + 1) 3 = cI σ (q + 1) 3 := by
  subst hC
  have hq : q = 7 ∨ q = 14 := by omega
  have he : e < 2 := by omega
  have hi := x32_in hv he
  have hcl := x32_n hv
  have O := N.2.2.1
  have hoq := own_q hqe O
  obtain ⟨w, hw⟩ : ∃ w, w = n4 W 4 + 1 := ⟨_, rfl⟩
  -- the arrivals
  obtain ⟨σ1, hσ1⟩ : ∃ x, x = wi (wi (wi σ (q + 3) 1 w) (q + 3) 2 w) (q + 3) 7 w := ⟨_, rfl⟩
  obtain ⟨ρ1, hρ1⟩ : ∃ x, x = si (si ρ 18 e w) 19 e w := ⟨_, rfl⟩
  have F1 : fr (fun x => x ≠ q + 3) σ σ1 := by rw [hσ1]; exact fr.tr (fr.tr (fr_wi σ (q + 3) 1 _) (fr_wi _ (q + 3) 2 _) (fun _ h => h)) (fr_wi _ (q + 3) 7 _) (fun _ h => h)
  have R1 : RF e ρ ρ1 := by rw [hρ1]; exact ((RF.rf e ρ).sis w (by omega) (by omega)).sis w (by omega) (by omega)
  have r1 : ∀ r j, r ≠ 18 → r ≠ 19 → ρ1.1 r j = ρ.1 r j := fun r j x y => by rw [hρ1, si_ne _ _ _ _ (by omega), si_ne _ _ _ _ (by omega)]
  obtain ⟨P1, N1⟩ := EP.wr N (fr_end F1 hoq.2.2.1) he (by rw [hσ1]; rfl) R1 (fun r _ _ => funext fun j => r1 r j (by omega) (by omega)) (r1 0 5 (by omega) (by omega)) (r1 0 10 (by omega) (by omega))
  have c1 : ∀ j, j ≠ 1 → j ≠ 2 → j ≠ 7 → cI σ1 (q + 3) j = cI σ (q + 3) j := fun j x y z => by rw [hσ1, wi_ne _ _ _ _ (by omega), wi_ne _ _ _ _ (by omega), wi_ne _ _ _ _ (by omega)]
  have E1 : EGx own q e σ1 ρ1 τ st u nr n m g 0 rn tr := by
    refine E.at3 hqe O (F1.sub fun x hx => hx.1) (fun r _ _ a b _ _ _ _ => funext fun j => r1 r j a b) (by rw [hρ1]; rfl) (r1 0 4 (by omega) (by omega)) ?_
    have c11 : cI σ1 (q + 3) 1 = w := by rw [hσ1, wi_ne _ _ _ _ (by omega), wi_ne _ _ _ _ (by omega), wi_eq]
    have c12 : cI σ1 (q + 3) 2 = w := by rw [hσ1, wi_ne _ _ _ _ (by omega), wi_eq]
    have c17 : cI σ1 (q + 3) 7 = w := by rw [hσ1, wi_eq]
    obtain ⟨h1, h2, h3, h4, ⟨h5, h5a, h5b⟩, h6, h7, h8, h9, ra, k1, k2, k3, k4⟩ := E.2.2.1
    have s40 : ρ1.1 40 = ρ.1 40 := funext fun j => r1 40 j (by omega) (by omega)
    have s39 : ρ1.1 39 = ρ.1 39 := funext fun j => r1 39 j (by omega) (by omega)
    have hz := kc_zero 65536 hk
    have nup : ∀ fu p, ¬ up fu 0 p := fun fu p h => by unfold up at h; omega
    have hra : ¬ ra = q + 3 := fun e => by have := (qkd hq σ).2.2.1; rw [← e] at this; omega
    obtain ⟨b1, b2, b3, b4, b5⟩ := F1 ra hra
    unfold G3 G3x
    rw [c1 0 (by omega) (by omega) (by omega), c11, c12, c1 3 (by omega) (by omega) (by omega), c1 4 (by omega) (by omega) (by omega), c1 5 (by omega) (by omega) (by omega), c17, s40, s39, r1 7 e (by omega) (by omega), show ρ1.1 18 e = w by rw [hρ1, si_ne _ _ _ _ (by omega), si_eq], show ρ1.1 19 e = w by rw [hρ1, si_eq], r1 37 e (by omega) (by omega), r1 31 e (by omega) (by omega), show cR σ1 = cR σ by rw [hσ1]; rfl]
    refine ⟨h1, rfl, rfl, h4, ⟨h5, h5a, h5b⟩, h6, ?_, fun _ => ⟨0, ?_, by omega, fun p hp hk => absurd (hz p hp) hk⟩, fun p hp => ⟨(h9 p hp).1, fun h => absurd h (nup _ _)⟩, ra, k1, by rw [b5]; exact k2, k3, ?_⟩
    · rw [hft, h5a]; show w = w - 0 - 0; grind
    · show w = w + 0; grind
    · rw [b4, b1]
      rcases k4 with h | ⟨k4, k5⟩
      · exact Or.inl h
      · refine Or.inr ⟨k4, fun p hp => ⟨fun h => ?_, fun _ h => (k5 p hp).2 (nup _ _) h⟩⟩
        rcases h with h | h
        · exact absurd h (nup _ _)
        · exact absurd (hz p hp) h
  have H1 := H.ep P1
  -- the supply
  obtain ⟨σ2, hσ2⟩ : ∃ x, x = wi (wi (wi σ1 (q + 1) 9 (n2 W 14)) (q + 1) 10 (n4 W 4)) (q + 1) 11 (n4 W 8) := ⟨_, rfl⟩
  obtain ⟨ρ2, hρ2⟩ : ∃ x, x = si (si (si ρ1 14 e (n2 W 14)) 15 e (n4 W 4)) 16 e (n4 W 8) := ⟨_, rfl⟩
  have F2 : fr (fun x => x ≠ q + 1) σ1 σ2 := by rw [hσ2]; exact fr.tr (fr.tr (fr_wi σ1 (q + 1) 9 _) (fr_wi _ (q + 1) 10 _) (fun _ h => h)) (fr_wi _ (q + 1) 11 _) (fun _ h => h)
  have r2 : ∀ r j, r ≠ 14 → r ≠ 15 → r ≠ 16 → ρ2.1 r j = ρ1.1 r j := fun r j x y z => by rw [hρ2, si_ne _ _ _ _ (by omega), si_ne _ _ _ _ (by omega), si_ne _ _ _ _ (by omega)]
  have R2 : RF e ρ1 ρ2 := by rw [hρ2]; exact (((RF.rf e ρ1).sis _ (by omega) (by omega)).sis _ (by omega) (by omega)).sis _ (by omega) (by omega)
  obtain ⟨P2, N2⟩ := EP.wr N1 (fr_end F2 hoq.2.1) he (by rw [hσ2]; rfl) R2 (fun r _ _ => funext fun j => r2 r j (by omega) (by omega) (by omega)) (r2 0 5 (by omega) (by omega) (by omega)) (r2 0 10 (by omega) (by omega) (by omega))
  have c2 : ∀ j, j ≠ 9 → j ≠ 10 → j ≠ 11 → cI σ2 (q + 1) j = cI σ1 (q + 1) j := fun j x y z => by rw [hσ2, wi_ne _ _ _ _ (by omega), wi_ne _ _ _ _ (by omega), wi_ne _ _ _ _ (by omega)]
  have E2 : EGx own q e σ2 ρ2 τ st u nr n m g 0 rn tr := by
    refine E1.at1 hqe N1.2.2.1 F2 (fun r _ a b c => funext fun j => r2 r j (by omega) (by omega) (by omega)) (by rw [hρ2]; rfl) (r2 0 4 (by omega) (by omega) (by omega)) ?_
    obtain ⟨h1, h2, h3, h4, h5, h6, h7, h8, h9, h10, s, ab, k1, k2, k3, k4, k5, k6, k7, k8, k9⟩ := E1.2.1
    obtain ⟨b1, b2, b3, b4, b5⟩ := F2 ab (fun e => by rw [e] at k5; omega)
    have d9 : cI σ2 (q + 1) 9 = n2 W 14 := by rw [hσ2, wi_ne _ _ _ _ (by omega), wi_ne _ _ _ _ (by omega), wi_eq]
    have d10 : cI σ2 (q + 1) 10 = n4 W 4 := by rw [hσ2, wi_ne _ _ _ _ (by omega), wi_eq]
    have d11 : cI σ2 (q + 1) 11 = n4 W 8 := by rw [hσ2, wi_eq]
    unfold G2x
    rw [c2 3 (by omega) (by omega) (by omega), c2 4 (by omega) (by omega) (by omega), c2 5 (by omega) (by omega) (by omega), c2 6 (by omega) (by omega) (by omega), c2 7 (by omega) (by omega) (by omega), c2 8 (by omega) (by omega) (by omega), d9, d10, d11, c2 1 (by omega) (by omega) (by omega), c2 2 (by omega) (by omega) (by omega), show cR σ2 = cR σ1 by rw [hσ2]; rfl, r2 10 e (by omega) (by omega) (by omega), r2 11 e (by omega) (by omega) (by omega), r2 12 e (by omega) (by omega) (by omega), r2 13 e (by omega) (by omega) (by omega), r2 32 e (by omega) (by omega) (by omega), r2 36 e (by omega) (by omega) (by omega), show ρ2.1 14 e = n2 W 14 by rw [hρ2, si_ne _ _ _ _ (by omega), si_ne _ _ _ _ (by omega), si_eq], show ρ2.1 15 e = n4 W 4 by rw [hρ2, si_ne _ _ _ _ (by omega), si_eq], show ρ2.1 16 e = n4 W 8 by rw [hρ2, si_eq], show ρ2.1 38 = ρ1.1 38 from funext fun j => r2 38 j (by omega) (by omega) (by omega)]
    obtain ⟨bb1, bb2⟩ := bv_s W 14
    obtain ⟨bb3, bb4⟩ := bv_s W 15
    exact ⟨h1, h2, h3, h4, ⟨h5.1, fun z => h5.2 (by rw [← r2 0 4 (by omega) (by omega) (by omega)]; exact z)⟩, h6, ⟨rfl, 256 * bv W 14 + bv W 15, by omega, x32_of (by omega) (n2_s W 14)⟩, rfl, rfl, h10, s, ab, k1, k2, k3, by rw [b5]; exact k4, k5, by rw [b4]; exact k6, by rw [b4]; exact k7, by rw [b4]; exact k8, fun i hi => by rw [b1]; exact k9 i hi⟩
  have H2 := H1.ep P2
  -- the crowd
  obtain ⟨mm, m1, m2, m3⟩ := E2.1.2.2.1
  have h8m : ρ2.1 8 e = cI σ2 q 7 := E2.1.2.1
  obtain ⟨tm, htm⟩ : ∃ t, t = (if ρ2.1 0 53 < 64 then (64 : Int32) else ρ2.1 0 53) := ⟨_, rfl⟩
  obtain ⟨sgv, hsgv⟩ : ∃ t, t = (if tm < cI σ2 q 7 then tm else cI σ2 q 7) := ⟨_, rfl⟩
  obtain ⟨σ3, hσ3⟩ : ∃ x, x = wi (wi σ2 (q + 6) 0 sgv) (q + 6) 1 (4 * sgv) := ⟨_, rfl⟩
  obtain ⟨ρ3, hρ3⟩ : ∃ x, x = si (si ρ2 17 e sgv) 20 e (4 * sgv) := ⟨_, rfl⟩
  have htm64 : 64 ≤ tm.toInt := by
    rw [htm]
    by_cases h : ρ2.1 0 53 < 64
    · rw [if_pos h]; decide
    · rw [if_neg h]
      have := Int32.le_iff_toInt_le.mp (Int32.not_lt.mp h)
      have h64 : (64 : Int32).toInt = 64 := by decide
      omega
  have hmm : (cI σ2 q 7).toInt = (mm : Int) := by rw [m3]; exact x32_nat (by omega)
  have hsn : ∃ sg, 64 ≤ sg ∧ sg ≤ 1460 ∧ sgv = Int32.ofNat sg := by
    have hmin := mn32 hmm (show tm.toInt = tm.toInt from rfl)
    rw [← hsgv] at hmin
    refine ⟨sgv.toInt.toNat, by omega, by omega, x32_of (by omega) (by omega)⟩
  have F3 : fr (fun x => x ≠ q + 6) σ2 σ3 := by rw [hσ3]; exact fr.tr (fr_wi σ2 (q + 6) 0 _) (fr_wi _ (q + 6) 1 _) (fun _ h => h)
  have r3 : ∀ r j, r ≠ 17 → r ≠ 20 → ρ3.1 r j = ρ2.1 r j := fun r j x y => by rw [hρ3, si_ne _ _ _ _ (by omega), si_ne _ _ _ _ (by omega)]
  have R3 : RF e ρ2 ρ3 := by rw [hρ3]; exact ((RF.rf e ρ2).sis _ (by omega) (by omega)).sis _ (by omega) (by omega)
  obtain ⟨P3, N3⟩ := EP.wr N2 (fr_end F3 hoq.2.2.2.2) he (by rw [hσ3]; rfl) R3 (fun r _ _ => funext fun j => r3 r j (by omega) (by omega)) (r3 0 5 (by omega) (by omega)) (r3 0 10 (by omega) (by omega))
  have G53 : ∀ st', G5 q e σ3 ρ3 st' := fun st' => by
    obtain ⟨sg, s1, s2, s3⟩ := hsn
    obtain ⟨g5a, g5b, g5c, g5d, _⟩ := E2.2.2.2.2
    unfold G5
    rw [show cI σ3 (q + 6) 0 = sgv by rw [hσ3, wi_ne _ _ _ _ (by omega), wi_eq], show cI σ3 (q + 6) 1 = 4 * sgv by rw [hσ3, wi_eq], show cI σ3 (q + 6) 2 = cI σ2 (q + 6) 2 by rw [hσ3, wi_ne _ _ _ _ (by omega), wi_ne _ _ _ _ (by omega)], show cI σ3 (q + 6) 3 = cI σ2 (q + 6) 3 by rw [hσ3, wi_ne _ _ _ _ (by omega), wi_ne _ _ _ _ (by omega)], r3 21 e (by omega) (by omega), r3 22 e (by omega) (by omega), show ρ3.1 17 e = sgv by rw [hρ3, si_ne _ _ _ _ (by omega), si_eq], show ρ3.1 20 e = 4 * sgv by rw [hρ3, si_eq]]
    refine ⟨rfl, rfl, g5c, g5d, fun _ => ⟨sg, 4 * sg, s1, s2, s3, by omega, by omega, ?_⟩⟩
    rw [s3]
    exact x32_of (by omega) (by rw [x32_mul (show (4 : Int32).toInt = 4 by decide) (x32_nat (by omega)) (by omega) (by omega)]; omega)
  have E3 : EGx own q e σ3 ρ3 τ st u nr n m g 0 rn tr := E2.at6 hqe N2.2.2.1 F3 (fun r _ a b => funext fun j => r3 r j (by omega) (by omega)) (by rw [hρ3]; rfl) (r3 0 4 (by omega) (by omega)) (G53 st)
  refine ⟨σ3, ρ3, ?_, ?_, E3, G53, (P1.tr P2).tr P3, N3, ?_, ?_, ?_, ?_⟩
  · unfold m_E_heedSyn m_V_heedSyn m_U_heedWindow m_O_heedMss
    have e1 : cI (wi σ (q + 3) 1 (n4 W 4 + 1)) (q + 3) 1 = n4 W 4 + 1 := by rw [wi_eq]
    have e2 : cI (wi (wi σ (q + 3) 1 (n4 W 4 + 1)) (q + 3) 2 (n4 W 4 + 1)) (q + 3) 1 = n4 W 4 + 1 := by rw [wi_ne _ _ _ _ (by omega), wi_eq]
    have kk : ∀ x : CS, x.2 = σ1.2 → kd x g0 = 11 := fun x hx => by
      have : kd x = kd σ1 := by unfold kd cT; rw [hx]
      rw [this]; exact H1.kd
    rw [gd_t hq, gd_t H.kd, H.seq, bc2_e, gd_t (by omega : q + 3 = 10 ∨ q + 3 = 17), bd_e, bd_e, e1, bd_e, bd_e, e2, bd_e, bc_e, ← hw, ← hσ1, gd_t (by omega : q + 1 = 8 ∨ q + 1 = 15), gd_t H1.kd, H1.win, bc2_e, bd_e]
    have P1a : EP K [(g0, s0)] own own e σ1 (wi σ1 (q + 1) 9 (n2 W 14)) ρ1 (si ρ1 14 e (n2 W 14)) := (EP.wr N1 (fr_end (fr_wi σ1 (q + 1) 9 _) hoq.2.1) he rfl (RF.si ρ1 _ (by omega) (by omega)) (fun r _ _ => funext fun j => si_ne _ _ _ _ (by omega)) (si_ne _ _ _ _ (by omega)) (si_ne _ _ _ _ (by omega))).1
    have H1a := H1.ep P1a
    rw [gd_t H1a.kd, H1a.seq, bc2_e, bd_e]
    have P1b : EP K [(g0, s0)] own own e σ1 (wi (wi σ1 (q + 1) 9 (n2 W 14)) (q + 1) 10 (n4 W 4)) ρ1 (si (si ρ1 14 e (n2 W 14)) 15 e (n4 W 4)) := (EP.wr N1 (fr_end (fr.tr (fr_wi σ1 (q + 1) 9 _) (fr_wi _ (q + 1) 10 _) (fun _ h => h)) hoq.2.1) he rfl (((RF.rf e ρ1).sis _ (by omega) (by omega)).sis _ (by omega) (by omega)) (fun r _ _ => funext fun j => by rw [si_ne _ _ _ _ (by omega), si_ne _ _ _ _ (by omega)]) (by rw [si_ne _ _ _ _ (by omega), si_ne _ _ _ _ (by omega)]) (by rw [si_ne _ _ _ _ (by omega), si_ne _ _ _ _ (by omega)])).1
    have H1b := H1.ep P1b
    rw [gd_t H1b.kd, H1b.ack, bc2_e, bd_e, bc_e, ← hσ2, bd_e, gd_t H2.kd, H2.tell hsy, bc2_e, gd_t (by omega : q + 6 = 13 ∨ q + 6 = 20), ← htm, bd_e, ← hsgv, bd_e, bd_e, wi_eq, bd_e, bc_e, ← hσ3]
  · unfold m_known b_known_42 b_known_68 m_follow
    have q46 : ρ.1 0 46 = n4 W 4 := H.2.2.2.2.2.2.1
    have q47 : ρ.1 0 47 = n4 W 8 := H.2.2.2.2.2.2.2.1
    have q49 : ρ.1 0 49 = n2 W 14 := H.2.2.2.2.2.2.2.2.2.1
    have q53 : (si (si ρ 18 e w) 19 e w).1 0 53 = ρ2.1 0 53 := by rw [← hρ1, r2 0 53 (by omega) (by omega) (by omega)]
    have q8 : (si (si ρ 18 e w) 19 e w).1 8 e = cI σ2 q 7 := by rw [← hρ1, ← h8m, r2 8 e (by omega) (by omega) (by omega)]
    simp only [gd_t hi, bd_e, bc_e]
    rw [hcl, q46, ← hw]
    simp only [si_eq]
    rw [q53, q8]
    have fin : ∀ x : Int32, x = sgv → (some (si (si (si (si (si (si (si ρ 18 e w) 19 e w) 17 e x) 20 e (4 * x)) 14 e ((si (si (si (si ρ 18 e w) 19 e w) 17 e x) 20 e (4 * x)).1 0 49)) 15 e ((si (si (si (si (si ρ 18 e w) 19 e w) 17 e x) 20 e (4 * x)) 14 e ((si (si (si (si ρ 18 e w) 19 e w) 17 e x) 20 e (4 * x)).1 0 49)).1 0 46)) 16 e ((si (si (si (si (si (si ρ 18 e w) 19 e w) 17 e x) 20 e (4 * x)) 14 e ((si (si (si (si ρ 18 e w) 19 e w) 17 e x) 20 e (4 * x)).1 0 49)) 15 e ((si (si (si (si (si ρ 18 e w) 19 e w) 17 e x) 20 e (4 * x)) 14 e ((si (si (si (si ρ 18 e w) 19 e w) 17 e x) 20 e (4 * x)).1 0 49)).1 0 46)).1 0 47)) : Option RS) = some ρ3 := by
      intro x hx
      subst hx
      have z49 : (si (si (si (si ρ 18 e w) 19 e w) 17 e x) 20 e (4 * x)).1 0 49 = n2 W 14 := by rw [si_ne _ _ _ _ (by omega), si_ne _ _ _ _ (by omega), si_ne _ _ _ _ (by omega), si_ne _ _ _ _ (by omega)]; exact q49
      rw [z49]
      have z46 : (si (si (si (si (si ρ 18 e w) 19 e w) 17 e x) 20 e (4 * x)) 14 e (n2 W 14)).1 0 46 = n4 W 4 := by rw [si_ne _ _ _ _ (by omega), si_ne _ _ _ _ (by omega), si_ne _ _ _ _ (by omega), si_ne _ _ _ _ (by omega), si_ne _ _ _ _ (by omega)]; exact q46
      rw [z46]
      have z47 : (si (si (si (si (si (si ρ 18 e w) 19 e w) 17 e x) 20 e (4 * x)) 14 e (n2 W 14)) 15 e (n4 W 4)).1 0 47 = n4 W 8 := by rw [si_ne _ _ _ _ (by omega), si_ne _ _ _ _ (by omega), si_ne _ _ _ _ (by omega), si_ne _ _ _ _ (by omega), si_ne _ _ _ _ (by omega), si_ne _ _ _ _ (by omega)]; exact q47
      rw [z47, hρ3, hρ2, hρ1]
      congr 1
      refine Prod.ext (funext fun r => funext fun j => ?_) rfl
      show (if r = 16 ∧ j = e then _ else if r = 15 ∧ j = e then _ else if r = 14 ∧ j = e then _ else if r = 20 ∧ j = e then _ else if r = 17 ∧ j = e then _ else _) = (if r = 20 ∧ j = e then _ else if r = 17 ∧ j = e then _ else if r = 16 ∧ j = e then _ else if r = 15 ∧ j = e then _ else if r = 14 ∧ j = e then _ else _)
      by_cases a20 : r = 20 ∧ j = e
      · rw [if_neg (by omega), if_neg (by omega), if_neg (by omega), if_pos a20, if_pos a20]
      · rw [if_neg a20, if_neg a20]
        by_cases a17 : r = 17 ∧ j = e
        · rw [if_neg (by omega), if_neg (by omega), if_neg (by omega), if_pos a17, if_pos a17]
        · rw [if_neg a17, if_neg a17]
    have t64 : (64 : Int32).toInt = 64 := by decide
    by_cases h53 : ρ2.1 0 53 < 64
    · have e53 : ¬ (64 : Int32) ≤ ρ2.1 0 53 := fun h => by
        have := Int32.lt_iff_toInt_lt.mp h53
        have := Int32.le_iff_toInt_le.mp h
        omega
      rw [if_pos h53] at htm
      rw [if_neg e53]
      have hle : ¬ tm ≤ cI σ2 q 7 ∨ tm ≤ cI σ2 q 7 := Or.inr (by rw [htm]; exact x32_le' t64 hmm (by omega))
      rw [if_pos (show (64 : Int32) ≤ cI σ2 q 7 from x32_le' t64 hmm (by omega))]
      refine fin 64 ?_
      rw [hsgv, htm]
      by_cases hlt : (64 : Int32) < cI σ2 q 7
      · rw [if_pos hlt]
      · rw [if_neg hlt]
        have := Int32.le_iff_toInt_le.mp (Int32.not_lt.mp hlt)
        exact Int32.toInt_inj.mp (by omega)
    · have e53 : (64 : Int32) ≤ ρ2.1 0 53 := Int32.not_lt.mp h53
      rw [if_neg h53] at htm
      rw [if_pos e53, ← htm]
      by_cases hle : tm ≤ cI σ2 q 7
      · rw [if_pos hle]
        refine fin tm ?_
        rw [hsgv]
        by_cases hlt : tm < cI σ2 q 7
        · rw [if_pos hlt]
        · rw [if_neg hlt]
          exact Int32.le_antisymm hle (Int32.not_lt.mp hlt)
      · rw [if_neg hle]
        refine fin (cI σ2 q 7) ?_
        rw [hsgv, if_neg (fun h => hle (Int32.le_of_lt h))]
  · rw [(F3 (q + 1) (by omega)).1, c2 8 (by omega) (by omega) (by omega), (F1 (q + 1) (by omega)).1]
  · rw [(F3 (q + 3) (by omega)).1, (F2 (q + 3) (by omega)).1, c1 3 (by omega) (by omega) (by omega)]
  · funext j; rw [r3 40 j (by omega) (by omega), r2 40 j (by omega) (by omega) (by omega), r1 40 j (by omega) (by omega)]
  · rw [(F3 (q + 1) (by omega)).1, c2 3 (by omega) (by omega) (by omega), (F1 (q + 1) (by omega)).1]
end KN
