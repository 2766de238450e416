/-! the same again, both sides -/
theorem G4.nt {q e : Nat} {σ : CS} {ρ : RS} {τ : Nat} {rn : Int32} {tr : Nat} (h : G4 q e σ ρ τ rn tr) : G4 q e (wi σ (q + 5) 6 0) (si ρ 35 e 0) τ rn tr := by
  have c0 : ∀ j, j ≠ 6 → cI (wi σ (q + 5) 6 0) (q + 5) j = cI σ (q + 5) j := fun j hj => wi_ne _ _ _ _ (by omega)
  have r0 : ∀ r, r ≠ 35 → (si ρ 35 e 0).1 r e = ρ.1 r e := fun r hr => si_ne _ _ _ _ (by omega)
  unfold G4 at h ⊢
  rw [c0 0 (by omega), c0 1 (by omega), c0 2 (by omega), wi_eq, c0 7 (by omega), wi_J, r0 23 (by omega), r0 24 (by omega), r0 25 (by omega), r0 26 (by omega), si_eq, r0 27 (by omega), si_2]
  obtain ⟨a1, a2, a3, a4, a5, a6, a7, a8, a9⟩ := h
  exact ⟨a1, a2, a3, a4, a5, a6, ⟨rfl, Or.inl rfl⟩, a8, a9⟩
section SA
variable {own : Nat → Nat} {P C : List (Nat × Nat)} {S : List Nat} {c1 c2 K q e : Nat} {σ : CS} {ρ : RS} {τ st u n m g U : Nat} {rn : Int32} {tr : Nat}
theorem c_halve (hq : q = 7 ∨ q = 14) : m_O_halve (q + 6) (Int32.ofNat (n - u)) σ = some (wi (wi σ (q + 6) 2 (lw n u (cI σ (q + 6) 0))) (q + 6) 1 (lw n u (cI σ (q + 6) 0))) := by
  unfold m_O_halve m_O_lowered lw
  rw [gd_t (by omega), gd_t (by omega), gd_t (by decide), bd_e, bd_e, bc2_e, bd_e, bd_e, bd_e, wi_eq]
theorem c_sent (hq : q = 7 ∨ q = 14) (h : G2 own q e σ ρ u n m g) (hu : u ≤ min m (g + 1)) (hc0 : ρ.1 0 4 ≠ 0) : m_U_sentBytes (q + 1) σ = some (Int32.ofNat (min m (g + 1) - u), σ) := by
  obtain ⟨h1, h2, h3, h4, h5, h6, h7, h8, h9, h10, _⟩ := h
  have hfin : cI σ (q + 1) 7 = cI σ (q + 1) 3 + Int32.ofNat (g + 1) := by rw [h5.2 hc0, show Int32.ofNat (g + 1) = Int32.ofNat g + 1 from nI_succ g]; grind
  have hd : (cI σ (q + 1) 6 - cI σ (q + 1) 7).toInt = (m : Int) - ((g + 1 : Nat) : Int) := by rw [h4.2, hfin]; exact d32 _ (by omega) (by omega)
  have key : ∀ w : Nat, w = min m (g + 1) → b_U_sentBytes_23 (q + 1) (cI σ (q + 1) 3 + Int32.ofNat w) σ = some (Int32.ofNat (min m (g + 1) - u), σ) := fun w hw => by
    unfold b_U_sentBytes_23
    have hx : (cI σ (q + 1) 3 + Int32.ofNat w - cI σ (q + 1) 4).toInt = ((w - u : Nat) : Int) := by rw [h2.2, d32 _ (by omega) (by omega)]; omega
    rw [bd_e, bd_e, if_neg (x32_nlt hx z32_0 (by omega)), x32_of (by omega) hx, hw]
  unfold m_U_sentBytes
  rw [gd_t (by omega), bd_e, bd_e, bd_e, bd_e]
  by_cases hc : m ≤ g + 1
  · rw [if_pos (x32_le' hd z32_0 (by omega)), h4.2]
    exact key m (by omega)
  · rw [if_neg (x32_nle hd z32_0 (by omega)), hfin]
    exact key (g + 1) (by omega)
theorem r_again (he : e < 2) {v1 : Int32} (hv : v1.toInt = (e : Int)) (h : G2 own q e σ ρ u n m g) (hu1 : 1 ≤ u) (hu : u ≤ min m (g + 1)) {sg k : Nat} (hsg : ρ.1 17 e = Int32.ofNat sg) (hs : sg ≤ 1460) (hk : k = min sg (min m (g + 1) - u)) {lo : Int32} (hlo : lo = lw n u (ρ.1 17 e)) :
    m_again v1 ρ = bc (m_send v1 (if k = 0 then 1 else 0) (ρ.1 11 e) (if k = 0 then 0 else Int32.ofNat (u - 1)) (Int32.ofNat k) (si (si (si ρ 21 e lo) 20 e lo) 35 e 0)) some := by
  have hi := x32_in hv he
  have hcl := x32_n hv
  have h' := h
  obtain ⟨h1, h2, h3, h4, h5, h6, h7, h8, h9, h10, _⟩ := h
  obtain ⟨ρ1, hρ1⟩ : ∃ x, x = si (si (si ρ 21 e lo) 20 e lo) 35 e 0 := ⟨_, rfl⟩
  have r1 : ∀ r, r ≠ 21 → r ≠ 20 → r ≠ 35 → ρ1.1 r e = ρ.1 r e := fun r x y z => by rw [hρ1, si_ne _ _ _ _ (by omega), si_ne _ _ _ _ (by omega), si_ne _ _ _ _ (by omega)]
  have e11 : ρ1.1 11 e = cI σ (q + 1) 3 + Int32.ofNat u := by rw [r1 11 (by omega) (by omega) (by omega), h2.1, h2.2]
  have e10 : ρ1.1 10 e = cI σ (q + 1) 3 := by rw [r1 10 (by omega) (by omega) (by omega), h1]
  have e13 : ρ1.1 13 e = cI σ (q + 1) 3 + Int32.ofNat m := by rw [r1 13 (by omega) (by omega) (by omega), h4.1, h4.2]
  have e32' : ρ1.1 32 e = Int32.ofNat g := by rw [r1 32 (by omega) (by omega) (by omega), h5.1]
  have e17 : ρ1.1 17 e = Int32.ofNat sg := by rw [r1 17 (by omega) (by omega) (by omega), hsg]
  have sub1 : ∀ x : Nat, 1 ≤ x → cI σ (q + 1) 3 + Int32.ofNat x - cI σ (q + 1) 3 - 1 = Int32.ofNat (x - 1) := fun x hx => by
    obtain ⟨b, hb⟩ : ∃ b, x = b + 1 := ⟨x - 1, by omega⟩
    rw [hb, show Int32.ofNat (b + 1) = Int32.ofNat b + 1 from nI_succ b, show b + 1 - 1 = b by omega]; grind
  have hsgI : (Int32.ofNat sg).toInt = (sg : Int) := x32_nat (by omega)
  have last : ∀ x : Nat, x = min m (g + 1) - 1 → b_again_79 v1 (Int32.ofNat (u - 1)) (Int32.ofNat x) ρ1 = bc (m_send v1 (if k = 0 then 1 else 0) (ρ.1 11 e) (if k = 0 then 0 else Int32.ofNat (u - 1)) (Int32.ofNat k) ρ1) some := by
    intro x hx
    have hd : (Int32.ofNat x - Int32.ofNat (u - 1)).toInt = ((min m (g + 1) - u : Nat) : Int) := by rw [x32_sub (x32_nat (by omega)) (x32_nat (by omega)) (by omega) (by omega)]; omega
    have fin : b_again_103 v1 (Int32.ofNat (u - 1)) (Int32.ofNat k) ρ1 = bc (m_send v1 (if k = 0 then 1 else 0) (ρ.1 11 e) (if k = 0 then 0 else Int32.ofNat (u - 1)) (Int32.ofNat k) ρ1) some := by
      unfold b_again_103 b_again_140
      rw [gd_t hi, bd_e, gd_t hi, bd_e, hcl, r1 11 (by omega) (by omega) (by omega)]
      by_cases hk0 : k = 0
      · rw [if_pos (x32_le' (x32_nat (by omega)) z32_0 (by omega)), if_pos hk0, if_pos hk0, hk0]; rfl
      · rw [if_neg (x32_nle (x32_nat (by omega)) z32_0 (by omega)), if_neg hk0, if_neg hk0]
    unfold b_again_79
    rw [bd_e, gd_t hi, bd_e, gd_t hi, bd_e, show ρ1.1 17 v1.toNatClampNeg = Int32.ofNat sg by rw [hcl]; exact e17]
    by_cases hle : min m (g + 1) - u ≤ sg
    · rw [if_pos (x32_le' hd hsgI (by omega)), x32_of (by omega) hd, show min m (g + 1) - u = k by omega]
      exact fin
    · rw [if_neg (x32_nle hd hsgI (by omega)), show sg = k by omega]
      exact fin
  unfold m_again
  rw [r_least he hv h', bc2_e, ← hlo, gd_t hi, bd_e, gd_t hi, bd_e, gd_t hi, bd_e, gd_t hi, bd_e, nar_b0]
  have p1 : (si ρ 21 v1.toNatClampNeg lo).1 21 v1.toNatClampNeg = lo := si_eq _ _ _ _
  rw [p1, show si (si (si ρ 21 v1.toNatClampNeg lo) 20 v1.toNatClampNeg lo) 35 v1.toNatClampNeg 0 = ρ1 by rw [hcl, hρ1], gd_t hi, bd_e, gd_t hi, bd_e, bd_e, gd_t hi, bd_e, gd_t hi, bd_e, bd_e, gd_t hi, bd_e, gd_t hi, bd_e]
  rw [show ρ1.1 11 v1.toNatClampNeg = cI σ (q + 1) 3 + Int32.ofNat u by rw [hcl]; exact e11, show ρ1.1 10 v1.toNatClampNeg = cI σ (q + 1) 3 by rw [hcl]; exact e10, show ρ1.1 13 v1.toNatClampNeg = cI σ (q + 1) 3 + Int32.ofNat m by rw [hcl]; exact e13, show ρ1.1 32 v1.toNatClampNeg = Int32.ofNat g by rw [hcl]; exact e32', sub1 u hu1, sub1 m (by omega), ← hρ1]
  by_cases hmg : m - 1 ≤ g
  · rw [if_pos (x32_le' (x32_nat (by omega)) (x32_nat (by omega)) (by omega))]
    exact last (m - 1) (by omega)
  · rw [if_neg (x32_nle (x32_nat (by omega)) (x32_nat (by omega)) (by omega))]
    exact last g (by omega)
theorem same_sim (hqe : q = 7 ∧ e = 0 ∨ q = 14 ∧ e = 1) (N : NB own P C S c1 c2 K σ ρ) (E : EG own q e σ ρ τ st u n m g U rn tr) (T : CT σ ρ τ) {v1 : Int32} (hv : v1.toInt = (e : Int)) (hst : 3 ≤ st) (hu : 1 ≤ u) (hun : u < n) :
    ∃ σ' ρ' own', m_E_heedSameAgain q σ = some σ' ∧ (gd (inb v1 2) <| bd (ρ.1 22 v1.toNatClampNeg) fun x17 => gd (inb v1 2) <| bd (si ρ 22 v1.toNatClampNeg (x17 + (1 : Int32))) fun r18 => gd (inb v1 2) <| bd (r18.1 22 v1.toNatClampNeg) fun x19 => if x19 = (3 : Int32) then (bc (m_again v1 r18) fun r20 => b_acknowledged_197 v1 r20) else (b_acknowledged_197 v1 r18)) = b_acknowledged_197 v1 ρ' ∧ EG own' q e σ' ρ' τ st u n m g U rn tr ∧ EP K C own own' e σ σ' ρ ρ' ∧ KF q σ σ' ρ ρ' := by
  have hq : q = 7 ∨ q = 14 := by omega
  have he : e < 2 := by omega
  have hi := x32_in hv he
  have hcl := x32_n hv
  have O := N.2.2.1
  have hoq := own_q hqe O
  have h10 := E.2.1.2.2.2.2.2.2.2.2.2.1
  have o3 : own 3 = 14 := O.2.2 3 (by decide)
  have e22 : ρ.1 22 e = cI σ (q + 6) 3 := E.2.2.2.2.2.2.2.1
  obtain ⟨x, hx⟩ : ∃ x, x = cI σ (q + 6) 3 + 1 := ⟨_, rfl⟩
  obtain ⟨σ1, hσ1⟩ : ∃ x', x' = wi σ (q + 6) 3 x := ⟨_, rfl⟩
  obtain ⟨ρ1, hρ1⟩ : ∃ x', x' = si ρ 22 e x := ⟨_, rfl⟩
  have F1 : fr (fun x => x ≠ q + 6) σ σ1 := by rw [hσ1]; exact fr_wi _ _ _ _
  have r1 : ∀ r j, r ≠ 22 → ρ1.1 r j = ρ.1 r j := fun r j x => by rw [hρ1, si_ne _ _ _ _ (by omega)]
  obtain ⟨P1, N1⟩ := EP.wr N (fr_end F1 hoq.2.2.2.2) he (by rw [hσ1]; rfl) (by rw [hρ1]; exact RF.si ρ x (by omega) (by omega)) (fun r _ _ => funext fun j => r1 r j (by omega)) (r1 0 5 (by omega)) (r1 0 10 (by omega))
  have cc1 : ∀ j, j ≠ 3 → cI σ1 (q + 6) j = cI σ (q + 6) j := fun j hj => by rw [hσ1, wi_ne _ _ _ _ (by omega)]
  have E1 : EG own q e σ1 ρ1 τ st u n m g U rn tr := by
    refine E.at6 hqe O F1 (fun r _ b c => funext fun j => r1 r j (by omega)) (by rw [hρ1]; rfl) (r1 0 4 (by omega)) ?_
    have gg := E.2.2.2.2
    unfold G5
    rw [cc1 0 (by omega), cc1 1 (by omega), cc1 2 (by omega), r1 17 e (by omega), r1 20 e (by omega), r1 21 e (by omega)]
    exact ⟨gg.1, gg.2.1, gg.2.2.1, by rw [hρ1, si_eq, hσ1, wi_eq], gg.2.2.2.2⟩
  have K1 : KF q σ σ1 ρ ρ1 := ⟨by rw [(F1 (q + 1) (by omega)).1], by rw [(F1 (q + 3) (by omega)).1], funext fun j => r1 40 j (by omega), by rw [(F1 (q + 1) (by omega)).1], fun j _ => by rw [(F1 q (by omega)).1]⟩
  have w1 : ρ.1 22 v1.toNatClampNeg + 1 = x := by rw [hcl, e22, hx]
  have w2 : si ρ 22 v1.toNatClampNeg x = ρ1 := by rw [hcl, hρ1]
  have w3 : ρ1.1 22 v1.toNatClampNeg = x := by rw [hcl, hρ1, si_eq]
  unfold m_E_heedSameAgain
  rw [gd_t hq, bd_e, ← hx, bd_e, ← hσ1, bd_e, show cI σ1 (q + 6) 3 = x by rw [hσ1, wi_eq], gd_t hi, bd_e, w1, gd_t hi, bd_e, w2, gd_t hi, bd_e, w3]
  by_cases h3 : x = 3
  · rw [if_pos h3, if_pos h3]
    obtain ⟨sg, cw, s1, s2, s3, s4, s5, s6⟩ := E1.2.2.2.2.2.2.2.2 hst
    have e17 : ρ1.1 17 e = cI σ1 (q + 6) 0 := E1.2.2.2.2.1
    obtain ⟨lo, hlo⟩ : ∃ x', x' = lw n u (cI σ1 (q + 6) 0) := ⟨_, rfl⟩
    obtain ⟨k, hk⟩ : ∃ k, k = min sg (min m (g + 1) - u) := ⟨_, rfl⟩
    rw [c_flight hq E1.2.1, bc2_e, c_halve hq, bc_e, ← hlo, r_again (k := k) (lo := lo) he hv E1.2.1 hu (by omega) (by rw [e17]; exact s3) s2 hk (by rw [e17]; exact hlo)]
    obtain ⟨lx, l1, l2, l3⟩ := lw_nat (n := n) (u := u) s3 s1 s2 (by omega)
    obtain ⟨σ2, hσ2⟩ : ∃ x', x' = wi (wi σ1 (q + 6) 2 lo) (q + 6) 1 lo := ⟨_, rfl⟩
    obtain ⟨ρ2, hρ2⟩ : ∃ x', x' = si (si ρ1 21 e lo) 20 e lo := ⟨_, rfl⟩
    have F2 : fr (fun x => x ≠ q + 6) σ1 σ2 := by rw [hσ2]; exact fr.tr (fr_wi _ _ _ _) (fr_wi _ _ _ _) (fun _ h => h)
    have r2 : ∀ r j, r ≠ 21 → r ≠ 20 → ρ2.1 r j = ρ1.1 r j := fun r j x y => by rw [hρ2, si_ne _ _ _ _ (by omega), si_ne _ _ _ _ (by omega)]
    obtain ⟨P2, N2⟩ := EP.wr N1 (fr_end F2 hoq.2.2.2.2) he (by rw [hσ2]; rfl) (by rw [hρ2]; exact ((RF.rf e ρ1).sis lo (by omega) (by omega)).sis lo (by omega) (by omega)) (fun r _ _ => funext fun j => r2 r j (by omega) (by omega)) (r2 0 5 (by omega) (by omega)) (r2 0 10 (by omega) (by omega))
    have c20 : cI σ2 (q + 6) 0 = cI σ1 (q + 6) 0 := by rw [hσ2, wi_ne _ _ _ _ (by omega), wi_ne _ _ _ _ (by omega)]
    have E2 : EG own q e σ2 ρ2 τ st u n m g U rn tr := by
      refine E1.at6 hqe N1.2.2.1 F2 (fun r _ b c => funext fun j => r2 r j (by omega) (by omega)) (by rw [hρ2]; rfl) (r2 0 4 (by omega) (by omega)) ?_
      have gg := E1.2.2.2.2
      unfold G5
      rw [c20, show cI σ2 (q + 6) 1 = lo by rw [hσ2, wi_eq], show cI σ2 (q + 6) 2 = lo by rw [hσ2, wi_ne _ _ _ _ (by omega), wi_eq], show cI σ2 (q + 6) 3 = cI σ1 (q + 6) 3 by rw [hσ2, wi_ne _ _ _ _ (by omega), wi_ne _ _ _ _ (by omega)], r2 17 e (by omega) (by omega), r2 22 e (by omega) (by omega), show ρ2.1 20 e = lo by rw [hρ2, si_eq], show ρ2.1 21 e = lo by rw [hρ2, si_ne _ _ _ _ (by omega), si_eq]]
      exact ⟨gg.1, rfl, rfl, gg.2.2.2.1, fun _ => ⟨sg, lx, s1, s2, s3, l1, l2, by rw [hlo]; exact l3⟩⟩
    obtain ⟨σ3, hσ3⟩ : ∃ x', x' = wi σ2 (q + 5) 6 0 := ⟨_, rfl⟩
    obtain ⟨ρ3, hρ3⟩ : ∃ x', x' = si ρ2 35 e 0 := ⟨_, rfl⟩
    have F3 : fr (fun x => x ≠ q + 5) σ2 σ3 := by rw [hσ3]; exact fr_wi _ _ _ _
    have r3 : ∀ r j, r ≠ 35 → ρ3.1 r j = ρ2.1 r j := fun r j x => by rw [hρ3, si_ne _ _ _ _ (by omega)]
    obtain ⟨P3, N3⟩ := EP.wr N2 (fr_end F3 hoq.2.2.2.1) he (by rw [hσ3]; rfl) (by rw [hρ3]; exact RF.si ρ2 0 (by omega) (by omega)) (fun r _ _ => funext fun j => r3 r j (by omega)) (r3 0 5 (by omega)) (r3 0 10 (by omega))
    have E3 : EG own q e σ3 ρ3 τ st u n m g U rn tr := E2.at5 hqe N2.2.2.1 F3 (fun r _ b c => funext fun j => r3 r j c) (r3 0 4 (by omega)) (by rw [hσ3, hρ3]; exact E2.2.2.2.1.nt)
    have T3 := ((T.ep P1 o3 he).ep P2 o3 he).ep P3 o3 he
    have i31 : cI σ3 (q + 1) = cI σ1 (q + 1) := by rw [(F3 (q + 1) (by omega)).1, (F2 (q + 1) (by omega)).1]
    have u4 : cI σ3 (q + 1) 4 = cI σ3 (q + 1) 3 + Int32.ofNat u := E3.2.1.2.1.2
    have hkk : (Int32.ofNat k).toInt = (k : Int) := x32_nat (by omega)
    obtain ⟨f, hf⟩ : ∃ f : Int32, f = if k = 0 then 1 else 0 := ⟨_, rfl⟩
    have hinc : k = 0 ∧ f = 1 ∧ inc f = 1 ∨ k ≠ 0 ∧ f = 0 ∧ inc f = 0 := by
      by_cases h0 : k = 0
      · rw [if_pos h0] at hf; subst hf; exact Or.inl ⟨h0, rfl, by decide⟩
      · rw [if_neg h0] at hf; subst hf; exact Or.inr ⟨h0, rfl, by decide⟩
    obtain ⟨σ4, ρ4, o4, y1, y2, y3, y4, y5⟩ := again_sim (f := f) (num := cI σ3 (q + 1) 4) (nn := Int32.ofNat k) (v4 := if k = 0 then 0 else Int32.ofNat (u - 1)) (k := k) (a := u) hqe N3 E3 T3.1 T3.2.1 hv hkk (by omega) u4 (by
      by_cases h0 : k = 0
      · exact Or.inl h0
      · exact Or.inr ⟨hu, by rw [if_neg h0], Nat.le_refl _, by omega⟩) (by
      rcases hinc with h | h
      · exact Or.inr (Or.inl h.2.1)
      · exact Or.inl h.2.1) (by omega) (by omega)
    refine ⟨σ4, ρ4, o4, ?_, ?_, y3, P1.tr (P2.tr (P3.tr y4)), K1.tr ?_⟩
    · rw [← hσ2]
      unfold m_Z_forgetTimed
      rw [gd_t (by omega : q + 5 = 12 ∨ q + 5 = 19), gd_t z01_0, bd_e, bc_e, ← hσ3, bd_e, c_sent hq E3.2.1 (by omega) T3.2.1, bc2_e, bd_e]
      have c30 : cI σ3 (q + 6) 0 = Int32.ofNat sg := by rw [(F3 (q + 6) (by omega)).1, c20]; exact s3
      have hmin : (if Int32.ofNat (min m (g + 1) - u) < Int32.ofNat sg then Int32.ofNat (min m (g + 1) - u) else Int32.ofNat sg) = Int32.ofNat k := by
        refine x32_of (by omega) ?_
        rw [mn32 (x32_nat (by omega)) (x32_nat (by omega))]; omega
      rw [c30, hmin]
      unfold b_E_heedSameAgain_74
      rw [bd_e, bd_e]
      rcases hinc with ⟨h0, h1, _⟩ | ⟨h0, h1, _⟩
      · rw [if_pos (x32_le' hkk z32_0 (by omega)), ← h1, y1, bc_e]
      · rw [if_neg (x32_nle hkk z32_0 (by omega)), ← h1, y1, bc_e]
    · rw [← hρ2, ← hρ3, ← hf, show ρ1.1 11 e = cI σ3 (q + 1) 4 by rw [E1.2.1.2.1.1, i31], y2, bc_e, bc_e]
    · refine ⟨?_, ?_, ?_, ?_, fun j hj => ?_⟩
      · rw [(y5.1 (q + 1) (Or.inl rfl)).1, i31]
      · rw [y5.2.2.2.1 3 (by omega), (F3 (q + 3) (by omega)).1, (F2 (q + 3) (by omega)).1]
      · rw [y4.2.2.2.1.1 40 (by omega)]; funext j; rw [r3 40 j (by omega), r2 40 j (by omega) (by omega)]
      · rw [(y5.1 (q + 1) (Or.inl rfl)).1, i31]
      · rw [y5.2.1 j hj, (F3 q (by omega)).1, (F2 q (by omega)).1]
  · rw [if_neg h3, if_neg h3]
    exact ⟨σ1, ρ1, own, rfl, rfl, E1, P1, K1⟩
end SA
