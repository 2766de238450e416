/-! progress: the crowd grows, the supply is acknowledged; both sides -/
theorem si_si (ρ : RS) (r j : Nat) (x y : Int32) : si (si ρ r j x) r j y = si ρ r j y := by
  refine Prod.ext (funext fun a => funext fun i => ?_) rfl
  show (if a = r ∧ i = j then y else if a = r ∧ i = j then x else ρ.1 a i) = if a = r ∧ i = j then y else ρ.1 a i
  split <;> rfl
section AK
variable {own : Nat → Nat} {P C : List (Nat × Nat)} {S : List Nat} {c1 c2 K q e : Nat} {σ : CS} {ρ : RS} {τ st u nr n m g U : Nat} {rn : Int32} {tr : Nat}
theorem gr_sq {sg : Nat} (s2 : sg ≤ 1460) : sg * sg ≤ 2131600 := Nat.le_trans (Nat.mul_le_mul s2 s2) (by decide)
theorem gr_div {sg cw : Nat} (s1 : 64 ≤ sg) (s2 : sg ≤ 1460) (s4 : 64 ≤ cw) (s5 : cw ≤ 1000000) : ∃ d : Nat, d ≤ 33306 ∧ (Int32.ofNat sg * Int32.ofNat sg / Int32.ofNat cw).toInt = (d : Int) := by
  have hcw : (Int32.ofNat cw).toInt = (cw : Int) := x32_nat (by omega)
  have hsg : (Int32.ofNat sg).toInt = (sg : Int) := x32_nat (by omega)
  have hb := gr_sq s2
  obtain ⟨z, hz⟩ : ∃ z, z = sg * sg := ⟨_, rfl⟩
  rw [← hz] at hb
  have hz' : (sg : Int) * (sg : Int) = (z : Int) := by rw [hz, Int.natCast_mul]
  have hsq : (Int32.ofNat sg * Int32.ofNat sg).toInt = (z : Int) := by
    rw [← hz']
    exact x32_mul hsg hsg (by rw [hz']; omega) (by rw [hz']; omega)
  refine ⟨z / cw, ?_, x32_div hsq hcw (by omega) (by omega)⟩
  have h1 : z / cw ≤ z / 64 := Nat.div_le_div_left s4 (by omega)
  omega
theorem gr_fin (he : e < 2) {v1 : Int32} (hv : v1.toInt = (e : Int)) {cw M : Nat} (s6 : cI σ (q + 6) 1 = Int32.ofNat cw) (s5 : cw ≤ 1000000) (hM : M = 1000000) (mo : Int32) (k : Nat) (hmo : mo.toInt = (k : Int)) (hk : k ≤ 1000000) : b_O_grow_53 (q + 6) mo σ = some (wi σ (q + 6) 1 (Int32.ofNat (min (cw + k) M))) ∧ b_grown_99 v1 (si ρ 20 e (Int32.ofNat cw + mo)) = some (si ρ 20 e (Int32.ofNat (min (cw + k) M))) := by
  have hi := x32_in hv he
  have hcl := x32_n hv
  have hcw : (Int32.ofNat cw).toInt = (cw : Int) := x32_nat (by omega)
  have t6 : (1000000 : Int32).toInt = (M : Int) := by rw [hM]; decide
  have e6 : (1000000 : Int32) = Int32.ofNat M := x32_of (by omega) t6
  have hx : (Int32.ofNat cw + mo).toInt = ((cw + k : Nat) : Int) := by rw [x32_add hcw hmo (by omega) (by omega)]; omega
  unfold b_O_grow_53 b_grown_99 b_grown_120
  constructor
  · rw [bd_e, bd_e, bd_e, s6]
    by_cases h : M < cw + k
    · rw [if_pos (x32_lt' t6 hx (by omega)), show min (cw + k) M = M by omega, e6]
    · rw [if_neg (x32_nlt t6 hx (by omega)), show min (cw + k) M = cw + k by omega, x32_of (by omega) hx]
  · simp only [gd_t hi, bd_e]
    rw [hcl, si_eq]
    by_cases h : M < cw + k
    · rw [if_neg (x32_nle hx t6 (by omega)), si_si, show min (cw + k) M = M by omega, e6]
    · rw [if_pos (x32_le' hx t6 (by omega)), show min (cw + k) M = cw + k by omega, x32_of (by omega) hx]
theorem c_grow (hq : q = 7 ∨ q = 14) (ak : Int32) (hne : ¬ cI σ (q + 6) 1 = 0) (hle : ¬ cI σ (q + 6) 1 ≤ 0) : m_O_grow (q + 6) ak σ = if cI σ (q + 6) 2 ≤ cI σ (q + 6) 1 then b_O_grow_53 (q + 6) (if cI σ (q + 6) 0 * cI σ (q + 6) 0 / cI σ (q + 6) 1 < 1 then 1 else cI σ (q + 6) 0 * cI σ (q + 6) 0 / cI σ (q + 6) 1) σ else b_O_grow_53 (q + 6) (if cI σ (q + 6) 0 < ak then cI σ (q + 6) 0 else ak) σ := by
  unfold m_O_grow b_O_grow_52
  rw [gd_t (by omega), bd_e, bd_e, bd_e, if_neg hle, bd_e, bd_e, bd_e, gd_t hne, bd_e, bd_e, bd_e]
theorem r_grow (he : e < 2) {v1 : Int32} (hv : v1.toInt = (e : Int)) (hne : ¬ ρ.1 20 e = 0) : m_grown v1 ρ = if ρ.1 21 e ≤ ρ.1 20 e then b_grown_99 v1 (si ρ 20 e (ρ.1 20 e + (if 1 ≤ ρ.1 17 e * ρ.1 17 e / ρ.1 20 e then ρ.1 17 e * ρ.1 17 e / ρ.1 20 e else 1))) else b_grown_99 v1 (si ρ 20 e (ρ.1 20 e + (if ρ.1 17 e ≤ ρ.1 0 47 - ρ.1 11 e then ρ.1 17 e else ρ.1 0 47 - ρ.1 11 e))) := by
  have hi := x32_in hv he
  have hcl := x32_n hv
  unfold m_grown b_grown_97 b_grown_54
  simp only [gd_t hi, bd_e]
  rw [hcl, gd_t hne]
  by_cases h : ρ.1 21 e ≤ ρ.1 20 e
  · rw [if_pos h, if_pos h]
    split <;> rfl
  · rw [if_neg h, if_neg h]
    split <;> rfl
theorem grown_sim (hqe : q = 7 ∧ e = 0 ∨ q = 14 ∧ e = 1) (G : G5 q e σ ρ st) (hst : 3 ≤ st) {v1 ak : Int32} (hv : v1.toInt = (e : Int)) {k : Nat} (hk : (ρ.1 0 47 - ρ.1 11 e).toInt = (k : Int)) (hk2 : k ≤ 20000) (hak : ak = ρ.1 0 47 - ρ.1 11 e) :
    ∃ w, m_O_grow (q + 6) ak σ = some (wi σ (q + 6) 1 w) ∧ m_grown v1 ρ = some (si ρ 20 e w) ∧ G5 q e (wi σ (q + 6) 1 w) (si ρ 20 e w) st := by
  have hq : q = 7 ∨ q = 14 := by omega
  have he : e < 2 := by omega
  obtain ⟨g1, g2, g3, g4, g5⟩ := G
  obtain ⟨sg, cw, s1, s2, s3, s4, s5, s6⟩ := g5 hst
  clear g5
  have hcw : (Int32.ofNat cw).toInt = (cw : Int) := x32_nat (by omega)
  have hsg : (Int32.ofNat sg).toInt = (sg : Int) := x32_nat (by omega)
  obtain ⟨M, hM⟩ : ∃ M : Nat, M = 1000000 := ⟨_, rfl⟩
  obtain ⟨mo, k0, m1, m2, m3, m4⟩ : ∃ (mo : Int32) (k0 : Nat), mo.toInt = (k0 : Int) ∧ k0 ≤ 33306 ∧ m_O_grow (q + 6) ak σ = b_O_grow_53 (q + 6) mo σ ∧ m_grown v1 ρ = b_grown_99 v1 (si ρ 20 e (Int32.ofNat cw + mo)) := by
    have e17 : ρ.1 17 e = Int32.ofNat sg := by rw [g1]; exact s3
    have e20 : ρ.1 20 e = Int32.ofNat cw := by rw [g2]; exact s6
    have n0 : ¬ Int32.ofNat cw = 0 := x32_ne hcw z32_0 (by omega)
    rw [c_grow hq ak (by rw [s6]; exact n0) (by rw [s6]; exact x32_nle hcw z32_0 (by omega)), r_grow he hv (by rw [e20]; exact n0), g3, e17, e20, s3, s6, hak]
    by_cases hth : cI σ (q + 6) 2 ≤ Int32.ofNat cw
    · rw [if_pos hth, if_pos hth]
      obtain ⟨d, hdl, hdv⟩ := gr_div s1 s2 s4 s5
      generalize Int32.ofNat sg * Int32.ofNat sg / Int32.ofNat cw = x at hdv
      by_cases h1 : d < 1
      · rw [if_pos (x32_lt' hdv z32_1 (by omega)), if_neg (x32_nle z32_1 hdv (by omega))]
        exact ⟨1, 1, by decide, by omega, rfl, rfl⟩
      · rw [if_neg (x32_nlt hdv z32_1 (by omega)), if_pos (x32_le' z32_1 hdv (by omega))]
        exact ⟨x, d, hdv, hdl, rfl, rfl⟩
    · rw [if_neg hth, if_neg hth]
      generalize ρ.1 0 47 - ρ.1 11 e = x at hk
      by_cases h1 : sg < k
      · rw [if_pos (x32_lt' hsg hk (by omega)), if_pos (x32_le' hsg hk (by omega))]
        exact ⟨_, sg, hsg, by omega, rfl, rfl⟩
      · rw [if_neg (x32_nlt hsg hk (by omega))]
        by_cases h2 : sg = k
        · rw [if_pos (x32_le' hsg hk (by omega))]
          have : Int32.ofNat sg = x := Int32.toInt_inj.mp (by rw [hsg, hk, h2])
          exact ⟨x, k, hk, by omega, rfl, by rw [this]⟩
        · rw [if_neg (x32_nle hsg hk (by omega))]
          exact ⟨x, k, hk, by omega, rfl, rfl⟩
  obtain ⟨f1, f2⟩ := gr_fin (σ := σ) (ρ := ρ) (q := q) he hv s6 s5 hM mo k0 m1 (by omega)
  obtain ⟨w, hw⟩ : ∃ w, w = min (cw + k0) M := ⟨_, rfl⟩
  rw [← hw] at f1 f2
  refine ⟨Int32.ofNat w, by rw [m3]; exact f1, by rw [m4]; exact f2, ?_⟩
  unfold G5
  rw [wi_ne _ _ _ _ (by omega : q + 6 ≠ q + 6 ∨ (0 : Nat) ≠ 1), wi_eq, wi_ne _ _ _ _ (by omega : q + 6 ≠ q + 6 ∨ (2 : Nat) ≠ 1), wi_ne _ _ _ _ (by omega : q + 6 ≠ q + 6 ∨ (3 : Nat) ≠ 1), si_ne _ _ _ _ (by omega : (17 : Nat) ≠ 20 ∨ e ≠ e), si_eq, si_ne _ _ _ _ (by omega : (21 : Nat) ≠ 20 ∨ e ≠ e), si_ne _ _ _ _ (by omega : (22 : Nat) ≠ 20 ∨ e ≠ e)]
  exact ⟨g1, rfl, g3, g4, fun _ => ⟨sg, w, s1, s2, s3, by omega, by omega, rfl⟩⟩
/-- the supply is acknowledged up to the number a -/
theorem ackn (hqe : q = 7 ∧ e = 0 ∨ q = 14 ∧ e = 1) (O : Ow own σ) (G : G2 own q e σ ρ u n m g) {ak : Int32} {a : Nat} (hak : ak = cI σ (q + 1) 3 + Int32.ofNat a) (h1 : 1 ≤ a) (hu : u ≤ a) (hm : a ≤ m) (hc0 : ρ.1 0 4 ≠ 0) :
    ∃ σ', m_U_acknowledge (q + 1) ak σ = some σ' ∧ G2 own q e σ' (if a ≤ n then si ρ 11 e ak else si (si ρ 11 e ak) 12 e ak) a (max n a) m g ∧ fr (fun x => x ≠ q + 1) σ σ' ∧ σ'.2 = σ.2 ∧ cI σ' (q + 1) 8 = cI σ (q + 1) 8 ∧ cI σ' (q + 1) 3 = cI σ (q + 1) 3 := by
  have hq : q = 7 ∨ q = 14 := by omega
  have hoq := own_q hqe O
  obtain ⟨h1', h2, h3, h4, h5, h6, h7, h8, h9, h10, s, ab, k1, k2, k3, k4, k5, k6, k7, k8, k9⟩ := G
  have hx : (if cI σ (q + 1) 7 - ak < 0 then (0 : Int32) else cI σ (q + 1) 7 - ak) = Int32.ofNat (g + 1 - a) := by rw [h5.2 hc0, hak, uns (by omega) (by omega)]
  obtain ⟨w, hw⟩ : ∃ w, w = g - (u - 1) := ⟨_, rfl⟩
  rw [← hw] at k2 k6 k9
  have hL : g + 1 - a ≤ w := by omega
  have hx2 : (if cI σ (q + 1) 2 < Int32.ofNat (g + 1 - a) then cI σ (q + 1) 2 else Int32.ofNat (g + 1 - a)) = Int32.ofNat (g + 1 - a) := by
    rw [k2, if_neg (x32_nlt (x32_nat (by omega)) (x32_nat (by omega)) (by omega))]
  have hs : cI σ (q + 1) 1 + (cI σ (q + 1) 2 - Int32.ofNat (g + 1 - a)) = Int32.ofNat (s + (w - (g + 1 - a))) := by
    rw [k1, k2]
    refine x32_of (by omega) ?_
    rw [x32_add (x32_nat (by omega)) (x32_sub (x32_nat (by omega)) (x32_nat (by omega)) (by omega) (by omega)) (by omega) (by omega)]; omega
  obtain ⟨σ1, hσ1⟩ : ∃ x, x = wi (wi (wi σ (q + 1) 1 (Int32.ofNat (s + (w - (g + 1 - a))))) (q + 1) 2 (Int32.ofNat (g + 1 - a))) (q + 1) 4 ak := ⟨_, rfl⟩
  obtain ⟨σ2, hσ2⟩ : ∃ x, x = (if a ≤ n then σ1 else wi σ1 (q + 1) 5 ak) := ⟨_, rfl⟩
  have c1 : ∀ j, j ≠ 1 → j ≠ 2 → j ≠ 4 → cI σ1 (q + 1) j = cI σ (q + 1) j := fun j x y z => by rw [hσ1, wi_ne _ _ _ _ (by omega), wi_ne _ _ _ _ (by omega), wi_ne _ _ _ _ (by omega)]
  have F : fr (fun x => x ≠ q + 1) σ σ2 := by
    have F1 : fr (fun x => x ≠ q + 1) σ σ1 := by rw [hσ1]; exact fr.tr (fr.tr (fr_wi σ (q + 1) 1 _) (fr_wi _ (q + 1) 2 _) (fun _ h => h)) (fr_wi _ (q + 1) 4 _) (fun _ h => h)
    rw [hσ2]
    split
    · exact F1
    · exact fr.tr F1 (fr_wi σ1 (q + 1) 5 _) (fun _ h => h)
  have c2 : ∀ j, j ≠ 5 → cI σ2 (q + 1) j = cI σ1 (q + 1) j := fun j x => by
    rw [hσ2]; split
    · rfl
    · rw [wi_ne _ _ _ _ (by omega)]
  have v1 : cI σ2 (q + 1) 1 = Int32.ofNat (s + (w - (g + 1 - a))) := by rw [c2 1 (by omega), hσ1, wi_ne _ _ _ _ (by omega), wi_ne _ _ _ _ (by omega), wi_eq]
  have v2 : cI σ2 (q + 1) 2 = Int32.ofNat (g + 1 - a) := by rw [c2 2 (by omega), hσ1, wi_ne _ _ _ _ (by omega), wi_eq]
  have v4 : cI σ2 (q + 1) 4 = ak := by rw [c2 4 (by omega), hσ1, wi_eq]
  have v5 : cI σ2 (q + 1) 5 = cI σ (q + 1) 3 + Int32.ofNat (max n a) := by
    rw [hσ2]
    by_cases h : a ≤ n
    · rw [if_pos h, c1 5 (by omega) (by omega) (by omega), h3.2, Nat.max_eq_left h]
    · rw [if_neg h, wi_eq, hak, Nat.max_eq_right (by omega)]
  have s2' : σ2.2 = σ.2 := by rw [hσ2, hσ1]; split <;> rfl
  refine ⟨σ2, ?_, ?_, F, s2', by rw [c2 8 (by omega), c1 8 (by omega) (by omega) (by omega)], by rw [c2 3 (by omega), c1 3 (by omega) (by omega) (by omega)]⟩
  · unfold m_U_acknowledge b_U_acknowledge_63
    rw [gd_t (by omega), bd_e, bd_e, hx, bd_e, bd_e, hx2, bd_e, bd_e, hs, bd_e, bd_e, bd_e, ← hσ1, bd_e, bd_e, bd_e, bd_e]
    have e5 : cI σ1 (q + 1) 5 = cI σ (q + 1) 3 + Int32.ofNat n := by rw [c1 5 (by omega) (by omega) (by omega), h3.2]
    have e4 : cI σ1 (q + 1) 4 = ak := by rw [hσ1, wi_eq]
    have hd : (cI σ (q + 1) 3 + Int32.ofNat n - ak).toInt = (n : Int) - (a : Int) := by rw [hak]; exact d32 _ (by omega) (by omega)
    rw [e5, e4, hσ2]
    by_cases h : a ≤ n
    · rw [if_pos h, if_pos (x32_le' z32_0 hd (by omega))]
    · rw [if_neg h, if_neg (x32_nle z32_0 hd (by omega))]
  · have rr : ∀ r, r ≠ 11 → r ≠ 12 → (if a ≤ n then si ρ 11 e ak else si (si ρ 11 e ak) 12 e ak).1 r = ρ.1 r := fun r x y => funext fun j => by
      split
      · rw [si_ne _ _ _ _ (by omega)]
      · rw [si_ne _ _ _ _ (by omega), si_ne _ _ _ _ (by omega)]
    have r11 : (if a ≤ n then si ρ 11 e ak else si (si ρ 11 e ak) 12 e ak).1 11 e = ak := by
      split
      · rw [si_eq]
      · rw [si_ne _ _ _ _ (by omega), si_eq]
    have r12 : (if a ≤ n then si ρ 11 e ak else si (si ρ 11 e ak) 12 e ak).1 12 e = cI σ (q + 1) 3 + Int32.ofNat (max n a) := by
      by_cases h : a ≤ n
      · rw [if_pos h, si_ne _ _ _ _ (by omega), h3.1, Nat.max_eq_left h]
      · rw [if_neg h, si_eq, hak, Nat.max_eq_right (by omega)]
    obtain ⟨b1, b2, b3, b4, b5⟩ := F ab (fun e => by rw [e] at k5; omega)
    have cc : ∀ j, j ≠ 1 → j ≠ 2 → j ≠ 4 → j ≠ 5 → cI σ2 (q + 1) j = cI σ (q + 1) j := fun j x y z t => by rw [c2 j t, c1 j x y z]
    unfold G2 G2x
    rw [r11, r12, rr 10 (by omega) (by omega), rr 13 (by omega) (by omega), rr 14 (by omega) (by omega), rr 15 (by omega) (by omega), rr 16 (by omega) (by omega), rr 32 (by omega) (by omega), rr 36 (by omega) (by omega), rr 38 (by omega) (by omega), v1, v2, v4, v5, cc 3 (by omega) (by omega) (by omega) (by omega), cc 6 (by omega) (by omega) (by omega) (by omega), cc 7 (by omega) (by omega) (by omega) (by omega), cc 8 (by omega) (by omega) (by omega) (by omega), cc 9 (by omega) (by omega) (by omega) (by omega), cc 10 (by omega) (by omega) (by omega) (by omega), cc 11 (by omega) (by omega) (by omega) (by omega), show cR σ2 = cR σ by unfold cR; rw [s2']]
    refine ⟨h1', ⟨rfl, hak⟩, ⟨rfl, rfl⟩, h4, ⟨h5.1, fun _ => h5.2 hc0⟩, h6, h7, h8, h9, ⟨by omega, by omega, by omega, by omega⟩, s + (w - (g + 1 - a)), ab, rfl, ?_, k3, by rw [b5]; exact k4, k5, by rw [b4]; omega, by rw [b4]; exact k7, by rw [b4]; exact k8, fun i hi => ?_⟩
    · congr 1; omega
    · rw [b1, show s + (w - (g + 1 - a)) + i = s + (w - (g + 1 - a) + i) by omega, k9 _ (by omega)]
      refine congrArg (ρ.1 38) ?_
      omega
end AK
