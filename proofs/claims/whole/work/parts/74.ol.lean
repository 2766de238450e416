/-! OUTPUT's loop, both sides -/
section OL
variable {C : List (Nat × Nat)} {K q e : Nat} {τ st u g U : Nat} {tr : Nat}
theorem c_finDue {own : Nat → Nat} {σ : CS} {ρ : RS} {n m : Nat} (hq : q = 7 ∨ q = 14) (h : G2 own q e σ ρ u n m g) (hc0 : ρ.1 0 4 ≠ 0) : m_U_finIsDue (q + 1) σ = some (if cI σ (q + 1) 8 ≠ 0 ∧ n = g + 1 then 1 else 0, σ) := by
  have h' := h
  obtain ⟨h1, h2, h3, h4, h5, h6, h7, h8, h9, h10, _⟩ := h
  have hd : (cI σ (q + 1) 5 - cI σ (q + 1) 7).toInt = (n : Int) - ((g + 1 : Nat) : Int) := by
    rw [h3.2, h5.2 hc0, show cI σ (q + 1) 3 + 1 + Int32.ofNat g = cI σ (q + 1) 3 + Int32.ofNat (g + 1) by rw [show Int32.ofNat (g + 1) = Int32.ofNat g + 1 from nI_succ g]; grind]
    exact d32 _ (by omega) (by omega)
  unfold m_U_finIsDue b_U_finIsDue_30 b_U_finIsDue_31
  rw [gd_t (by omega), bd_e, c_unsent hq h' hc0, bc2_e, bd_e, bd_e, gd_t z01_0, gd_t z01_1]
  by_cases c0 : cI σ (q + 1) 8 = 0
  · rw [if_pos c0, if_neg (fun h => h.1 c0)]
  · rw [if_neg c0]
    by_cases c1 : g + 1 - n = 0
    · rw [if_pos (x32_eq' (x32_nat (by omega)) z32_0 (by omega))]
      by_cases c2 : n = g + 1
      · rw [if_neg (x32_nlt z32_0 hd (by omega)), if_pos ⟨c0, c2⟩]
      · rw [if_pos (x32_lt' z32_0 hd (by omega)), if_neg (fun h => c2 h.2)]
    · rw [if_neg (x32_ne (x32_nat (by omega)) z32_0 (by omega)), if_neg (fun h => by omega)]
theorem r_fin {own : Nat → Nat} {σ : CS} {ρ : RS} {n m : Nat} (he : e < 2) {v1 v2 v3 : Int32} (hv : v1.toInt = (e : Int)) (h : G2 own q e σ ρ u n m g) (rec : Int32 → Int32 → Int32 → RS → Option (Int32 × RS)) :
    b_output_231 rec v1 v2 v3 (Int32.ofNat (g + 1 - n)) ρ = if cI σ (q + 1) 8 ≠ 0 ∧ n = g + 1 then (bc (m_send v1 1 (ρ.1 12 e) 0 0 ρ) fun r8 => b_output_291 rec v1 v2 v3 (si r8 12 e (r8.1 12 e + 1))) else b_output_289 rec v1 v2 ρ := by
  obtain ⟨h1, h2, h3, h4, h5, h6, h7, h8, h9, h10, _⟩ := h
  have hi := x32_in hv he
  have hcl := x32_n hv
  have hd : (ρ.1 12 e - (ρ.1 10 e + 1 + ρ.1 32 e)).toInt = (n : Int) - ((g + 1 : Nat) : Int) := by
    rw [h3.1, h1, h5.1, show cI σ (q + 1) 3 + 1 + Int32.ofNat g = cI σ (q + 1) 3 + Int32.ofNat (g + 1) by rw [show Int32.ofNat (g + 1) = Int32.ofNat g + 1 from nI_succ g]; grind]
    exact d32 _ (by omega) (by omega)
  unfold b_output_231 m_finNumber m_above b_above_11
  simp only [gd_t hi, bd_e, bc2_e]
  rw [hcl, h6.1]
  by_cases c0 : cI σ (q + 1) 8 = 0
  · rw [if_pos c0, if_neg (fun h => h.1 c0)]
  · rw [if_neg c0]
    by_cases c1 : g + 1 - n = 0
    · rw [if_pos (x32_eq' (x32_nat (by omega)) z32_0 (by omega))]
      by_cases c2 : n = g + 1
      · rw [if_pos (x32_le' hd z32_0 (by omega)), gd_t (Or.inl trivial), bc2_e, if_pos rfl, if_pos ⟨c0, c2⟩]
      · rw [if_neg (x32_nle hd z32_0 (by omega)), gd_t (Or.inr trivial), bc2_e, if_neg (by decide), if_neg (fun h => c2 h.2)]
    · rw [if_neg (x32_ne (x32_nat (by omega)) z32_0 (by omega)), if_neg (fun h => by omega)]
theorem NT.OT {σ σ' : CS} {ρ ρ' : RS} {w : Int32} (h : NT q e σ σ' ρ ρ') : OT q e σ σ' ρ (si ρ' 12 e w) := by
  obtain ⟨a1, a2, a3, a4, a5, a6, a7, a8, a9, a10⟩ := h
  exact ⟨a1, a3, a4, a5, fun j _ b c => a6 j b c, fun r a b c d f g h => funext fun j => by rw [si_1, if_neg (by omega), a8 r a c d f g h]⟩
theorem out_loop (hqe : q = 7 ∧ e = 0 ∨ q = 14 ∧ e = 1) {v1 vb : Int32} (hv : v1.toInt = (e : Int)) {sg cw F : Nat} (s1 : 64 ≤ sg) (s2 : sg ≤ 1460) (s3 : cw ≤ 1000000) (s4 : F ≤ 65535) (hu : 1 ≤ u) :
    ∀ (r : Nat) (own : Nat → Nat) (P : List (Nat × Nat)) (S : List Nat) (c1 c2 : Nat) (σ : CS) (ρ : RS) (n m i nC nR : Nat) (rn v2 x : Int32), NB own P C S c1 c2 K σ ρ → EG own q e σ ρ τ st u n m g U rn tr → CT σ ρ τ → cI σ (q + 6) 0 = Int32.ofNat sg → cI σ (q + 6) 1 = Int32.ofNat cw → cI σ (q + 1) 9 = Int32.ofNat F → mu u n g < r → i + r ≤ 9000 → v2.toInt = (i : Int) → r < nC → r + 1 < nR → (x = 0 ∧ cI σ q 10 = vb ∨ x = 1 ∧ ∃ j, 1 ≤ j ∧ j ≤ i ∧ cI σ q 10 = vb + Int32.ofNat j) →
    ∃ σ' ρ' own' n' m' rn' y, lq3 (F_E_output_16 q) nC vb v2 σ = some (y, σ') ∧ lq4 F_output_56 nR v1 x 1 ρ = some (y, ρ') ∧ EG own' q e σ' ρ' τ st u n' m' g U rn' tr ∧ EP K C own own' e σ σ' ρ ρ' ∧ OT q e σ σ' ρ ρ' ∧ (x = 0 ∧ y = 0 ∧ cI σ' q 10 = vb ∧ n' = n ∧ m' = m ∨ y = 1 ∧ cI σ' q 10 ≠ vb) := by
  have hq : q = 7 ∨ q = 14 := by omega
  have he : e < 2 := by omega
  have hi := x32_in hv he
  have hcl := x32_n hv
  intro r
  induction r with
  | zero =>
    intro own P S c1 c2 σ ρ n m i nC nR rn v2 x N E T h1 h2 h3 hmu
    omega
  | succ r ih =>
    intro own P S c1 c2 σ ρ n m i nC nR rn v2 x N E T h1 h2 h3 hmu hir hv2 hnC hnR hx
    obtain ⟨nC, rfl⟩ : ∃ k, nC = k + 1 := ⟨nC - 1, by omega⟩
    obtain ⟨nR, rfl⟩ : ∃ k, nR = k + 1 := ⟨nR - 1, by omega⟩
    have g2 := E.2.1
    have g5 := E.2.2.2.2
    have h10 := g2.2.2.2.2.2.2.2.2.2.1
    have o3 : own 3 = 14 := N.2.2.1.2.2 3 (by decide)
    have hnx : ρ.1 12 e = cI σ (q + 1) 3 + Int32.ofNat n := g2.2.2.1.1
    have hv2' : (v2 + 1).toInt = ((i + 1 : Nat) : Int) := by rw [x32_add hv2 z32_1 (by omega) (by omega)]; omega
    have hx1 : x ||| 1 = 1 := by rcases hx with ⟨h, _⟩ | ⟨h, _⟩ <;> rw [h] <;> decide
    have hx0 : x ||| 0 = x := by rcases hx with ⟨h, _⟩ | ⟨h, _⟩ <;> rw [h] <;> decide
    have hx01 : x = 0 ∨ x = 1 := hx.elim (fun h => Or.inl h.1) (fun h => Or.inr h.1)
    have cU : lq3 (F_E_output_16 q) (nC + 1) vb v2 σ = F_E_output_16 q (lq3 (F_E_output_16 q) nC) vb v2 σ := rfl
    have rU : lq4 F_output_56 (nR + 1) v1 x 1 ρ = F_output_56 (lq4 F_output_56 nR) v1 x 1 ρ := rfl
    rw [cU, rU, r_step he hv g2 (by rw [g5.1]; exact h1) (by rw [g5.2.1]; exact h2) (by rw [g2.2.2.2.2.2.2.1.1]; exact h3) s2 s3 s4, F_E_output_16, if_neg (x32_nle (show (10000 : Int32).toInt = 10000 by decide) hv2 (by omega)), c_bytes hq g2 T.2.1 h1 h2 h3 s2 s3 s4, bc2_e]
    -- after one send
    have go : ∀ (σ1 : CS) (ρ1 : RS) (o1 : Nat → Nat) (b m' : Nat), EG o1 q e σ1 ρ1 τ st u b m' g U rn tr → EP K C own o1 e σ σ1 ρ ρ1 → OT q e σ σ1 ρ ρ1 → cI σ1 q 10 = cI σ q 10 + 1 → mu u b g < mu u n g →
        ∃ σ' ρ' own' n' m'' rn' y, lq3 (F_E_output_16 q) nC vb (v2 + 1) σ1 = some (y, σ') ∧ lq4 F_output_56 nR v1 1 1 ρ1 = some (y, ρ') ∧ EG own' q e σ' ρ' τ st u n' m'' g U rn' tr ∧ EP K C own own' e σ σ' ρ ρ' ∧ OT q e σ σ' ρ ρ' ∧ (x = 0 ∧ y = 0 ∧ cI σ' q 10 = vb ∧ n' = n ∧ m'' = m ∨ y = 1 ∧ cI σ' q 10 ≠ vb) := by
      intro σ1 ρ1 o1 b m' E1 P1 T1 hs1 hmu1
      obtain ⟨Pa, Sa, ca, cb, N1⟩ := P1.1
      have hj : ∃ j, 1 ≤ j ∧ j ≤ i + 1 ∧ cI σ1 q 10 = vb + Int32.ofNat j := by
        rcases hx with ⟨_, h⟩ | ⟨_, j, j1, j2, j3⟩
        · exact ⟨1, by omega, by omega, by rw [hs1, h]; rfl⟩
        · refine ⟨j + 1, by omega, by omega, ?_⟩
          rw [hs1, j3, show Int32.ofNat (j + 1) = Int32.ofNat j + 1 from nI_succ j]; grind
      obtain ⟨σ', ρ', own', n', m'', rn', y, w1, w2, w3, w4, w5, w6⟩ := ih o1 Pa Sa ca cb σ1 ρ1 b m' (i + 1) nC nR rn (v2 + 1) 1 N1 E1 (T.ep P1 o3 he) (by rw [T1.2.2.1]; exact h1) (by rw [T1.2.2.1]; exact h2) (by rw [T1.2.2.2.1 9 (by omega) (by omega)]; exact h3) (by omega) (by omega) hv2' (by omega) (by omega) (Or.inr ⟨rfl, hj⟩)
      refine ⟨σ', ρ', own', n', m'', rn', y, w1, w2, w3, P1.tr w4, T1.tr w5, ?_⟩
      rcases w6 with ⟨h, _⟩ | h
      · exact absurd h (by decide)
      · exact Or.inr h
    by_cases hk : bk u n g cw F sg = 0
    · rw [if_pos hk, hk, if_pos (show Int32.ofNat 0 = 0 from rfl), c_finDue hq g2 T.2.1, bc2_e, r_fin he hv g2]
      by_cases hd : cI σ (q + 1) 8 ≠ 0 ∧ n = g + 1
      · rw [if_pos hd, if_pos hd, if_neg (by decide)]
        unfold b_E_output_45 b_E_output_55
        obtain ⟨σ1, ρ1, o1, y1, y2, y3, y4, y5⟩ := sendNext_sim (f := 1) (nn := 0) (v4 := 0) (k := 0) (b := n + 1) hqe N E T.1 T.2.1 T.2.2.1 T.2.2.2.1 hv (by decide) (by omega) (Or.inl rfl) (Or.inr (Or.inl ⟨rfl, rfl⟩)) (by rw [show inc 1 = 1 by decide]) (by omega) (fun h => absurd h hd.1)
        rw [if_pos (show Int32.ofNat 0 ≤ 0 by decide), show Int32.ofNat 0 = 0 from rfl, y1, bc_e, bd_e, y2, bc_e]
        have e12 : ρ1.1 12 e + 1 = cI σ (q + 1) 3 + Int32.ofNat (n + 1) := by
          rw [y5.2.2.2.2.2.2.2.1 12 (by omega) (by omega) (by omega) (by omega) (by omega) (by omega), hnx, show Int32.ofNat (n + 1) = Int32.ofNat n + 1 from nI_succ n]; grind
        unfold b_output_291
        rw [bd_e, hx1, e12]
        exact go σ1 _ o1 (n + 1) _ y3 y4 y5.OT y5.2.1 (mu_fin h10.1 hd.2)
      · rw [if_neg hd, if_neg hd, if_pos rfl]
        unfold b_output_289 b_output_291
        rw [bd_e, hx0]
        obtain ⟨nR, rfl⟩ : ∃ k, nR = k + 1 := ⟨nR - 1, by omega⟩
        have rU0 : lq4 F_output_56 (nR + 1) v1 x 0 ρ = F_output_56 (lq4 F_output_56 nR) v1 x 0 ρ := rfl
        have hx' : x = 0 ∧ cI σ q 10 = vb ∨ x = 1 ∧ cI σ q 10 ≠ vb := by
          rcases hx with h | ⟨h, j, j1, j2, j3⟩
          · exact Or.inl h
          · refine Or.inr ⟨h, fun hh => ?_⟩
            rw [j3] at hh
            have h0 : vb + Int32.ofNat j = vb + Int32.ofNat 0 := by rw [hh]; show vb = vb + 0; grind
            have := (e32 vb (by omega) (by omega)).mp h0
            omega
        obtain ⟨σ', ρ', rn', z1, z2, z3, z4, z5, z6, z7⟩ := out_end hqe N E T hv hx' (lq4 F_output_56 nR)
        rw [rU0]
        refine ⟨σ', ρ', own, n, m, rn', x, z1, z2, z3, z4, z5, ?_⟩
        rw [z6]
        rcases hx' with h | h
        · exact Or.inl ⟨h.1, h.1, h.2, rfl, rfl⟩
        · exact Or.inr h
    · have hkl := bk_le (u := u) (n := n) (g := g) (cw := cw) (F := F) (sg := sg) (by omega)
      have hkk : (Int32.ofNat (bk u n g cw F sg)).toInt = ((bk u n g cw F sg : Nat) : Int) := x32_nat (by omega)
      have hmd := mu_data (u := u) (n := n) (g := g) (cw := cw) (F := F) (sg := sg) h10.1 s1 hk
      generalize bk u n g cw F sg = k at hk hkl hkk hmd
      rw [if_neg hk, if_neg (x32_ne hkk z32_0 (by omega))]
      unfold b_E_output_45 b_E_output_55 b_output_188
      have hcl0 : cI σ (q + 1) 8 = 0 ∧ m ≤ g + 1 ∨ cI σ (q + 1) 8 = 1 := g2.2.2.2.2.2.1.2
      obtain ⟨σ1, ρ1, o1, y1, y2, y3, y4, y5⟩ := sendNext_sim (f := 0) (nn := Int32.ofNat k) (v4 := Int32.ofNat (n - 1)) (k := k) (b := n + k) hqe N E T.1 T.2.1 T.2.2.1 T.2.2.2.1 hv hkk (by omega) (Or.inr ⟨by omega, rfl, by omega⟩) (Or.inl ⟨rfl, by omega⟩) (by rw [show inc 0 = 0 by decide]; omega) (by omega) (fun h => by omega)
      have e4 : ρ.1 12 e - ρ.1 10 e - 1 = Int32.ofNat (n - 1) := by
        rw [hnx, g2.1]
        obtain ⟨b, hb⟩ : ∃ b, n = b + 1 := ⟨n - 1, by omega⟩
        rw [hb, show Int32.ofNat (b + 1) = Int32.ofNat b + 1 from nI_succ b, show b + 1 - 1 = b by omega]; grind
      have e12 : ρ1.1 12 e + Int32.ofNat k = cI σ (q + 1) 3 + Int32.ofNat (n + k) := by
        rw [y5.2.2.2.2.2.2.2.1 12 (by omega) (by omega) (by omega) (by omega) (by omega) (by omega), hnx, a32]
      simp only [gd_t hi, bd_e]
      rw [hcl, e4, y2, bc_e, e12, if_neg (x32_nle hkk z32_0 (by omega)), y1, bc_e]
      unfold b_output_291
      rw [bd_e, hx1]
      exact go σ1 _ o1 (n + k) _ y3 y4 y5.OT y5.2.1 hmd
theorem output_sim {own : Nat → Nat} {P : List (Nat × Nat)} {S : List Nat} {c1 c2 : Nat} {σ : CS} {ρ : RS} {n m : Nat} {rn : Int32} (hqe : q = 7 ∧ e = 0 ∨ q = 14 ∧ e = 1) (N : NB own P C S c1 c2 K σ ρ) (E : EG own q e σ ρ τ st u n m g U rn tr) (T : CT σ ρ τ) {v1 : Int32} (hv : v1.toInt = (e : Int)) (hu : 4 ≤ st → 1 ≤ u) :
    ∃ σ' ρ' own' n' m' rn' y, m_E_output q σ = some (y, σ') ∧ m_output v1 ρ = some (y, ρ') ∧ EG own' q e σ' ρ' τ st u n' m' g U rn' tr ∧ EP K C own own' e σ σ' ρ ρ' ∧ OT q e σ σ' ρ ρ' ∧ (y = 0 ∧ cI σ' q 10 = cI σ q 10 ∧ n' = n ∧ m' = m ∨ y = 1 ∧ cI σ' q 10 ≠ cI σ q 10) ∧ (rn' = rn ∨ 4 ≤ st) := by
  have hq : q = 7 ∨ q = 14 := by omega
  have he : e < 2 := by omega
  have hi := x32_in hv he
  have hcl := x32_n hv
  have hst : cI σ q 8 = Int32.ofNat st := E.1.2.2.2.2.1
  have hst2 : ρ.1 9 e = Int32.ofNat st := by rw [E.1.2.2.2.1]; exact hst
  have hst10 : st ≤ 10 := E.1.2.2.2.2.2.1
  have hs : (Int32.ofNat st).toInt = (st : Int) := x32_nat (by omega)
  have t4 : (4 : Int32).toInt = 4 := by decide
  have t5 : (5 : Int32).toInt = 5 := by decide
  have t7 : (7 : Int32).toInt = 7 := by decide
  have t9 : (9 : Int32).toInt = 9 := by decide
  by_cases hm : st = 4 ∨ st = 5 ∨ (7 ≤ st ∧ st ≤ 9)
  · obtain ⟨sg, cw, z1, z2, z3, z4, z5, z6⟩ := E.2.2.2.2.2.2.2.2 (by omega)
    obtain ⟨F, f1, f2⟩ := E.2.1.2.2.2.2.2.2.1.2
    have hmu := mu_le (u := u) (n := n) (g := g) E.2.1.2.2.2.2.2.2.2.2.2.1.2.2.2
    obtain ⟨σ', ρ', own', n', m', rn', y, w1, w2, w3, w4, w5, w6⟩ := out_loop (vb := cI σ q 10) hqe hv z1 z2 z5 f1 (hu (by omega)) 171 own P S c1 c2 σ ρ n m 0 fuel fuel rn 0 0 N E T z3 z6 f2 (by omega) (by omega) (by decide) (by unfold fuel; omega) (by unfold fuel; omega) (Or.inl ⟨rfl, rfl⟩)
    refine ⟨σ', ρ', own', n', m', rn', y, ?_, ?_, w3, w4, w5, w6.elim (fun h => Or.inl h.2) Or.inr, Or.inr (by omega)⟩
    · have hms : m_E_maySend q σ = some (1, σ) := by
        unfold m_E_maySend b_E_maySend_38 b_E_maySend_34 b_E_maySend_39
        rw [gd_t hq, bd_e, bd_e, bd_e, bd_e, hst, gd_t z01_1]
        by_cases a : st = 4
        · rw [if_pos (x32_eq' hs t4 (by omega))]
        · rw [if_neg (x32_ne hs t4 (by omega))]
          by_cases b : st = 5
          · rw [if_pos (x32_eq' hs t5 (by omega))]
          · rw [if_neg (x32_ne hs t5 (by omega)), if_neg (x32_nlt hs t7 (by omega)), if_neg (x32_nlt t9 hs (by omega))]
      unfold m_E_output
      rw [gd_t hq, hms, bc2_e, if_neg (by decide), bd_e]
      exact w1
    · unfold m_output b_output_44 b_output_48 b_output_49
      simp only [gd_t hi, bd_e]
      rw [hcl, hst2]
      rw [if_neg (by decide : ¬ (1 : Int32) = 0)]
      by_cases a : st = 4
      · rw [if_pos (x32_eq' hs t4 (by omega))]; exact w2
      · rw [if_neg (x32_ne hs t4 (by omega))]
        by_cases b : st = 5
        · rw [if_pos (x32_eq' hs t5 (by omega))]; exact w2
        · rw [if_neg (x32_ne hs t5 (by omega)), if_neg (x32_nlt hs t7 (by omega)), if_neg (x32_nlt t9 hs (by omega))]; exact w2
  · refine ⟨σ, ρ, own, n, m, rn, 0, ?_, ?_, E, (EP.wr N fr.rf he rfl (RF.rf e ρ) (fun _ _ _ => rfl) rfl rfl).1, OT.rf q e σ ρ, Or.inl ⟨rfl, rfl, rfl, rfl⟩, Or.inl rfl⟩
    · have hms : m_E_maySend q σ = some (0, σ) := by
        unfold m_E_maySend b_E_maySend_38 b_E_maySend_34 b_E_maySend_39
        rw [gd_t hq, bd_e, bd_e, bd_e, bd_e, hst, gd_t z01_0, if_neg (x32_ne hs t4 (by omega)), if_neg (x32_ne hs t5 (by omega))]
        by_cases a : st < 7
        · rw [if_pos (x32_lt' hs t7 (by omega))]
        · rw [if_neg (x32_nlt hs t7 (by omega)), if_pos (x32_lt' t9 hs (by omega))]
      unfold m_E_output
      rw [gd_t hq, hms, bc2_e, if_pos rfl, gd_t z01_0]
    · unfold m_output b_output_44 b_output_48 b_output_49
      simp only [gd_t hi, bd_e]
      rw [hcl, hst2, if_neg (x32_ne hs t4 (by omega)), if_neg (x32_ne hs t5 (by omega))]
      by_cases a : st < 7
      · rw [if_pos (x32_lt' hs t7 (by omega)), if_pos trivial, gd_t (Or.inl trivial)]
      · rw [if_neg (x32_nlt hs t7 (by omega)), if_pos (x32_lt' t9 hs (by omega)), if_pos trivial, gd_t (Or.inl trivial)]
end OL
