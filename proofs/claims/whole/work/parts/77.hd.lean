/-! a segment is looked at, both sides -/
def SR (ρ ρ' : RS) : Prop := ρ'.2 = ρ.2 ∧ (∀ r, r ≠ 0 → ρ'.1 r = ρ.1 r) ∧ ∀ j, j < 46 → ρ'.1 0 j = ρ.1 0 j
theorem SR.rf (ρ : RS) : SR ρ ρ := ⟨rfl, fun _ _ => rfl, fun _ _ => rfl⟩
theorem SR.si {ρ ρ' : RS} (h : SR ρ ρ') (j : Nat) (x : Int32) (hj : 46 ≤ j) : SR ρ (si ρ' 0 j x) := ⟨h.1, fun r hr => funext fun i => by rw [si_ne _ _ _ _ (by omega), h.2.1 r hr], fun i hi => by rw [si_ne _ _ _ _ (by omega), h.2.2 i hi]⟩
/-- the segment at hand: its row W; the reference has read it -/
def SC (g0 s0 a len N : Nat) (W : Nat → Int32) (σ : CS) (ρ : RS) : Prop :=
  SG σ g0 a len N ∧ a = ar σ g0 ∧ cI σ a = W ∧ wf W len ∧ s0 < 513 ∧ len ≤ 1484 ∧ ρ.1 0 46 = n4 W 4 ∧ ρ.1 0 47 = n4 W 8 ∧ ρ.1 0 48 = n1 W 13 ∧ ρ.1 0 49 = n2 W 14 ∧ ρ.1 0 50 = Int32.ofNat (ho W) ∧ ρ.1 0 51 = Int32.ofNat (len - ho W) ∧ ρ.1 0 52 = nI s0 ∧
  (¬ n1 W 13 &&& 2 = 0 → ∃ (ρ0 : RS) (v2 : Int32), v2.toInt = (ho W : Int) ∧ (∀ i, i < len → W i = Sk ρ0 s0 i) ∧ m_options (nI s0) v2 (si ρ0 0 53 536) = some (si ρ0 0 53 (ρ.1 0 53)))
theorem SC.ep {g0 s0 a len N K : Nat} {W : Nat → Int32} {own own' : Nat → Nat} {e : Nat} {σ σ' : CS} {ρ ρ' : RS} (h : SC g0 s0 a len N W σ ρ) (E : EP K [(g0, s0)] own own' e σ σ' ρ ρ') : SC g0 s0 a len N W σ' ρ' := by
  obtain ⟨⟨s1, s2, s3, s4, s5, s6, s7⟩, ha, hW, h4, h5, h6, h7, h8, h9, h10, h11, h12, h13, h14⟩ := h
  have F := E.2.2.2.2.1 (g0, s0) (List.mem_singleton.mpr rfl)
  have R := E.2.2.2.1.2.2.2
  obtain ⟨a1, a2, a3, a4, a5⟩ := F g0 (Or.inl rfl)
  obtain ⟨b1, b2, b3, b4, b5⟩ := F a (Or.inr ha)
  refine ⟨⟨by rw [a5]; exact s1, by rw [a3]; exact s2, by rw [b5]; exact s3, by rw [a1]; exact s4, by rw [b4]; exact s5, s6, s7⟩, by rw [ha]; unfold ar; rw [a3], by rw [b1]; exact hW, h4, h5, h6, ?_, ?_, ?_, ?_, ?_, ?_, ?_, ?_⟩
  · rw [R 46 (by omega) (by omega)]; exact h7
  · rw [R 47 (by omega) (by omega)]; exact h8
  · rw [R 48 (by omega) (by omega)]; exact h9
  · rw [R 49 (by omega) (by omega)]; exact h10
  · rw [R 50 (by omega) (by omega)]; exact h11
  · rw [R 51 (by omega) (by omega)]; exact h12
  · rw [R 52 (by omega) (by omega)]; exact h13
  · rw [R 53 (by omega) (by omega)]; exact h14
theorem bv_cg {C D : Nat → Int32} {i : Nat} (h : C i = D i) : bv C i = bv D i := by unfold bv n1; rw [h]
theorem ws_cg {C D : Nat → Int32} : ∀ n, (∀ i, i < n → C i = D i) → ws C n = ws D n
  | 0, _ => rfl
  | n + 1, h => by
    show ws C n + wt C n = ws D n + wt D n
    rw [ws_cg n (fun i hi => h i (by omega))]
    unfold wt
    rw [bv_cg (h n (by omega))]
theorem n2_cg {C D : Nat → Int32} {i : Nat} (h : C i = D i) (h' : C (i + 1) = D (i + 1)) : n2 C i = n2 D i := by unfold n2 n1; rw [h, h']
theorem n4_cg {C D : Nat → Int32} {i : Nat} (h : ∀ j, j < 4 → C (i + j) = D (i + j)) : n4 C i = n4 D i := by
  unfold n4
  rw [n2_cg (i := i) (h 0 (by omega)) (h 1 (by omega)), n2_cg (i := i + 2) (h 2 (by omega)) (h 3 (by omega))]
theorem header_sim {g0 s0 len N q e : Nat} {σ : CS} {ρ : RS} {st : Nat} (hqe : q = 7 ∧ e = 0 ∨ q = 14 ∧ e = 1) (h1 : G1 q e σ ρ st) (S0 : SG σ g0 (ar σ g0) len N) (hs : s0 < 513) (hl : ρ.1 3 s0 = Int32.ofNat len) (h01 : ρ.1 4 s0 = 0 ∨ ρ.1 4 s0 = 1) (hc : ∀ i, i < len → cI σ (ar σ g0) i = Sk ρ s0 i) {v1 : Int32} (hv : v1.toInt = (e : Int)) :
    (∃ ρ', m_E_isOfThisConnection q g0 σ = some (0, σ) ∧ m_header v1 (nI s0) ρ = some (0, ρ') ∧ SR ρ ρ') ∨
    (∃ ρ', m_E_isOfThisConnection q g0 σ = some (1, σ) ∧ m_header v1 (nI s0) ρ = some (1, ρ') ∧ SR ρ ρ' ∧ SC g0 s0 (ar σ g0) len N (cI σ (ar σ g0)) σ ρ' ∧ ρ.1 0 4 ≠ 0) := by
  have hq : q = 7 ∨ q = 14 := by omega
  have he : e < 2 := by omega
  have hK : (nI s0).toInt = (s0 : Int) := nI_t (by omega)
  have hlen : len ≤ 1484 := by obtain ⟨_, _, _, _, _, s6, s7⟩ := S0; omega
  have hLI : (Int32.ofNat len).toInt = (len : Int) := x32_nat (by omega)
  have t20 : (20 : Int32).toInt = 20 := by decide
  obtain ⟨W, hW⟩ : ∃ W, W = cI σ (ar σ g0) := ⟨_, rfl⟩
  rw [← hW] at hc ⊢
  have kg : kd σ g0 = 11 := S0.1
  obtain ⟨wf1, wf0⟩ := gwf S0
  rw [← hW] at wf1 wf0
  obtain ⟨ρ1, hρ1⟩ : ∃ x, x = si ρ 0 52 (nI s0) := ⟨_, rfl⟩
  have R1 : SR ρ ρ1 := by rw [hρ1]; exact (SR.rf ρ).si 52 _ (by omega)
  have sk1 : Sk ρ1 s0 = Sk ρ s0 := by rw [hρ1]; rfl
  have l1 : ρ1.1 3 s0 = Int32.ofNat len := by rw [R1.2.1 3 (by omega)]; exact hl
  have g1' : ρ1.1 4 s0 = 0 ∨ ρ1.1 4 s0 = 1 := by rw [R1.2.1 4 (by omega)]; exact h01
  have h12 : 12 < len → n1 (Sk ρ s0) 12 = n1 W 12 := fun h => by unfold n1; rw [hc 12 h]
  have hoW : 12 < len → ho (Sk ρ s0) = ho W := fun h => by unfold ho; rw [bv_cg (hc 12 h)]
  have h1e : ((1 : Int32) - v1).toInt = ((1 - e : Nat) : Int) := by rw [x32_sub z32_1 hv (by omega) (by omega)]; omega
  have no : ∀ (h : ¬ wf W len), m_E_isOfThisConnection q g0 σ = some (0, σ) := fun h => by
    unfold m_E_isOfThisConnection b_E_isOfThisConnection_44 b_E_isOfThisConnection_45
    rw [gd_t hq, bd_e, gd_t kg, wf0 h, bc2_e, if_pos rfl, gd_t z01_0]
    split <;> rfl
  unfold m_header
  have l1' : ρ1.1 3 (nI s0).toNatClampNeg = Int32.ofNat len := by rw [x32_n hK]; exact l1
  rw [bd_e, ← hρ1, gd_t (x32_in hK hs), bd_e, l1']
  by_cases hlt : len < 20
  · rw [if_neg (x32_nle t20 hLI (by omega)), gd_t z01_0]
    exact Or.inl ⟨ρ1, no (fun h => by have := h.1; omega), rfl, R1⟩
  rw [if_pos (x32_le' t20 hLI (by omega)), rhere ρ1 hK (show (12 : Int32).toInt = ((12 : Nat) : Int) by decide) hs (by omega), bc2_e, bd_e, sk1]
  have hh := hr4_s (Sk ρ s0)
  rw [hoW (by omega)] at hh
  have h60 := ho_lt W
  generalize (4 : Int32) * (n1 (Sk ρ s0) 12 >>> ((4 : Int32) &&& 31)) = x5 at hh ⊢
  unfold b_header_54 b_header_93 b_header_177
  by_cases hlo : ho W < 20
  · rw [if_pos (x32_lt' hh t20 (by omega)), gd_t z01_0]
    exact Or.inl ⟨ρ1, no (fun h => by have := h.2.1; omega), rfl, R1⟩
  rw [if_neg (x32_nlt hh t20 (by omega)), gd_t (x32_in hK hs), bd_e, l1']
  by_cases hhi : len < ho W
  · rw [if_pos (x32_lt' hLI hh (by omega)), gd_t z01_0]
    exact Or.inl ⟨ρ1, no (fun h => by have := h.2.2.1; omega), rfl, R1⟩
  rw [if_neg (x32_nlt hLI hh (by omega)), rsound ρ1 hK hs l1 hlen (by omega) g1', bc2_e, sk1, ← ws_cg len hc]
  by_cases hsum : fold (fold (5129 + len + ws W len)) = 65535
  · have hwf : wf W len := ⟨by omega, by omega, by omega, hsum⟩
    rw [if_pos hsum, if_neg (by decide), bd_e]
    have c04 : ρ1.1 0 4 = ρ.1 0 4 := R1.2.2 4 (by omega)
    rw [c04]
    have hports := h1.2.2.2.2.2.2.2.2.2.2
    have cls : ∀ b : Int32, m_E_isOfThisConnection q g0 σ = (if cI σ q 12 = 0 then some (0, σ) else if n2 W 0 = cI σ q 13 then (if n2 W 2 = cI σ q 12 then some (1, σ) else some (0, σ)) else some (0, σ)) := fun b => by
      unfold m_E_isOfThisConnection b_E_isOfThisConnection_44 b_E_isOfThisConnection_45
      rw [gd_t hq, bd_e, gd_t kg, wf1 hwf, bc2_e, if_neg (by decide : ¬ (1 : Int32) = 0), gd_t kg, gnum2 S0 (show (0 : Int32).toInt = ((0 : Nat) : Int) by decide) (by omega), bc2_e, bd_e, gd_t kg, gnum2 S0 (show (2 : Int32).toInt = ((2 : Nat) : Int) by decide) (by omega), bc2_e, bd_e, gd_t z01_0, gd_t z01_1, ← hW]
    rcases hports with ⟨p1, p2, p3⟩ | ⟨p1, p2, p3, p4⟩
    · rw [if_pos p1, gd_t z01_0]
      exact Or.inl ⟨ρ1, by rw [cls 0, if_pos p2], rfl, R1⟩
    · rw [if_neg p1, rtwo ρ1 hK (show (0 : Int32).toInt = ((0 : Nat) : Int) by decide) hs (by omega), bc2_e, rport ρ1 h1e, bc2_e, sk1, n2_cg (hc 0 (by omega)).symm (hc 1 (by omega)).symm, c04, ← p4, cls 0, if_neg p2]
      by_cases e1 : n2 W 0 = cI σ q 13
      · rw [if_pos e1, if_pos e1, rtwo ρ1 hK (show (2 : Int32).toInt = ((2 : Nat) : Int) by decide) hs (by omega), bc2_e, rport ρ1 hv, bc2_e, sk1, n2_cg (i := 2) (hc 2 (by omega)).symm (hc 3 (by omega)).symm, c04, ← p3]
        by_cases e2 : n2 W 2 = cI σ q 12
        · rw [if_pos e2, if_pos e2]
          right
          -- the fields
          rw [rfour ρ1 hK (show (4 : Int32).toInt = ((4 : Nat) : Int) by decide) hs (by omega), bc2_e, bd_e, sk1, n4_cg (fun j hj => (hc (4 + j) (by omega)).symm)]
          obtain ⟨ρ2, hρ2⟩ : ∃ x, x = si ρ1 0 46 (n4 W 4) := ⟨_, rfl⟩
          have R2 : SR ρ ρ2 := by rw [hρ2]; exact R1.si 46 _ (by omega)
          rw [← hρ2, rfour ρ2 hK (show (8 : Int32).toInt = ((8 : Nat) : Int) by decide) hs (by omega), bc2_e, bd_e, show Sk ρ2 s0 = Sk ρ s0 from funext fun i => by unfold Sk; rw [R2.2.1 2 (by omega)], n4_cg (i := 8) (fun j hj => (hc (8 + j) (by omega)).symm)]
          obtain ⟨ρ3, hρ3⟩ : ∃ x, x = si ρ2 0 47 (n4 W 8) := ⟨_, rfl⟩
          have R3 : SR ρ ρ3 := by rw [hρ3]; exact R2.si 47 _ (by omega)
          rw [← hρ3, rhere ρ3 hK (show (13 : Int32).toInt = ((13 : Nat) : Int) by decide) hs (by omega), bc2_e, bd_e, show Sk ρ3 s0 = Sk ρ s0 from funext fun i => by unfold Sk; rw [R3.2.1 2 (by omega)], show n1 (Sk ρ s0) 13 = n1 W 13 by unfold n1; rw [hc 13 (by omega)]]
          obtain ⟨ρ4, hρ4⟩ : ∃ x, x = si ρ3 0 48 (n1 W 13) := ⟨_, rfl⟩
          have R4 : SR ρ ρ4 := by rw [hρ4]; exact R3.si 48 _ (by omega)
          rw [← hρ4, rtwo ρ4 hK (show (14 : Int32).toInt = ((14 : Nat) : Int) by decide) hs (by omega), bc2_e, bd_e, show Sk ρ4 s0 = Sk ρ s0 from funext fun i => by unfold Sk; rw [R4.2.1 2 (by omega)], n2_cg (i := 14) (hc 14 (by omega)).symm (hc 15 (by omega)).symm, bd_e, gd_t (x32_in hK hs), bd_e, bd_e, bd_e, bd_e]
          obtain ⟨ρ5, hρ5⟩ : ∃ x, x = si (si ρ4 0 49 (n2 W 14)) 0 50 x5 := ⟨_, rfl⟩
          have R5 : SR ρ ρ5 := by rw [hρ5]; exact (R4.si 49 _ (by omega)).si 50 _ (by omega)
          rw [← hρ5]
          have l5 : ρ5.1 3 s0 = Int32.ofNat len := by rw [R5.2.1 3 (by omega)]; exact hl
          rw [show ρ5.1 3 (nI s0).toNatClampNeg = Int32.ofNat len by rw [x32_n hK]; exact l5]
          obtain ⟨ρ6, hρ6⟩ : ∃ x, x = si ρ5 0 51 (Int32.ofNat len - x5) := ⟨_, rfl⟩
          have R6 : SR ρ ρ6 := by rw [hρ6]; exact R5.si 51 _ (by omega)
          rw [← hρ6]
          have R7 : ∀ t, SR ρ (si ρ6 0 53 t) := fun t => R6.si 53 _ (by omega)
          have f48 : ∀ t, (si ρ6 0 53 t).1 0 48 = n1 W 13 := fun t => by rw [si_ne _ _ _ _ (by omega), hρ6, si_ne _ _ _ _ (by omega), hρ5, si_ne _ _ _ _ (by omega), si_ne _ _ _ _ (by omega), hρ4, si_eq]
          have hx5 : x5 = Int32.ofNat (ho W) := x32_of (by omega) hh
          have hsc : ∀ t, (¬ n1 W 13 &&& 2 = 0 → ∃ (ρ0 : RS) (v2 : Int32), v2.toInt = (ho W : Int) ∧ (∀ i, i < len → W i = Sk ρ0 s0 i) ∧ m_options (nI s0) v2 (si ρ0 0 53 536) = some (si ρ0 0 53 t)) → SC g0 s0 (ar σ g0) len N W σ (si ρ6 0 53 t) := fun t ht => by
            refine ⟨S0, rfl, hW.symm, hwf, hs, hlen, ?_, ?_, f48 t, ?_, ?_, ?_, ?_, ?_⟩
            · rw [si_ne _ _ _ _ (by omega), hρ6, si_ne _ _ _ _ (by omega), hρ5, si_ne _ _ _ _ (by omega), si_ne _ _ _ _ (by omega), hρ4, si_ne _ _ _ _ (by omega), hρ3, si_ne _ _ _ _ (by omega), hρ2, si_eq]
            · rw [si_ne _ _ _ _ (by omega), hρ6, si_ne _ _ _ _ (by omega), hρ5, si_ne _ _ _ _ (by omega), si_ne _ _ _ _ (by omega), hρ4, si_ne _ _ _ _ (by omega), hρ3, si_eq]
            · rw [si_ne _ _ _ _ (by omega), hρ6, si_ne _ _ _ _ (by omega), hρ5, si_ne _ _ _ _ (by omega), si_eq]
            · rw [si_ne _ _ _ _ (by omega), hρ6, si_ne _ _ _ _ (by omega), hρ5, si_eq, hx5]
            · rw [si_ne _ _ _ _ (by omega), hρ6, si_eq, hx5]
              exact x32_of (by omega) (by rw [x32_sub hLI (x32_nat (by omega)) (by omega) (by omega)]; omega)
            · rw [si_ne _ _ _ _ (by omega), hρ6, si_ne _ _ _ _ (by omega), hρ5, si_ne _ _ _ _ (by omega), si_ne _ _ _ _ (by omega), hρ4, si_ne _ _ _ _ (by omega), hρ3, si_ne _ _ _ _ (by omega), hρ2, si_ne _ _ _ _ (by omega), hρ1, si_eq]
            · rw [si_eq]; exact ht
          rw [f48]
          have hW' : cI σ (ar σ g0) = W := hW.symm
          by_cases hsy : n1 W 13 &&& 2 = 0
          · rw [if_pos hsy, gd_t z01_1]
            exact ⟨_, rfl, rfl, R7 536, hsc 536 (fun h => absurd hsy h), p1⟩
          · rw [if_neg hsy]
            have hc6 : ∀ i, i < len → cI σ (ar σ g0) i = Sk ρ6 s0 i := fun i hi => by
              rw [hW', hc i hi]; unfold Sk; rw [R6.2.1 2 (by omega)]
            obtain ⟨t, t1, t2⟩ := told S0 ρ6 hK hs hc6 (by omega) (by rw [hW']; omega) (v2 := x5) (by rw [hW']; exact hh)
            rw [t2, bc_e, gd_t z01_1]
            exact ⟨_, rfl, rfl, R7 t, hsc t (fun _ => ⟨ρ6, x5, hh, fun i hi => by rw [← hc6 i hi, hW'], t2⟩), p1⟩
        · rw [if_neg e2, if_neg e2, gd_t z01_0]
          exact Or.inl ⟨ρ1, rfl, rfl, R1⟩
      · rw [if_neg e1, if_neg e1, gd_t z01_0]
        exact Or.inl ⟨ρ1, rfl, rfl, R1⟩
  · rw [if_neg hsum, if_pos rfl, gd_t z01_0]
    exact Or.inl ⟨ρ1, no (fun h => hsum h.2.2.2), rfl, R1⟩
