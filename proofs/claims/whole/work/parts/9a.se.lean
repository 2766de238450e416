/-! seen, set, about -/
theorem RL.lo {c : Nat} {σ : CS} {ρ : RS} {own : Nat → Nat} {τ g0 g1 T K : Nat} (h : RLo c σ ρ own τ g0 g1 T K) : RL c σ ρ := ⟨own, τ, g0, g1, T, K, h⟩
theorem sz_noway {ρ : RS} {v1 x : Int32} (h : m_noWay v1 ρ = some (x, ρ)) : m_noWay v1 (si ρ 0 0 0) = some (x, si ρ 0 0 0) := by
  unfold m_noWay b_noWay_12 b_noWay_17 at h ⊢
  rw [gd_t z01_1, gd_t z01_0, bd_e] at h ⊢
  rw [si_ne _ _ _ _ (by omega)]
  by_cases h0 : v1 < 0
  · rw [if_pos h0] at h ⊢
    injection h with h; injection h with h1 h2; rw [h1]
  · rw [if_neg h0] at h ⊢
    by_cases h1 : v1 < ρ.1 0 10
    · rw [if_pos h1] at h ⊢
      injection h with h; injection h with h1 h2; rw [h1]
    · rw [if_neg h1] at h ⊢
      injection h with h; injection h with h1 h2; rw [h1]
theorem seen_sim {c : Nat} {σ : CS} {ρ : RS} (h : RL c σ ρ) (hc : c < 512) (v1 v2 : Int32) {code : Nat → Option Int32} (hc3 : code 3 = some 1) (hc5 : code 5 = some 2) : An c code σ ρ (m_P_seen v1 v2 σ) (m_seen v1 v2 ρ) := by
  have hr := h.room hc
  have hh := h
  obtain ⟨own, τ, g0, g1, T, K, h⟩ := h
  obtain ⟨⟨P, S, c1, c2, N⟩, _⟩ := h
  rcases seg_ok N.1 hr v1 with ⟨k, hk, hv, hvn, hvi, hs1, hs2, h5, ⟨len, M, sg, s3, s4, s6, s7⟩, ht, htn, hti, _⟩ | ⟨hs1, hs2⟩
  · have hl : len ≤ 1484 := by have := sg.2.2.2.2.2.2; have := sg.2.2.2.2.2.1; omega
    have hL : (Int32.ofNat len).toInt = (len : Int) := x32_nat (by omega)
    have hcq := N.2.1 P[k] (List.mem_append_left _ (List.getElem_mem _))
    have pre : ∀ z, z = m_seen v1 v2 ρ → z = (gd (inb v1 512) <| bd ((si ρ 0 0 0).1 5 v1.toNatClampNeg) fun x4 => if v2 < (-2 : Int32) then (b_seen_42 (si ρ 0 0 0)) else (gd (inb x4 513) <| bd ((si ρ 0 0 0).1 3 x4.toNatClampNeg) fun x5 => if v2 < x5 then (if v2 = (-2 : Int32) then (gd (inb x4 513) <| bd ((si ρ 0 0 0).1 4 x4.toNatClampNeg) fun x9 => b_seen_83 x9 (si ρ 0 0 0)) else (if v2 = (-1 : Int32) then (gd (inb x4 513) <| bd ((si ρ 0 0 0).1 3 x4.toNatClampNeg) fun x8 => b_seen_83 x8 (si ρ 0 0 0)) else (bc2 (m_here x4 v2 (si ρ 0 0 0)) fun x7 r6 => b_seen_83 x7 r6))) else (b_seen_42 (si ρ 0 0 0)))) := fun z hz => by
      rw [hz]; unfold m_seen; rw [bd_e, sz_noway hs2, bc2_e, if_pos rfl]
    have z2 : (-2 : Int32).toInt = -2 := by decide
    have z1 : (-1 : Int32).toInt = -1 := by decide
    have e5 : (si ρ 0 0 0).1 5 v1.toNatClampNeg = nI (P[k]).2 := by rw [si_ne _ _ _ _ (by omega), hvn, h5]
    have e3 : (si ρ 0 0 0).1 3 (nI (P[k]).2).toNatClampNeg = Int32.ofNat len := by rw [si_ne _ _ _ _ (by omega), htn, s3]
    have e4 : (si ρ 0 0 0).1 4 (nI (P[k]).2).toNatClampNeg = cI σ (P[k]).1 2 := by rw [si_ne _ _ _ _ (by omega), htn, s4]
    have pre := pre _ rfl
    rw [gd_t hvi, bd_e, e5, gd_t hti, bd_e, e3, gd_t hti, bd_e, bd_e, e4] at pre
    by_cases a1 : v2 = (-1 : Int32)
    · refine An.same (x := Int32.ofNat len) hh ?_ ?_
      · unfold m_P_seen; rw [hs1, bcn_r, if_pos a1, gd_t sg.1, bd_e, sg.2.2.2.1]
      · rw [pre, a1, if_neg (by decide), if_pos (x32_lt' z1 hL (by omega)), if_neg (by decide), if_pos rfl, gd_t hti]; rfl
    by_cases a2 : v2 = (-2 : Int32)
    · refine An.same (x := cI σ (P[k]).1 2) hh ?_ ?_
      · unfold m_P_seen; rw [hs1, bcn_r, if_neg a1, if_pos a2, gd_t sg.1, bd_e]
      · rw [pre, a2, if_neg (by decide), if_pos (x32_lt' z2 hL (by omega)), if_pos rfl]; rfl
    have nn1 : v2.toInt ≠ -1 := fun q => a1 (x32_eq' q z1 rfl)
    have nn2 : v2.toInt ≠ -2 := fun q => a2 (x32_eq' q z2 rfl)
    by_cases hin : 0 ≤ v2.toInt ∧ v2.toInt < len
    · obtain ⟨j, hj⟩ := Int.eq_ofNat_of_zero_le hin.1
      refine An.same (x := n1 (cI σ (ar σ (P[k]).1)) j) hh ?_ ?_
      · unfold m_P_seen
        rw [hs1, bcn_r, if_neg a1, if_neg a2, if_neg (x32_nlt hj z32_0 (by omega)), gd_t sg.1, bd_e, sg.2.2.2.1, if_pos (x32_lt' hj hL (by omega)), gd_t sg.1, gnum1 sg hj (by omega), bc2_e]
      · rw [pre, if_neg (x32_nlt hj z2 (by omega)), if_pos (x32_lt' hj hL (by omega)), if_neg a2, if_neg a1, rhere _ ht hj (by assumption) (by omega), bc2_e]
        unfold b_seen_83
        have e1 : Sk (si ρ 0 0 0) (P[k]).2 j = cI σ (ar σ (P[k]).1) j := by
          rw [hcq j (by rw [sg.2.2.2.1, x32_n hL]; omega)]
          show (si ρ 0 0 0).1 2 (1484 * (P[k]).2 + j) = ρ.1 2 (1484 * (P[k]).2 + j)
          rw [si_ne _ _ _ _ (by omega)]
        unfold n1
        rw [e1]
    · refine An.no (σ' := wa σ 0 0 6) (y := 0) (j := 5) (k := 2) ?_ ?_ hc5 (by decide)
      · unfold m_P_seen b_P_seen_39
        rw [hs1, bcn_r, if_neg a1, if_neg a2, gd_t hr]
        by_cases h0 : v2 < 0
        · rw [if_pos h0]
        · have : ¬ v2.toInt < 0 := fun q => h0 (x32_lt' rfl z32_0 q)
          rw [if_neg h0, gd_t sg.1, bd_e, sg.2.2.2.1, if_neg (x32_nlt rfl hL (by omega))]
      · rw [pre]
        unfold b_seen_42
        rw [mfail, bc2_e]
        by_cases h0 : v2 < (-2 : Int32)
        · rw [if_pos h0]
        · have : ¬ v2.toInt < -2 := fun q => h0 (x32_lt' rfl z2 q)
          rw [if_neg h0, if_neg (x32_nlt rfl hL (by omega))]
  · refine An.no (σ' := wa σ 0 0 6) (y := 0) (j := 3) (k := 1) ?_ ?_ hc3 (by decide)
    · unfold m_P_seen; rw [hs1, bcn_l]
    · unfold m_seen; rw [bd_e, sz_noway hs2, bc2_e, if_neg (by decide), mfail, bc2_e]
/-- an end has written its own fields -/
theorem RLo.ep {c : Nat} {σ σ' : CS} {ρ ρ' : RS} {own own' : Nat → Nat} {τ g0 g1 T K q e : Nat} (h : RLo c σ ρ own τ g0 g1 T K) (hqe : q = 7 ∧ e = 0 ∨ q = 14 ∧ e = 1) (E' : EX own' q e σ' ρ' τ (if e = 0 then g0 else g1)) (Q : EP K [] own own' e σ σ' ρ ρ') : RLo c σ' ρ' own' τ g0 g1 T K := by
  obtain ⟨st, u, n, m, U, rn, tr, E⟩ := h.ee hqe
  obtain ⟨P, S, c1, c2, N⟩ := h.1
  exact h.end_ hqe E' Q.1 (by rw [show rl σ' q = rl σ q from Q.rl E.1.2.2.1 hqe N.2.2.1]) (Q.ER (by rcases hqe with h | h <;> omega))
