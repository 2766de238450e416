theorem write_sim {c : Nat} {σ : CS} {ρ : RS} (h : RL c σ ρ) (hc : c < 512) (v1 : Int32) {code : Nat → Option Int32} (hc3 : code 3 = some 1) (hc1 : code 1 = some 2) : An c code σ ρ (m_P_write v1 σ) (m_write v1 ρ) := by
  have hr := h.room hc
  by_cases hs : v1 = 0 ∨ v1 = 1
  · obtain ⟨q, e, hqe, hv, hvn, hvi, hs1, he, hq⟩ := side_ok hs σ
    obtain ⟨own, τ, g0, g1, T, K, h⟩ := h
    have h0 := h.sz (SZ.si ρ 0)
    have hz : (si ρ 0 0 0).1 0 0 = 0 := si_eq _ _ _ _
    have hz2 : m_fail 2 (si ρ 0 0 0) = some (0, si ρ 0 0 2) := mfail ρ 2
    have pre : ∀ x, x = m_write v1 ρ → x = (gd (inb v1 2) <| bd ((si ρ 0 0 0).1 9 v1.toNatClampNeg) fun x4 => if x4 = (4 : Int32) then (b_write_45 v1 (si ρ 0 0 0)) else (gd (inb v1 2) <| bd ((si ρ 0 0 0).1 9 v1.toNatClampNeg) fun x5 => if x5 = (7 : Int32) then (b_write_45 v1 (si ρ 0 0 0)) else (bc2 (m_fail (2 : Int32) (si ρ 0 0 0)) fun x7 r6 => some (x7, r6)))) := fun x hx => by
      rw [hx]; unfold m_write; rw [bd_e, none_0 _ hs, bc2_e, if_pos rfl]
    have pre := pre _ rfl
    obtain ⟨ρ0, hρ0⟩ : ∃ ρ0, ρ0 = si ρ 0 0 0 := ⟨_, rfl⟩
    rw [← hρ0] at h0 pre hz hz2
    obtain ⟨st, u, n, m, U, rn, tr, E⟩ := h0.ee hqe
    have c8 : cI σ q 8 = Int32.ofNat st := E.1.1.2.2.2.2.1
    have hst : st ≤ 10 := E.1.1.2.2.2.2.2.1
    have r9 : ρ0.1 9 v1.toNatClampNeg = Int32.ofNat st := by rw [hvn, E.1.1.2.2.2.1, c8]
    have ts : (Int32.ofNat st).toInt = (st : Int) := x32_nat (by omega)
    have z4 : (4 : Int32).toInt = 4 := by decide
    have z7 : (7 : Int32).toInt = 7 := by decide
    rw [gd_t hvi, bd_e, gd_t hvi, bd_e, r9] at pre
    have cls : ∀ x, x = m_P_write v1 σ → x = if Int32.ofNat st = (4 : Int32) then (b_P_write_33 q σ) else (if Int32.ofNat st = (7 : Int32) then (b_P_write_33 q σ) else (gd (cX σ + 1 ≤ 601024 ∧ cU σ + 6 ≤ 7293034) <| some (.inl 1, wa σ 0 0 6))) := fun x hx => by
      rw [hx]; unfold m_P_write; rw [hs1, bcn_r, gd_t hq, bd_e, bd_e, c8]
    have cls := cls _ rfl
    by_cases a47 : st = 4 ∨ st = 7
    · have cls2 : m_P_write v1 σ = b_P_write_33 q σ := by
        rw [cls]
        by_cases a4 : st = 4
        · rw [if_pos (x32_eq' ts z4 (by omega))]
        · rw [if_neg (x32_ne ts z4 (by omega)), if_pos (x32_eq' ts z7 (by omega))]
      have pre2 : m_write v1 ρ = b_write_45 v1 ρ0 := by
        rw [pre]
        by_cases a4 : st = 4
        · rw [if_pos (x32_eq' ts z4 (by omega))]
        · rw [if_neg (x32_ne ts z4 (by omega)), if_pos (x32_eq' ts z7 (by omega))]
      obtain ⟨g, hg⟩ : ∃ g, g = if e = 0 then g0 else g1 := ⟨_, rfl⟩
      rw [← hg] at E
      obtain ⟨at_, σ1, own1, K1, σ2, x1, x2, x3, x4, E1⟩ := given_sim h0 (by omega) hqe hg E a47
      have hu : 1 ≤ u := E.2.2.2.2.1 (by omega)
      obtain ⟨P1, S1, d1, d2, N1⟩ := x4.1
      obtain ⟨σ', ρ', own', n', m', rn', y, y1, y2, E2, Q, ot, _, _⟩ := output_sim hqe N1 E1.1 (x4.ct (by omega) E1 (by omega)) hv (fun _ => hu)
      have t1 := h0.2.2.2.1.1
      have t2 := h0.2.2.2.1.2.1
      have hTg : T + g ≤ 10240 := by
        have := h0.2.2.2.2.2.2
        rcases hqe with ⟨_, rfl⟩ | ⟨_, rfl⟩
        · rw [if_pos rfl] at hg; omega
        · rw [if_neg (by decide)] at hg; omega
      have l8 := h0.2.2.2.2.1.2.2.2.2.2
      have hgl := gift_loop (ρ := ρ0) he t2 E.1.2.1.2.2.2.2.1.1 (by omega) l8 hv T 0 fuel 0 (by omega) (by unfold fuel; omega) z32_0
      rw [cpy0, sG_id, y2, bc2_e] at hgl
      have hfin : RLo c σ' ρ' own' τ (if e = 0 then g + T else g0) (if e = 0 then g1 else g + T) 0 K1 := x4.ep hqe (by
        have e1 : (if e = 0 then (if e = 0 then g + T else g0) else (if e = 0 then g1 else g + T)) = g + T := by
          by_cases h : e = 0
          · rw [if_pos h, if_pos h]
          · rw [if_neg h, if_neg h]
        rw [e1]
        exact ⟨st, u, n', m', U, rn', tr, E2, E1.2.up4 (by omega) (ot.2.2.2.1 8 (by omega) (by omega)) (ot.2.1 3 (by omega)) (ot.2.2.2.2.2 40 (by omega) (by omega) (by omega) (by omega) (by omega) (by omega) (by omega))⟩) Q
      refine Or.inl ⟨Int32.ofNat T, σ', ρ', ?_, ?_, ?_, (RL.lo hfin).up⟩
      · rw [cls2]
        unfold b_P_write_33
        obtain ⟨_, _, _, _, _, _, _, _, _, ⟨_, _, _, d4⟩, s, ab, k1, k2, _⟩ := E.1.2.1
        rw [bd_e, k2, if_pos (x32_le' (x32_nat (by omega)) (show (131072 : Int32).toInt = 131072 by decide) (by omega)), bd_e, t1, x1, bc_e, x2, bc_e, bd_e, ← x3, y1, bc2_e]
      · rw [pre2]; unfold b_write_45; exact hgl
      · rw [Q.2.2.2.1.2.2.2 0 (by omega) (by omega), si_ne _ _ _ _ (by omega), si_ne _ _ _ _ (by omega), sG_o _ _ (by omega), hz]
    · refine An.no (σ' := wa σ 0 0 6) (y := 0) (j := 1) (k := 2) ?_ ?_ hc1 (by decide)
      · rw [cls, if_neg (x32_ne ts z4 (by omega)), if_neg (x32_ne ts z7 (by omega)), gd_t hr]
      · rw [pre, if_neg (x32_ne ts z4 (by omega)), if_neg (x32_ne ts z7 (by omega)), hz2, bc2_e]
  · refine An.no (σ' := wa σ 0 0 6) (y := 0) (j := 3) (k := 1) ?_ ?_ hc3 (by decide)
    · unfold m_P_write; rw [side_no hs hr]
    · unfold m_write; rw [bd_e, none_1 _ hs, bc2_e, if_neg (by decide), mfail, bc2_e]
