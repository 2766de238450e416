/-! close, abort -/
theorem RLo.ct {c : Nat} {σ : CS} {ρ : RS} {own : Nat → Nat} {τ g0 g1 T K q e st u n m g U : Nat} {rn : Int32} {tr : Nat} (h : RLo c σ ρ own τ g0 g1 T K) (hc : c ≤ 512) (E : EE own q e σ ρ τ st u n m g U rn tr) (h0 : st ≠ 0) : CT σ ρ τ := by
  obtain ⟨_, _, _, _, ⟨l1, l2, l3, l4, l7, l8⟩, _, _⟩ := h
  refine ⟨l7, ?_, l1, l2, by omega⟩
  rcases E.1.1.2.2.2.2.2.2.2.2.2.2 with ⟨_, _, h⟩ | ⟨h, _⟩
  · exact absurd h h0
  · exact h
theorem G2.close {own : Nat → Nat} {q e : Nat} {σ : CS} {ρ : RS} {u n m g : Nat} (hoq : own (q + 1) = 10 + e) (G : G2 own q e σ ρ u n m g) : G2 own q e (wi σ (q + 1) 8 1) (si ρ 36 e 1) u n m g := by
  obtain ⟨a, b, c, d, f, ⟨g1, g2⟩, h, i, j, k, s, ab, j1, j2, j3, j4, j5, j6, j7, j8, j9⟩ := G
  have w : ∀ j, j ≠ 8 → cI (wi σ (q + 1) 8 1) (q + 1) j = cI σ (q + 1) j := fun j hj => wi_ne _ _ _ _ (Or.inr hj)
  have r : ∀ r, r ≠ 36 → (si ρ 36 e 1).1 r = ρ.1 r := fun r hr => funext fun j => si_ne _ _ _ _ (Or.inl hr)
  have hab : cI (wi σ (q + 1) 8 1) ab = cI σ ab := funext fun j => wi_ne _ _ _ _ (Or.inl fun e => by rw [e] at j5; omega)
  unfold G2 G2x
  rw [w 1 (by omega), w 2 (by omega), w 3 (by omega), w 4 (by omega), w 5 (by omega), w 6 (by omega), w 7 (by omega), w 9 (by omega), w 10 (by omega), w 11 (by omega), r 10 (by omega), r 11 (by omega), r 12 (by omega), r 13 (by omega), r 32 (by omega), r 14 (by omega), r 15 (by omega), r 16 (by omega), r 38 (by omega)]
  exact ⟨a, b, c, d, f, ⟨by rw [si_eq, wi_eq], Or.inr (wi_eq _ _ _ _)⟩, h, i, j, k, s, ab, j1, j2, j3, j4, j5, j6, j7, j8, by rw [hab]; exact j9⟩
theorem closes_sim {c : Nat} {σ : CS} {ρ : RS} {own : Nat → Nat} {τ g0 g1 T K q e st u n m g U : Nat} {rn : Int32} {tr : Nat} (h : RLo c σ ρ own τ g0 g1 T K) (hc : c ≤ 512) (hqe : q = 7 ∧ e = 0 ∨ q = 14 ∧ e = 1) (hg : g = if e = 0 then g0 else g1) (E : EE own q e σ ρ τ st u n m g U rn tr) {st' : Nat} (hst : st = 4 ∧ st' = 5 ∨ st = 7 ∧ st' = 9) {v1 w : Int32} (hv : v1.toInt = (e : Int)) (hcl : v1.toNatClampNeg = e) (hi : inb v1 2) (hw : w = Int32.ofNat st') :
    ∃ σ' ρ', b_E_closes_37 q w σ = some σ' ∧ b_close_70 v1 v1 w ρ = some (w, ρ') ∧ cI σ' q 8 = w ∧ ρ'.1 0 0 = ρ.1 0 0 ∧ RL c σ' ρ' := by
  obtain ⟨P, S, c1, c2, N⟩ := h.1
  have O := N.2.2.1
  have hoq := own_q hqe O
  have he : e < 2 := by rcases hqe with h | h <;> omega
  have X := E.2
  have hu : 1 ≤ u := X.2.2.2.1 (by omega)
  obtain ⟨E1, Q1, N1⟩ := state_sim hqe N E.1 (st' := st') (by omega) (by omega) ⟨E.1.2.2.2.2.1, E.1.2.2.2.2.2.1, E.1.2.2.2.2.2.2.1, E.1.2.2.2.2.2.2.2.1, fun _ => E.1.2.2.2.2.2.2.2.2 (by omega)⟩
  have Q2 := EP.wr N1 (fr_end (fr_wi (wi σ q 8 (Int32.ofNat st')) (q + 1) 8 1) hoq.2.1) he rfl (RF.si (si ρ 9 e (Int32.ofNat st')) 1 (by omega) (by omega) : RF e (si ρ 9 e (Int32.ofNat st')) (si (si ρ 9 e (Int32.ofNat st')) 36 e 1)) (fun r h1 h2 => funext fun j => si_ne _ _ _ _ (by omega)) (si_ne _ _ _ _ (by omega)) (si_ne _ _ _ _ (by omega))
  have E2 := E1.at1 hqe N1.2.2.1 (fr_wi (wi σ q 8 (Int32.ofNat st')) (q + 1) 8 1) (fun r h1 h2 h3 h4 => funext fun j => si_ne _ _ _ _ (Or.inl h4)) rfl (si_ne (si ρ 9 e (Int32.ofNat st')) 36 e 1 (by omega)) (G2.close hoq.2.1 E1.2.1)
  have T0 := h.ct hc E (by omega)
  have Q12 := Q1.tr Q2.1
  obtain ⟨σ', ρ', own', n', m', rn', y, x1, x2, E3, Q3, ot, _, _⟩ := output_sim hqe Q2.2 E2 (T0.ep Q12 (O.2.2 3 (by decide)) he) hv (fun _ => hu)
  have Q := Q12.tr Q3
  refine ⟨σ', ρ', ?_, ?_, by rw [E3.1.2.2.2.2.1, hw], Q.2.2.2.1.2.2.2 0 (by omega) (by omega), RL.lo (h.ep hqe ?_ Q)⟩
  · unfold b_E_closes_37
    rw [bd_e, gd_t z01_1, bd_e, hw, x1, bc2_e]
  · unfold b_close_70 b_close_93
    rw [gd_t hi, bd_e, gd_t hi, bd_e, nar_b1]
    have : m_output v1 (si (si ρ 9 v1.toNatClampNeg w) 36 v1.toNatClampNeg 1) = some (y, ρ') := by rw [hcl, hw]; exact x2
    rw [this, bc2_e, gd_t hi, bd_e, hcl, E3.1.2.2.2.1, E3.1.2.2.2.2.1, hw]
  · rw [← hg]
    refine ⟨st', u, n', m', U, rn', tr, E3, XQ4 (by omega) hu (by omega) fun h6 => ?_⟩
    rw [ot.2.1 3 (by omega), wi_ne _ _ _ _ (by omega), wi_ne _ _ _ _ (by omega)]
    exact X.2.2.2.2.2.1 (by omega)
theorem close_sim {c : Nat} {σ : CS} {ρ : RS} (h : RL c σ ρ) (hc : c < 512) (v1 : Int32) {code : Nat → Option Int32} (hc3 : code 3 = some 1) (hc1 : code 1 = some 2) : An c code σ ρ (m_P_close v1 σ) (m_close v1 ρ) := by
  have hr := h.room hc
  by_cases hs : v1 = 0 ∨ v1 = 1
  · obtain ⟨q, e, hqe, hv, hvn, hvi, hs1, he, hq⟩ := side_ok hs σ
    obtain ⟨own, τ, g0, g1, T, K, h⟩ := h
    have h0 := h.sz (SZ.si ρ 0)
    obtain ⟨st, u, n, m, U, rn, tr, E⟩ := h0.ee hqe
    obtain ⟨P, S, c1, c2, N⟩ := h0.1
    have c8 : cI σ q 8 = Int32.ofNat st := E.1.1.2.2.2.2.1
    have hst : st ≤ 10 := E.1.1.2.2.2.2.2.1
    have r9 : (si ρ 0 0 0).1 9 v1.toNatClampNeg = Int32.ofNat st := by rw [hvn, E.1.1.2.2.2.1, c8]
    have ts : (Int32.ofNat st).toInt = (st : Int) := x32_nat (by omega)
    have z4 : (4 : Int32).toInt = 4 := by decide
    have z7 : (7 : Int32).toInt = 7 := by decide
    have rf : ∀ x, x = m_close v1 ρ → x = (gd (inb v1 2) <| bd ((si ρ 0 0 0).1 9 v1.toNatClampNeg) fun x4 => if x4 = (1 : Int32) then (b_close_35 v1 (si ρ 0 0 0)) else (if x4 = (2 : Int32) then (b_close_35 v1 (si ρ 0 0 0)) else (if x4 = (4 : Int32) then (b_close_54 v1 x4 (si ρ 0 0 0)) else (if x4 = (7 : Int32) then (b_close_54 v1 x4 (si ρ 0 0 0)) else (bc2 (m_fail (2 : Int32) (si ρ 0 0 0)) fun x6 r5 => some (x6, r5)))))) := fun x hx => by
      rw [hx]; unfold m_close; rw [bd_e, none_0 _ hs, bc2_e, if_pos rfl]
    have rf := rf _ rfl
    rw [gd_t hvi, bd_e, r9] at rf
    have may : n_E_mayClose q σ = some (if st = 1 ∨ st = 2 ∨ st = 4 ∨ st = 7 then 1 else 0) := by
      unfold n_E_mayClose nb_E_mayClose_33 nb_E_mayClose_38
      rw [gd_t hq, bd_e, bd_e, bd_e, bd_e, c8, gd_t z01_1, gd_t z01_0]
      by_cases a1 : st = 1
      · rw [if_pos (x32_eq' ts z32_1 (by omega)), if_pos (by omega)]
      rw [if_neg (x32_ne ts z32_1 (by omega))]
      by_cases a2 : st = 2
      · rw [if_pos (x32_eq' ts z32_2 (by omega)), if_pos (by omega)]
      rw [if_neg (x32_ne ts z32_2 (by omega))]
      by_cases a4 : st = 4
      · rw [if_pos (x32_eq' ts z4 (by omega)), if_pos (by omega)]
      rw [if_neg (x32_ne ts z4 (by omega))]
      by_cases a7 : st = 7
      · rw [if_pos (x32_eq' ts z7 (by omega)), if_pos (by omega)]
      rw [if_neg (x32_ne ts z7 (by omega)), if_neg (by omega)]
    have cls : ∀ x, x = m_P_close v1 σ → x = (bc (n_E_mayClose q σ) fun x2 => if x2 = 0 then (gd (cX σ + 1 ≤ 601024 ∧ cU σ + 6 ≤ 7293034) <| some (.inl 1, wa σ 0 0 6)) else (bc (m_E_closes q σ) fun r3 => bd (cI r3 q 8) fun x4 => some (.inr x4, r3))) := fun x hx => by
      rw [hx]; unfold m_P_close; rw [hs1, bcn_r, gd_t hq]
    have cls := cls _ rfl
    rw [may, bc_e] at cls
    by_cases a12 : st = 1 ∨ st = 2
    · obtain ⟨σ', ρ', x1, x2, _, x3, x4, Q⟩ := shut_sim hqe N E.1 hv (show st ≠ 0 by omega) (Or.inl rfl : (0 : Int32) = 0 ∨ (0 : Int32) = 1 ∨ (0 : Int32) = 2)
      refine Or.inl ⟨cI σ' q 8, σ', ρ', ?_, ?_, ?_, (RL.lo (h0.ep hqe ⟨0, u, n, m, U, 0, tr, x3, x4⟩ Q)).up⟩
      · rw [cls, if_pos (show st = 1 ∨ st = 2 ∨ st = 4 ∨ st = 7 by omega), if_neg (by decide)]
        have : m_E_closes q σ = some σ' := by
          unfold m_E_closes b_E_closes_16
          rw [gd_t hq, bd_e, bd_e, c8, x1, bc_e]
          by_cases a1 : st = 1
          · rw [if_pos (x32_eq' ts z32_1 (by omega))]
          · rw [if_neg (x32_ne ts z32_1 (by omega)), if_pos (x32_eq' ts z32_2 (by omega))]
        rw [this, bc_e, bd_e]
      · have : b_close_35 v1 (si ρ 0 0 0) = some (cI σ' q 8, ρ') := by
          unfold b_close_35 b_close_93
          rw [x2 rfl, bc_e, gd_t hvi, bd_e, hvn, x3.1.2.2.2.1]
        rw [rf, this]
        by_cases a1 : st = 1
        · rw [if_pos (x32_eq' ts z32_1 (by omega))]
        · rw [if_neg (x32_ne ts z32_1 (by omega)), if_pos (x32_eq' ts z32_2 (by omega))]
      · rw [Q.2.2.2.1.2.2.2 0 (by omega) (by omega), si_eq]
    by_cases a47 : st = 4 ∨ st = 7
    · obtain ⟨σ', ρ', x1, x2, x3, x4, x5⟩ := closes_sim h0 (by omega) hqe rfl E (st' := if st = 4 then 5 else 9) (by by_cases h4 : st = 4; · { rw [if_pos h4]; omega }; · { rw [if_neg h4]; omega }) hv hvn hvi rfl
      refine Or.inl ⟨Int32.ofNat (if st = 4 then 5 else 9), σ', ρ', ?_, ?_, by rw [x4, si_eq], x5.up⟩
      · rw [cls, if_pos (show st = 1 ∨ st = 2 ∨ st = 4 ∨ st = 7 by omega), if_neg (by decide)]
        have : m_E_closes q σ = some σ' := by
          rw [← x1]
          unfold m_E_closes
          rw [gd_t hq, bd_e, bd_e, bd_e, c8, if_neg (x32_ne ts z32_1 (by omega)), if_neg (x32_ne ts z32_2 (by omega))]
          by_cases a4 : st = 4
          · rw [if_pos (x32_eq' ts z4 (by omega)), if_pos a4]; rfl
          · rw [if_neg (x32_ne ts z4 (by omega)), if_neg a4]; rfl
        rw [this, bc_e, bd_e, x3]
      · rw [rf, if_neg (x32_ne ts z32_1 (by omega)), if_neg (x32_ne ts z32_2 (by omega)), ← x2]
        unfold b_close_54
        by_cases a4 : st = 4
        · rw [if_pos (x32_eq' ts z4 (by omega)), if_pos (x32_eq' ts z4 (by omega)), if_pos a4]; rfl
        · rw [if_neg (x32_ne ts z4 (by omega)), if_pos (x32_eq' ts z7 (by omega)), if_neg (x32_ne ts z4 (by omega)), if_neg a4]; rfl
    · refine An.no (σ' := wa σ 0 0 6) (y := 0) (j := 1) (k := 2) ?_ ?_ hc1 (by decide)
      · rw [cls, if_neg (show ¬ (st = 1 ∨ st = 2 ∨ st = 4 ∨ st = 7) by omega), if_pos rfl, gd_t hr]
      · rw [rf, if_neg (x32_ne ts z32_1 (by omega)), if_neg (x32_ne ts z32_2 (by omega)), if_neg (x32_ne ts z4 (by omega)), if_neg (x32_ne ts z7 (by omega)), mfail, bc2_e]
  · refine An.no (σ' := wa σ 0 0 6) (y := 0) (j := 3) (k := 1) ?_ ?_ hc3 (by decide)
    · unfold m_P_close; rw [side_no hs hr]
    · unfold m_close; rw [bd_e, none_1 _ hs, bc2_e, if_neg (by decide), mfail, bc2_e]
theorem abort_sim {c : Nat} {σ : CS} {ρ : RS} (h : RL c σ ρ) (hc : c < 512) (v1 : Int32) {code : Nat → Option Int32} (hc3 : code 3 = some 1) : An c code σ ρ (m_P_abort v1 σ) (m_abort v1 ρ) := by
  have hr := h.room hc
  have hh := h
  by_cases hs : v1 = 0 ∨ v1 = 1
  · obtain ⟨q, e, hqe, hv, hvn, hvi, hs1, he, hq⟩ := side_ok hs σ
    obtain ⟨own, τ, g0, g1, T, K, h⟩ := h
    have h0 := h.sz (SZ.si ρ 0)
    obtain ⟨st, u, n, m, U, rn, tr, E⟩ := h0.ee hqe
    obtain ⟨P, S, c1, c2, N⟩ := h0.1
    have c8 : cI σ q 8 = Int32.ofNat st := E.1.1.2.2.2.2.1
    have hst : st ≤ 10 := E.1.1.2.2.2.2.2.1
    have r9 : (si ρ 0 0 0).1 9 v1.toNatClampNeg = Int32.ofNat st := by rw [hvn, E.1.1.2.2.2.1, c8]
    have ts : (Int32.ofNat st).toInt = (st : Int) := x32_nat (by omega)
    have z3 : (3 : Int32).toInt = 3 := by decide
    have z8 : (8 : Int32).toInt = 8 := by decide
    have rf : ∀ x, x = m_abort v1 ρ → x = (gd (inb v1 2) <| bd ((si ρ 0 0 0).1 9 v1.toNatClampNeg) fun x4 => if x4 < (3 : Int32) then (b_abort_50 v1 x4 (si ρ 0 0 0)) else (if (8 : Int32) < x4 then (b_abort_50 v1 x4 (si ρ 0 0 0)) else (gd (inb v1 2) <| bd ((si ρ 0 0 0).1 12 v1.toNatClampNeg) fun x5 => bc (m_send v1 (4 : Int32) x5 (0 : Int32) (0 : Int32) (si ρ 0 0 0)) fun r6 => b_abort_50 v1 x4 r6))) := fun x hx => by
      rw [hx]; unfold m_abort; rw [bd_e, none_0 _ hs, bc2_e, if_pos rfl]
    have rf := rf _ rfl
    rw [gd_t hvi, bd_e, r9] at rf
    have cls : ∀ x, x = m_P_abort v1 σ → x = (bd (cI σ q 8) fun x2 => bc (m_E_breaksOff q σ) fun r3 => some (.inr x2, r3)) := fun x hx => by
      rw [hx]; unfold m_P_abort; rw [hs1, bcn_r, gd_t hq]
    have cls := cls _ rfl
    unfold m_E_breaksOff at cls
    rw [gd_t hq, bd_e, bd_e, bd_e, bd_e, c8] at cls
    by_cases a0 : st = 0
    · refine An.same (x := Int32.ofNat st) hh ?_ ?_
      · rw [cls, if_pos (x32_eq' ts z32_0 (by omega)), bc_e]
      · rw [rf, if_pos (x32_lt' ts z3 (by omega))]
        unfold b_abort_50 b_abort_60
        rw [if_pos (x32_eq' ts z32_0 (by omega))]
    rw [if_neg (x32_ne ts z32_0 (by omega))] at cls
    have h1or : (1 : Int32) = 0 ∨ (1 : Int32) = 1 ∨ (1 : Int32) = 2 := Or.inr (Or.inl rfl)
    by_cases a1 : st < 3 ∨ 8 < st
    · obtain ⟨σ', ρ', x1, _, x2, x3, x4, Q⟩ := shut_sim hqe N E.1 hv a0 h1or
      refine Or.inl ⟨Int32.ofNat st, σ', ρ', ?_, ?_, ?_, (RL.lo (h0.ep hqe ⟨0, u, n, m, U, 0, tr, x3, x4⟩ Q)).up⟩
      · have b38 : b_E_breaksOff_38 q σ = some σ' := by unfold b_E_breaksOff_38; rw [x1, bc_e]
        rw [cls, b38]
        by_cases a3 : st < 3
        · rw [if_pos (x32_lt' ts z3 (by omega)), bc_e]
        · rw [if_neg (x32_nlt ts z3 (by omega)), if_pos (x32_lt' z8 ts (by omega)), bc_e]
      · have b50 : b_abort_50 v1 (Int32.ofNat st) (si ρ 0 0 0) = some (Int32.ofNat st, ρ') := by
          unfold b_abort_50 b_abort_60; rw [if_neg (x32_ne ts z32_0 (by omega)), x2 (by decide), bc_e]
        rw [rf, b50]
        by_cases a3 : st < 3
        · rw [if_pos (x32_lt' ts z3 (by omega))]
        · rw [if_neg (x32_nlt ts z3 (by omega)), if_pos (x32_lt' z8 ts (by omega))]
      · rw [Q.2.2.2.1.2.2.2 0 (by omega) (by omega), si_eq]
    · have T0 := h0.ct (by omega) E a0
      obtain ⟨σ1, ρ1, own1, y1, y2, E1, Q1, _⟩ := ack_sim hqe N E.1 T0.1 T0.2.1 (f := 4) (num := cI σ (q + 1) 5) (v4 := 0) hv (Or.inr rfl)
      obtain ⟨P1, S1, d1, d2, N1⟩ := Q1.1
      obtain ⟨σ', ρ', x1, _, x2, x3, x4, Q2⟩ := shut_sim hqe N1 E1 hv a0 h1or
      have Q := Q1.tr Q2
      refine Or.inl ⟨Int32.ofNat st, σ', ρ', ?_, ?_, ?_, (RL.lo (h0.ep hqe ⟨0, u, n, m, U, 0, tr, x3, x4⟩ Q)).up⟩
      · have b38 : b_E_breaksOff_38 q σ1 = some σ' := by unfold b_E_breaksOff_38; rw [x1, bc_e]
        rw [cls, if_neg (x32_nlt ts z3 (by omega)), if_neg (x32_nlt z8 ts (by omega)), bd_e, y1, bc_e, b38, bc_e]
      · have b50 : b_abort_50 v1 (Int32.ofNat st) ρ1 = some (Int32.ofNat st, ρ') := by
          unfold b_abort_50 b_abort_60; rw [if_neg (x32_ne ts z32_0 (by omega)), x2 (by decide), bc_e]
        have e12 : (si ρ 0 0 0).1 12 v1.toNatClampNeg = cI σ (q + 1) 5 := by
          rw [hvn, E.1.2.1.2.2.1.1, E.1.2.1.2.2.1.2]
        rw [rf, if_neg (x32_nlt ts z3 (by omega)), if_neg (x32_nlt z8 ts (by omega)), gd_t hvi, bd_e, e12, y2, bc_e, b50]
      · rw [Q.2.2.2.1.2.2.2 0 (by omega) (by omega), si_eq]
  · refine An.no (σ' := wa σ 0 0 6) (y := 0) (j := 3) (k := 1) ?_ ?_ hc3 (by decide)
    · unfold m_P_abort; rw [side_no hs hr]
    · unfold m_abort; rw [bd_e, none_1 _ hs, bc2_e, if_neg (by decide), mfail, bc2_e]
