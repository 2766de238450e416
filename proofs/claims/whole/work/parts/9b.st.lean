/-! set -/
theorem G3.room {own : Nat → Nat} {q e : Nat} {σ : CS} {ρ : RS} {U : Nat} (hoq : own (q + 3) = 10 + e) (G : G3 own q e σ ρ U) {v : Int32} {k : Nat} (hv : v.toInt = (k : Int)) (hk : k ≤ 65535) : G3 own q e (wi σ (q + 3) 0 v) (si ρ 7 e v) U := by
  obtain ⟨⟨a1, R, a2, a3⟩, b1, c1, d1, e1, f1, g1, h1, i1, ra, j1, j2, j3, j4⟩ := G
  have w : ∀ j, j ≠ 0 → cI (wi σ (q + 3) 0 v) (q + 3) j = cI σ (q + 3) j := fun j hj => wi_ne _ _ _ _ (Or.inr hj)
  have r : ∀ r, r ≠ 7 → (si ρ 7 e v).1 r = ρ.1 r := fun r hr => funext fun j => si_ne _ _ _ _ (Or.inl hr)
  have hra : cI (wi σ (q + 3) 0 v) ra = cI σ ra := funext fun j => wi_ne _ _ _ _ (Or.inl fun e => by rw [e] at j3; omega)
  unfold G3 G3x
  rw [w 1 (by omega), w 2 (by omega), w 3 (by omega), w 4 (by omega), w 5 (by omega), w 7 (by omega), r 18 (by omega), r 19 (by omega), r 37 (by omega), r 31 (by omega), r 40 (by omega), r 39 (by omega)]
  refine ⟨⟨by rw [si_eq, wi_eq], k, hk, by rw [wi_eq]; exact x32_of (by omega) hv⟩, b1, c1, d1, e1, f1, g1, h1, i1, ra, j1, j2, j3, ?_⟩
  rw [hra]
  exact j4
theorem set_room {c : Nat} {σ : CS} {ρ : RS} {own : Nat → Nat} {τ g0 g1 T K q e : Nat} (h : RLo c σ ρ own τ g0 g1 T K) (hqe : q = 7 ∧ e = 0 ∨ q = 14 ∧ e = 1) {v : Int32} {k : Nat} (hv : v.toInt = (k : Int)) (hk : k ≤ 65535) : RLo c (wi σ (q + 3) 0 v) (si ρ 7 e v) own τ g0 g1 T K := by
  obtain ⟨st, u, n, m, U, rn, tr, E⟩ := h.ee hqe
  obtain ⟨P, S, c1, c2, N⟩ := h.1
  have O := N.2.2.1
  have hoq := own_q hqe O
  have he : e < 2 := by rcases hqe with h | h <;> omega
  have F := fr_end (fr_wi σ (q + 3) 0 v) hoq.2.2.1
  have Q := (EP.wr N F he rfl (RF.si ρ v (by omega) (by omega) : RF e ρ (si ρ 7 e v)) (fun r h1 h2 => funext fun j => si_ne _ _ _ _ (by omega)) (si_ne _ _ _ _ (by omega)) (si_ne _ _ _ _ (by omega))).1
  refine h.ep hqe ⟨st, u, n, m, U, rn, tr, E.1.at3 hqe O ((fr_wi σ (q + 3) 0 v).sub fun x hx => hx.1) (fun r h1 h2 _ _ _ _ _ _ => funext fun j => si_ne _ _ _ _ (Or.inl h2)) rfl (si_ne _ _ _ _ (by omega)) (E.1.2.2.1.room hoq.2.2.1 hv hk), E.2.cg (wi_ne _ _ _ _ (by omega)) (wi_ne _ _ _ _ (by omega)) (funext fun j => si_ne _ _ _ _ (by omega))⟩ Q
theorem set_mss {c : Nat} {σ : CS} {ρ : RS} {own : Nat → Nat} {τ g0 g1 T K q e : Nat} (h : RLo c σ ρ own τ g0 g1 T K) (hqe : q = 7 ∧ e = 0 ∨ q = 14 ∧ e = 1) {v : Int32} {k : Nat} (hv : v.toInt = (k : Int)) (hk : 64 ≤ k ∧ k ≤ 1460) : RLo c (wi σ q 7 v) (si ρ 8 e v) own τ g0 g1 T K := by
  obtain ⟨st, u, n, m, U, rn, tr, E⟩ := h.ee hqe
  obtain ⟨P, S, c1, c2, N⟩ := h.1
  have O := N.2.2.1
  have hoq := own_q hqe O
  have he : e < 2 := by rcases hqe with h | h <;> omega
  have F := fr_end (fr_wi σ q 7 v) hoq.1
  have Q := (EP.wr N F he rfl (RF.si ρ v (by omega) (by omega) : RF e ρ (si ρ 8 e v)) (fun r h1 h2 => funext fun j => si_ne _ _ _ _ (by omega)) (si_ne _ _ _ _ (by omega)) (si_ne _ _ _ _ (by omega))).1
  have w : ∀ j, j ≠ 7 → cI (wi σ q 7 v) q j = cI σ q j := fun j hj => wi_ne _ _ _ _ (Or.inr hj)
  have r : ∀ r j, r ≠ 8 → (si ρ 8 e v).1 r j = ρ.1 r j := fun r j hr => si_ne _ _ _ _ (Or.inl hr)
  have g1' : G1 q e (wi σ q 7 v) (si ρ 8 e v) st := by
    obtain ⟨a1, a2, a3, a4⟩ := E.1.1
    unfold G1
    rw [w 0 (by omega), w 8 (by omega), w 9 (by omega), w 10 (by omega), w 11 (by omega), w 12 (by omega), w 13 (by omega), r 9 e (by omega), r 30 e (by omega), r 28 e (by omega), r 29 e (by omega), r 0 4 (by omega)]
    exact ⟨a1, by rw [si_eq, wi_eq], ⟨k, hk.1, hk.2, by rw [wi_eq]; exact x32_of (by omega) hv⟩, a4⟩
  refine h.ep hqe ⟨st, u, n, m, U, rn, tr, E.1.at0 hqe O (fr_wi σ q 7 v) (fun r h1 h2 _ _ => funext fun j => si_ne _ _ _ _ (Or.inl h2)) rfl g1' (fun h => h), E.2.cg (wi_ne _ _ _ _ (by omega)) (wi_ne _ _ _ _ (by omega)) (funext fun j => si_ne _ _ _ _ (by omega))⟩ Q
theorem set_sim {c : Nat} {σ : CS} {ρ : RS} (h : RL c σ ρ) (hc : c < 512) (v1 v2 v3 : Int32) {code : Nat → Option Int32} (hc3 : code 3 = some 1) (hc2 : code 2 = some 2) : An c code σ ρ (m_P_set v1 v2 v3 σ) (m_set v1 v2 v3 ρ) := by
  have hr := h.room hc
  by_cases hs : v1 = 0 ∨ v1 = 1
  · obtain ⟨q, e, hqe, hv, hvn, hvi, hs1, he, hq⟩ := side_ok hs σ
    obtain ⟨own, τ, g0, g1, T, K, h⟩ := h
    have h0 := h.sz (SZ.si ρ 0)
    obtain ⟨st, u, n, m, U, rn, tr, E⟩ := h.ee hqe
    have z65535 : (65535 : Int32).toInt = 65535 := by decide
    have z64 : (64 : Int32).toInt = 64 := by decide
    have z1460 : (1460 : Int32).toInt = 1460 := by decide
    have cls : ∀ x, x = m_P_set v1 v2 v3 σ → x = if v2 = 0 then (if v3 < 0 then (b_P_set_43 v2 v3 q σ) else (if (65535 : Int32) < v3 then (b_P_set_43 v2 v3 q σ) else (bd (cI σ (q + 3) 0) fun x2 => bd (wi σ (q + 3) 0 v3) fun r3 => some (.inr x2, r3)))) else (b_P_set_43 v2 v3 q σ) := fun x hx => by
      rw [hx]; unfold m_P_set; rw [hs1, bcn_r, gd_t hq]
    have cls := cls _ rfl
    have rf : ∀ x, x = m_set v1 v2 v3 ρ → x = if v2 < 0 then (b_set_57 (si ρ 0 0 0)) else (if (1 : Int32) < v2 then (b_set_57 (si ρ 0 0 0)) else (if v2 = 0 then (b_set_38 v1 v2 v3 v3 (0 : Int32) (si ρ 0 0 0)) else (b_set_38 v1 v2 v3 v3 (64 : Int32) (si ρ 0 0 0)))) := fun x hx => by
      rw [hx]; unfold m_set; rw [bd_e, none_0 _ hs, bc2_e, if_pos rfl]
    have rf := rf _ rfl
    have f2 : b_set_57 (si ρ 0 0 0) = some (0, si ρ 0 0 2) := by unfold b_set_57; rw [mfail, bc2_e]
    have c77 : b_P_set_77 σ = some (.inl 2, wa σ 0 0 6) := by unfold b_P_set_77; rw [gd_t hr]
    by_cases a0 : v2 = 0
    · subst a0
      rw [if_pos rfl] at cls
      rw [if_neg (by decide), if_neg (by decide), if_pos rfl] at rf
      unfold b_set_38 at rf
      rw [if_pos rfl] at rf
      unfold b_set_54 at rf
      rw [if_pos rfl] at rf
      have c43 : b_P_set_43 0 v3 q σ = some (.inl 2, wa σ 0 0 6) := by unfold b_P_set_43; rw [if_neg (by decide), c77]
      rw [c43] at cls
      rw [f2] at rf
      by_cases hin : 0 ≤ v3.toInt ∧ v3.toInt ≤ 65535
      · obtain ⟨j, hj⟩ := Int.eq_ofNat_of_zero_le hin.1
        refine Or.inl ⟨cI σ (q + 3) 0, wi σ (q + 3) 0 v3, si (si ρ 0 0 0) 7 e v3, ?_, ?_, by rw [si_ne _ _ _ _ (by omega), si_eq], (RL.lo (set_room h0 hqe hj (by omega))).up⟩
        · rw [cls, if_neg (x32_nlt hj z32_0 (by omega)), if_neg (x32_nlt z65535 hj (by omega)), bd_e, bd_e]
        · rw [rf, if_neg (x32_nlt hj z32_0 (by omega)), if_pos (x32_le' hj z65535 (by omega)), gd_t hvi, bd_e]
          unfold b_set_82
          rw [if_pos rfl, gd_t hvi, bd_e, hvn]
          unfold b_set_105
          rw [si_ne _ _ _ _ (by omega), E.1.2.2.1.1.1]
      · refine An.no (σ' := wa σ 0 0 6) (y := 0) (j := 2) (k := 2) ?_ ?_ hc2 (by decide)
        · rw [cls]
          by_cases h0 : v3 < 0
          · rw [if_pos h0]
          · have : ¬ v3.toInt < 0 := fun q => h0 (x32_lt' rfl z32_0 q)
            rw [if_neg h0, if_pos (x32_lt' z65535 rfl (by omega))]
        · rw [rf]
          by_cases h0 : v3 < 0
          · rw [if_pos h0]
          · have : ¬ v3.toInt < 0 := fun q => h0 (x32_lt' rfl z32_0 q)
            rw [if_neg h0, if_neg (x32_nle rfl z65535 (by omega))]
    rw [if_neg a0] at cls
    unfold b_P_set_43 at cls
    by_cases a1 : v2 = 1
    · subst a1
      rw [if_pos rfl, c77] at cls
      rw [if_neg (by decide), if_neg (by decide), if_neg (by decide)] at rf
      unfold b_set_38 at rf
      rw [if_neg (show ¬ (1 : Int32) = 0 by decide)] at rf
      unfold b_set_54 at rf
      rw [if_neg (show ¬ (1 : Int32) = 0 by decide), f2] at rf
      by_cases hin : 64 ≤ v3.toInt ∧ v3.toInt ≤ 1460
      · obtain ⟨j, hj⟩ := Int.eq_ofNat_of_zero_le (show 0 ≤ v3.toInt by omega)
        refine Or.inl ⟨cI σ q 7, wi σ q 7 v3, si (si ρ 0 0 0) 8 e v3, ?_, ?_, by rw [si_ne _ _ _ _ (by omega), si_eq], (RL.lo (set_mss h0 hqe hj (by omega))).up⟩
        · rw [cls, if_neg (x32_nlt hj z64 (by omega)), if_neg (x32_nlt z1460 hj (by omega)), bd_e, bd_e]
        · rw [rf, if_neg (x32_nlt hj z64 (by omega)), if_pos (x32_le' hj z1460 (by omega)), gd_t hvi, bd_e]
          unfold b_set_82
          rw [if_neg (by decide), gd_t hvi, bd_e, hvn]
          unfold b_set_105
          rw [si_ne _ _ _ _ (by omega), E.1.1.2.1]
      · refine An.no (σ' := wa σ 0 0 6) (y := 0) (j := 2) (k := 2) ?_ ?_ hc2 (by decide)
        · rw [cls]
          by_cases h0 : v3 < 64
          · rw [if_pos h0]
          · have : ¬ v3.toInt < 64 := fun q => h0 (x32_lt' rfl z64 q)
            rw [if_neg h0, if_pos (x32_lt' z1460 rfl (by omega))]
        · rw [rf]
          by_cases h0 : v3 < 64
          · rw [if_pos h0]
          · have : ¬ v3.toInt < 64 := fun q => h0 (x32_lt' rfl z64 q)
            rw [if_neg h0, if_neg (x32_nle rfl z1460 (by omega))]
    · rw [if_neg a1, c77] at cls
      refine An.no (σ' := wa σ 0 0 6) (y := 0) (j := 2) (k := 2) cls ?_ hc2 (by decide)
      have n0 : v2.toInt ≠ 0 := fun q => a0 (x32_eq' q z32_0 rfl)
      have n1 : v2.toInt ≠ 1 := fun q => a1 (x32_eq' q z32_1 rfl)
      rw [rf, f2]
      by_cases h0 : v2 < 0
      · rw [if_pos h0]
      · have : ¬ v2.toInt < 0 := fun q => h0 (x32_lt' rfl z32_0 q)
        rw [if_neg h0, if_pos (x32_lt' z32_1 rfl (by omega))]
  · refine An.no (σ' := wa σ 0 0 6) (y := 0) (j := 3) (k := 1) ?_ ?_ hc3 (by decide)
    · unfold m_P_set; rw [side_no hs hr]
    · unfold m_set; rw [bd_e, none_1 _ hs, bc2_e, if_neg (by decide), mfail, bc2_e]
