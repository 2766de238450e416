/-! which end, which segment -/
theorem none_0 (ρ : RS) {v1 : Int32} (h : v1 = 0 ∨ v1 = 1) : m_none v1 ρ = some (0, ρ) := by
  rcases h with rfl | rfl
  · unfold m_none; rw [if_neg (by decide), if_pos (by decide)]; unfold b_none_14; rw [gd_t z01_0]
  · unfold m_none; rw [if_neg (by decide), if_pos (by decide)]; unfold b_none_14; rw [gd_t z01_0]
theorem none_1 (ρ : RS) {v1 : Int32} (h : ¬ (v1 = 0 ∨ v1 = 1)) : m_none v1 ρ = some (1, ρ) := by
  have h0 : ¬ v1.toInt = 0 := fun q => h (Or.inl (x32_eq' q z32_0 rfl))
  have h1 : ¬ v1.toInt = 1 := fun q => h (Or.inr (x32_eq' q z32_1 rfl))
  unfold m_none b_none_9 b_none_14
  rw [gd_t z01_1]
  by_cases hl : v1 < 0
  · rw [if_pos hl]
  · rw [if_neg hl]
    have : ¬ v1.toInt < 0 := fun q => hl (x32_lt' rfl z32_0 q)
    rw [if_neg (x32_nle rfl z32_1 (by omega))]
theorem side_ok {v1 : Int32} (h : v1 = 0 ∨ v1 = 1) (σ : CS) : ∃ q e, (q = 7 ∧ e = 0 ∨ q = 14 ∧ e = 1) ∧ v1.toInt = ((e : Nat) : Int) ∧ v1.toNatClampNeg = e ∧ inb v1 2 ∧ n_P_sideOf v1 σ = some (.inr q) ∧ e < 2 ∧ (q = 7 ∨ q = 14) := by
  rcases h with rfl | rfl
  · exact ⟨7, 0, Or.inl ⟨rfl, rfl⟩, by decide, by decide, by decide, rfl, by decide, Or.inl rfl⟩
  · exact ⟨14, 1, Or.inr ⟨rfl, rfl⟩, by decide, by decide, by decide, rfl, by decide, Or.inr rfl⟩
theorem side_no {v1 : Int32} (h : ¬ (v1 = 0 ∨ v1 = 1)) {σ : CS} (hr : cX σ + 1 ≤ 601024 ∧ cU σ + 6 ≤ 7293034) {β : Type} (k : Nat → Option ((Nat ⊕ β) × CS)) : bcn (n_P_sideOf v1 σ) σ k = some (.inl 3, wa σ 0 0 6) := by
  unfold n_P_sideOf
  rw [if_neg (fun q => h (Or.inl q)), if_neg (fun q => h (Or.inr q)), gd_t hr]
  rfl
theorem bcn_r {α β : Type} (x : α) (σ : CS) (k : α → Option ((Nat ⊕ β) × CS)) : bcn (some (.inr x)) σ k = k x := rfl
theorem bcn_l {α β : Type} (j : Nat) (σ : CS) (k : α → Option ((Nat ⊕ β) × CS)) : bcn (some (.inl j)) σ k = some (.inl j, wa σ 0 0 6) := rfl
theorem An.no {α : Type} {c : Nat} {code : Nat → Option Int32} {σ : CS} {ρ : RS} {mp : Option ((Nat ⊕ α) × CS)} {mr : Option (α × RS)} {j : Nat} {k : Int32} {y : α} {σ' : CS} (h1 : mp = some (.inl j, σ')) (h2 : mr = some (y, si ρ 0 0 k)) (h3 : code j = some k) (h4 : k ≠ 0) : An c code σ ρ mp mr := Or.inr ⟨j, k, y, σ', h1, h2, h3, h4⟩
/-- the place of a segment on the way -/
theorem seg_ok {own : Nat → Nat} {P C : List (Nat × Nat)} {S : List Nat} {c1 c2 : Nat} {σ : CS} {ρ : RS} (h : NR own P C S c1 c2 σ ρ) (hr : cX σ + 1 ≤ 601024 ∧ cU σ + 6 ≤ 7293034) (v1 : Int32) :
    (∃ (k : Nat) (hk : k < P.length), v1.toInt = (k : Int) ∧ v1.toNatClampNeg = k ∧ inb v1 512 ∧ n_P_segmentOf v1 σ = some (.inr (P[k]).1) ∧ m_noWay v1 ρ = some (0, ρ) ∧ ρ.1 5 k = nI (P[k]).2 ∧ Sh σ ρ P[k] ∧ (nI (P[k]).2).toInt = ((P[k]).2 : Int) ∧ (nI (P[k]).2).toNatClampNeg = (P[k]).2 ∧ inb (nI (P[k]).2) 513 ∧ (P[k]).2 < 513) ∨
    (n_P_segmentOf v1 σ = some (.inl 3) ∧ m_noWay v1 ρ = some (1, ρ)) := by
  obtain ⟨n1, n2, n3, n4, n5, n6, n7, n8, n9, n10, n11, n12, n13⟩ := h
  have hs : n_A_size 5 σ = some (nI P.length) := by
    unfold n_A_size; rw [gd_t (Or.inl rfl), bd_e, n1.1, List.length_map]
  have hl : (nI P.length).toInt = (P.length : Int) := nI_t (by omega)
  have no : ¬ (0 ≤ v1.toInt ∧ v1.toInt < P.length) → n_P_segmentOf v1 σ = some (.inl 3) ∧ m_noWay v1 ρ = some (1, ρ) := fun hn => by
    constructor
    · unfold n_P_segmentOf nb_P_segmentOf_18
      rw [gd_t hr]
      by_cases h0 : v1 < 0
      · rw [if_pos h0]
      · rw [if_neg h0, hs, bc_e]
        have : ¬ v1.toInt < 0 := fun q => h0 (x32_lt' rfl z32_0 q)
        rw [if_neg (x32_nlt rfl hl (by omega))]
    · unfold m_noWay b_noWay_12 b_noWay_17
      rw [gd_t z01_1]
      by_cases h0 : v1 < 0
      · rw [if_pos h0]
      · rw [if_neg h0, bd_e, n9]
        have : ¬ v1.toInt < 0 := fun q => h0 (x32_lt' rfl z32_0 q)
        rw [if_neg (x32_nlt rfl hl (by omega))]
  by_cases hn : 0 ≤ v1.toInt ∧ v1.toInt < P.length
  · obtain ⟨k, hk⟩ := Int.eq_ofNat_of_zero_le hn.1
    have hkl : k < P.length := by omega
    have hsh := n3 P[k] (List.mem_append_left _ (List.getElem_mem _))
    have hs2 : (P[k]).2 < 513 := by obtain ⟨_, _, _, _, _, _, h⟩ := hsh; exact h
    have ht : (nI (P[k]).2).toInt = ((P[k]).2 : Int) := nI_t (by omega)
    refine Or.inl ⟨k, hkl, hk, x32_n hk, x32_in hk (by omega), ?_, ?_, n8 k hkl, hsh, ht, x32_n ht, x32_in ht hs2, hs2⟩
    · unfold n_P_segmentOf
      rw [if_neg (x32_nlt hk z32_0 (by omega)), hs, bc_e, if_pos (x32_lt' hk hl (by omega))]
      obtain ⟨g1, g2, ⟨g3, g4⟩ | ⟨a, a1, a2, a3, a4, a5, a6, a7⟩⟩ := n1
      · rw [g4] at g2
        have : (P.map Prod.fst).length = 0 := by omega
        rw [List.length_map] at this
        omega
      · have hg : n_A_get 5 v1 σ = some (P[k]).1 := by
          unfold n_A_get n_H_checkIndex n_X_checkIndex n_A_elementData
          rw [gd_t (Or.inl rfl), bd_e, g1, List.length_map, if_neg (x32_nlt hk z32_0 (by omega)), if_pos (x32_lt' hk hl (by omega)), bc_e, bc_e, gd_t (Or.inl rfl), bd_e, a1, bc_e, gd_t ⟨a2, x32_in hk (by rw [a4]; rw [List.length_map] at g2; omega)⟩, x32_n hk, a7 k (by rw [List.length_map]; omega), bc_e, bc_e, List.getElem_map]
        have hkd : kd σ (P[k]).1 = 11 := by obtain ⟨_, _, h, _⟩ := hsh; exact h.1
        rw [hg, bc_e, gd_t hkd]
    · unfold m_noWay b_noWay_17
      rw [if_neg (x32_nlt hk z32_0 (by omega)), bd_e, n9, if_pos (x32_lt' hk hl (by omega)), gd_t z01_0]
  · exact Or.inr (no hn)
/-! count, end -/
theorem count_sim {c : Nat} {σ : CS} {ρ : RS} (h : RL c σ ρ) (v1 : Int32) : ∃ x, m_P_count v1 σ = some (x, σ) ∧ m_count v1 ρ = some (x, si ρ 0 0 0) := by
  obtain ⟨own, τ, g0, g1, T, K, ⟨P, S, c1, c2, N⟩, E0, E1, ⟨t1, t2, t3⟩, ⟨l1, l2, l3, ⟨cn, l4, l5, l6⟩, l7⟩, k1, k2⟩ := h
  obtain ⟨n1, n2, n3, n4, n5, n6, n7, n8, n9, n10, n11, n12, n13⟩ := N.1
  unfold m_P_count m_count
  by_cases h0 : v1 = 0
  · rw [if_pos h0]
    refine ⟨_, rfl, ?_⟩
    rw [bd_e, if_pos h0, bd_e, si_2, l1]
  rw [if_neg h0]
  by_cases h1 : v1 = 1
  · rw [if_pos h1, al_size n1 (Or.inl rfl), bc2_e]
    refine ⟨_, rfl, ?_⟩
    rw [bd_e, if_neg h0, if_pos h1, bd_e, si_ne _ _ _ _ (by omega), n9, List.length_map]
  rw [if_neg h1]
  by_cases h2 : v1 = 2
  · rw [if_pos h2]
    refine ⟨_, rfl, ?_⟩
    rw [bd_e, if_neg h0, if_neg h1, if_pos h2, bd_e, si_ne _ _ _ _ (by omega), l5, l6]
  rw [if_neg h2]
  by_cases h3 : v1 = 3
  · rw [if_pos h3]
    refine ⟨_, rfl, ?_⟩
    rw [bd_e, if_neg h0, if_neg h1, if_neg h2, if_pos h3, bd_e, si_ne _ _ _ _ (by omega), t1, t2]
  rw [if_neg h3]
  by_cases h4 : v1 = 4
  · rw [if_pos h4]
    refine ⟨_, rfl, ?_⟩
    rw [bd_e, if_neg h0, if_neg h1, if_neg h2, if_neg h3, if_pos h4, bd_e, si_ne _ _ _ _ (by omega), n10]
  rw [if_neg h4]
  refine ⟨_, rfl, ?_⟩
  rw [bd_e, if_neg h0, if_neg h1, if_neg h2, if_neg h3, if_neg h4]
theorem count_ok {c : Nat} {σ : CS} {ρ : RS} (h : RL c σ ρ) (xs : Nat → Int32) (i : Nat) (v : Int64) : ∃ B, s_count xs i σ ρ v = some B ∧ RL (c + 1) B.1 B.2.1 := by
  obtain ⟨x, h1, h2⟩ := count_sim h (xs (i + 1))
  refine ⟨(σ, si ρ 0 0 0, v), ?_, (h.sz (SZ.si ρ 0)).up⟩
  unfold s_count
  rw [h1, bc2_e, h2, bc2_e, gd_t rfl]
/-- the tape alone has changed -/
theorem RLo.tape {c : Nat} {σ σ' : CS} {ρ ρ' : RS} {own own' : Nat → Nat} {τ g0 g1 T T' K K' : Nat} (h : RLo c σ ρ own τ g0 g1 T K) (ho : ∀ x, own x ≠ 99 → own' x = own x) (O' : Ow own' σ') (F : fr (fun x => own x ≠ 99 ∧ own x ≠ 13 ∧ own x ≠ 1) σ σ') (R2 : ρ'.2 = ρ.2) (R1 : ∀ r, 2 ≤ r → ρ'.1 r = ρ.1 r) (R0 : ∀ j, j ≠ 2 → ρ'.1 0 j = ρ.1 0 j) (R01 : ∀ i, isB (ρ'.1 1 i)) (tp : TP own' σ' ρ' T') (hU : cU σ' + K ≤ cU σ + K') (hX : 3 * cX σ' + cU σ ≤ 3 * cX σ + cU σ') (hK : K' + 2 * tln σ ≤ K + 2 * tln σ') (hK2 : K' ≤ 260000) (hT : T' + g0 + g1 ≤ 20 * c) : RLo c σ' ρ' own' τ g0 g1 T' K' := by
  obtain ⟨⟨P, S, c1, c2, N⟩, ⟨s, u, n, m, U, rn, tr, E0⟩, ⟨s', u', n', m', U', rn', tr', E1⟩, _, ⟨l1, l2, l3, ⟨cn, l4, l5, l6⟩, l7, l8⟩, k1, k2⟩ := h
  have O := N.2.2.1
  have o0 : own 0 = 12 := O.2.2 0 (by decide)
  have o3 : own 3 = 14 := O.2.2 3 (by decide)
  have q7 := own_q (Or.inl ⟨rfl, rfl⟩) O
  have q14 := own_q (Or.inr ⟨rfl, rfl⟩) O
  have f0 := F 0 (by omega)
  have f3 := F 3 (by omega)
  have s0 := slk E0.1.2.1 q7.2.1 (σ' := σ') (F.sub fun x hx => by omega)
  have s1 := slk E1.1.2.1 q14.2.1 (σ' := σ') (F.sub fun x hx => by omega)
  have r0 := rlk E0.1.2.2.1 q7.2.2.1 (σ' := σ') (F.sub fun x hx => by omega)
  have r1 := rlk E1.1.2.2.1 q14.2.2.1 (σ' := σ') (F.sub fun x hx => by omega)
  refine ⟨⟨P, S, c1, c2, N.f (F.sub fun x hx => by omega) ho O' (fun r h1 _ => R1 r h1) (R0 5 (by omega)) (R0 10 (by omega)) hU hX hK2⟩, ⟨s, u, n, m, U, rn, tr, E0.cg (Or.inl ⟨rfl, rfl⟩) O (F.sub fun x hx => by omega) ho (fun r h1 _ => by rw [R1 r (by omega)]) (fun r _ => by rw [R2]) (R0 4 (by omega)) (fun i _ => by rw [R1 38 (by omega)]) (fun i _ => by rw [R1 39 (by omega)]) (fun i _ => by rw [R1 40 (by omega)])⟩, ⟨s', u', n', m', U', rn', tr', E1.cg (Or.inr ⟨rfl, rfl⟩) O (F.sub fun x hx => by omega) ho (fun r h1 _ => by rw [R1 r (by omega)]) (fun r _ => by rw [R2]) (R0 4 (by omega)) (fun i _ => by rw [R1 38 (by omega)]) (fun i _ => by rw [R1 39 (by omega)]) (fun i _ => by rw [R1 40 (by omega)])⟩, tp, ⟨by rw [f3.2.1, R2]; exact l1, by rw [f3.2.1]; exact l2, l3, ⟨cn, l4, by rw [f0.1]; exact l5, by rw [R0 4 (by omega)]; exact l6⟩, by rw [R1 38 (by omega)]; exact l7, R01⟩, by rw [s0, s1, r0, r1]; omega, hT⟩
theorem end_sim {c : Nat} {σ : CS} {ρ : RS} (h : RL c σ ρ) (hc : c < 512) (v1 : Int32) {code : Nat → Option Int32} (hcode : code 2 = some 1) : An c code σ ρ (m_P_end v1 σ) (m_end v1 ρ) := by
  have hr := h.room hc
  obtain ⟨own, τ, g0, g1, T, K, h⟩ := h
  have hb := h.kb (by omega)
  have h0 := h.sz (SZ.si ρ 0)
  obtain ⟨⟨P, S, c1, c2, N⟩, E0, E1, ⟨t1, t2, at_, t3, t4, t5, t6, t7, t8, t9⟩, ⟨l1, l2, l3, l4, l7, l8⟩, k1, k2⟩ := h
  have ht : (Int32.ofNat T).toInt = (T : Int) := x32_nat (by omega)
  by_cases hv : 0 ≤ v1.toInt ∧ v1.toInt ≤ T
  · obtain ⟨k, hk⟩ := Int.eq_ofNat_of_zero_le hv.1
    refine Or.inl ⟨v1, wi σ 1 1 v1, si (si ρ 0 0 0) 0 2 v1, ?_, ?_, ?_, ?_⟩
    · unfold m_P_end
      rw [if_neg (x32_nlt hk z32_0 (by omega)), bd_e, t1, if_pos (x32_le' hk ht (by omega)), bd_e]
    · unfold m_end
      rw [bd_e, if_neg (x32_nlt hk z32_0 (by omega)), bd_e, si_ne _ _ _ _ (by omega), t2, if_pos (x32_le' hk ht (by omega)), bd_e]
    · rw [si_ne _ _ _ _ (by omega), si_eq]
    · have O := N.2.2.1
      have o1 : own 1 = 13 := O.2.2 1 (by decide)
      have hat : at_ ≠ 1 := fun e => by rw [e] at t5; omega
      refine RL.up ⟨own, τ, g0, g1, k, K, h0.tape (fun _ _ => rfl) (own' := own) (σ' := wi σ 1 1 v1) ⟨O.1, O.2.1, O.2.2⟩ ((fr_wi σ 1 1 v1).sub fun x hx e => by rw [e] at hx; omega) rfl (fun r hr => funext fun j => si_ne _ _ _ _ (by omega)) (fun j hj => si_ne _ _ _ _ (by omega)) (fun i => by rw [si_ne _ _ _ _ (by omega), si_ne _ _ _ _ (by omega)]; exact l8 i) ⟨?_, ?_, at_, t3, t4, t5, by show k ≤ cN σ at_; omega, t7, t8, fun i hi => ?_⟩ (Nat.le_refl _) (Nat.le_refl _) (Nat.le_refl _) (by omega) (by omega)⟩
      · rw [wi_eq]; exact x32_of (by omega) hk
      · rw [si_eq]; exact x32_of (by omega) hk
      · rw [wi_ne _ _ _ _ (Or.inl hat), si_ne _ _ _ _ (by omega), si_ne _ _ _ _ (by omega)]
        exact t9 i (by omega)
  · refine An.no (σ' := wa σ 0 0 6) (y := 0) (j := 2) (k := 1) ?_ ?_ hcode (by decide)
    · unfold m_P_end b_P_end_15
      rw [gd_t hr]
      by_cases h0 : v1 < 0
      · rw [if_pos h0]
      · have : ¬ v1.toInt < 0 := fun q => h0 (x32_lt' rfl z32_0 q)
        rw [if_neg h0, bd_e, t1, if_neg (x32_nle rfl ht (by omega))]
    · unfold m_end b_end_17
      rw [bd_e, mfail, bc2_e]
      by_cases h0 : v1 < 0
      · rw [if_pos h0]
      · have : ¬ v1.toInt < 0 := fun q => h0 (x32_lt' rfl z32_0 q)
        rw [if_neg h0, bd_e, si_ne _ _ _ _ (by omega), t2, if_neg (x32_nle rfl ht (by omega))]
