theorem RLo.tape0 {c : Nat} {σ : CS} {ρ : RS} {own : Nat → Nat} {τ g0 g1 T K : Nat} (h : RLo c σ ρ own τ g0 g1 T K) (hc : c ≤ 512) {v : Int32} {k : Nat} (hv : v.toInt = (k : Int)) (hk : k ≤ T) : RLo c (wi σ 1 1 v) (si ρ 0 2 v) own τ g0 g1 k K := by
  have hb := h.kb hc
  have h0 := h
  obtain ⟨⟨P, S, c1, c2, N⟩, E0, E1, ⟨t1, t2, at_, t3, t4, t5, t6, t7, t8, t9⟩, ⟨l1, l2, l3, l4, l7, l8⟩, k1, k2⟩ := h
  have O := N.2.2.1
  have o1 : own 1 = 13 := O.2.2 1 (by decide)
  have hat : at_ ≠ 1 := fun e => by rw [e] at t5; omega
  refine h0.tape (fun _ _ => rfl) (own' := own) (σ' := wi σ 1 1 v) ⟨O.1, O.2.1, O.2.2⟩ ((fr_wi σ 1 1 v).sub fun x hx e => by rw [e] at hx; omega) rfl (fun r hr => funext fun j => si_ne _ _ _ _ (by omega)) (fun j hj => si_ne _ _ _ _ (by omega)) (fun i => by rw [si_ne _ _ _ _ (by omega)]; exact l8 i) ⟨?_, ?_, at_, t3, t4, t5, by show k ≤ cN σ at_; omega, t7, t8, fun i hi => ?_⟩ (Nat.le_refl _) (Nat.le_refl _) (Nat.le_refl _) (by omega) (by omega)
  · rw [wi_eq]; exact x32_of (by omega) hv
  · rw [si_eq]; exact x32_of (by omega) hv
  · rw [wi_ne _ _ _ _ (Or.inl hat), si_ne _ _ _ _ (by omega)]
    exact t9 i (by omega)
theorem NFr.sS {ρ ρ1 : RS} (h : NFr ρ ρ1) (s : Nat) (Y : Nat → Int32) : NFr ρ (sS ρ1 s Y) := ⟨h.1, fun r hr => by rw [sS_o ρ1 s Y (by omega)]; exact h.2.1 r hr, fun j a b => by rw [sS_o ρ1 s Y (by omega)]; exact h.2.2 j a b⟩
theorem isB_cpy {f g : Nat → Int32} (hf : ∀ i, isB (f i)) (hg : ∀ i, isB (g i)) (a b n : Nat) : ∀ i, isB (va_cpy f g a b n i) := fun i => by
  unfold va_cpy
  by_cases h : b ≤ i ∧ i < b + n
  · rw [if_pos h]; exact hf _
  · rw [if_neg h]; exact hg _
theorem copy_sim {c : Nat} {σ : CS} {ρ : RS} (h : RL c σ ρ) (hc : c < 512) (v1 : Int32) {code : Nat → Option Int32} (hc3 : code 3 = some 1) : An c code σ ρ (m_P_copy v1 σ) (m_copy v1 ρ) := by
  have hr := h.room hc
  obtain ⟨own, τ, g0, g1, T, K, h⟩ := h
  have h0 := h.sz (SZ.si ρ 0)
  have hz : (si ρ 0 0 0).1 0 0 = 0 := si_eq _ _ _ _
  have pre : ∀ x, x = m_copy v1 ρ → x = bc2 (m_noWay v1 (si ρ 0 0 0)) fun x3 r2 => if x3 = 0 then (gd (inb v1 512) <| bd (r2.1 5 v1.toNatClampNeg) fun x4 => gd (inb x4 513) <| bd (r2.1 4 x4.toNatClampNeg) fun x5 => gd (inb x4 513) <| bd (r2.1 3 x4.toNatClampNeg) fun x6 => bc2 (m_launched x5 x6 r2) fun x8 r7 => lq4 (F_copy_46) fuel x4 x8 (0 : Int32) r7) else (bc2 (m_fail (1 : Int32) r2) fun x10 r9 => some (x10, r9)) := fun x hx => by
    rw [hx]; unfold m_copy; rw [bd_e]
  have pre := pre _ rfl
  have hz2 : m_fail 1 (si ρ 0 0 0) = some (0, si ρ 0 0 1) := mfail ρ 1
  obtain ⟨ρ0, hρ0⟩ : ∃ ρ0, ρ0 = si ρ 0 0 0 := ⟨_, rfl⟩
  rw [← hρ0] at h0 pre hz hz2
  obtain ⟨P, S, c1, c2, N⟩ := h0.1
  rcases seg_ok N.1 hr v1 with ⟨k, hk, hv, hvn, hvi, hs1, hs2, h5, ⟨len, M, sg, s3, s4, s6, s7⟩, ht, htn, hti, _⟩ | ⟨hs1, hs2⟩
  · have hl : len ≤ 1484 := by have := sg.2.2.2.2.2.2; have := sg.2.2.2.2.2.1; omega
    have hL : (Int32.ofNat len).toInt = (len : Int) := x32_nat (by omega)
    have hpm : P[k] ∈ P := List.getElem_mem _
    have hcq := N.2.1 P[k] (List.mem_append_left _ hpm)
    have e5 : ρ0.1 5 v1.toNatClampNeg = nI (P[k]).2 := by rw [hvn, h5]
    have e3 : ρ0.1 3 (nI (P[k]).2).toNatClampNeg = Int32.ofNat len := by rw [htn, s3]
    have e4 : ρ0.1 4 (nI (P[k]).2).toNatClampNeg = cI σ (P[k]).1 2 := by rw [htn, s4]
    have cls : ∀ σ', m_N_placeBytes (cI σ (P[k]).1 2) (ar σ (P[k]).1) (Int32.ofNat len) σ = some σ' → m_P_copy v1 σ = bc2 (m_A_size 5 σ') fun x7 r6 => some (.inr x7, r6) := fun σ' hσ => by
      unfold m_P_copy
      rw [hs1, bcn_r, gd_t sg.1, bd_e, gd_t sg.1, sg.2.1, bc_e, gd_t sg.1, bd_e, sg.2.2.2.1, hσ, bc_e]
    rw [hs2, bc2_e, if_pos rfl, gd_t hvi, bd_e, e5, gd_t hti, bd_e, e4, gd_t hti, bd_e, e3] at pre
    rcases bytes_sim N (t := cI σ (P[k]).1 2) (by rw [s4]; exact s6) hL hl (Or.inr ⟨P[k], hpm, rfl⟩) sg.2.2.1 (by rw [sg.2.2.2.2.1]; exact sg.2.2.2.2.2.1) with ⟨x1, x2, x3, x4, x5⟩ | ⟨σ', own', ρ1, s, P', S', c1', x1, x2, x3, x4, x5, x6, x7, x8, x9, x10⟩
    · refine Or.inl ⟨ρ0.1 0 10, _, _, ?_, ?_, ?_, (RL.lo (h0.net (fun _ _ => rfl) x4 x5 ⟨_, _, _, _, x3⟩)).up⟩
      · rw [cls _ x1, al_size x3.1.1 (Or.inl rfl), bc2_e, List.length_map, N.1.2.2.2.2.2.2.2.2.1]
      · rw [pre, x2, bc2_e]
        show F_copy_46 (lq4 F_copy_46 9999999) _ _ _ _ = _
        rw [F_copy_46, if_pos (by decide)]
        unfold b_copy_93
        rw [bd_e, si_ne _ _ _ _ (by omega)]
      · rw [si_ne _ _ _ _ (by omega), hz]
    · have hst : (nI s).toInt = (s : Int) := nI_t (by omega)
      have hpk := x9 P[k] hpm
      have NN := x4 (va_cpy (Sk ρ1 (P[k]).2) (Sk ρ1 s) 0 0 len) (fun i hi => by
        unfold va_cpy
        rw [if_pos ⟨by omega, by omega⟩, Nat.zero_add, Nat.sub_zero, hcq i (by rw [sg.2.2.2.1, x32_n hL]; exact hi)]
        unfold Sk
        rw [x8]) (isB_cpy (fun i => x10 _) (fun i => x10 _) _ _ _)
      have loop := copy_loop ht hst s7 x3 hpk.1 (by rw [hpk.2, s3]) hl x10 len 0 fuel 0 (by omega) (by unfold fuel; omega) z32_0
      rw [cpy0, sS_id] at loop
      refine Or.inl ⟨ρ1.1 0 10, σ', _, ?_, ?_, ?_, (RL.lo (h0.net x6 x5 (x7.sS s _) ⟨_, _, _, _, NN⟩)).up⟩
      · have := NN.1.2.2.2.2.2.2.2.2.1
        rw [sS_o ρ1 s _ (by omega)] at this
        rw [cls _ x1, al_size NN.1.1 (Or.inl rfl), bc2_e, List.length_map, this]
      · rw [pre, x2, bc2_e, loop]
      · rw [sS_o ρ1 s _ (by omega), x7.2.2 0 (by omega) (by omega), hz]
  · refine An.no (σ' := wa σ 0 0 6) (y := 0) (j := 3) (k := 1) ?_ ?_ hc3 (by decide)
    · unfold m_P_copy; rw [hs1, bcn_l]
    · rw [pre, hs2, bc2_e, if_neg (by decide), hz2, bc2_e]
theorem inject_sim {c : Nat} {σ : CS} {ρ : RS} (h : RL c σ ρ) (hc : c < 512) (v1 : Int32) {code : Nat → Option Int32} (hc3 : code 3 = some 1) (hc2 : code 2 = some 2) : An c code σ ρ (m_P_inject v1 σ) (m_inject v1 ρ) := by
  have hr := h.room hc
  by_cases hs : v1 = 0 ∨ v1 = 1
  · obtain ⟨q, e, hqe, hv, hvn, hvi, hs1, he, hq⟩ := side_ok hs σ
    obtain ⟨own, τ, g0, g1, T, K, h⟩ := h
    have h0 := h.sz (SZ.si ρ 0)
    have hz : (si ρ 0 0 0).1 0 0 = 0 := si_eq _ _ _ _
    have pre : ∀ x, x = m_inject v1 ρ → x = (bd ((si ρ 0 0 0).1 0 2) fun x4 => if x4 ≤ (1484 : Int32) then (bd ((si ρ 0 0 0).1 0 2) fun x5 => bc2 (m_launched v1 x5 (si ρ 0 0 0)) fun x7 r6 => lq3 (F_inject_46) fuel x7 (0 : Int32) r6) else (bc2 (m_fail (2 : Int32) (si ρ 0 0 0)) fun x9 r8 => some (x9, r8))) := fun x hx => by
      rw [hx]; unfold m_inject; rw [bd_e, none_0 _ hs, bc2_e, if_pos rfl]
    have pre := pre _ rfl
    have hz2 : m_fail 2 (si ρ 0 0 0) = some (0, si ρ 0 0 2) := mfail ρ 2
    obtain ⟨ρ0, hρ0⟩ : ∃ ρ0, ρ0 = si ρ 0 0 0 := ⟨_, rfl⟩
    rw [← hρ0] at h0 pre hz hz2
    obtain ⟨P, S, c1, c2, N⟩ := h0.1
    obtain ⟨st, u, n, m, U, rn, tr, E⟩ := h0.ee hqe
    have hh := h0
    obtain ⟨_, _, _, ⟨t1, t2, at_, t3, t4, t5, t6, t7, t8, t9⟩, ⟨l1, l2, l3, l4, l7, l8⟩, k1, k2⟩ := h0
    have hT : (Int32.ofNat T).toInt = (T : Int) := x32_nat (by omega)
    have z1484 : (1484 : Int32).toInt = 1484 := by decide
    rw [bd_e, bd_e, t2] at pre
    have cls : ∀ x, x = m_P_inject v1 σ → x = if (Int32.ofNat T) ≤ (1484 : Int32) then (bc (m_N_placeBytes v1 at_ (Int32.ofNat T) σ) fun r6 => bd (wi r6 1 1 (0 : Int32)) fun r7 => bc2 (m_A_size 5 r7) fun x9 r8 => some (.inr x9, r8)) else (gd (cX σ + 1 ≤ 601024 ∧ cU σ + 6 ≤ 7293034) <| some (.inl 2, wa σ 0 0 6)) := fun x hx => by
      have hve : cI σ q 0 = v1 := by rw [E.1.1.1]; exact (x32_of (by omega) hv).symm
      rw [hx]; unfold m_P_inject
      rw [hs1, bcn_r, gd_t hq, bd_e, bd_e, t3, bc_e, bd_e, t1, hve]
    have cls := cls _ rfl
    by_cases hT4 : T ≤ 1484
    · rw [if_pos (x32_le' hT z1484 (by omega))] at pre cls
      have key : ∀ σ' ρ' own', RLo c σ' ρ' own' τ g0 g1 T K → m_N_placeBytes v1 at_ (Int32.ofNat T) σ = some σ' → m_inject v1 ρ = some (ρ'.1 0 10, si ρ' 0 2 0) → ρ'.1 0 0 = 0 → An c code σ ρ (m_P_inject v1 σ) (m_inject v1 ρ) := fun σ' ρ' own' H a1 a2 a3 => by
        have H0 := H.tape0 (by omega) z32_0 (Nat.zero_le _)
        refine Or.inl ⟨ρ'.1 0 10, wi σ' 1 1 0, si ρ' 0 2 0, ?_, a2, by rw [si_ne _ _ _ _ (by omega), a3], (RL.lo H0).up⟩
        obtain ⟨P', S', d1, d2, N'⟩ := H0.1
        have := N'.1.2.2.2.2.2.2.2.2.1
        rw [si_ne _ _ _ _ (by omega)] at this
        rw [cls, a1, bc_e, bd_e, al_size N'.1.1 (Or.inl rfl), bc2_e, List.length_map, this]
      rcases bytes_sim N hs hT hT4 (Or.inl (by omega)) t4 t6 with ⟨x1, x2, x3, x4, x5⟩ | ⟨σ', own', ρ1, s, P', S', c1', x1, x2, x3, x4, x5, x6, x7, x8, x9, x10⟩
      · refine key _ _ own (hh.net (fun _ _ => rfl) x4 x5 ⟨_, _, _, _, x3⟩) x1 ?_ (by rw [si_ne _ _ _ _ (by omega), hz])
        rw [pre, x2, bc2_e]
        show F_inject_46 (lq3 F_inject_46 9999999) _ _ _ = _
        rw [F_inject_46, if_pos (by decide)]
        unfold b_inject_82
        rw [bd_e, bd_e, si_ne _ _ _ _ (by omega)]
      · have hst : (nI s).toInt = (s : Int) := nI_t (by omega)
        have e1 : ρ1.1 1 = ρ0.1 1 := x7.2.1 1 (by omega)
        have NN := x4 (va_cpy (ρ1.1 1) (Sk ρ1 s) 0 0 T) (fun i hi => by
          unfold va_cpy
          rw [if_pos ⟨by omega, by omega⟩, Nat.zero_add, Nat.sub_zero, e1]
          exact t9 i hi) (isB_cpy (fun i => by rw [e1]; exact l8 i) (fun i => x10 _) _ _ _)
        have loop := inj_loop hst x3 (by rw [x7.2.2 2 (by omega) (by omega)]; exact t2) hT4 (fun i => by rw [e1]; exact l8 i) T 0 fuel 0 (by omega) (by unfold fuel; omega) z32_0
        rw [cpy0, sS_id] at loop
        refine key σ' (sS ρ1 s (va_cpy (ρ1.1 1) (Sk ρ1 s) 0 0 T)) own' (hh.net x6 x5 (x7.sS s _) ⟨_, _, _, _, NN⟩) x1 ?_ (by rw [sS_o ρ1 s _ (by omega), x7.2.2 0 (by omega) (by omega), hz])
        rw [pre, x2, bc2_e, loop, sS_o ρ1 s _ (show (0 : Nat) ≠ 2 by omega)]
    · rw [if_neg (x32_nle hT z1484 (by omega))] at pre cls
      refine An.no (σ' := wa σ 0 0 6) (y := 0) (j := 2) (k := 2) ?_ ?_ hc2 (by decide)
      · rw [cls, gd_t hr]
      · rw [pre, hz2, bc2_e]
  · refine An.no (σ' := wa σ 0 0 6) (y := 0) (j := 3) (k := 1) ?_ ?_ hc3 (by decide)
    · unfold m_P_inject; rw [side_no hs hr]
    · unfold m_inject; rw [bd_e, none_1 _ hs, bc2_e, if_neg (by decide), mfail, bc2_e]
theorem n2_cG {C D : Nat → Int32} {i : Nat} (h1 : C i = D i) (h2 : C (i + 1) = D (i + 1)) : n2 C i = n2 D i := by
  unfold n2 n1; rw [h1, h2]
theorem flip_sim {c : Nat} {σ : CS} {ρ : RS} (h : RL c σ ρ) (hc : c < 512) (v1 v2 v3 v4 : Int32) {code : Nat → Option Int32} (hc3 : code 3 = some 1) (hc5 : code 5 = some 2) : An c code σ ρ (m_P_flip v1 v2 v3 v4 σ) (m_flip v1 v2 v3 v4 ρ) := by
  have hr := h.room hc
  obtain ⟨own, τ, g0, g1, T, K, h⟩ := h
  have h0 := h.sz (SZ.si ρ 0)
  have hz : (si ρ 0 0 0).1 0 0 = 0 := si_eq _ _ _ _
  have pre : ∀ x, x = m_flip v1 v2 v3 v4 ρ → x = bc2 (m_noWay v1 (si ρ 0 0 0)) fun x3 r2 => if x3 = 0 then (gd (inb v1 512) <| bd (r2.1 5 v1.toNatClampNeg) fun x4 => if v2 < 0 then (b_flip_42 r2) else (gd (inb x4 513) <| bd (r2.1 3 x4.toNatClampNeg) fun x5 => if v2 < x5 then (bd (((1484 : Int32) * x4) + v2) fun x6 => gd (inb x6 761292) <| bd (r2.1 2 x6.toNatClampNeg) fun x7 => gd (inb x6 761292) <| bd (si r2 2 x6.toNatClampNeg (vp_nar .byte ((x7 ^^^ (v3.toInt8.toInt32)).toInt8.toInt32))) fun r8 => gd (inb x4 513) <| bd (r8.1 3 x4.toNatClampNeg) fun x9 => if (18 : Int32) ≤ x9 then (if v4 = 0 then (b_flip_92 x4 r8) else (bc (m_sealed x4 r8) fun r10 => b_flip_92 x4 r10)) else (some ((-1 : Int32), r8))) else (b_flip_42 r2))) else (bc2 (m_fail (1 : Int32) r2) fun x12 r11 => some (x12, r11)) := fun x hx => by
    rw [hx]; unfold m_flip; rw [bd_e]
  have pre := pre _ rfl
  have hz2 : m_fail 1 (si ρ 0 0 0) = some (0, si ρ 0 0 1) := mfail ρ 1
  have f42 : b_flip_42 (si ρ 0 0 0) = some (0, si ρ 0 0 2) := by unfold b_flip_42; rw [mfail, bc2_e]
  obtain ⟨ρ0, hρ0⟩ : ∃ ρ0, ρ0 = si ρ 0 0 0 := ⟨_, rfl⟩
  rw [← hρ0] at h0 pre hz hz2 f42
  obtain ⟨P, S, c1, c2, N⟩ := h0.1
  rcases seg_ok N.1 hr v1 with ⟨k, hk, hv, hvn, hvi, hs1, hs2, h5, ⟨len, M, sg, s3, s4, s6, s7⟩, ht, htn, hti, _⟩ | ⟨hs1, hs2⟩
  · have hl : len ≤ 1484 := by have := sg.2.2.2.2.2.2; have := sg.2.2.2.2.2.1; omega
    have hL : (Int32.ofNat len).toInt = (len : Int) := x32_nat (by omega)
    have hpm : P[k] ∈ P := List.getElem_mem _
    obtain ⟨g, hgp⟩ : ∃ g, g = (P[k]).1 := ⟨_, rfl⟩
    obtain ⟨s, hsp⟩ : ∃ s, s = (P[k]).2 := ⟨_, rfl⟩
    have hgs : P[k] = (g, s) := by rw [hgp, hsp]
    have hcq := N.2.1 P[k] (List.mem_append_left _ hpm)
    rw [hgs] at hcq hpm
    rw [← hsp] at s3 s4 s6 s7 ht htn hti h5
    rw [← hgp] at s4 sg hs1
    have e5 : ρ0.1 5 v1.toNatClampNeg = nI s := by rw [hvn, h5]
    have e3 : ρ0.1 3 (nI s).toNatClampNeg = Int32.ofNat len := by rw [htn, s3]
    rw [hs2, bc2_e, if_pos rfl, gd_t hvi, bd_e, e5, f42, gd_t hti, bd_e, e3] at pre
    have c20 : b_P_flip_20 σ = some (.inl 5, wa σ 0 0 6) := by unfold b_P_flip_20; rw [gd_t hr]
    by_cases hin : 0 ≤ v2.toInt ∧ v2.toInt < len
    · obtain ⟨j, hj⟩ := Int.eq_ofNat_of_zero_le hin.1
      have y1 := x_slot ht hj s7 (by omega)
      have hM : len ≤ M := sg.2.2.2.2.2.1
      have hcj : cI σ (ar σ g) j = Sk ρ0 s j := hcq j (by show j < (cI σ g 1).toNatClampNeg; rw [sg.2.2.2.1, x32_n hL]; omega)
      obtain ⟨b, hb⟩ : ∃ b, b = vp_nar .byte ((cI σ (ar σ g) j ^^^ v3).toInt8.toInt32) := ⟨_, rfl⟩
      have hb2 : vp_nar .byte ((Sk ρ0 s j ^^^ (v3.toInt8.toInt32)).toInt8.toInt32) = b := by
        rw [hb, hcj, Int32.toInt8_xor, Int32.toInt8_xor, Int8.toInt8_toInt32]
      have ew : wi σ (ar σ g) j b = wA σ (ar σ g) (fun i => if i = j then b else cI σ (ar σ g) i) := by
        have := wi_wA σ (ar σ g) (cI σ (ar σ g)) j b
        rw [wA_id] at this; exact this
      have es : si ρ0 2 (1484 * s + j) b = sS ρ0 s (fun i => if i = j then b else Sk ρ0 s i) := by
        have := si_sS ρ0 s (Sk ρ0 s) j b (by omega)
        rw [sS_id] at this; exact this
      obtain ⟨X, hX⟩ : ∃ X : Nat → Int32, X = fun i => if i = j then b else cI σ (ar σ g) i := ⟨_, rfl⟩
      obtain ⟨Y, hY⟩ : ∃ Y : Nat → Int32, Y = fun i => if i = j then b else Sk ρ0 s i := ⟨_, rfl⟩
      rw [← hX] at ew
      rw [← hY] at es
      have hXY : ∀ i, i < len → X i = Y i := fun i hi => by
        rw [hX, hY]
        show (if i = j then b else cI σ (ar σ g) i) = if i = j then b else Sk ρ0 s i
        rw [hcq i (by show i < (cI σ g 1).toNatClampNeg; rw [sg.2.2.2.1, x32_n hL]; exact hi)]
      have hYB : ∀ i, isB (Y i) := fun i => by
        rw [hY]
        show isB (if i = j then b else Sk ρ0 s i)
        by_cases hi : i = j
        · rw [if_pos hi, hb]; exact isB_nar _
        · rw [if_neg hi]; exact N.2.2.2.2 _
      have O := N.2.2.1
      have hoa : own (ar σ g) = 100 + g := (N.1.2.2.2.1 g (ag_mem S (List.mem_append_left _ hpm))).2.1
      have fin : ∀ (X' Y' : Nat → Int32), (∀ i, i < len → X' i = Y' i) → (∀ i, isB (Y' i)) → RL (c + 1) (wA σ (ar σ g) X') (sS ρ0 s Y') := fun X' Y' a1 a2 => by
        have NN := NB.fill N.1 O N.2.2.2.1 N.2.2.2.2 (List.mem_append_left _ hpm) (fun p hp _ => N.2.1 p hp) sg X' Y' a1 a2
        exact (RL.lo (h0.net (fun _ _ => rfl) ((fr_wA σ (ar σ g) X').sub fun x (hx : own x < 50) e => by rw [e] at hx; omega) ((NFr.rf ρ0).sS s Y') ⟨_, _, _, _, NN⟩)).up
      have cls : ∀ x, x = m_P_flip v1 v2 v3 v4 σ → x = if (18 : Int32) ≤ Int32.ofNat len then (if v4 = 0 then (b_P_flip_69 g (wA σ (ar σ g) X)) else (gd (kd (wA σ (ar σ g) X) g = 11) <| bc (m_G_mendChecksum g (wA σ (ar σ g) X)) fun r8 => b_P_flip_69 g r8)) else (some (.inr (-1 : Int32), wA σ (ar σ g) X)) := fun x hx => by
        rw [hx]; unfold m_P_flip
        rw [hs1, bcn_r, if_neg (x32_nlt hj z32_0 (by omega)), gd_t sg.1, bd_e, sg.2.2.2.1, if_pos (x32_lt' hj hL (by omega)), gd_t sg.1, sg.2.1, bc_e, gd_t sg.1, bc_e, gd_t ⟨sg.2.2.1, x32_in hj (by rw [sg.2.2.2.2.1]; omega)⟩, bd_e, gd_t ⟨sg.2.2.1, x32_in hj (by rw [sg.2.2.2.2.1]; omega)⟩, bd_e, x32_n hj, ← hb, ew]
        have := sg.wA X
        rw [gd_t this.1, bd_e, this.2.2.2.1]
      have cls := cls _ rfl
      have er : ρ0.1 2 (1484 * nI s + v2).toNatClampNeg = Sk ρ0 s j := by rw [x32_n y1]; rfl
      rw [if_neg (x32_nlt hj z32_0 (by omega)), if_pos (x32_lt' hj hL (by omega)), bd_e, gd_t (x32_in y1 (by omega)), bd_e, er, hb2, gd_t (x32_in y1 (by omega)), bd_e, x32_n y1, es, gd_t hti, bd_e, sS_o ρ0 s _ (show (3 : Nat) ≠ 2 by omega), e3] at pre
      have z18 : (18 : Int32).toInt = 18 := by decide
      have hz' : ∀ Y', (sS ρ0 s Y').1 0 0 = 0 := fun Y' => by rw [sS_o ρ0 s _ (by omega), hz]
      have S16 : ∀ X' : Nat → Int32, 18 ≤ len → b_P_flip_69 g (wA σ (ar σ g) X') = some (.inr (n2 X' 16), wA σ (ar σ g) X') := fun X' h18 => by
        have := sg.wA X'
        unfold b_P_flip_69
        rw [gd_t this.1, gnum2 this (show (16 : Int32).toInt = ((16 : Nat) : Int) by decide) (by omega), bc2_e, wA_self]
      have R16 : ∀ Y' : Nat → Int32, b_flip_92 (nI s) (sS ρ0 s Y') = some (n2 Y' 16, sS ρ0 s Y') := fun Y' => by
        unfold b_flip_92
        rw [rtwo (sS ρ0 s Y') ht (show (16 : Int32).toInt = ((16 : Nat) : Int) by decide) s7 (by omega), bc2_e]
        have : n2 (Sk (sS ρ0 s Y') s) 16 = n2 Y' 16 := n2_cG (sS_self ρ0 s Y' (by omega)) (sS_self ρ0 s Y' (by omega))
        rw [this]
      by_cases h18 : 18 ≤ len
      · rw [if_pos (x32_le' z18 hL (by omega))] at pre cls
        by_cases a4 : v4 = 0
        · rw [if_pos a4] at pre cls
          refine Or.inl ⟨n2 X 16, wA σ (ar σ g) X, sS ρ0 s Y, by rw [cls, S16 X h18], ?_, hz' _, fin X Y hXY hYB⟩
          rw [pre, R16 Y, n2_cG (hXY 16 (by omega)) (hXY 17 (by omega))]
        · rw [if_neg a4] at pre cls
          have e1 : m_G_mendChecksum g (wA σ (ar σ g) X) = some (wA σ (ar σ g) (sld X len)) := by
            rw [gmend (sg.wA X) h18, wA_wA, wA_self]
          have e2 : m_sealed (nI s) (sS ρ0 s Y) = some (sS ρ0 s (sld Y len)) := rseal' ρ0 Y ht s7 s3 hl s6
          have hXY' : ∀ i, i < len → sld X len i = sld Y len i := fun i hi => sld_congr (fun i hi _ _ => hXY i hi) hi
          refine Or.inl ⟨n2 (sld X len) 16, wA σ (ar σ g) (sld X len), sS ρ0 s (sld Y len), ?_, ?_, hz' _, fin _ _ hXY' (isB_pu hYB _ _ _)⟩
          · rw [cls, gd_t (sg.wA X).1, e1, bc_e, S16 _ h18]
          · rw [pre, e2, bc_e, R16, n2_cG (hXY' 16 (by omega)) (hXY' 17 (by omega))]
      · rw [if_neg (x32_nle z18 hL (by omega))] at pre cls
        exact Or.inl ⟨-1, wA σ (ar σ g) X, sS ρ0 s Y, cls, pre, hz' _, fin X Y hXY hYB⟩
    · refine An.no (σ' := wa σ 0 0 6) (y := 0) (j := 5) (k := 2) ?_ ?_ hc5 (by decide)
      · unfold m_P_flip
        rw [hs1, bcn_r, c20]
        by_cases h0 : v2 < 0
        · rw [if_pos h0]
        · have : ¬ v2.toInt < 0 := fun q => h0 (x32_lt' rfl z32_0 q)
          rw [if_neg h0, gd_t sg.1, bd_e, sg.2.2.2.1, if_neg (x32_nlt rfl hL (by omega))]
      · rw [pre]
        by_cases h0 : v2 < 0
        · rw [if_pos h0]
        · have : ¬ v2.toInt < 0 := fun q => h0 (x32_lt' rfl z32_0 q)
          rw [if_neg h0, if_neg (x32_nlt rfl hL (by omega))]
  · refine An.no (σ' := wa σ 0 0 6) (y := 0) (j := 3) (k := 1) ?_ ?_ hc3 (by decide)
    · unfold m_P_flip; rw [hs1, bcn_l]
    · rw [pre, hs2, bc2_e, if_neg (by decide), hz2, bc2_e]
