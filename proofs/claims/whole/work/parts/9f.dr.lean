/-! drop, deliver -/
theorem fr.rl {own : Nat → Nat} {q e : Nat} {σ σ' : CS} {ρ : RS} {U : Nat} (F : fr (fun x => own x < 50) σ σ') (G : G3 own q e σ ρ U) (hq : own (q + 3) = 10 + e) (he : e < 2) : rl σ' q = rl σ q := rlk G hq (F.sub fun x hx => by omega)
theorem drop_sim {c : Nat} {σ : CS} {ρ : RS} (h : RL c σ ρ) (hc : c < 512) (v1 : Int32) {code : Nat → Option Int32} (hc3 : code 3 = some 1) : An c code σ ρ (m_P_drop v1 σ) (m_drop v1 ρ) := by
  have hr := h.room hc
  obtain ⟨own, τ, g0, g1, T, K, h⟩ := h
  have h0 := h.sz (SZ.si ρ 0)
  obtain ⟨P, S, c1, c2, N⟩ := h0.1
  rcases seg_ok N.1 hr v1 with ⟨k, hk, hv, hvn, hvi, hs1, hs2, h5, ⟨len, M, sg, s3, s4, s6, s7⟩, ht, htn, hti, _⟩ | ⟨hs1, hs2⟩
  · obtain ⟨σ1, ρ1, x1, x2, N1, F1, R1, t0⟩ := take_sim N hk hv
    obtain ⟨σ2, own2, c2', y1, N2, F2, ko⟩ := give_sim (g := (P[k]).1) (s := (P[k]).2) N1
    have e2 : si (si ρ1 6 (P[k]).2 1) 6 (P[k]).2 0 = ρ1 := by rw [si_si]; rw [← t0]; exact si_id _ _ _
    rw [e2] at N2
    refine Or.inl ⟨ρ1.1 0 10, σ2, ρ1, ?_, ?_, ?_, (RL.lo (h0.net (own' := own2) ko (fr.tr (F1.sub fun x hx => by omega) F2 (fun x hx => hx)) R1 ⟨_, _, _, _, N2⟩)).up⟩
    · unfold m_P_drop
      rw [hs1, bcn_r, x1, bc_e, y1, bc2_e, al_size N2.1.1 (Or.inl rfl), bc2_e, N2.1.2.2.2.2.2.2.2.2.1, List.length_map]
    · unfold m_drop
      rw [bd_e, hs2, bc2_e, if_pos rfl, x2, bc_e, bd_e]
    · rw [R1.2.2 0 (by omega) (by omega), si_eq]
  · refine An.no (σ' := wa σ 0 0 6) (y := 0) (j := 3) (k := 1) ?_ ?_ hc3 (by decide)
    · unfold m_P_drop; rw [hs1, bcn_l]
    · unfold m_drop; rw [bd_e, hs2, bc2_e, if_neg (by decide), mfail, bc2_e]
theorem ER.pre {own own' : Nat → Nat} {e : Nat} {σ σ1 σ' : CS} {ρ ρ1 ρ' : RS} (F : fr (fun x => own x < 50) σ σ1) (R : NFr ρ ρ1) (h : ER own own' e σ1 σ' ρ1 ρ') (he : e < 2) : ER own own' e σ σ' ρ ρ' := by
  obtain ⟨r1, r2, ⟨q1, q2, q3, q4, q5, q6⟩, r4, r5⟩ := h
  refine ⟨r1, fr.tr (F.sub fun x hx => hx.1) r2 (fun x hx => hx), ⟨by rw [q1]; exact R.2.1 1 (by omega), fun r j a b c => by rw [q2 r j a b c, R.2.1 r (by omega)], fun r j a => by rw [q3 r j a, R.1], fun j a b => by rw [q4 j a b]; exact R.2.2 j a b, by rw [q5]; exact R.2.1 38 (by omega), fun r j a b => by rw [q6 r j a b, R.2.1 r (by omega)]⟩, fun x a b c => by rw [r4 x a b c]; exact (F x a).2.2.1, fun x a => by rw [r5 x a]; exact (F x (by omega)).2.2.2.1⟩
theorem ER.post {own own1 own' : Nat → Nat} {e : Nat} {σ σ1 σ' : CS} {ρ ρ1 ρ' : RS} (h : ER own own1 e σ σ1 ρ ρ1) (F : fr (fun x => own1 x < 50) σ1 σ') (R : NFr ρ1 ρ') (ho : ∀ x, own1 x ≠ 99 → own' x = own1 x) (he : e < 2) : ER own own' e σ σ' ρ ρ' := by
  obtain ⟨r1, r2, ⟨q1, q2, q3, q4, q5, q6⟩, r4, r5⟩ := h
  have k : ∀ x, own x < 50 → own1 x < 50 := fun x hx => by rw [r1 x (by omega)]; exact hx
  refine ⟨fun x hx => by rw [ho x (by rw [r1 x hx]; exact hx)]; exact r1 x hx, fr.tr r2 F (fun x hx => k x hx.1), ⟨by rw [R.2.1 1 (by omega)]; exact q1, fun r j a b c => by rw [R.2.1 r (by omega)]; exact q2 r j a b c, fun r j a => by rw [R.1]; exact q3 r j a, fun j a b => by rw [R.2.2 j a b]; exact q4 j a b, by rw [R.2.1 38 (by omega)]; exact q5, fun r j a b => by rw [R.2.1 r (by omega)]; exact q6 r j a b⟩, fun x a b c => by rw [(F x (k x a)).2.2.1]; exact r4 x a b c, fun x a => by rw [(F x (k x (by omega))).2.2.2.1]; exact r5 x a⟩
theorem EE.net {own own' : Nat → Nat} {q e : Nat} {σ σ' : CS} {ρ ρ' : RS} {τ st u n m g U : Nat} {rn : Int32} {tr : Nat} (hqe : q = 7 ∧ e = 0 ∨ q = 14 ∧ e = 1) (O : Ow own σ) (E : EE own q e σ ρ τ st u n m g U rn tr) (F : fr (fun x => own x < 50) σ σ') (ho : ∀ x, own x ≠ 99 → own' x = own x) (R : NFr ρ ρ') : EE own' q e σ' ρ' τ st u n m g U rn tr :=
  E.cg hqe O (F.sub fun x hx => by rcases hqe with h | h <;> omega) ho (fun r a _ => by rw [R.2.1 r (by omega)]) (fun r _ => by rw [R.1]) (R.2.2 4 (by omega) (by omega)) (fun i _ => by rw [R.2.1 38 (by omega)]) (fun i _ => by rw [R.2.1 39 (by omega)]) (fun i _ => by rw [R.2.1 40 (by omega)])
theorem deliver_sim {c : Nat} {σ : CS} {ρ : RS} (h : RL c σ ρ) (hc : c < 512) (v1 : Int32) {code : Nat → Option Int32} (hc3 : code 3 = some 1) : An c code σ ρ (m_P_deliver v1 σ) (m_deliver v1 ρ) := by
  have hr := h.room hc
  obtain ⟨own, τ, g0, g1, T, K, h⟩ := h
  have h0 := h.sz (SZ.si ρ 0)
  have hz : (si ρ 0 0 0).1 0 0 = 0 := si_eq _ _ _ _
  have pre : ∀ x, x = m_deliver v1 ρ → x = bc2 (m_noWay v1 (si ρ 0 0 0)) fun x3 r2 => if x3 = 0 then (gd (inb v1 512) <| bd (r2.1 5 v1.toNatClampNeg) fun x4 => bc (m_removed v1 r2) fun r5 => gd (inb x4 513) <| bd (si r5 6 x4.toNatClampNeg (vp_nar .boolean (1 : Int32))) fun r6 => gd (inb x4 513) <| bd (r6.1 4 x4.toNatClampNeg) fun x7 => bc (m_comes x7 x4 r6) fun r8 => gd (inb x4 513) <| bd (si r8 6 x4.toNatClampNeg (vp_nar .boolean (0 : Int32))) fun r9 => bd (r9.1 0 10) fun x10 => some (x10, r9)) else (bc2 (m_fail (1 : Int32) r2) fun x12 r11 => some (x12, r11)) := fun x hx => by
    rw [hx]; unfold m_deliver; rw [bd_e]
  have pre := pre _ rfl
  have hz2 : m_fail 1 (si ρ 0 0 0) = some (0, si ρ 0 0 1) := mfail ρ 1
  obtain ⟨ρ0, hρ0⟩ : ∃ ρ0, ρ0 = si ρ 0 0 0 := ⟨_, rfl⟩
  rw [← hρ0] at h0 pre hz hz2
  obtain ⟨P, S, c1, c2, N⟩ := h0.1
  rcases seg_ok N.1 hr v1 with ⟨k, hk, hv, hvn, hvi, hs1, hs2, h5, ⟨len, M, sg, s3, s4, s6, s7⟩, ht, htn, hti, _⟩ | ⟨hs1, hs2⟩
  · obtain ⟨σ1, ρ1, x1, x2, N1, F1, R1, t0⟩ := take_sim N hk hv
    obtain ⟨g, hgp⟩ : ∃ g, g = (P[k]).1 := ⟨_, rfl⟩
    obtain ⟨s, hsp⟩ : ∃ s, s = (P[k]).2 := ⟨_, rfl⟩
    have hgs : P[k] = (g, s) := by rw [hgp, hsp]
    rw [hgs] at N1
    rw [← hsp] at s3 s4 s6 s7 ht htn hti t0
    rw [← hgp] at s4 sg hs1
    have N1' : NB own (P.eraseIdx k) [(g, s)] S c1 c2 K σ1 (si ρ1 6 s 1) := by rw [hsp]; rw [hsp] at N1; exact N1
    obtain ⟨ρ2, hρ2⟩ : ∃ ρ2, ρ2 = si ρ1 6 s 1 := ⟨_, rfl⟩
    have R2 : NFr ρ0 ρ2 := by
      rw [hρ2]
      exact R1.tr ⟨rfl, fun r hr => funext fun j => si_ne _ _ _ _ (by omega), fun j _ _ => si_ne _ _ _ _ (by omega)⟩
    rw [← hρ2] at N1'
    have F50 : fr (fun x => own x < 50) σ σ1 := F1.sub fun x hx => by omega
    have O := N.2.2.1
    have O1 := N1'.2.2.1
    have sh := N1'.1.2.2.1 (g, s) (by simp)
    obtain ⟨len', M', sg', u3, u4, u6, u7⟩ := sh
    have er4 : ρ2.1 4 s = cI σ1 g 2 := u4.symm
    -- which end
    obtain ⟨q, e, hqe, he4, he⟩ : ∃ q e, (q = 7 ∧ e = 0 ∨ q = 14 ∧ e = 1) ∧ (ρ2.1 4 s).toInt = ((e : Nat) : Int) ∧ e < 2 := by
      rcases u6 with h | h
      · exact ⟨7, 0, Or.inl ⟨rfl, rfl⟩, by rw [h]; decide, by decide⟩
      · exact ⟨14, 1, Or.inr ⟨rfl, rfl⟩, by rw [h]; decide, by decide⟩
    obtain ⟨st, u, n, m, U, rn, tr, E⟩ := h0.ee hqe
    have E1 := E.net hqe O F50 (fun _ _ => rfl) R2
    have hoq := own_q hqe O
    have rl1 : rl σ1 q = rl σ q := F50.rl E.1.2.2.1 hoq.2.2.1 he
    have hkb := h0.kb (by omega)
    have o3 : own 3 = 14 := O.2.2 3 (by decide)
    obtain ⟨_, _, _, _, ⟨l1, l2, l3, l4, l7, l8⟩, _, _⟩ := h0
    have j3 := (F50 3 (by omega)).2.1
    obtain ⟨ρh, sr, σ3, ρ3, own3, st3, u3', n3, m3, U3, rn3, tr3, K3, w1, w2, E3, ⟨P3, S3, d1, d2, N3⟩, w4, w5⟩ := comes_sim hqe N1' E1 (fun i => by rw [R2.2.1 38 (by omega)]; exact l7 i) (by rw [j3, R2.1]; exact l1) (by rw [j3]; exact l2) (by omega) rfl he4 (by rw [rl1]; rcases hqe with ⟨rfl, rfl⟩ | ⟨rfl, rfl⟩ <;> omega)
    obtain ⟨σ4, own4, d2', y1, N4, F4, ko4⟩ := give_sim N3
    -- the same, with the segment's fields known before
    obtain ⟨ρk, hρk⟩ : ∃ ρk : RS, ρk = (fun r j => if r = 0 ∧ 46 ≤ j then ρh.1 0 j else ρ0.1 r j, ρ0.2) := ⟨_, rfl⟩
    have kA : ∀ r j, ¬ (r = 0 ∧ 46 ≤ j) → ρk.1 r j = ρ0.1 r j := fun r j hn => by rw [hρk]; exact if_neg hn
    have kB : ∀ j, 46 ≤ j → ρk.1 0 j = ρh.1 0 j := fun j hj => by rw [hρk]; exact if_pos ⟨rfl, hj⟩
    have kC : ρk.2 = ρ0.2 := by rw [hρk]
    have zk : SZ ρ0 ρk := ⟨kC, fun r hr => funext fun j => kA r j (by omega), kA _ _ (by omega), kA _ _ (by omega), kA _ _ (by omega), kA _ _ (by omega)⟩
    have Rk : NFr ρk ρh := by
      refine ⟨by rw [sr.1, kC, R2.1], fun r hr => ?_, fun j a b => ?_⟩
      · rw [sr.2.1 r (by omega), R2.2.1 r hr]
        exact (funext fun j => kA r j (by omega)).symm
      · by_cases hj : 46 ≤ j
        · rw [kB j hj]
        · rw [sr.2.2 j (by omega), R2.2.2 j a b, kA 0 j (by omega)]
    have hh := (h.sz (SZ.si ρ 0))
    rw [← hρ0] at hh
    have hk0 := hh.sz zk
    have w6 : ER own own3 e σ σ3 ρk ρ3 := ER.pre F50 Rk w5 he
    have R4 : NFr ρ3 (si ρ3 6 s 0) := ⟨rfl, fun r hr => funext fun j => si_ne _ _ _ _ (by omega), fun j _ _ => si_ne _ _ _ _ (by omega)⟩
    have w7 : ER own own4 e σ σ4 ρk (si ρ3 6 s 0) := w6.post F4 R4 ko4 he
    have hoq3 := own_q hqe N3.2.2.1
    have rl4 : rl σ4 q = rl σ3 q := F4.rl E3.1.2.2.1 hoq3.2.2.1 he
    have E4 := E3.net hqe N3.2.2.1 F4 ko4 R4
    have hfin := hk0.end_ hqe ⟨st3, u3', n3, m3, U3, rn3, tr3, E4⟩ ⟨P3, S3 ++ [g], d1, d2', N4⟩ (by rw [rl4]; omega) w7
    refine Or.inl ⟨nI P3.length, σ4, si ρ3 6 s 0, ?_, ?_, ?_, (RL.lo hfin).up⟩
    · unfold m_P_deliver b_P_deliver_40
      rw [hs1, bcn_r, x1, bc_e, gd_t sg'.1, bd_e, ← er4]
      rcases hqe with ⟨rfl, rfl⟩ | ⟨rfl, rfl⟩
      · rw [if_pos (x32_eq' he4 z32_0 (by omega)), w1, bc_e, y1, bc2_e, al_size N4.1.1 (Or.inl rfl), bc2_e, List.length_map]
      · rw [if_neg (x32_ne he4 z32_0 (by omega)), w1, bc_e, y1, bc2_e, al_size N4.1.1 (Or.inl rfl), bc2_e, List.length_map]
    · have e5 : ρ0.1 5 v1.toNatClampNeg = nI s := by rw [hvn, h5, hsp]
      have em : m_comes ((si ρ1 6 (nI s).toNatClampNeg 1).1 4 (nI s).toNatClampNeg) (nI s) (si ρ1 6 (nI s).toNatClampNeg 1) = some ρ3 := by rw [htn, ← hρ2]; exact w2
      rw [pre, hs2, bc2_e, if_pos rfl, gd_t hvi, bd_e, e5, x2, bc_e, gd_t hti, nar_b1, nar_b0, bd_e, gd_t hti, bd_e, em, bc_e, gd_t hti, bd_e, bd_e, htn, N4.1.2.2.2.2.2.2.2.2.1]
    · rw [w7.2.2.1.2.2.2.1 0 (by omega) (by omega), kA 0 0 (by omega), hz]
  · refine An.no (σ' := wa σ 0 0 6) (y := 0) (j := 3) (k := 1) ?_ ?_ hc3 (by decide)
    · unfold m_P_deliver; rw [hs1, bcn_l]
    · rw [pre, hs2, bc2_e, if_neg (by decide), hz2, bc2_e]
