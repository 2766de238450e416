/-! the answer to what has no place, both sides -/
section AN
variable {own : Nat → Nat} {P C : List (Nat × Nat)} {S : List Nat} {c1 c2 K q e : Nat} {σ : CS} {ρ : RS} {τ st u nr n m g U : Nat} {rn : Int32} {tr : Nat}
theorem emitA (hqe : q = 7 ∧ e = 0 ∨ q = 14 ∧ e = 1) (N : NB own P C S c1 c2 K σ ρ) (E : EGx own q e σ ρ τ st u nr n m g U rn tr) (hB : ∀ i, isB (ρ.1 38 i)) (hc0 : ρ.1 0 4 ≠ 0) {v1 : Int32} (hv : v1.toInt = (e : Int)) (fl sq ak : Int32) (hfl : fl &&& 2 = 0) :
    ∃ σ' ρ' own', m_E_emit q fl sq ak 0 0 σ = some σ' ∧ b_answer_89 v1 fl sq ak ρ = some ρ' ∧ EGx own' q e σ' ρ' τ st u nr n m g U rn tr ∧ EP K C own own' e σ σ' ρ ρ' ∧ cI σ' (q + 1) = cI σ (q + 1) ∧ cI σ' (q + 3) = cI σ (q + 3) := by
  have hq : q = 7 ∨ q = 14 := by omega
  have he : e < 2 := by omega
  have O := N.2.2.1
  have hoq := own_q hqe O
  obtain ⟨mm, m1, m2, m3⟩ := E.1.2.2.1
  have hports : cI σ q 12 = pt e (ρ.1 0 4) ∧ cI σ q 13 = pt (1 - e) (ρ.1 0 4) := by
    rcases E.1.2.2.2.2.2.2.2.2.2.2 with h | h
    · exact absurd h.1 hc0
    · exact ⟨h.2.2.1, h.2.2.2⟩
  have z0 : (0 : Int32).toInt = ((0 : Nat) : Int) := by decide
  obtain ⟨σ', y1, y2⟩ := emit_core (fl := fl) (sq := sq) (ak := ak) (wn := 0) (nn := 0) (v9 := 0) (n := 0) (ab := q) (f := 0) (from_ := 0) hqe N hv (by rw [E.1.1]; exact Int32.toInt_inj.mp (by rw [hv, x32_nat (by omega)])) hports.1 hports.2 E.1.2.1.symm m3 m2 hB z0 (by omega) (Or.inl rfl) (by rw [hoq.1]; omega) (fun i hi => by omega) (Or.inl ⟨hfl, rfl⟩)
  have hCC : ∀ p ∈ C, own p.1 = 60 ∧ own (ar σ p.1) = 100 + p.1 := fun p hp => by
    obtain ⟨u1, u2, _⟩ := N.1.2.2.2.1 p.1 (ag_mem S (List.mem_append_right _ hp))
    exact ⟨u1, u2⟩
  have fin : ∀ ρ', PO K C own (wi σ q 10 (cI σ q 10 + 1)) σ' (si ρ 28 e (ρ.1 28 e + 1)) ρ' → ∃ own', EGx own' q e σ' ρ' τ st u nr n m g U rn tr ∧ EP K C own own' e σ σ' ρ ρ' ∧ cI σ' (q + 1) = cI σ (q + 1) ∧ cI σ' (q + 3) = cI σ (q + 3) := by
    intro ρ' hpo
    obtain ⟨σ1, hσ1⟩ : ∃ x, x = wi σ q 10 (cI σ q 10 + 1) := ⟨_, rfl⟩
    obtain ⟨ρ1, hρ1⟩ : ∃ x, x = si ρ 28 e (ρ.1 28 e + 1) := ⟨_, rfl⟩
    rw [← hσ1, ← hρ1] at hpo
    have F1' : fr (fun x => x ≠ q) σ σ1 := by rw [hσ1]; exact fr_wi σ q 10 _
    have R1 : RF e ρ ρ1 := by rw [hρ1]; exact RF.si ρ _ (by omega) (by omega)
    obtain ⟨own', w1, w2, w3, w4, w5⟩ := EP.PO hpo (fr_end F1' hoq.1) R1 (by rw [hσ1]; rfl) he hCC
    have O1 : Ow own σ1 := by rw [hσ1]; exact O
    have v1 : ∀ r j, r ≠ 28 → ρ1.1 r j = ρ.1 r j := fun r j hr => by rw [hρ1, si_ne _ _ _ _ (by omega)]
    have E1 : EGx own q e σ1 ρ1 τ st u nr n m g U rn tr := by
      refine E.at0 hqe O F1' (fun r a b c d => funext fun j => v1 r j (by omega)) (by rw [hρ1]; rfl) ?_ (fun h => h) (v1 0 4 (by omega))
      have t1 : ∀ j, j ≠ 10 → cI σ1 q j = cI σ q j := fun j hj => by rw [hσ1, wi_ne _ _ _ _ (by omega)]
      unfold G1
      rw [t1 0 (by omega), t1 7 (by omega), t1 8 (by omega), t1 9 (by omega), show cI σ1 q 10 = cI σ q 10 + 1 by rw [hσ1, wi_eq], t1 11 (by omega), t1 12 (by omega), t1 13 (by omega), v1 8 e (by omega), v1 9 e (by omega), v1 30 e (by omega), show ρ1.1 28 e = ρ.1 28 e + 1 by rw [hρ1, si_eq], v1 29 e (by omega), v1 0 4 (by omega)]
      obtain ⟨a1, a2, a3, a4, a5, a6, a7, a8, a9, a10, a11⟩ := E.1
      exact ⟨a1, a2, a3, a4, a5, a6, a7, a8, by rw [a9], a10, a11⟩
    refine ⟨own', E1.cg hqe O1 (w2.sub fun x hx => by omega) w5 (fun r h1 h2 => by rw [w3.2.1 r (by omega)]) (fun r h => by rw [w3.1]) (w3.2.2 4 (by omega) (by omega)) (fun i _ => by rw [w3.2.1 38 (by omega)]) (fun i _ => by rw [w3.2.1 39 (by omega)]) (fun i _ => by rw [w3.2.1 40 (by omega)]), w1, ?_, ?_⟩
    · rw [(w2 (q + 1) (by omega)).1, (F1' (q + 1) (by omega)).1]
    · rw [(w2 (q + 3) (by omega)).1, (F1' (q + 3) (by omega)).1]
  unfold b_answer_89 b_answer_108
  rcases y2 with ⟨ρ1, l1, l2⟩ | ⟨kk, ρ1, len, l1, l2, l3, l4, l5, l6, l7, l8⟩
  · obtain ⟨own', r1, r2, r3⟩ := fin ρ1 l2
    refine ⟨σ', ρ1, own', y1, ?_, r1, r2, r3⟩
    rw [writF hv he l1, bc2_e, if_pos (by decide)]
  · obtain ⟨own', r1, r2, r3⟩ := fin _ l8
    refine ⟨σ', _, own', y1, ?_, r1, r2, r3⟩
    have hK : (nI kk).toInt = (kk : Int) := nI_t (by omega)
    rw [writR hv he l1 l2, bc2_e, if_neg (x32_nlt hK z32_0 (by omega)), rseal' ρ1 _ hK l2 l3 l5 l6, bc_e]
    unfold yC opR
    rw [cpy0, if_pos (by decide)]
theorem hl_of (W : Nat → Int32) : hl4 W = Int32.ofNat (ho W) := x32_of (by have := ho_lt W; omega) (hl4_s W)
theorem dl_of {W : Nat → Int32} {len : Nat} (h : wf W len) (hl : len ≤ 1484) : Int32.ofNat len - hl4 W = Int32.ofNat (len - ho W) := by
  obtain ⟨_, _, h3, _⟩ := h
  rw [hl_of]
  exact x32_of (by omega) (by rw [x32_sub (x32_nat (by omega)) (x32_nat (by omega)) (by omega) (by omega)]; omega)
def sp (W : Nat → Int32) (len : Nat) : Int32 := Int32.ofNat (len - ho W) + fl01 (n1 W 13 &&& 2) + fl01 (n1 W 13 &&& 1)
theorem SC.span {g0 s0 a len N : Nat} {W : Nat → Int32} {σ : CS} {ρ : RS} (h : SC g0 s0 a len N W σ ρ) : m_G_span g0 σ = some (sp W len, σ) := by
  obtain ⟨S0, ha, hW, h4, h5, h6, _⟩ := h
  rw [gspan S0 h4.1, hW, dl_of h4 h6]
  rfl
theorem SC.has {g0 s0 a len N : Nat} {W : Nat → Int32} {σ : CS} {ρ : RS} (h : SC g0 s0 a len N W σ ρ) (v : Int32) : m_G_has g0 v σ = some (if n1 W 13 &&& v = 0 then 0 else 1, σ) := by
  obtain ⟨S0, ha, hW, h4, _⟩ := h
  rw [ghas S0 h4.1, hW]
theorem SC.seq {g0 s0 a len N : Nat} {W : Nat → Int32} {σ : CS} {ρ : RS} (h : SC g0 s0 a len N W σ ρ) : m_G_seq g0 σ = some (n4 W 4, σ) := by
  obtain ⟨S0, ha, hW, h4, _⟩ := h
  rw [gseq S0 h4.1, hW]
theorem SC.ack {g0 s0 a len N : Nat} {W : Nat → Int32} {σ : CS} {ρ : RS} (h : SC g0 s0 a len N W σ ρ) : m_G_ack g0 σ = some (n4 W 8, σ) := by
  obtain ⟨S0, ha, hW, h4, _⟩ := h
  rw [gack S0 h4.1, hW]
theorem SC.win {g0 s0 a len N : Nat} {W : Nat → Int32} {σ : CS} {ρ : RS} (h : SC g0 s0 a len N W σ ρ) : m_G_window g0 σ = some (n2 W 14, σ) := by
  obtain ⟨S0, ha, hW, h4, _⟩ := h
  rw [gwindow S0 h4.1, hW]
theorem SC.dl {g0 s0 a len N : Nat} {W : Nat → Int32} {σ : CS} {ρ : RS} (h : SC g0 s0 a len N W σ ρ) : m_G_dataLength g0 σ = some (Int32.ofNat (len - ho W), σ) := by
  obtain ⟨S0, ha, hW, h4, h5, h6, _⟩ := h
  rw [gdl S0 h4.1, hW, dl_of h4 h6]
theorem SC.tell {g0 s0 a len N : Nat} {W : Nat → Int32} {σ : CS} {ρ : RS} (h : SC g0 s0 a len N W σ ρ) (hs : ¬ n1 W 13 &&& 2 = 0) : m_G_toldMss g0 σ = some (if ρ.1 0 53 < 64 then 64 else ρ.1 0 53, σ) := by
  obtain ⟨S0, ha, hW, h4, h5, h6, h7, h8, h9, h10, h11, h12, h13, h14⟩ := h
  obtain ⟨ρ0, v2, a1, a2, a3⟩ := h14 hs
  obtain ⟨t, t1, t2⟩ := told S0 ρ0 (nI_t (show s0 < 2147483648 by omega)) h5 (by rw [hW]; exact a2) h4.1 (by rw [hW]; exact h4.2.2.1) (v2 := v2) (by rw [hW]; exact a1)
  rw [t1]
  rw [a3] at t2
  have e := congrArg (fun r : RS => r.1 0 53) (Option.some.inj t2)
  simp only [si_eq] at e
  rw [e]
theorem SC.kd {g0 s0 a len N : Nat} {W : Nat → Int32} {σ : CS} {ρ : RS} (h : SC g0 s0 a len N W σ ρ) : kd σ g0 = 11 := h.1.1
theorem answer_sim {g0 s0 a len N0 : Nat} {W : Nat → Int32} (hqe : q = 7 ∧ e = 0 ∨ q = 14 ∧ e = 1) (N : NB own P C S c1 c2 K σ ρ) (E : EGx own q e σ ρ τ st u nr n m g U rn tr) (T : CT σ ρ τ) (H : SC g0 s0 a len N0 W σ ρ) {v1 : Int32} (hv : v1.toInt = (e : Int)) :
    ∃ σ' ρ' own', m_E_answer q g0 σ = some σ' ∧ (if n1 W 13 &&& 4 = 0 then m_answer v1 ρ else some ρ) = some ρ' ∧ EGx own' q e σ' ρ' τ st u nr n m g U rn tr ∧ EP K C own own' e σ σ' ρ ρ' ∧ cI σ' (q + 1) = cI σ (q + 1) ∧ cI σ' (q + 3) = cI σ (q + 3) := by
  have hq : q = 7 ∨ q = 14 := by omega
  have he : e < 2 := by omega
  unfold m_E_answer b_E_answer_51
  rw [gd_t hq, gd_t H.kd, H.has 4, bc2_e]
  by_cases h4 : n1 W 13 &&& 4 = 0
  · rw [if_pos h4, if_pos rfl, if_pos h4, gd_t H.kd, H.has 16, bc2_e]
    obtain ⟨S0, ha, hW, w4, h5, h6, h7, h8, h9, h10, h11, h12, h13, h14⟩ := H
    have H' : SC g0 s0 a len N0 W σ ρ := ⟨S0, ha, hW, w4, h5, h6, h7, h8, h9, h10, h11, h12, h13, h14⟩
    have rsp : ∀ w, b_answer_15 v1 w ρ = (if w = 0 then b_answer_63 w (sp W len) v1 20 ρ else b_answer_63 w (sp W len) v1 4 ρ) := fun w => by
      unfold b_answer_15 b_answer_34 b_answer_49
      simp only [bd_e]
      rw [h9, h12]
      unfold sp fl01
      by_cases x2 : n1 W 13 &&& 2 = 0
      · rw [if_pos x2, if_pos x2]
        by_cases x1 : n1 W 13 &&& 1 = 0
        · rw [if_pos x1, if_pos x1]
        · rw [if_neg x1, if_neg x1]
      · rw [if_neg x2, if_neg x2]
        by_cases x1 : n1 W 13 &&& 1 = 0
        · rw [if_pos x1, if_pos x1]
        · rw [if_neg x1, if_neg x1]
    unfold m_answer
    rw [bd_e, h9]
    by_cases h16 : n1 W 13 &&& 16 = 0
    · rw [if_pos h16, if_pos h16, if_pos rfl, gd_t H'.kd, H'.seq, bc2_e, gd_t H'.kd, H'.span, bc2_e, rsp 0, if_pos rfl]
      unfold b_answer_63 b_answer_75
      rw [if_pos rfl, if_pos rfl, bd_e, h7]
      obtain ⟨σ', ρ', own', y1, y2, y3⟩ := emitA hqe N E T.1 T.2.1 hv 20 0 (n4 W 4 + sp W len) (by decide)
      exact ⟨σ', ρ', own', by rw [y1, bc_e], y2, y3⟩
    · rw [if_neg h16, if_neg h16, if_neg (by decide), gd_t H'.kd, H'.ack, bc2_e, rsp 1, if_neg (by decide)]
      unfold b_answer_63 b_answer_75
      rw [if_neg (by decide), bd_e, if_neg (by decide), h8]
      obtain ⟨σ', ρ', own', y1, y2, y3⟩ := emitA hqe N E T.1 T.2.1 hv 4 (n4 W 8) 0 (by decide)
      exact ⟨σ', ρ', own', by rw [y1, bc_e], y2, y3⟩
  · rw [if_neg h4, if_neg (by decide), if_neg h4]
    exact ⟨σ, ρ, own, rfl, rfl, E, (EP.wr N fr.rf he rfl (RF.rf e ρ) (fun _ _ _ => rfl) rfl rfl).1, rfl, rfl⟩
end AN
