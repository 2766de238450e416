/-! a segment comes, both sides -/
section CO
variable {own : Nat → Nat} {P C : List (Nat × Nat)} {S : List Nat} {c1 c2 K q e : Nat} {σ : CS} {ρ : RS} {τ st u n m g U : Nat} {rn : Int32} {tr : Nat} {g0 s0 : Nat}
theorem EE.sr {ρ' : RS} (hqe : q = 7 ∧ e = 0 ∨ q = 14 ∧ e = 1) (O : Ow own σ) (E : EE own q e σ ρ τ st u n m g U rn tr) (h : SR ρ ρ') : EE own q e σ ρ' τ st u n m g U rn tr :=
  E.cg hqe O fr.rf (fun _ _ => rfl) (fun r a _ => by rw [h.2.1 r (by omega)]) (fun r _ => by rw [h.1]) (h.2.2 4 (by omega)) (fun i _ => by rw [h.2.1 38 (by omega)]) (fun i _ => by rw [h.2.1 39 (by omega)]) (fun i _ => by rw [h.2.1 40 (by omega)])
theorem NB.sr {ρ' : RS} (N : NB own P C S c1 c2 K σ ρ) (h : SR ρ ρ') : NB own P C S c1 c2 K σ ρ' :=
  N.f fr.rf (fun _ _ => rfl) N.2.2.1 (fun r a _ => h.2.1 r (by omega)) (h.2.2 5 (by omega)) (h.2.2 10 (by omega)) (Nat.le_refl _) (Nat.le_refl _) N.2.2.2.1.2.2
theorem comes_sim (hqe : q = 7 ∧ e = 0 ∨ q = 14 ∧ e = 1) (N : NB own P C S c1 c2 K σ ρ) (E : EE own q e σ ρ τ st u n m g U rn tr) (hB : ∀ i, isB (ρ.1 38 i)) (ht : cJ σ 3 0 = ρ.2 0 3) (htt : (cJ σ 3 0).toInt = (τ : Int)) (hτ : τ ≤ 600000000) (hC : C = [(g0, s0)]) {v1 : Int32} (hv : v1.toInt = (e : Int)) (hK : K + 65536 ≤ 260000 + rl σ q) :
    ∃ ρh, SR ρ ρh ∧ EnC own q e τ g K C σ ρh (m_E_comes q g0 σ) (m_comes v1 (nI s0) ρ) := by
  have hq : q = 7 ∨ q = 14 := by omega
  have he : e < 2 := by omega
  have hi := x32_in hv he
  have hcl := x32_n hv
  have O := N.2.2.1
  have hoq := own_q hqe O
  have hmem : (g0, s0) ∈ P ++ C := by rw [hC]; exact List.mem_append_right _ (List.mem_singleton.mpr rfl)
  obtain ⟨len, N0, S0, l1, l2, l3, l4⟩ := N.1.2.2.1 (g0, s0) hmem
  have hlen : len ≤ 1484 := by obtain ⟨_, _, _, _, _, s6, s7⟩ := S0; omega
  have hcont : ∀ i, i < len → cI σ (ar σ g0) i = Sk ρ s0 i := fun i hi' => by
    have hl : (cI σ g0 1).toNatClampNeg = len := by rw [S0.2.2.2.1]; exact x32_n (x32_nat (by omega))
    exact N.2.1 (g0, s0) hmem i (by show i < (cI σ g0 1).toNatClampNeg; rw [hl]; exact hi')
  unfold m_E_comes m_comes
  rcases header_sim hqe E.1.1 S0 l4 l1 l3 hcont hv with ⟨ρ', y1, y2, y3⟩ | ⟨ρ', y1, y2, y3, y4, y5⟩
  · refine ⟨ρ', y3, ?_⟩
    have E' := E.sr hqe O y3
    have N' := N.sr y3
    rw [gd_t hq, y1, bc2_e, if_pos rfl, bd_e, bd_e, y2, bc2_e, if_pos rfl, gd_t hi, bd_e, gd_t hi, bd_e, hcl]
    have F : fr (fun x => x ≠ q) σ (wi σ q 11 (cI σ q 11 + 1)) := fr_wi _ _ _ _
    have r1 : ∀ r j, r ≠ 29 → (si ρ' 29 e (ρ'.1 29 e + 1)).1 r j = ρ'.1 r j := fun r j x => si_ne _ _ _ _ (by omega)
    obtain ⟨z1, z2⟩ := EP.wr N' (fr_end F hoq.1) he rfl (RF.si ρ' (ρ'.1 29 e + 1) (by omega) (by omega)) (fun r _ _ => funext fun j => r1 r j (by omega)) (r1 0 5 (by omega)) (r1 0 10 (by omega))
    have EG' : EG own q e (wi σ q 11 (cI σ q 11 + 1)) (si ρ' 29 e (ρ'.1 29 e + 1)) τ st u n m g U rn tr := by
      refine E'.1.at0 hqe O F (fun r a b c d => funext fun j => r1 r j (by omega)) rfl ?_ (fun h => h) (r1 0 4 (by omega))
      have t1 : ∀ j, j ≠ 11 → cI (wi σ q 11 (cI σ q 11 + 1)) q j = cI σ q j := fun j hj => wi_ne _ _ _ _ (by omega)
      unfold G1
      rw [t1 0 (by omega), t1 7 (by omega), t1 8 (by omega), t1 9 (by omega), t1 10 (by omega), wi_eq, t1 12 (by omega), t1 13 (by omega), r1 8 e (by omega), r1 9 e (by omega), r1 30 e (by omega), r1 28 e (by omega), si_eq, r1 0 4 (by omega)]
      obtain ⟨a1, a2, a3, a4, a5, a6, a7, a8, a9, a10, a11⟩ := E'.1.1
      exact ⟨a1, a2, a3, a4, a5, a6, a7, a8, a9, by rw [a10], a11⟩
    exact enC hqe E'.1.2.2.1 O rfl rfl ⟨EG', E'.2.cg (wi_ne _ _ _ _ (by omega)) (wi_ne _ _ _ _ (by omega)) (funext fun j => r1 40 j (by omega))⟩ z1
  · refine ⟨ρ', y3, ?_⟩
    have E' := E.sr hqe O y3
    have N' := N.sr y3
    have T' : CT σ ρ' τ := ⟨fun i => by rw [y3.2.1 38 (by omega)]; exact hB i, by rw [y3.2.2 4 (by omega)]; exact y5, by rw [y3.1]; exact ht, htt, hτ⟩
    have hst8 : cI σ q 8 = Int32.ofNat st := E.1.1.2.2.2.2.1
    have hst9 : ρ'.1 9 e = Int32.ofNat st := by rw [E'.1.1.2.2.2.1]; exact hst8
    have hst10 : st ≤ 10 := E.1.1.2.2.2.2.2.1
    have hs : (Int32.ofNat st).toInt = (st : Int) := x32_nat (by omega)
    have h48 : ρ'.1 0 48 = n1 (cI σ (ar σ g0)) 13 := y4.2.2.2.2.2.2.2.2.1
    have hcc : (bd (cI σ q 8) fun x3 => if x3 = 0 then (b_E_comes_71 q g0 (1 : Int32) σ) else (bd (cI σ q 8) fun x4 => if x4 = (1 : Int32) then (bc2 (m_E_heedInListen q g0 σ) fun x11 r10 => b_E_comes_71 q g0 x11 r10) else (bd (cI σ q 8) fun x5 => if x5 = (2 : Int32) then (bc2 (m_E_heedInSynSent q g0 σ) fun x9 r8 => b_E_comes_71 q g0 x9 r8) else (bc2 (m_E_heedInOthers q g0 σ) fun x7 r6 => b_E_comes_71 q g0 x7 r6)))) = if st = 0 then bc (m_E_answer q g0 σ) some else if st = 1 then (bc2 (m_E_heedInListen q g0 σ) fun x11 r10 => b_E_comes_71 q g0 x11 r10) else if st = 2 then (bc2 (m_E_heedInSynSent q g0 σ) fun x9 r8 => b_E_comes_71 q g0 x9 r8) else (bc2 (m_E_heedInOthers q g0 σ) fun x7 r6 => b_E_comes_71 q g0 x7 r6) := by
      rw [bd_e, bd_e, bd_e, hst8]
      by_cases s0 : st = 0
      · rw [if_pos (x32_eq' hs z32_0 (by omega)), if_pos s0]
        unfold b_E_comes_71 b_E_comes_152
        rw [if_pos rfl]
      rw [if_neg (x32_ne hs z32_0 (by omega)), if_neg s0]
      by_cases s1 : st = 1
      · rw [if_pos (x32_eq' hs z32_1 (by omega)), if_pos s1]
      rw [if_neg (x32_ne hs z32_1 (by omega)), if_neg s1]
      by_cases s2 : st = 2
      · rw [if_pos (x32_eq' hs z32_2 (by omega)), if_pos s2]
      rw [if_neg (x32_ne hs z32_2 (by omega)), if_neg s2]
    rw [gd_t hq, y1, bc2_e, if_neg (show ¬ (1 : Int32) = 0 by decide), hcc, y2, bc2_e, if_neg (show ¬ (1 : Int32) = 0 by decide), gd_t hi, bd_e, gd_t hi, bd_e, gd_t hi, bd_e, show ρ'.1 9 v1.toNatClampNeg = Int32.ofNat st by rw [hcl]; exact hst9]
    unfold b_comes_43 b_comes_92
    by_cases s0 : st = 0
    · rw [if_pos s0, if_pos (x32_eq' hs z32_0 (by omega)), h48]
      obtain ⟨σ1, ρ1, o1, w1, w2, w3, w4, w5, w6⟩ := answer_sim hqe N' E'.1 T' y4 hv
      have w2' : (if n1 (cI σ (ar σ g0)) 13 &&& 4 = 0 then bc (m_answer v1 ρ') (fun r17 => some r17) else some ρ') = some ρ1 := by
        rw [← w2]
        split
        · cases m_answer v1 ρ' <;> rfl
        · rfl
      rw [w1, bc_e, w2']
      exact enC hqe E'.1.2.2.1 O rfl rfl ⟨w3, E'.2.cg (by rw [w5]) (by rw [w6]) (w4.2.2.2.1.1 40 (by omega))⟩ w4
    rw [if_neg s0, if_neg (x32_ne hs z32_0 (by omega))]
    by_cases s1 : st = 1
    · subst s1
      rw [if_pos rfl, if_pos (x32_eq' hs z32_1 (by omega))]
      have h := listen_sim hqe N' E' T' y4 hC hv
      have hx : (bc (m_listened v1 ρ') fun r15 => some r15) = m_listened v1 ρ' := by cases m_listened v1 ρ' <;> rfl
      rw [hx]
      exact h
    rw [if_neg s1, if_neg (x32_ne hs z32_1 (by omega))]
    by_cases s2 : st = 2
    · subst s2
      rw [if_pos rfl, bd_e, if_pos (x32_eq' hs z32_2 (by omega))]
      have h := called_sim hqe N' E' T' y4 hC hv
      have hx : (bc (m_called v1 ρ') fun r14 => some r14) = m_called v1 ρ' := by cases m_called v1 ρ' <;> rfl
      rw [hx]
      exact h
    rw [if_neg s2, bd_e, if_neg (x32_ne hs z32_2 (by omega))]
    exact others_sim hqe N' E' T' y4 hC hv (by omega) hK
end CO
