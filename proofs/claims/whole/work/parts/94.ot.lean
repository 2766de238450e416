/-! steps 5 to 15 as a whole, both sides -/
section OT2
variable {own : Nat → Nat} {P C : List (Nat × Nat)} {S : List Nat} {c1 c2 K q e : Nat} {σ : CS} {ρ : RS} {τ st u n m g U : Nat} {rn : Int32} {tr : Nat} {g0 s0 a len N0 : Nat} {W : Nat → Int32}
abbrev otR (v1 : Int32) (ρ : RS) : Option RS := bc2 (m_admitted v1 ρ) fun x7 r6 => if x7 = 0 then (some r6) else (bc2 (m_acknowledged v1 r6) fun x9 r8 => if x9 = 0 then (some r8) else tailR v1 r8)
theorem c71_0 (x : Int32) (h1 : ¬ x = 1) (h2 : ¬ x = 2) (h3 : ¬ x = 3) (h4 : ¬ x = 4) (h5 : ¬ x = 5) (q g0 : Nat) (σ : CS) : b_E_comes_71 q g0 x σ = some σ := by
  unfold b_E_comes_71 b_E_comes_152
  rw [if_neg h1, if_neg h2, if_neg h3, if_neg h4, if_neg h5]
theorem c_admit1 (hq : q = 7 ∨ q = 14) (H : SC g0 s0 a len N0 W σ ρ) (hst8 : cI σ q 8 = Int32.ofNat st) (hst : st ≤ 10) (hfit : ftq (cI σ (q + 3) 1) (cI σ (q + 3) 2) (n4 W 4) (sp W len)) : m_E_letIn q g0 σ = if n1 W 13 &&& 4 = 0 then (if n1 W 13 &&& 2 = 0 then (if n1 W 13 &&& 16 = 0 then some (0, σ) else if st = 3 then (if n4 W 8 = cI σ (q + 1) 4 + 1 then some (6, wi σ q 8 (Int32.ofNat 4)) else some (1, σ)) else some (6, σ)) else some (2, σ)) else (if n4 W 4 = cI σ (q + 3) 1 then bc (m_E_shut q 1 σ) (fun r => some (0, r)) else some (2, σ)) := by
  have hs : (Int32.ofNat st).toInt = (st : Int) := x32_nat (by omega)
  have t3 : (3 : Int32).toInt = 3 := by decide
  unfold m_E_letIn b_E_letIn_107
  rw [gd_t hq, gd_t H.kd, H.seq, bc2_e, gd_t H.kd, H.span, bc2_e, (cfits hq (n4 W 4) (sp W len)).1 hfit, bc2_e, if_neg (show ¬ (1 : Int32) = 0 by decide), gd_t H.kd, H.has 4, bc2_e]
  by_cases h4 : n1 W 13 &&& 4 = 0
  · rw [if_pos h4, if_pos rfl, if_pos h4, gd_t H.kd, H.has 2, bc2_e]
    by_cases h2 : n1 W 13 &&& 2 = 0
    · rw [if_pos h2, if_pos rfl, if_pos h2, gd_t H.kd, H.has 16, bc2_e]
      by_cases h16 : n1 W 13 &&& 16 = 0
      · rw [if_pos h16, if_pos rfl, if_pos h16]
      · rw [if_neg h16, if_neg (show ¬ (1 : Int32) = 0 by decide), if_neg h16, bd_e, hst8]
        by_cases s3 : st = 3
        · rw [if_pos (x32_eq' hs t3 (by omega)), if_pos s3, gd_t H.kd, H.ack, bc2_e, bd_e]
          by_cases ha : n4 W 8 = cI σ (q + 1) 4 + 1
          · rw [if_pos ha, if_pos ha]; rfl
          · rw [if_neg ha, if_neg ha]
        · rw [if_neg (x32_ne hs t3 (by omega)), if_neg s3]
    · rw [if_neg h2, if_neg (show ¬ (1 : Int32) = 0 by decide), if_neg h2]
  · rw [if_neg h4, if_neg (show ¬ (1 : Int32) = 0 by decide), if_neg h4, gd_t H.kd, H.seq, bc2_e, bd_e]
theorem c_admit0 (hq : q = 7 ∨ q = 14) (H : SC g0 s0 a len N0 W σ ρ) (hst8 : cI σ q 8 = Int32.ofNat st) (hst : st ≤ 10) (hfit : ¬ ftq (cI σ (q + 3) 1) (cI σ (q + 3) 2) (n4 W 4) (sp W len)) : m_E_letIn q g0 σ = if n1 W 13 &&& 4 = 0 then (if st = 10 ∧ ¬ n1 W 13 &&& 1 = 0 then some (2, wl (wi σ (q + 5) 2 1) (q + 5) 3 (cJ σ 3 0 + (4000 : Int32).toInt64)) else some (2, σ)) else some (0, σ) := by
  have hs : (Int32.ofNat st).toInt = (st : Int) := x32_nat (by omega)
  have t10 : (10 : Int32).toInt = 10 := by decide
  unfold m_E_letIn m_E_refuse b_E_refuse_44
  rw [gd_t hq, gd_t H.kd, H.seq, bc2_e, gd_t H.kd, H.span, bc2_e, (cfits hq (n4 W 4) (sp W len)).2 hfit, bc2_e, if_pos rfl, gd_t hq, gd_t H.kd, H.has 4, bc2_e]
  by_cases h4 : n1 W 13 &&& 4 = 0
  · rw [if_pos h4, if_pos rfl, if_pos h4, bd_e, hst8]
    by_cases s10 : st = 10
    · rw [if_pos (x32_eq' hs t10 (by omega)), gd_t H.kd, H.has 1, bc2_e]
      by_cases h1 : n1 W 13 &&& 1 = 0
      · rw [if_pos h1, if_pos rfl, bc2_e, if_neg (fun h => h.2 h1)]
      · rw [if_neg h1, if_neg (show ¬ (1 : Int32) = 0 by decide), bd_e, zstart hq, bc_e, bc2_e, if_pos ⟨s10, h1⟩]
    · rw [if_neg (x32_ne hs t10 (by omega)), bc2_e, if_neg (fun h => s10 h.1)]
  · rw [if_neg h4, if_neg (show ¬ (1 : Int32) = 0 by decide), bc2_e, if_neg h4]
theorem r_admit1 (he : e < 2) {v1 : Int32} (hv : v1.toInt = (e : Int)) (H : SC g0 s0 a len N0 W σ ρ) (hst9 : ρ.1 9 v1.toNatClampNeg = Int32.ofNat st) (hst : st ≤ 10) (hfit : ftq (ρ.1 18 e) (ρ.1 19 e) (n4 W 4) (sp W len)) : m_admitted v1 ρ = if n1 W 13 &&& 4 = 0 then (if n1 W 13 &&& 2 = 0 then (if n1 W 13 &&& 16 = 0 then some (0, ρ) else if st = 3 then (if n4 W 8 = ρ.1 11 v1.toNatClampNeg + 1 then some (1, si ρ 9 e (Int32.ofNat 4)) else bc (m_answer v1 ρ) fun r => some (0, r)) else some (1, ρ)) else bc (m_sendAck v1 ρ) fun r => some (0, r)) else (if n4 W 4 = ρ.1 18 v1.toNatClampNeg then bc (m_broken v1 1 ρ) (fun r => some (0, r)) else bc (m_sendAck v1 ρ) fun r => some (0, r)) := by
  have hi := x32_in hv he
  have hcl := x32_n hv
  have hs : (Int32.ofNat st).toInt = (st : Int) := x32_nat (by omega)
  have t3 : (3 : Int32).toInt = 3 := by decide
  have h46 : ρ.1 0 46 = n4 W 4 := H.2.2.2.2.2.2.1
  have h47 : ρ.1 0 47 = n4 W 8 := H.2.2.2.2.2.2.2.1
  have h48 : ρ.1 0 48 = n1 W 13 := H.2.2.2.2.2.2.2.2.1
  have fin : ∀ (x : Option RS), (bc x fun r10 => gd ((0 : Int32) = 0 ∨ (0 : Int32) = 1) (some ((0 : Int32), r10))) = bc x fun r => some (0, r) := fun x => by cases x <;> rfl
  unfold m_admitted b_admitted_14 b_admitted_103
  rw [bd_e, h48, (rfits he hv H).1 hfit, bc2_e, bc2_e, if_neg (show ¬ (1 : Int32) = 0 by decide), if_neg (show ¬ (1 : Int32) = 0 by decide)]
  by_cases h4 : n1 W 13 &&& 4 = 0
  · rw [if_pos h4, if_pos h4, if_pos rfl, bd_e, h48]
    by_cases h2 : n1 W 13 &&& 2 = 0
    · rw [if_pos h2, if_pos h2, bd_e]
      by_cases h16 : n1 W 13 &&& 16 = 0
      · rw [if_pos h16, if_pos h16, gd_t z01_0]
      · rw [if_neg h16, if_neg h16, gd_t hi, bd_e, hst9]
        by_cases s3 : st = 3
        · rw [if_pos (x32_eq' hs t3 (by omega)), if_pos s3, bd_e, h47, gd_t hi, bd_e]
          by_cases ha : n4 W 8 = ρ.1 11 v1.toNatClampNeg + 1
          · rw [if_pos ha, if_pos ha, gd_t hi, bd_e, gd_t z01_1, hcl]; rfl
          · rw [if_neg ha, if_neg ha, fin]
        · rw [if_neg (x32_ne hs t3 (by omega)), if_neg s3, gd_t z01_1]
    · rw [if_neg h2, if_neg h2, fin]
  · rw [if_neg h4, if_neg h4, if_neg (show ¬ (1 : Int32) = 0 by decide), bd_e, h46, gd_t hi, bd_e]
    by_cases hr : n4 W 4 = ρ.1 18 v1.toNatClampNeg
    · rw [if_pos hr, if_pos hr, fin]
    · rw [if_neg hr, if_neg hr, fin]
theorem r_admit0 (he : e < 2) {v1 : Int32} (hv : v1.toInt = (e : Int)) (H : SC g0 s0 a len N0 W σ ρ) (hfit : ¬ ftq (ρ.1 18 e) (ρ.1 19 e) (n4 W 4) (sp W len)) : m_admitted v1 ρ = if n1 W 13 &&& 4 = 0 then (bc (m_sendAck v1 ρ) fun r => if r.1 9 v1.toNatClampNeg = 10 then (if r.1 0 48 &&& 1 = 0 then some (0, r) else some (0, sl r 33 e (r.2 0 3 + (4000 : Int64)))) else some (0, r)) else some (0, ρ) := by
  have hi := x32_in hv he
  have hcl := x32_n hv
  have h48 : ρ.1 0 48 = n1 W 13 := H.2.2.2.2.2.2.2.2.1
  have h32 : ∀ r, b_admitted_32 v1 0 r = if r.1 9 v1.toNatClampNeg = 10 then (if r.1 0 48 &&& 1 = 0 then some (0, r) else some (0, sl r 33 e (r.2 0 3 + (4000 : Int64)))) else some (0, r) := fun r => by
    unfold b_admitted_32 b_admitted_70
    rw [if_pos rfl, gd_t hi, bd_e, bd_e, bd_e, gd_t hi, bd_e, gd_t z01_0, gd_t z01_0, hcl]
  unfold m_admitted b_admitted_14
  rw [bd_e, h48, (rfits he hv H).2 hfit, bc2_e, bc2_e, if_pos rfl, if_pos rfl]
  by_cases h4 : n1 W 13 &&& 4 = 0
  · rw [if_pos h4, if_pos h4]
    cases m_sendAck v1 ρ with
    | none => rfl
    | some r => exact h32 r
  · have h1 : b_admitted_32 v1 1 ρ = some (0, ρ) := by
      unfold b_admitted_32 b_admitted_70
      rw [if_neg (show ¬ (1 : Int32) = 0 by decide), gd_t z01_0]
    rw [if_neg h4, if_neg h4]
    first
      | exact h1
      | (rw [if_neg (show ¬ (1 : Int32) = 0 by decide)]; exact h1)
theorem others_sim (hqe : q = 7 ∧ e = 0 ∨ q = 14 ∧ e = 1) (N : NB own P C S c1 c2 K σ ρ) (E : EE own q e σ ρ τ st u n m g U rn tr) (T : CT σ ρ τ) (H : SC g0 s0 a len N0 W σ ρ) (hC : C = [(g0, s0)]) {v1 : Int32} (hv : v1.toInt = (e : Int)) (hst : 3 ≤ st) (hK : K + 65536 ≤ 260000 + rl σ q) :
    ∃ σ' ρ' own' st' u' n' m' U' rn' tr' K', (bc2 (m_E_heedInOthers q g0 σ) fun x7 r6 => b_E_comes_71 q g0 x7 r6) = some σ' ∧ otR v1 ρ = some ρ' ∧ EE own' q e σ' ρ' τ st' u' n' m' g U' rn' tr' ∧ (∃ P' S' c1' c2', NB own' P' C S' c1' c2' K' σ' ρ') ∧ K' + rl σ q = K + rl σ' q ∧ ER own own' e σ σ' ρ ρ' := by
  have hq : q = 7 ∨ q = 14 := by omega
  have he : e < 2 := by omega
  have hi := x32_in hv he
  have hcl := x32_n hv
  have O := N.2.2.1
  have o3 : own 3 = 14 := O.2.2 3 (by decide)
  have h46 : ρ.1 0 46 = n4 W 4 := H.2.2.2.2.2.2.1
  have h47 : ρ.1 0 47 = n4 W 8 := H.2.2.2.2.2.2.2.1
  have h48 : ρ.1 0 48 = n1 W 13 := H.2.2.2.2.2.2.2.2.1
  have hst8 : cI σ q 8 = Int32.ofNat st := E.1.1.2.2.2.2.1
  have hst9 : ρ.1 9 v1.toNatClampNeg = Int32.ofNat st := by rw [hcl, E.1.1.2.2.2.1]; exact hst8
  have hst10 : st ≤ 10 := E.1.1.2.2.2.2.2.1
  have hs : (Int32.ofNat st).toInt = (st : Int) := x32_nat (by omega)
  have t10 : (10 : Int32).toInt = 10 := by decide
  have t3 : (3 : Int32).toInt = 3 := by decide
  have h18 : ρ.1 18 e = cI σ (q + 3) 1 := E.1.2.2.1.2.1
  have h19 : ρ.1 19 e = cI σ (q + 3) 2 := E.1.2.2.1.2.2.1
  have e11 : ρ.1 11 v1.toNatClampNeg = cI σ (q + 1) 4 := by rw [hcl]; exact E.1.2.1.2.1.1
  have nothing : ∀ (x : Int32), x = 0 → (∃ σ' ρ' own' st' u' n' m' U' rn' tr' K', b_E_comes_71 q g0 x σ = some σ' ∧ some ρ = some ρ' ∧ EE own' q e σ' ρ' τ st' u' n' m' g U' rn' tr' ∧ (∃ P' S' c1' c2', NB own' P' C S' c1' c2' K' σ' ρ') ∧ K' + rl σ q = K + rl σ' q ∧ ER own own' e σ σ' ρ ρ') := fun x hx => by
    subst hx
    exact ⟨σ, ρ, own, st, u, n, m, U, rn, tr, K, c71_0 0 (by decide) (by decide) (by decide) (by decide) (by decide) q g0 σ, rfl, E, ⟨P, S, c1, c2, N⟩, rfl, ER.rf own e σ ρ⟩
  have acking : ∃ σ' ρ' own', b_E_comes_71 q g0 2 σ = some σ' ∧ m_sendAck v1 ρ = some ρ' ∧ EE own' q e σ' ρ' τ st u n m g U rn tr ∧ EP K C own own' e σ σ' ρ ρ' := by
    obtain ⟨σ2, ρ2, o2, z1, z2, z3, z4, z5⟩ := ack_sim (f := 0) (num := cI σ (q + 1) 5) (v4 := 0) hqe N E.1 T.1 T.2.1 hv (Or.inl rfl)
    have e12 : ρ.1 12 e = cI σ (q + 1) 5 := by rw [E.1.2.1.2.2.1.1, E.1.2.1.2.2.1.2]
    refine ⟨σ2, ρ2, o2, ?_, ?_, ⟨z3, E.2.cg (by rw [(z5.1 (q + 1) (Or.inl rfl)).1]) (z5.2.2.2.1 3 (by omega)) (z4.2.2.2.1.1 40 (by omega))⟩, z4⟩
    · unfold b_E_comes_71 b_E_comes_152 m_E_sendAck
      rw [if_neg (by decide), if_pos rfl, gd_t hq, bd_e, z1, bc_e, bc_e]
    · unfold m_sendAck
      rw [gd_t hi, bd_e, show ρ.1 12 v1.toNatClampNeg = cI σ (q + 1) 5 by rw [hcl]; exact e12, z2, bc_e]
  have pack : ∀ {σ' : CS} {ρ' : RS} {own' : Nat → Nat} {st' u' n' m' U' tr' : Nat} {rn' : Int32}, EE own' q e σ' ρ' τ st' u' n' m' g U' rn' tr' → EP K C own own' e σ σ' ρ ρ' → (∃ σ'' ρ'' own' st' u' n' m' U' rn' tr' K', some σ' = some σ'' ∧ some ρ' = some ρ'' ∧ EE own' q e σ'' ρ'' τ st' u' n' m' g U' rn' tr' ∧ (∃ P' S' c1' c2', NB own' P' C S' c1' c2' K' σ'' ρ'') ∧ K' + rl σ q = K + rl σ'' q ∧ ER own own' e σ σ'' ρ ρ'') := fun h1 h2 =>
    ⟨_, _, _, _, _, _, _, _, _, _, K, rfl, rfl, h1, h2.1, by have : rl _ q = rl σ q := h2.rl E.1.2.2.1 hqe O; rw [this], h2.ER he⟩
  unfold m_E_heedInOthers otR
  rw [gd_t hq]
  by_cases hfit : ftq (cI σ (q + 3) 1) (cI σ (q + 3) 2) (n4 W 4) (sp W len)
  · rw [c_admit1 hq H hst8 hst10 hfit, r_admit1 he hv H hst9 hst10 (by rw [h18, h19]; exact hfit), e11, show ρ.1 18 v1.toNatClampNeg = cI σ (q + 3) 1 by rw [hcl]; exact h18]
    by_cases h4 : n1 W 13 &&& 4 = 0
    · rw [if_pos h4, if_pos h4]
      by_cases h2 : n1 W 13 &&& 2 = 0
      · rw [if_pos h2, if_pos h2]
        by_cases h16 : n1 W 13 &&& 16 = 0
        · rw [if_pos h16, if_pos h16, bc2_e, if_neg (show ¬ (0 : Int32) = 6 by decide), bc2_e, bc2_e, if_pos rfl]
          exact nothing 0 rfl
        · rw [if_neg h16, if_neg h16]
          by_cases s3 : st = 3
          · rw [if_pos s3, if_pos s3]
            subst s3
            have x3 := E.2.2.2.1 (Or.inr rfl)
            by_cases ha : n4 W 8 = cI σ (q + 1) 4 + 1
            · rw [if_pos ha, if_pos ha, bc2_e, if_pos rfl, bc2_e, if_neg (show ¬ (1 : Int32) = 0 by decide)]
              obtain ⟨z1, z2, z3⟩ := state_sim (st' := 4) hqe N E.1 (by omega) (by omega) (by
                have gg := E.1.2.2.2.2
                exact ⟨gg.1, gg.2.1, gg.2.2.1, gg.2.2.2.1, fun _ => gg.2.2.2.2 (by omega)⟩)
              have s2' := z2
              rw [hC] at s2'
              have r1 : rl (wi σ q 8 (Int32.ofNat 4)) q = rl σ q := z2.rl E.1.2.2.1 hqe O
              obtain ⟨σ', ρ', o', st', u', n', m', U', rn', tr', K', w1, w2, w3, w4, w5, w6⟩ := go_on hqe z3 z1 (T.ep z2 o3 he) (H.ep s2') hC h2 hv (by omega) (fun _ => by rw [wi_ne _ _ _ _ (by omega)]; exact x3.2.2.2.2) (fun _ => by rw [wi_ne _ _ _ _ (by omega)]; exact E.2.2.2.2.2.2.1 ⟨by omega, by omega⟩) (Or.inr ⟨by rw [wi_ne _ _ _ _ (by omega)]; exact ha, by omega⟩) (by rw [r1]; exact hK)
              exact ⟨σ', ρ', o', st', u', n', m', U', rn', tr', K', w1, w2, w3, w4, by rw [← r1]; exact w5, (z2.ER he).tr w6 he⟩
            · rw [if_neg ha, if_neg ha, bc2_e, if_neg (show ¬ (1 : Int32) = 6 by decide), bc2_e]
              obtain ⟨σ', ρ', o', y1, y2, y3, y4, y5, y6⟩ := answer_sim hqe N E.1 T H hv
              rw [if_pos h4] at y2
              unfold b_E_comes_71 b_E_comes_152
              rw [if_pos rfl, y1, bc_e, y2, bc_e, bc2_e, if_pos rfl]
              exact pack ⟨y3, E.2.cg (by rw [y5]) (by rw [y6]) (y4.2.2.2.1.1 40 (by omega))⟩ y4
          · rw [if_neg s3, if_neg s3, bc2_e, if_pos rfl, bc2_e, if_neg (show ¬ (1 : Int32) = 0 by decide)]
            exact go_on hqe N E.1 T H hC h2 hv (by omega) (fun h => E.2.2.2.2.2.1 h) (fun h => E.2.2.2.2.2.2.1 ⟨by omega, h⟩) (Or.inl (E.2.2.2.2.1 (by omega))) hK
      · rw [if_neg h2, if_neg h2, bc2_e, if_neg (show ¬ (2 : Int32) = 6 by decide), bc2_e]
        obtain ⟨σ', ρ', o', y1, y2, y3, y4⟩ := acking
        rw [y1, y2, bc_e, bc2_e, if_pos rfl]
        exact pack y3 y4
    · rw [if_neg h4, if_neg h4]
      by_cases hr : n4 W 4 = cI σ (q + 3) 1
      · rw [if_pos hr, if_pos hr]
        obtain ⟨σ', ρ', y1, y2, y3, y4, y5, y6⟩ := shut_sim (how := 1) hqe N E.1 hv (by omega) (Or.inr (Or.inl rfl))
        rw [y1, bc_e, bc2_e, if_neg (show ¬ (0 : Int32) = 6 by decide), bc2_e, c71_0 0 (by decide) (by decide) (by decide) (by decide) (by decide), y3 (by decide), bc_e, bc2_e, if_pos rfl]
        exact pack ⟨y4, y5⟩ y6
      · rw [if_neg hr, if_neg hr, bc2_e, if_neg (show ¬ (2 : Int32) = 6 by decide), bc2_e]
        obtain ⟨σ', ρ', o', y1, y2, y3, y4⟩ := acking
        rw [y1, y2, bc_e, bc2_e, if_pos rfl]
        exact pack y3 y4
  · rw [c_admit0 hq H hst8 hst10 hfit, r_admit0 he hv H (by rw [h18, h19]; exact hfit)]
    by_cases h4 : n1 W 13 &&& 4 = 0
    · rw [if_pos h4, if_pos h4]
      by_cases hl : st = 10 ∧ ¬ n1 W 13 &&& 1 = 0
      · rw [if_pos hl, bc2_e, if_neg (show ¬ (2 : Int32) = 6 by decide), bc2_e]
        obtain ⟨σ', ρ1, o', y1, y2, y3, y4, y5, y6, y7⟩ := linger_sim hqe N E T hv (by omega)
        have z9 : ρ1.1 9 v1.toNatClampNeg = 10 := by rw [hcl, y6, ← hcl, hst9, hl.1]; rfl
        have e4 : (4000 : Int64) = (4000 : Int32).toInt64 := by decide
        unfold b_E_comes_71 b_E_comes_152
        rw [if_neg (show ¬ (2 : Int32) = 1 by decide), if_pos rfl, y1, bc_e, y2, bc_e, if_pos z9, y7, h48, if_neg hl.2, bc2_e, if_pos rfl, y5, ← T.2.2.1, e4]
        exact pack y3 y4
      · rw [if_neg hl, bc2_e, if_neg (show ¬ (2 : Int32) = 6 by decide), bc2_e]
        obtain ⟨σ', ρ', o', y1, y2, y3, y4⟩ := acking
        have z9 : ρ'.1 9 v1.toNatClampNeg = Int32.ofNat st := by rw [hcl, y3.1.1.2.2.2.1]; exact y3.1.1.2.2.2.2.1
        have z48 : ρ'.1 0 48 = n1 W 13 := by rw [y4.2.2.2.1.2.2.2 48 (by omega) (by omega)]; exact h48
        rw [y1, y2, bc_e, z9, z48]
        by_cases s10 : st = 10
        · have h1 : n1 W 13 &&& 1 = 0 := Decidable.byContradiction fun h => hl ⟨s10, h⟩
          rw [if_pos (x32_eq' hs t10 (by omega)), if_pos h1, bc2_e, if_pos rfl]
          exact pack y3 y4
        · rw [if_neg (x32_ne hs t10 (by omega)), bc2_e, if_pos rfl]
          exact pack y3 y4
    · rw [if_neg h4, if_neg h4, bc2_e, if_neg (show ¬ (0 : Int32) = 6 by decide), bc2_e, bc2_e, if_pos rfl]
      exact nothing 0 rfl
end OT2
