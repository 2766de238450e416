/-! steps 3 and 4, and a segment that comes, both sides -/
section CM
variable {own : Nat → Nat} {P C : List (Nat × Nat)} {S : List Nat} {c1 c2 K q e : Nat} {σ : CS} {ρ : RS} {τ st u n m g U : Nat} {rn : Int32} {tr : Nat} {g0 s0 a len N0 : Nat} {W : Nat → Int32}
/-- a first SYN: from NXT = ISS -/
theorem syn_sim (hqe : q = 7 ∧ e = 0 ∨ q = 14 ∧ e = 1) (N : NB own P C S c1 c2 K σ ρ) (E : EG own q e σ ρ τ st 0 0 0 0 U rn tr) (T : CT σ ρ τ) {v1 : Int32} (hv : v1.toInt = (e : Int)) (hse : e = 0 ↔ st = 2) :
    ∃ σ' ρ1 ρ' own', m_E_sendFirstSyn q σ = some σ' ∧ m_send v1 2 (ρ.1 10 e) 0 0 ρ = some ρ1 ∧ ρ' = sl (si ρ1 12 e (ρ1.1 10 e + 1)) 33 e (ρ1.2 0 3 + (ρ1.1 23 e).toInt64) ∧ EG own' q e σ' ρ' τ st 0 1 1 0 U 1 tr ∧ EP K C own own' e σ σ' ρ ρ' ∧ cI σ' (q + 1) 8 = cI σ (q + 1) 8 ∧ cI σ' (q + 3) 3 = cI σ (q + 3) 3 := by
  have hq : q = 7 ∨ q = 14 := by omega
  have he : e < 2 := by omega
  have o3 : own 3 = 14 := N.2.2.1.2.2 3 (by decide)
  have i2 : inc 2 = 1 := by decide
  obtain ⟨σ1, ρ1, o1, y1, y2, y3, y4, y5⟩ := sendNext_sim (f := 2) (nn := 0) (v4 := 0) (k := 0) (b := 1) hqe N E T.1 T.2.1 T.2.2.1 T.2.2.2.1 hv (by decide) (by omega) (Or.inl rfl) (Or.inr (Or.inr ⟨rfl, rfl, hse⟩)) (by omega) (by omega) (fun _ => by omega)
  have e10 : ρ.1 12 e = ρ.1 10 e := by
    rw [E.2.1.2.2.1.1, E.2.1.1]; show cI σ (q + 1) 3 + 0 = _; grind
  rw [e10] at y2
  obtain ⟨Pa, Sa, ca, cb, N1⟩ := y4.1
  have T1 := T.ep y4 o3 he
  obtain ⟨⟨a1, r, r1, r2, r3⟩, _⟩ := y3.2.2.2.1
  obtain ⟨s1, s2, s3⟩ := start_sim (t := cJ σ1 3 0) (w := cI σ1 (q + 5) 0) hqe N1 y3 r3 r2 T1.2.2.2.1 T1.2.2.2.2
  have f12 : ρ1.1 10 e + 1 = cI σ (q + 1) 3 + Int32.ofNat 1 := by
    rw [y5.2.2.2.2.2.2.2.1 10 (by omega) (by omega) (by omega) (by omega) (by omega) (by omega), E.2.1.1]; rfl
  have f23 : ρ1.1 23 e = cI σ1 (q + 5) 0 := by
    have := a1
    rw [si_ne _ _ _ _ (by omega)] at this
    exact this
  have f03 : ρ1.2 0 3 = cJ σ1 3 0 := by
    have := T1.2.2.1
    rw [this]; rfl
  refine ⟨wl (wi σ1 (q + 5) 2 1) (q + 5) 3 (cJ σ1 3 0 + (cI σ1 (q + 5) 0).toInt64), ρ1, sl (si ρ1 12 e (ρ1.1 10 e + 1)) 33 e (ρ1.2 0 3 + (ρ1.1 23 e).toInt64), o1, ?_, y2, rfl, ?_, ?_, ?_, ?_⟩
  · unfold m_E_sendFirstSyn
    rw [gd_t hq, y1, bc_e, bd_e, bd_e, zstart hq, bc_e]
  · rw [f12, f23, f03]
    exact s1
  · rw [f12, f23, f03]
    exact y4.tr s2
  · rw [s3.2.2.2.1 8 (by omega) (by omega), y5.2.2.2.2.1 8 (by omega) (by omega)]
  · rw [s3.2.1 3 (by omega), y5.2.2.1 3 (by omega)]
abbrev EnC (own : Nat → Nat) (q e : Nat) (τ g K : Nat) (C : List (Nat × Nat)) (σ : CS) (ρ : RS) (x : Option CS) (y : Option RS) : Prop := ∃ σ' ρ' own' st' u' n' m' U' rn' tr' K', x = some σ' ∧ y = some ρ' ∧ EE own' q e σ' ρ' τ st' u' n' m' g U' rn' tr' ∧ (∃ P' S' c1' c2', NB own' P' C S' c1' c2' K' σ' ρ') ∧ K' + rl σ q = K + rl σ' q ∧ ER own own' e σ σ' ρ ρ'
theorem enC {own' : Nat → Nat} {σ' : CS} {ρ' : RS} {st' u' n' m' U' tr' : Nat} {rn' : Int32} {x : Option CS} {y : Option RS} (hqe : q = 7 ∧ e = 0 ∨ q = 14 ∧ e = 1) (G : G3 own q e σ ρ U) (O : Ow own σ) (hx : x = some σ') (hy : y = some ρ') (h1 : EE own' q e σ' ρ' τ st' u' n' m' g U' rn' tr') (h2 : EP K C own own' e σ σ' ρ ρ') : EnC own q e τ g K C σ ρ x y :=
  ⟨_, _, _, _, _, _, _, _, _, _, K, hx, hy, h1, h2.1, by have : rl σ' q = rl σ q := h2.rl G hqe O; rw [this], h2.ER (by omega)⟩
theorem listen_sim (hqe : q = 7 ∧ e = 0 ∨ q = 14 ∧ e = 1) (N : NB own P C S c1 c2 K σ ρ) (E : EE own q e σ ρ τ 1 u n m g U rn tr) (T : CT σ ρ τ) (H : SC g0 s0 a len N0 W σ ρ) (hC : C = [(g0, s0)]) {v1 : Int32} (hv : v1.toInt = (e : Int)) :
    EnC own q e τ g K C σ ρ (bc2 (m_E_heedInListen q g0 σ) fun x7 r6 => b_E_comes_71 q g0 x7 r6) (m_listened v1 ρ) := by
  have hq : q = 7 ∨ q = 14 := by omega
  have he : e < 2 := by omega
  have hi := x32_in hv he
  have hcl := x32_n hv
  have O := N.2.2.1
  have o3 : own 3 = 14 := O.2.2 3 (by decide)
  have h48 : ρ.1 0 48 = n1 W 13 := H.2.2.2.2.2.2.2.2.1
  obtain ⟨E, X⟩ := E
  obtain ⟨x1, x2, x3, x4, x5, x6, x7, x8, x9⟩ := X
  obtain ⟨u0, n0, m0, g0', cl0⟩ := x2 rfl
  subst u0 n0 m0 g0'
  obtain ⟨U0, kp0⟩ := x7 (Or.inl rfl)
  subst U0
  have he1 : e = 1 := by
    rcases hqe with ⟨_, h⟩ | ⟨_, h⟩
    · exact absurd rfl (x8 h).1
    · exact h
  have ft0 : cI σ (q + 3) 3 = 0 := x6 ⟨by omega, by omega⟩
  have X : XQ q e σ ρ 1 0 0 0 0 0 rn := ⟨x1, x2, x3, x4, x5, x6, x7, x8, x9⟩
  have hcc : (bc2 (m_E_heedInListen q g0 σ) fun x7 r6 => b_E_comes_71 q g0 x7 r6) = if n1 W 13 &&& 4 = 0 then (if n1 W 13 &&& 16 = 0 then (if n1 W 13 &&& 2 = 0 then some σ else bc (m_E_heedSyn q g0 σ) fun r7 => bc (m_E_sendFirstSyn q (wi r7 q 8 (Int32.ofNat 3))) some) else bc (m_E_answer q g0 σ) some) else some σ := by
    unfold m_E_heedInListen
    rw [gd_t hq, gd_t H.kd, H.has 4, bc2_e]
    by_cases h4 : n1 W 13 &&& 4 = 0
    · rw [if_pos h4, if_pos rfl, if_pos h4, gd_t H.kd, H.has 16, bc2_e]
      by_cases h16 : n1 W 13 &&& 16 = 0
      · rw [if_pos h16, if_pos rfl, if_pos h16, gd_t H.kd, H.has 2, bc2_e]
        by_cases h2 : n1 W 13 &&& 2 = 0
        · rw [if_pos h2, if_pos rfl, if_pos h2, bc2_e, c71_0 0 (by decide) (by decide) (by decide) (by decide) (by decide)]
        · rw [if_neg h2, if_neg (show ¬ (1 : Int32) = 0 by decide), if_neg h2]
          cases m_E_heedSyn q g0 σ with
          | none => rfl
          | some r7 =>
            rw [bc_e, bc_e, bd_e, bc2_e]
            unfold b_E_comes_71 b_E_comes_152
            rw [if_neg (by decide), if_neg (by decide), if_pos rfl]
            rfl
      · rw [if_neg h16, if_neg (show ¬ (1 : Int32) = 0 by decide), if_neg h16, bc2_e]
        unfold b_E_comes_71 b_E_comes_152
        rw [if_pos rfl]
    · rw [if_neg h4, if_neg (show ¬ (1 : Int32) = 0 by decide), if_neg h4, bc2_e, c71_0 0 (by decide) (by decide) (by decide) (by decide) (by decide)]
  have hrr : m_listened v1 ρ = if n1 W 13 &&& 4 = 0 then (if n1 W 13 &&& 16 = 0 then (if n1 W 13 &&& 2 = 0 then some ρ else bc (m_known v1 ρ) fun r4 => bc (m_send v1 2 ((si r4 9 e (Int32.ofNat 3)).1 10 e) 0 0 (si r4 9 e (Int32.ofNat 3))) fun r7 => some (sl (si r7 12 e (r7.1 10 e + 1)) 33 e (r7.2 0 3 + (r7.1 23 e).toInt64))) else bc (m_answer v1 ρ) some) else some ρ := by
    unfold m_listened
    rw [bd_e, h48, bd_e, bd_e]
    by_cases h4 : n1 W 13 &&& 4 = 0
    · rw [if_pos h4, if_pos h4]
      by_cases h16 : n1 W 13 &&& 16 = 0
      · rw [if_pos h16, if_pos h16]
        by_cases h2 : n1 W 13 &&& 2 = 0
        · rw [if_pos h2, if_pos h2]
        · rw [if_neg h2, if_neg h2]
          cases m_known v1 ρ with
          | none => rfl
          | some r4 =>
            rw [bc_e, bc_e, gd_t hi, bd_e, gd_t hi, bd_e, ← hcl]
            show (bc (m_send v1 2 ((si r4 9 v1.toNatClampNeg 3).1 10 v1.toNatClampNeg) 0 0 (si r4 9 v1.toNatClampNeg 3)) _) = bc (m_send v1 2 ((si r4 9 v1.toNatClampNeg 3).1 10 v1.toNatClampNeg) 0 0 (si r4 9 v1.toNatClampNeg 3)) _
            cases m_send v1 2 ((si r4 9 v1.toNatClampNeg 3).1 10 v1.toNatClampNeg) 0 0 (si r4 9 v1.toNatClampNeg 3) with
            | none => rfl
            | some r7 =>
              rw [bc_e, bc_e, gd_t hi, bd_e, gd_t hi, bd_e, bd_e, gd_t hi, bd_e, gd_t hi, bd_e, si_ne _ _ _ _ (by omega : (23 : Nat) ≠ 12 ∨ v1.toNatClampNeg ≠ v1.toNatClampNeg), si_2]
      · rw [if_neg h16, if_neg h16]
    · rw [if_neg h4, if_neg h4]
  rw [hcc, hrr]
  by_cases h4 : n1 W 13 &&& 4 = 0
  · rw [if_pos h4, if_pos h4]
    by_cases h16 : n1 W 13 &&& 16 = 0
    · rw [if_pos h16, if_pos h16]
      by_cases h2 : n1 W 13 &&& 2 = 0
      · rw [if_pos h2, if_pos h2]
        exact enC hqe E.2.2.1 O rfl rfl ⟨E, X⟩ (EP.wr N fr.rf he rfl (RF.rf e ρ) (fun _ _ _ => rfl) rfl rfl).1
      · rw [if_neg h2, if_neg h2]
        obtain ⟨σ1, ρ1, y1, y2, y3, y4, y5, y6, y7, y8, y9, y10⟩ := known_sim hqe N E H hC hv kp0 ft0 h2
        obtain ⟨z1, z2, z3⟩ := state_sim (st' := 3) hqe y6 y3 (by omega) (by omega) (y4 3)
        have T2 := (T.ep y5 o3 he).ep z2 o3 he
        obtain ⟨σ', ρa, ρ', o', w1, w2, w3, w4, w5, w6, w7⟩ := syn_sim hqe z3 z1 T2 hv (by omega)
        refine enC (own' := o') (σ' := σ') (ρ' := ρ') hqe E.2.2.1 O (by rw [y1, bc_e, w1, bc_e]) (by rw [y2, bc_e, w2, bc_e, w3]) ⟨w4, ?_⟩ ((y5.tr z2).tr w5)
        have c8 : cI σ' (q + 1) 8 = 0 := by rw [w6, wi_ne _ _ _ _ (by omega), y7]; exact cl0
        have c3 : cI σ' (q + 3) 3 = 0 := by rw [w7, wi_ne _ _ _ _ (by omega), y8]; exact ft0
        unfold XQ XX
        exact ⟨fun h => by omega, fun h => by omega, fun _ => ⟨rfl, rfl, rfl, rfl, c8⟩, fun h => by omega, fun h => by omega, fun _ => c3, fun h => by omega, fun h => by omega, fun _ => by omega⟩
    · rw [if_neg h16, if_neg h16]
      obtain ⟨σ', ρ', o', y1, y2, y3, y4, y5, y6⟩ := answer_sim hqe N E T H hv
      rw [if_pos h4] at y2
      rw [y1, y2, bc_e, bc_e]
      exact enC hqe E.2.2.1 O rfl rfl ⟨y3, X.cg (by rw [y5]) (by rw [y6]) (y4.2.2.2.1.1 40 (by omega))⟩ y4
  · rw [if_neg h4, if_neg h4]
    exact enC hqe E.2.2.1 O rfl rfl ⟨E, X⟩ (EP.wr N fr.rf he rfl (RF.rf e ρ) (fun _ _ _ => rfl) rfl rfl).1
theorem called_sim (hqe : q = 7 ∧ e = 0 ∨ q = 14 ∧ e = 1) (N : NB own P C S c1 c2 K σ ρ) (E : EE own q e σ ρ τ 2 u n m g U rn tr) (T : CT σ ρ τ) (H : SC g0 s0 a len N0 W σ ρ) (hC : C = [(g0, s0)]) {v1 : Int32} (hv : v1.toInt = (e : Int)) :
    EnC own q e τ g K C σ ρ (bc2 (m_E_heedInSynSent q g0 σ) fun x7 r6 => b_E_comes_71 q g0 x7 r6) (m_called v1 ρ) := by
  have hq : q = 7 ∨ q = 14 := by omega
  have he : e < 2 := by omega
  have hi := x32_in hv he
  have hcl := x32_n hv
  have O := N.2.2.1
  have hoq := own_q hqe O
  have o3 : own 3 = 14 := O.2.2 3 (by decide)
  have h47 : ρ.1 0 47 = n4 W 8 := H.2.2.2.2.2.2.2.1
  have h48 : ρ.1 0 48 = n1 W 13 := H.2.2.2.2.2.2.2.2.1
  obtain ⟨E, X⟩ := E
  obtain ⟨x1, x2, x3, x4, x5, x6, x7, x8, x9⟩ := X
  obtain ⟨u0, n0, m0, g0', cl0⟩ := x3 (Or.inl rfl)
  subst u0 n0 m0 g0'
  obtain ⟨U0, kp0⟩ := x7 (Or.inr rfl)
  subst U0
  have ft0 : cI σ (q + 3) 3 = 0 := x6 ⟨by omega, by omega⟩
  have X : XQ q e σ ρ 2 0 1 1 0 0 rn := ⟨x1, x2, x3, x4, x5, x6, x7, x8, x9⟩
  have e10 : ρ.1 10 e = cI σ (q + 1) 3 := E.2.1.1
  have nothing : EnC own q e τ 0 K C σ ρ (some σ) (some ρ) := enC hqe E.2.2.1 O rfl rfl ⟨E, X⟩ (EP.wr N fr.rf he rfl (RF.rf e ρ) (fun _ _ _ => rfl) rfl rfl).1
  have hcc : (bc2 (m_E_heedInSynSent q g0 σ) fun x7 r6 => b_E_comes_71 q g0 x7 r6) = if ¬ n1 W 13 &&& 16 = 0 ∧ ¬ n4 W 8 = cI σ (q + 1) 3 + 1 then bc (m_E_answer q g0 σ) some else if ¬ n1 W 13 &&& 4 = 0 then (if n1 W 13 &&& 16 = 0 then some σ else m_E_shut q 1 σ) else if n1 W 13 &&& 16 = 0 ∨ n1 W 13 &&& 2 = 0 then some σ else (bc (m_U_acknowledge (q + 1) (n4 W 8) σ) fun r7 => bc (m_E_heedSyn q g0 r7) fun r8 => bc2 (gd (kd (wi r8 (q + 5) 2 0) g0 = 11) <| m_G_ack g0 (wi r8 (q + 5) 2 0)) fun x11 r10 => bc (m_Z_heedAck (q + 5) x11 (cJ r10 3 0) r10) fun r13 => bc2 (m_E_output q (wi (wi r13 (q + 5) 1 0) q 8 (Int32.ofNat 4))) fun x7 r6 => if x7 = 0 then (bc (m_E_sendAck q r6) fun r8 => some r8) else (some r6)) := by
    unfold m_E_heedInSynSent b_E_heedInSynSent_29 b_E_heedInSynSent_46 b_E_heedInSynSent_60
    rw [gd_t hq, gd_t H.kd, H.has 16, bc2_e]
    have last : ∀ v2 : Int32, v2 = (if n1 W 13 &&& 16 = 0 then 0 else 1) → (bc2 (gd (kd σ g0 = 11) <| bc2 (m_G_has g0 (4 : Int32) σ) fun x2 r1 => if x2 = 0 then (if v2 = 0 then (some ((0 : Int32), r1)) else (gd (kd r1 g0 = 11) <| bc2 (m_G_has g0 (2 : Int32) r1) fun x4 r3 => if x4 = 0 then (some ((0 : Int32), r3)) else (gd (kd r3 g0 = 11) <| bc2 (m_G_ack g0 r3) fun x6 r5 => bc (m_U_acknowledge (q + 1) x6 r5) fun r7 => bc (m_E_heedSyn q g0 r7) fun r8 => gd ((0 : Int32) = 0 ∨ (0 : Int32) = 1) <| bd (wi r8 (q + 5) 2 (0 : Int32)) fun r9 => gd (kd r9 g0 = 11) <| bc2 (m_G_ack g0 r9) fun x11 r10 => bd (cJ r10 3 0) fun x12 => bc (m_Z_heedAck (q + 5) x11 x12 r10) fun r13 => bd (wi r13 (q + 5) 1 (0 : Int32)) fun r14 => bd (wi r14 q 8 (4 : Int32)) fun r15 => some ((5 : Int32), r15)))) else (if v2 = 0 then (some ((0 : Int32), r1)) else (bc (m_E_shut q (1 : Int32) r1) fun r16 => some ((0 : Int32), r16)))) fun x7 r6 => b_E_comes_71 q g0 x7 r6) = if ¬ n1 W 13 &&& 4 = 0 then (if n1 W 13 &&& 16 = 0 then some σ else m_E_shut q 1 σ) else if n1 W 13 &&& 16 = 0 ∨ n1 W 13 &&& 2 = 0 then some σ else (bc (m_U_acknowledge (q + 1) (n4 W 8) σ) fun r7 => bc (m_E_heedSyn q g0 r7) fun r8 => bc2 (gd (kd (wi r8 (q + 5) 2 0) g0 = 11) <| m_G_ack g0 (wi r8 (q + 5) 2 0)) fun x11 r10 => bc (m_Z_heedAck (q + 5) x11 (cJ r10 3 0) r10) fun r13 => bc2 (m_E_output q (wi (wi r13 (q + 5) 1 0) q 8 (Int32.ofNat 4))) fun x7 r6 => if x7 = 0 then (bc (m_E_sendAck q r6) fun r8 => some r8) else (some r6)) := by
      intro v2 hv2
      rw [gd_t H.kd, H.has 4, bc2_e]
      by_cases h4 : n1 W 13 &&& 4 = 0
      · rw [if_pos h4, if_pos rfl, if_neg (show ¬ ¬ n1 W 13 &&& 4 = 0 from fun h => h h4)]
        by_cases h16 : n1 W 13 &&& 16 = 0
        · rw [if_pos h16] at hv2
          rw [if_pos hv2, if_pos (Or.inl h16), bc2_e, c71_0 0 (by decide) (by decide) (by decide) (by decide) (by decide)]
        · rw [if_neg h16] at hv2
          rw [if_neg (show ¬ v2 = 0 by rw [hv2]; decide), gd_t H.kd, H.has 2, bc2_e]
          by_cases h2 : n1 W 13 &&& 2 = 0
          · rw [if_pos h2, if_pos rfl, if_pos (Or.inr h2), bc2_e, c71_0 0 (by decide) (by decide) (by decide) (by decide) (by decide)]
          · rw [if_neg h2, if_neg (show ¬ (1 : Int32) = 0 by decide), if_neg (show ¬ (n1 W 13 &&& 16 = 0 ∨ n1 W 13 &&& 2 = 0) from fun h => h.elim h16 h2), gd_t H.kd, H.ack, bc2_e]
            cases m_U_acknowledge (q + 1) (n4 W 8) σ with
            | none => rfl
            | some r7 =>
              rw [bc_e, bc_e]
              cases m_E_heedSyn q g0 r7 with
              | none => rfl
              | some r8 =>
                rw [bc_e, bc_e, gd_t z01_0, bd_e]
                by_cases hk : kd (wi r8 (q + 5) 2 0) g0 = 11
                · rw [gd_t hk, gd_t hk]
                  cases m_G_ack g0 (wi r8 (q + 5) 2 0) with
                  | none => rfl
                  | some y =>
                    obtain ⟨y1, y2⟩ := y
                    rw [bc2_e, bc2_e, bd_e]
                    cases m_Z_heedAck (q + 5) y1 (cJ y2 3 0) y2 with
                    | none => rfl
                    | some r13 =>
                      rw [bc_e, bc_e, bd_e, bd_e, bc2_e]
                      unfold b_E_comes_71 b_E_comes_152
                      rw [if_neg (by decide), if_neg (by decide), if_neg (by decide), if_neg (by decide), if_pos rfl]
                      rfl
                · unfold gd
                  rw [if_neg hk, if_neg hk]; rfl
      · rw [if_neg h4, if_neg (show ¬ (1 : Int32) = 0 by decide), if_pos h4]
        by_cases h16 : n1 W 13 &&& 16 = 0
        · rw [if_pos h16] at hv2
          rw [if_pos hv2, if_pos h16, bc2_e, c71_0 0 (by decide) (by decide) (by decide) (by decide) (by decide)]
        · rw [if_neg h16] at hv2
          rw [if_neg (show ¬ v2 = 0 by rw [hv2]; decide), if_neg h16]
          cases m_E_shut q 1 σ with
          | none => rfl
          | some r => rw [bc_e, bc2_e, c71_0 0 (by decide) (by decide) (by decide) (by decide) (by decide)]
    by_cases h16 : n1 W 13 &&& 16 = 0
    · rw [if_pos h16, if_pos rfl, if_neg (show ¬ (¬ n1 W 13 &&& 16 = 0 ∧ ¬ n4 W 8 = cI σ (q + 1) 3 + 1) from fun h => h.1 h16)]
      exact last 0 (by rw [if_pos h16])
    · rw [if_neg h16, if_neg (show ¬ (1 : Int32) = 0 by decide), gd_t H.kd, H.ack, bc2_e, bd_e]
      by_cases ha : n4 W 8 = cI σ (q + 1) 3 + 1
      · rw [if_pos ha, if_neg (show ¬ (¬ n1 W 13 &&& 16 = 0 ∧ ¬ n4 W 8 = cI σ (q + 1) 3 + 1) from fun h => h.2 ha)]
        exact last 1 (by rw [if_neg h16])
      · rw [if_neg ha, if_pos (show ¬ n1 W 13 &&& 16 = 0 ∧ ¬ n4 W 8 = cI σ (q + 1) 3 + 1 from ⟨h16, ha⟩), bc2_e]
        unfold b_E_comes_71 b_E_comes_152
        rw [if_pos rfl]
  have hrr : m_called v1 ρ = if ¬ n1 W 13 &&& 16 = 0 ∧ ¬ n4 W 8 = cI σ (q + 1) 3 + 1 then (if n1 W 13 &&& 4 = 0 then bc (m_answer v1 ρ) some else some ρ) else if ¬ n1 W 13 &&& 4 = 0 then (if n1 W 13 &&& 16 = 0 then some ρ else m_broken v1 1 ρ) else if n1 W 13 &&& 16 = 0 ∨ n1 W 13 &&& 2 = 0 then some ρ else (bc (m_known v1 (si ρ 11 e (n4 W 8))) fun r4 => bc (m_measured v1 (r4.1 0 47) (sl r4 33 e (-1))) fun r7 => bc2 (m_output v1 (si (si r7 24 e 0) 9 e (Int32.ofNat 4))) fun x11 r10 => if x11 = 0 then (bc (m_sendAck v1 r10) fun r12 => some r12) else (some r10)) := by
    have l60 : ∀ v2 v3 : Int32, v2 = (if n1 W 13 &&& 16 = 0 then 0 else 1) → v3 = (if n1 W 13 &&& 4 = 0 then 0 else 1) → b_called_60 v1 v2 v3 ρ = if ¬ n1 W 13 &&& 4 = 0 then (if n1 W 13 &&& 16 = 0 then some ρ else m_broken v1 1 ρ) else if n1 W 13 &&& 16 = 0 ∨ n1 W 13 &&& 2 = 0 then some ρ else (bc (m_known v1 (si ρ 11 e (n4 W 8))) fun r4 => bc (m_measured v1 (r4.1 0 47) (sl r4 33 e (-1))) fun r7 => bc2 (m_output v1 (si (si r7 24 e 0) 9 e (Int32.ofNat 4))) fun x11 r10 => if x11 = 0 then (bc (m_sendAck v1 r10) fun r12 => some r12) else (some r10)) := by
      intro v2 v3 hv2 hv3
      unfold b_called_60 b_called_74 b_called_88 b_called_149
      by_cases h4 : n1 W 13 &&& 4 = 0
      · rw [if_pos h4] at hv3
        rw [if_pos hv3, if_neg (show ¬ ¬ n1 W 13 &&& 4 = 0 from fun h => h h4)]
        by_cases h16 : n1 W 13 &&& 16 = 0
        · rw [if_pos h16] at hv2
          rw [if_pos hv2, if_pos (Or.inl h16)]
        · rw [if_neg h16] at hv2
          rw [if_neg (show ¬ v2 = 0 by rw [hv2]; decide), bd_e, h48]
          by_cases h2 : n1 W 13 &&& 2 = 0
          · rw [if_pos h2, if_pos (Or.inr h2)]
          · rw [if_neg h2, if_neg (show ¬ (n1 W 13 &&& 16 = 0 ∨ n1 W 13 &&& 2 = 0) from fun h => h.elim h16 h2), bd_e, h47, gd_t hi, bd_e, ← hcl]
            cases m_known v1 (si ρ 11 v1.toNatClampNeg (n4 W 8)) with
            | none => rfl
            | some r4 =>
              rw [bc_e, bc_e, gd_t hi, bd_e, bd_e, sl_1]
              cases m_measured v1 (r4.1 0 47) (sl r4 33 v1.toNatClampNeg (-1)) with
              | none => rfl
              | some r7 =>
                rw [bc_e, bc_e, gd_t hi, bd_e, gd_t hi, bd_e]
                rfl
      · rw [if_neg h4] at hv3
        rw [if_neg (show ¬ v3 = 0 by rw [hv3]; decide), if_pos (show ¬ n1 W 13 &&& 4 = 0 from h4)]
        by_cases h16 : n1 W 13 &&& 16 = 0
        · rw [if_pos h16] at hv2
          rw [if_pos hv2, if_pos h16]
        · rw [if_neg h16] at hv2
          rw [if_neg (show ¬ v2 = 0 by rw [hv2]; decide), if_neg h16]
          cases m_broken v1 1 ρ <;> rfl
    have l15 : ∀ v2 : Int32, v2 = (if n1 W 13 &&& 16 = 0 then 0 else 1) → b_called_15 v1 v2 ρ = b_called_30 v1 v2 (if n1 W 13 &&& 4 = 0 then 0 else 1) ρ := fun v2 _ => by
      unfold b_called_15
      rw [bd_e, h48]
      split <;> rfl
    unfold m_called
    rw [bd_e, h48]
    by_cases h16 : n1 W 13 &&& 16 = 0
    · rw [if_pos h16, l15 0 (by rw [if_pos h16]), if_neg (show ¬ (¬ n1 W 13 &&& 16 = 0 ∧ ¬ n4 W 8 = cI σ (q + 1) 3 + 1) from fun h => h.1 h16)]
      unfold b_called_30
      rw [if_pos rfl]
      exact l60 0 _ (by rw [if_pos h16]) rfl
    · rw [if_neg h16, l15 1 (by rw [if_neg h16])]
      unfold b_called_30 b_called_59
      rw [if_neg (show ¬ (1 : Int32) = 0 by decide), bd_e, h47, gd_t hi, bd_e, show ρ.1 10 v1.toNatClampNeg = cI σ (q + 1) 3 by rw [hcl]; exact e10]
      by_cases ha : n4 W 8 = cI σ (q + 1) 3 + 1
      · rw [if_pos ha, if_neg (show ¬ (¬ n1 W 13 &&& 16 = 0 ∧ ¬ n4 W 8 = cI σ (q + 1) 3 + 1) from fun h => h.2 ha)]
        exact l60 1 _ (by rw [if_neg h16]) rfl
      · rw [if_neg ha, if_pos (show ¬ n1 W 13 &&& 16 = 0 ∧ ¬ n4 W 8 = cI σ (q + 1) 3 + 1 from ⟨h16, ha⟩)]
        by_cases h4 : n1 W 13 &&& 4 = 0
        · rw [if_pos h4, if_pos rfl, if_pos h4]
        · rw [if_neg h4, if_neg (show ¬ (1 : Int32) = 0 by decide), if_neg h4]
  rw [hcc, hrr]
  by_cases hA : ¬ n1 W 13 &&& 16 = 0 ∧ ¬ n4 W 8 = cI σ (q + 1) 3 + 1
  · rw [if_pos hA, if_pos hA]
    obtain ⟨σ', ρ', o', y1, y2, y3, y4, y5, y6⟩ := answer_sim hqe N E T H hv
    have y2' : (if n1 W 13 &&& 4 = 0 then bc (m_answer v1 ρ) some else some ρ) = some ρ' := by
      rw [← y2]
      split
      · cases m_answer v1 ρ <;> rfl
      · rfl
    rw [y1, bc_e, y2']
    exact enC hqe E.2.2.1 O rfl rfl ⟨y3, X.cg (by rw [y5]) (by rw [y6]) (y4.2.2.2.1.1 40 (by omega))⟩ y4
  rw [if_neg hA, if_neg hA]
  by_cases h4 : n1 W 13 &&& 4 = 0
  · rw [if_neg (show ¬ ¬ n1 W 13 &&& 4 = 0 from fun h => h h4), if_neg (show ¬ ¬ n1 W 13 &&& 4 = 0 from fun h => h h4)]
    by_cases hN : n1 W 13 &&& 16 = 0 ∨ n1 W 13 &&& 2 = 0
    · rw [if_pos hN, if_pos hN]
      exact nothing
    · rw [if_neg hN, if_neg hN]
      have h2 : ¬ n1 W 13 &&& 2 = 0 := fun h => hN (Or.inr h)
      have ha : n4 W 8 = cI σ (q + 1) 3 + Int32.ofNat 1 := Decidable.byContradiction fun h => hA ⟨fun h' => hN (Or.inl h'), h⟩
      -- acknowledged
      obtain ⟨σ1, z1, z2, z3, z4, z5, z6⟩ := ackn (ak := n4 W 8) (a := 1) hqe O E.2.1 ha (by omega) (by omega) (by omega) T.2.1
      rw [if_pos (by omega)] at z2
      have r1 : ∀ r j, r ≠ 11 → (si ρ 11 e (n4 W 8)).1 r j = ρ.1 r j := fun r j x => si_ne _ _ _ _ (by omega)
      obtain ⟨P1, N1⟩ := EP.wr N (fr_end z3 hoq.2.1) he (by rw [z4]) (RF.si ρ (n4 W 8) (by omega) (by omega)) (fun r _ _ => funext fun j => r1 r j (by omega)) (r1 0 5 (by omega)) (r1 0 10 (by omega))
      have E1 : EG own q e σ1 (si ρ 11 e (n4 W 8)) τ 2 1 1 1 0 0 rn tr := E.at1 hqe O z3 (fun r _ b _ _ => funext fun j => r1 r j (by omega)) rfl (r1 0 4 (by omega)) z2
      have s1' := P1
      rw [hC] at s1'
      have H1 := H.ep s1'
      -- the SYN
      obtain ⟨σ2, ρ2, y1, y2, y3, y4, y5, y6, y7, y8, y9, y10⟩ := known_sim hqe N1 E1 H1 hC hv (by rw [show (si ρ 11 e (n4 W 8)).1 40 = ρ.1 40 from funext fun j => r1 40 j (by omega)]; exact kp0) (by rw [(z3 (q + 3) (by omega)).1]; exact ft0) h2
      -- the timer stops
      obtain ⟨E3, P3, N3⟩ := stop_sim hqe y6 y3
      have T3 := ((T.ep P1 o3 he).ep y5 o3 he).ep P3 o3 he
      have s2' := y5
      rw [hC] at s2'
      have s3' := P3
      rw [hC] at s3'
      have H3 := (H1.ep s2').ep s3'
      -- measured
      obtain ⟨σ4, ρ4, w1, w2, w3, w4, w5, w6, w7, w8⟩ := measured_sim hqe E3.2.2.2.1 T3.2.2.1 T3.2.2.2.1 T3.2.2.2.2 hv (n4 W 8)
      obtain ⟨P4, N4⟩ := EP.wr N3 (fr_end w4 hoq.2.2.2.1) he (by rw [w5]) w8 (fun r a b => w6 r (by omega) (by omega) (by omega) (by omega)) (by rw [w6 0 (by omega) (by omega) (by omega) (by omega)]) (by rw [w6 0 (by omega) (by omega) (by omega) (by omega)])
      have E4 := E3.at5 hqe N3.2.2.1 w4 (fun r a b c => w6 r (by omega) (by omega) (by omega) c) (by rw [w6 0 (by omega) (by omega) (by omega) (by omega)]) w3
      -- tries
      have F5 : fr (fun x => x ≠ q + 5) σ4 (wi σ4 (q + 5) 1 0) := fr_wi _ _ _ _
      have r5 : ∀ r j, r ≠ 24 → (si ρ4 24 e 0).1 r j = ρ4.1 r j := fun r j x => si_ne _ _ _ _ (by omega)
      obtain ⟨P5, N5⟩ := EP.wr N4 (fr_end F5 hoq.2.2.2.1) he rfl (RF.si ρ4 0 (by omega) (by omega)) (fun r _ _ => funext fun j => r5 r j (by omega)) (r5 0 5 (by omega)) (r5 0 10 (by omega))
      have E5 := E4.at5 hqe N4.2.2.1 F5 (fun r _ b _ => funext fun j => r5 r j (by omega)) (r5 0 4 (by omega)) E4.2.2.2.1.tz
      -- the state
      have G55 : G5 q e (wi σ4 (q + 5) 1 0) (si ρ4 24 e 0) 4 := ((((y4 4).cg (σ' := wi σ2 (q + 5) 2 0) (ρ' := sl ρ2 33 e (-1)) (funext fun j => wi_ne _ _ _ _ (by omega)) (fun _ _ => rfl)).cg (w4 (q + 6) (by omega)).1 (fun r h => by rw [w6 r (by omega) (by omega) (by omega) (by omega)])).cg (F5 (q + 6) (by omega)).1 (fun r h => r5 r e (by omega)))
      obtain ⟨t1, t2, t3⟩ := state_sim (st' := 4) hqe N5 E5 (by omega) (by omega) G55
      have c8 : cI (wi (wi σ4 (q + 5) 1 0) q 8 (Int32.ofNat 4)) (q + 1) 8 = 0 := by
        rw [wi_ne _ _ _ _ (by omega), wi_ne _ _ _ _ (by omega), (w4 (q + 1) (by omega)).1, wi_ne _ _ _ _ (by omega), y7, z5]; exact cl0
      have c3 : cI (wi (wi σ4 (q + 5) 1 0) q 8 (Int32.ofNat 4)) (q + 3) 3 = 0 := by
        rw [wi_ne _ _ _ _ (by omega), wi_ne _ _ _ _ (by omega), (w4 (q + 3) (by omega)).1, wi_ne _ _ _ _ (by omega), y8, (z3 (q + 3) (by omega)).1]; exact ft0
      have PA := ((((P1.tr y5).tr P3).tr P4).tr P5).tr t2
      obtain ⟨_, σ6, ρ6, o6, n6, m6, rn6, v1', v2', v3', v4', v5'⟩ := out_ack hqe t3 ⟨t1, XQ4 (by omega) (by omega) (fun _ => c8) (fun _ => c3)⟩ (((T3.ep P4 o3 he).ep P5 o3 he).ep t2 o3 he) hv (by omega)
      have k47 : ρ2.1 0 47 = n4 W 8 := (H1.ep s2').2.2.2.2.2.2.2.1
      rw [z1, bc_e, y1, bc_e, gd_t H3.kd, H3.ack, bc2_e, w1, bc_e, v1', y2, bc_e, k47, w2, bc_e, v3']
      exact enC hqe E.2.2.1 O rfl rfl v4' (PA.tr v5')
  · rw [if_pos h4, if_pos h4]
    by_cases h16 : n1 W 13 &&& 16 = 0
    · rw [if_pos h16, if_pos h16]
      exact nothing
    · rw [if_neg h16, if_neg h16]
      obtain ⟨σ', ρ', y1, y2, y3, y4, y5, y6⟩ := shut_sim (how := 1) hqe N E hv (by omega) (Or.inr (Or.inl rfl))
      rw [y1, y3 (by decide)]
      exact enC hqe E.2.2.1 O rfl rfl ⟨y4, y5⟩ y6
end CM
