/-! steps 13 to 15, both sides: the whole -/
section TB
variable {own : Nat → Nat} {P C : List (Nat × Nat)} {S : List Nat} {c1 c2 K q e : Nat} {σ : CS} {ρ : RS} {τ st u nr n m g U : Nat} {rn : Int32} {tr : Nat} {g0 s0 a len N0 : Nat} {W : Nat → Int32}
theorem tail3 (hqe : q = 7 ∧ e = 0 ∨ q = 14 ∧ e = 1) (N : NB own P C S c1 c2 K σ ρ) (E : EE own q e σ ρ τ st u n m g U rn tr) (T : CT σ ρ τ) (H : SC g0 s0 a len N0 W σ ρ) (hC : C = [(g0, s0)]) (hsyn : n1 W 13 &&& 2 = 0) {v1 : Int32} (hv : v1.toInt = (e : Int)) (hst : 4 ≤ st) :
    ∃ σ' ρ' own' n' m' rn', (bc2 (b_E_heedInOthers_131 q g0 σ) fun x7 r6 => b_E_comes_71 q g0 x7 r6) = some σ' ∧ b_comes_151 v1 (ρ.1 28 e) ρ = some ρ' ∧ EE own' q e σ' ρ' τ st u n' m' g U rn' tr ∧ EP K C own own' e σ σ' ρ ρ' := by
  subst hC
  have hq : q = 7 ∨ q = 14 := by omega
  have he : e < 2 := by omega
  have hi := x32_in hv he
  have hlen : len ≤ 1484 := H.2.2.2.2.2.1
  obtain ⟨⟨σ1, ρ1, o1, n1', m1', rn1, y, y1, y2, y3, y4⟩, σ2, ρ2, o2, n2', m2', rn2, z1, z2, z2', z3, z4⟩ := out_ack hqe N E T hv hst
  have H1 := H.ep y4
  have h51 : ρ1.1 0 51 = Int32.ofNat (len - ho W) := H1.2.2.2.2.2.2.2.2.2.2.2.1
  have h48 : ρ1.1 0 48 = n1 W 13 := H1.2.2.2.2.2.2.2.2.1
  have hd : (Int32.ofNat (len - ho W)).toInt = ((len - ho W : Nat) : Int) := x32_nat (by omega)
  unfold b_E_heedInOthers_131 b_E_heedInOthers_143 b_comes_151 b_comes_173 b_comes_188
  rw [gd_t H.kd, H.span, bc2_e]
  have z2r : (bc2 (m_output v1 ρ) fun x r1 => gd (inb v1 2) <| bd (r1.1 28 v1.toNatClampNeg) fun x1 => if x1 = ρ.1 28 e then (bc (m_sendAck v1 r1) fun r2 => some r2) else (some r1)) = (gd (inb v1 2) <| bd (ρ1.1 28 v1.toNatClampNeg) fun x1 => if x1 = ρ.1 28 e then (bc (m_sendAck v1 ρ1) fun r2 => some r2) else (some ρ1)) := by rw [y2, bc2_e]
  rw [z2r] at z2
  rw [y2, bc2_e, bd_e, h51]
  have hsp : sp W len = Int32.ofNat (len - ho W) + 0 + fl01 (n1 W 13 &&& 1) := by unfold sp fl01; rw [if_pos hsyn]
  have full : (bc2 (some ((5 : Int32), σ)) fun x7 r6 => b_E_comes_71 q g0 x7 r6) = some σ2 := by
    rw [bc2_e]
    unfold b_E_comes_71 b_E_comes_152
    rw [if_neg (by decide), if_neg (by decide), if_neg (by decide), if_neg (by decide), if_pos rfl]
    exact z1
  by_cases hdz : len - ho W = 0
  · rw [if_neg (x32_nlt z32_0 hd (by omega)), bd_e, h48]
    by_cases hf : n1 W 13 &&& 1 = 0
    · have : sp W len = 0 := by rw [hsp, hdz]; unfold fl01; rw [if_pos hf]; decide
      rw [this, if_pos (by decide), if_pos hf, bc2_e]
      unfold b_E_comes_71 b_E_comes_152
      rw [if_neg (by decide), if_neg (by decide), if_neg (by decide), if_pos rfl, y1, bc2_e]
      exact ⟨σ1, ρ1, o1, n1', m1', rn1, rfl, rfl, y3, y4⟩
    · have : sp W len = 1 := by rw [hsp, hdz]; unfold fl01; rw [if_neg hf]; decide
      rw [this, if_neg (by decide), if_neg hf, full]
      exact ⟨σ2, ρ2, o2, n2', m2', rn2, rfl, z2, z3, z4⟩
  · have hpos : ¬ sp W len ≤ 0 := by
      rw [hsp]
      unfold fl01
      by_cases hf : n1 W 13 &&& 1 = 0
      · rw [if_pos hf]
        exact x32_nle (x32_add (x32_add hd z32_0 (by omega) (by omega)) z32_0 (by omega) (by omega)) z32_0 (by omega)
      · rw [if_neg hf]
        exact x32_nle (x32_add (x32_add hd z32_0 (by omega) (by omega)) z32_1 (by omega) (by omega)) z32_0 (by omega)
    rw [if_neg hpos, if_pos (x32_lt' z32_0 hd (by omega)), full]
    exact ⟨σ2, ρ2, o2, n2', m2', rn2, rfl, z2, z3, z4⟩
theorem tail2 (hqe : q = 7 ∧ e = 0 ∨ q = 14 ∧ e = 1) (N : NB own P C S c1 c2 K σ ρ) (E : EE own q e σ ρ τ st u n m g U rn tr) (T : CT σ ρ τ) (H : SC g0 s0 a len N0 W σ ρ) (hC : C = [(g0, s0)]) (hsyn : n1 W 13 &&& 2 = 0) {v1 : Int32} (hv : v1.toInt = (e : Int)) (hst : 4 ≤ st) :
    ∃ σ' ρ' own' n' m' rn', (bc2 (b_E_heedInOthers_105 q g0 σ) fun x7 r6 => b_E_comes_71 q g0 x7 r6) = some σ' ∧ b_comes_126 v1 (ρ.1 28 e) ρ = some ρ' ∧ EE own' q e σ' ρ' τ st u n' m' g U rn' tr ∧ EP K C own own' e σ σ' ρ ρ' := by
  have hq : q = 7 ∨ q = 14 := by omega
  have he : e < 2 := by omega
  have hi := x32_in hv he
  have hcl := x32_n hv
  have hst8 : cI σ q 8 = Int32.ofNat st := E.1.1.2.2.2.2.1
  have hst9 : ρ.1 9 e = Int32.ofNat st := by rw [E.1.1.2.2.2.1]; exact hst8
  have hst10 : st ≤ 10 := E.1.1.2.2.2.2.2.1
  have hs : (Int32.ofNat st).toInt = (st : Int) := x32_nat (by omega)
  have t10 : (10 : Int32).toInt = 10 := by decide
  have o3 : own 3 = 14 := N.2.2.1.2.2 3 (by decide)
  have e4 : (4000 : Int64) = (4000 : Int32).toInt64 := by decide
  have hcc : b_E_heedInOthers_105 q g0 σ = if st = 10 then b_E_heedInOthers_131 q g0 (wl (wi σ (q + 5) 2 1) (q + 5) 3 (cJ σ 3 0 + (4000 : Int32).toInt64)) else b_E_heedInOthers_131 q g0 σ := by
    unfold b_E_heedInOthers_105
    rw [bd_e, hst8]
    by_cases h10 : st = 10
    · rw [if_pos (x32_eq' hs t10 (by omega)), bd_e, zstart hq, bc_e, if_pos h10]
    · rw [if_neg (x32_ne hs t10 (by omega)), if_neg h10]
  have hrr : b_comes_126 v1 (ρ.1 28 e) ρ = if st = 10 then b_comes_151 v1 (ρ.1 28 e) (sl ρ 33 e (cJ σ 3 0 + (4000 : Int32).toInt64)) else b_comes_151 v1 (ρ.1 28 e) ρ := by
    unfold b_comes_126
    rw [gd_t hi, bd_e, show ρ.1 9 v1.toNatClampNeg = Int32.ofNat st by rw [hcl]; exact hst9]
    by_cases h10 : st = 10
    · rw [if_pos (x32_eq' hs t10 (by omega)), bd_e, gd_t hi, bd_e, hcl, ← T.2.2.1, e4, if_pos h10]
    · rw [if_neg (x32_ne hs t10 (by omega)), if_neg h10]
  rw [hcc, hrr]
  by_cases h10 : st = 10
  · rw [if_pos h10, if_pos h10]
    obtain ⟨s1, s2, s3⟩ := start_sim (t := cJ σ 3 0) (w := 4000) (r := 4000) hqe N E.1 (by decide) (by omega) T.2.2.2.1 T.2.2.2.2
    obtain ⟨Pa, Sa, ca, cb, N1⟩ := s2.1
    have X1 : XQ q e _ _ st u n m g U 1 := E.2.up4 hst (s3.2.2.2.1 8 (by omega) (by omega)) (s3.2.1 3 (by omega)) (s2.2.2.2.1.1 40 (by omega))
    have s2' := s2
    rw [hC] at s2'
    have H1 := H.ep s2'
    obtain ⟨σ', ρ', o', n', m', rn', w1, w2, w3, w4⟩ := tail3 hqe N1 ⟨s1, X1⟩ (T.ep s2 o3 he) H1 hC hsyn hv hst
    exact ⟨σ', ρ', o', n', m', rn', w1, w2, w3, s2.tr w4⟩
  · rw [if_neg h10, if_neg h10]
    exact tail3 hqe N E T H hC hsyn hv hst
theorem tail_sim (hqe : q = 7 ∧ e = 0 ∨ q = 14 ∧ e = 1) (N : NB own P C S c1 c2 K σ ρ) (E : EE own q e σ ρ τ st u n m g U rn tr) (T : CT σ ρ τ) (H : SC g0 s0 a len N0 W σ ρ) (hC : C = [(g0, s0)]) (hsyn : n1 W 13 &&& 2 = 0) {v1 : Int32} (hv : v1.toInt = (e : Int)) (hst : 4 ≤ st) (hK : K + 65536 ≤ 260000 + rl σ q) :
    ∃ σ' ρ' own' st' n' m' U' rn' K', (bc2 (b_E_heedInOthers_84 q g0 σ) fun x7 r6 => b_E_comes_71 q g0 x7 r6) = some σ' ∧ (gd (inb v1 2) <| bd (ρ.1 28 v1.toNatClampNeg) fun x10 => gd (inb v1 2) <| bd (ρ.1 9 v1.toNatClampNeg) fun x11 => if x11 < (4 : Int32) then (b_comes_126 v1 x10 ρ) else (gd (inb v1 2) <| bd (ρ.1 9 v1.toNatClampNeg) fun x12 => if (6 : Int32) < x12 then (b_comes_126 v1 x10 ρ) else (bc (m_received v1 ρ) fun r13 => b_comes_126 v1 x10 r13))) = some ρ' ∧ EE own' q e σ' ρ' τ st' u n' m' g U' rn' tr ∧ (∃ P' S' c1' c2', NB own' P' C S' c1' c2' K' σ' ρ') ∧ K' + rl σ q = K + rl σ' q ∧ ER own own' e σ σ' ρ ρ' := by
  have hq : q = 7 ∨ q = 14 := by omega
  have he : e < 2 := by omega
  have hi := x32_in hv he
  have hcl := x32_n hv
  have O := N.2.2.1
  have hoq := own_q hqe O
  have hlen : len ≤ 1484 := H.2.2.2.2.2.1
  have hst8 : cI σ q 8 = Int32.ofNat st := E.1.1.2.2.2.2.1
  have hst9 : ρ.1 9 e = Int32.ofNat st := by rw [E.1.1.2.2.2.1]; exact hst8
  have hst10 : st ≤ 10 := E.1.1.2.2.2.2.2.1
  have hs : (Int32.ofNat st).toInt = (st : Int) := x32_nat (by omega)
  have t4 : (4 : Int32).toInt = 4 := by decide
  have t5 : (5 : Int32).toInt = 5 := by decide
  have t6 : (6 : Int32).toInt = 6 := by decide
  have o3 : own 3 = 14 := O.2.2 3 (by decide)
  have h28 : ρ.1 28 e = cI σ q 10 := E.1.1.2.2.2.2.2.2.2.2.1
  unfold b_E_heedInOthers_84 m_E_takesData b_E_takesData_25 b_E_takesData_30
  rw [bd_e, hst8, if_neg (x32_ne hs z32_0 (by omega)), gd_t hq, bd_e, bd_e, bd_e, gd_t z01_1, gd_t z01_0]
  rw [gd_t hi, bd_e, gd_t hi, bd_e, show ρ.1 9 v1.toNatClampNeg = Int32.ofNat st by rw [hcl]; exact hst9, if_neg (x32_nlt hs t4 (by omega)), gd_t hi, bd_e, show ρ.1 28 v1.toNatClampNeg = ρ.1 28 e by rw [hcl]]
  by_cases h6 : 6 < st
  · rw [if_neg (x32_ne hs t4 (by omega)), if_neg (x32_ne hs t5 (by omega)), if_neg (x32_ne hs t6 (by omega)), bc2_e, if_pos rfl, if_pos (x32_lt' t6 hs (by omega))]
    obtain ⟨σ', ρ', o', n', m', rn', w1, w2, w3, w4⟩ := tail2 hqe N E T H hC hsyn hv hst
    have hrl := w4.rl E.1.2.2.1 hqe O
    exact ⟨σ', ρ', o', st, n', m', U, rn', K, w1, w2, w3, w4.1, by show K + cN σ _ = K + cN σ' _; rw [hrl], w4.ER he⟩
  · have hcl1 : (if Int32.ofNat st = 4 then some ((1 : Int32), σ) else if Int32.ofNat st = 5 then some (1, σ) else if Int32.ofNat st = 6 then some (1, σ) else some (0, σ)) = some (1, σ) := by
      by_cases s4 : st = 4
      · rw [if_pos (x32_eq' hs t4 (by omega))]
      rw [if_neg (x32_ne hs t4 (by omega))]
      by_cases s5 : st = 5
      · rw [if_pos (x32_eq' hs t5 (by omega))]
      rw [if_neg (x32_ne hs t5 (by omega)), if_pos (x32_eq' hs t6 (by omega))]
    rw [hcl1, bc2_e, if_neg (by decide), if_neg (x32_nlt t6 hs (by omega))]
    have hft : cI σ (q + 3) 3 = 0 := E.2.2.2.2.2.2.1 ⟨by omega, by omega⟩
    have hd : (Int32.ofNat (len - ho W)).toInt = ((len - ho W : Nat) : Int) := x32_nat (by omega)
    unfold m_E_takeIn
    rw [gd_t hq, gd_t H.kd, H.dl, bc2_e]
    -- from the keeping on
    have go : ∀ (σ1 : CS) (ρ1 : RS) (o1 : Nat → Nat) (U1 K1 : Nat), NB o1 P C S c1 c2 K1 σ1 ρ1 → EE o1 q e σ1 ρ1 τ st u n m g U1 rn tr → CT σ1 ρ1 τ → SC g0 s0 a len N0 W σ1 ρ1 → cI σ1 (q + 3) 3 = 0 → cI σ1 q 10 = cI σ q 10 → K1 + rl σ q = K + rl σ1 q → ER own o1 e σ σ1 ρ ρ1 →
        ∃ σ' ρ' own' st' n' m' U' rn' K', (bc2 (bc (b_E_takeIn_17 q g0 (Int32.ofNat (len - ho W)) σ1) fun r4 => b_E_heedInOthers_105 q g0 r4) fun x7 r6 => b_E_comes_71 q g0 x7 r6) = some σ' ∧ (bc (b_received_173 v1 ρ1) fun r13 => b_comes_126 v1 (ρ.1 28 e) r13) = some ρ' ∧ EE own' q e σ' ρ' τ st' u n' m' g U' rn' tr ∧ (∃ P' S' c1' c2', NB own' P' C S' c1' c2' K' σ' ρ') ∧ K' + rl σ q = K + rl σ' q ∧ ER own own' e σ σ' ρ ρ' := by
      intro σ1 ρ1 o1 U1 K1 N1 E1 T1 H1 f1 s1 k1 R1
      obtain ⟨σ2, ρ2, st2, y1, y2, y3, y4, y5, y6, y7, y8, y9⟩ := fin_in hqe N1 E1.1 E1.2 H1 hv ⟨hst, by omega⟩ f1
      have o13 : o1 3 = 14 := N1.2.2.1.2.2 3 (by decide)
      have H2 : SC g0 s0 a len N0 W σ2 ρ2 := by rw [hC] at y4; exact H1.ep y4
      obtain ⟨σ', ρ', o', n', m', rn', w1, w2, w3, w4⟩ := tail2 hqe y5 y3 (T1.ep y4 o13 he) H2 hC hsyn hv y6
      have hrl := w4.rl y3.1.2.2.1 hqe y5.2.2.1
      have hrl2 : rl σ2 q = rl σ1 q := by unfold rl; rw [y8, y9]
      have e28 : ρ.1 28 e = ρ2.1 28 e := by rw [h28, y3.1.1.2.2.2.2.2.2.2.2.1, y7, s1]
      rw [y1, bc_e, y2, bc_e, e28]
      refine ⟨σ', ρ', o', st2, n', m', U1, rn', K1, w1, w2, w3, w4.1, ?_, (R1.tr (y4.ER he) he).tr (w4.ER he) he⟩
      have hrl' : rl σ' q = rl σ2 q := hrl
      omega
    by_cases hdz : len - ho W = 0
    · rw [if_pos (x32_le' hd z32_0 (by omega))]
      have hrec : m_received v1 ρ = b_received_173 v1 ρ := by
        unfold m_received
        rw [show fuel = 9999999 + 1 from rfl]
        show F_received_2 (lq3 F_received_2 9999999) v1 0 ρ = _
        rw [F_received_2, bd_e, H.2.2.2.2.2.2.2.2.2.2.2.1, if_pos (x32_le' hd z32_0 (by omega))]
        exact r_nogap hqe hv E.1.2.2.1 hft 9999999
      rw [hrec]
      exact go σ ρ own U K N E T H hft rfl rfl (ER.rf own e σ ρ)
    · rw [if_neg (x32_nle hd z32_0 (by omega))]
      obtain ⟨σ1, ρ1, o1, U1, K1, y1, y2, y3, y4, y5, y6, y7, y8, y9, y10⟩ := keep_sim hqe N E.1 H hC hv hft hK
      have R1 : ER own o1 e σ σ1 ρ ρ1 := ⟨y6, y7.sub fun x hx => ⟨by omega, fun e' => by rw [e'] at hx; omega, by omega⟩, y8.QF, fun x hx hx4 hn => (y7 x ⟨by omega, fun e' => hn (by rw [e']; rcases hqe with ⟨h1, h2⟩ | ⟨h1, h2⟩ <;> subst h1 <;> subst h2 <;> rfl), hx4⟩).2.2.1, fun x hx => (y7 x ⟨by omega, fun e' => by rw [e'] at hx; omega, by omega⟩).2.2.2.1⟩
      have X1 : XQ q e σ1 ρ1 st u n m g U1 rn := by
        obtain ⟨a1, a2, a3, a4, a5, a6, a7, a8, a9⟩ := E.2
        have f1 := (y7 (q + 1) ⟨by omega, by omega, by omega⟩).1
        unfold XQ XX
        rw [f1, y9]
        exact ⟨fun h => by omega, fun h => by omega, fun h => by omega, a4, a5, fun _ => rfl, fun h => by omega, a8, a9⟩
      rw [y1, bc_e, y2]
      exact go σ1 ρ1 o1 U1 K1 y4 ⟨y3, X1⟩ (T.er R1 o3 he) y10 y9 (by rw [(y7 q ⟨by omega, by omega, by omega⟩).1]) y5 R1
end TB
