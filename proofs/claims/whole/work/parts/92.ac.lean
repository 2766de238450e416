/-! steps 10 to 15, both sides -/
section AC
variable {own : Nat → Nat} {P C : List (Nat × Nat)} {S : List Nat} {c1 c2 K q e : Nat} {σ : CS} {ρ : RS} {τ st u n m g U : Nat} {rn : Int32} {tr : Nat} {g0 s0 a len N0 : Nat} {W : Nat → Int32}
theorem XQ4 (hst : 4 ≤ st) (hu : 1 ≤ u) (hc : st = 4 ∨ st = 7 → cI σ (q + 1) 8 = 0) (hf : st ≤ 6 → cI σ (q + 3) 3 = 0) : XQ q e σ ρ st u n m g U rn := by
  unfold XQ XX
  exact ⟨fun h => by omega, fun h => by omega, fun h => by omega, fun _ => hu, hc, fun h => hf h.2, fun h => by omega, fun h => ⟨by omega, by omega⟩, fun h => by omega⟩
/-- a number that was acknowledged -/
theorem ack_num {ak I : Int32} {u m : Nat} (hu : u ≤ m) (hm : m ≤ 20000) (h1 : ak - (I + Int32.ofNat m) ≤ 0) (h2 : ¬ ak - (I + Int32.ofNat u) ≤ 0) : ∃ b, ak = I + Int32.ofNat b ∧ u < b ∧ b ≤ m := by
  have a2 := Int32.lt_iff_toInt_lt.mp (Int32.not_le.mp h2)
  rw [z32_0] at a2
  obtain ⟨k, hk⟩ : ∃ k : Nat, (ak - (I + Int32.ofNat u)).toInt = (k : Int) := ⟨(ak - (I + Int32.ofNat u)).toInt.toNat, by omega⟩
  have hk2 : k < 2147483648 := by have := Int32.toInt_lt (ak - (I + Int32.ofNat u)); omega
  have e1 : ak - (I + Int32.ofNat u) = Int32.ofNat k := x32_of hk2 hk
  have e2 : ak - (I + Int32.ofNat m) = Int32.ofNat k - Int32.ofNat (m - u) := by
    rw [← e1, show Int32.ofNat m = Int32.ofNat u + Int32.ofNat (m - u) by rw [← Int32.ofNat_add]; congr 1; omega]; grind
  have e3 : (ak - (I + Int32.ofNat m)).toInt = (k : Int) - ((m - u : Nat) : Int) := by rw [e2]; exact x32_sub (x32_nat hk2) (x32_nat (by omega)) (by omega) (by omega)
  have a3 := (x32_le e3 z32_0).mp h1
  refine ⟨u + k, ?_, by omega, by omega⟩
  rw [show Int32.ofNat (u + k) = Int32.ofNat u + Int32.ofNat k from Int32.ofNat_add u k, ← e1]; grind
/-- steps 11 and 12, then 13 to 15 -/
theorem from65 (hqe : q = 7 ∧ e = 0 ∨ q = 14 ∧ e = 1) (N : NB own P C S c1 c2 K σ ρ) (E : EE own q e σ ρ τ st u n m g U rn tr) (T : CT σ ρ τ) (H : SC g0 s0 a len N0 W σ ρ) (hC : C = [(g0, s0)]) (hsyn : n1 W 13 &&& 2 = 0) {v1 : Int32} (hv : v1.toInt = (e : Int)) (hst : 4 ≤ st) (hK : K + 65536 ≤ 260000 + rl σ q) :
    ∃ σ' ρ' own' st' n' m' U' rn' tr' K', (bc2 (b_E_heedInOthers_65 q g0 σ) fun x7 r6 => b_E_comes_71 q g0 x7 r6) = some σ' ∧ (bc2 (b_acknowledged_197 v1 ρ) fun x9 r8 => if x9 = 0 then (some r8) else (gd (inb v1 2) <| bd (r8.1 28 v1.toNatClampNeg) fun x10 => gd (inb v1 2) <| bd (r8.1 9 v1.toNatClampNeg) fun x11 => if x11 < (4 : Int32) then (b_comes_126 v1 x10 r8) else (gd (inb v1 2) <| bd (r8.1 9 v1.toNatClampNeg) fun x12 => if (6 : Int32) < x12 then (b_comes_126 v1 x10 r8) else (bc (m_received v1 r8) fun r13 => b_comes_126 v1 x10 r13)))) = some ρ' ∧ EE own' q e σ' ρ' τ st' u n' m' g U' rn' tr' ∧ (∃ P' S' c1' c2', NB own' P' C S' c1' c2' K' σ' ρ') ∧ K' + rl σ q = K + rl σ' q ∧ ER own own' e σ σ' ρ ρ' := by
  have hq : q = 7 ∨ q = 14 := by omega
  have he : e < 2 := by omega
  have O := N.2.2.1
  have o3 : own 3 = 14 := O.2.2 3 (by decide)
  obtain ⟨σ1, ρ1, tr1, y1, y2, y3, y4, y5, y6⟩ := win_sim hqe N E.1 H hC hv
  have X1 : XQ q e σ1 ρ1 st u n m g U rn := E.2.cg y6.1 y6.2.1 y6.2.2.1
  have s2' := y4
  rw [hC] at s2'
  have H1 := H.ep s2'
  have T1 := T.ep y4 o3 he
  obtain ⟨σ2, ρ2, st2, rn2, z1, z2, z3, z4, z5⟩ := fin_sim hqe y5 y3 X1 hst hv g0
  unfold b_E_heedInOthers_65
  rw [y1, bc_e, y2, z1, z2, bc2_e]
  have s3' := z4
  rw [hC] at s3'
  have H2 := H1.ep s3'
  have T2 := T1.ep z4 o3 he
  have r1 := y4.rl E.1.2.2.1 hqe O
  have r2 := z4.rl y3.2.2.1 hqe y5.2.2.1
  have rr : rl σ2 q = rl σ q := by
    have a1 : rl σ1 q = rl σ q := r1
    have a2 : rl σ2 q = rl σ1 q := r2
    rw [a2, a1]
  rcases z5 with h0 | h4
  · rw [if_pos h0, if_pos rfl]
    have hst8 : cI σ2 q 8 = 0 := by rw [z3.1.1.2.2.2.2.1, h0]; rfl
    unfold b_E_heedInOthers_84
    rw [bd_e, hst8, if_pos rfl, bc2_e]
    unfold b_E_comes_71 b_E_comes_152
    rw [if_neg (by decide), if_neg (by decide), if_neg (by decide), if_neg (by decide), if_neg (by decide)]
    exact ⟨σ2, ρ2, own, st2, n, m, U, rn2, tr1, K, rfl, rfl, z3, z4.1, by rw [rr], (y4.ER he).tr (z4.ER he) he⟩
  · rw [if_neg (show ¬ st2 = 0 by omega), if_neg (show ¬ (1 : Int32) = 0 by decide)]
    obtain ⟨Pa, Sa, ca, cb, N2⟩ := z4.1
    obtain ⟨σ3, ρ3, o3', st3, n3, m3, U3, rn3, K3, w1, w2, w3, w4, w5, w6⟩ := tail_sim hqe N2 z3 T2 H2 hC hsyn hv h4 (by rw [rr]; exact hK)
    exact ⟨σ3, ρ3, o3', st3, n3, m3, U3, rn3, tr1, K3, w1, w2, w3, w4, by rw [← rr]; exact w5, ((y4.ER he).tr (z4.ER he) he).tr w6 he⟩
theorem c_same (hq : q = 7 ∨ q = 14) (H : SC g0 s0 a len N0 W σ ρ) (G : G2 own q e σ ρ u n m g) (hsyn : n1 W 13 &&& 2 = 0) : m_E_isSameAgain q g0 σ = some (if n4 W 8 = cI σ (q + 1) 4 ∧ (len - ho W = 0 ∧ n1 W 13 &&& 1 = 0) ∧ n2 W 14 = cI σ (q + 1) 9 ∧ n ≠ u then 1 else 0, σ) := by
  have h10 := G.2.2.2.2.2.2.2.2.2.1
  have hlen : len ≤ 1484 := H.2.2.2.2.2.1
  have hf : (Int32.ofNat (n - u)).toInt = ((n - u : Nat) : Int) := x32_nat (by omega)
  have hd : (Int32.ofNat (len - ho W)).toInt = ((len - ho W : Nat) : Int) := x32_nat (by omega)
  have hsp : sp W len = 0 ↔ len - ho W = 0 ∧ n1 W 13 &&& 1 = 0 := by
    unfold sp fl01
    rw [if_pos hsyn]
    by_cases h1 : n1 W 13 &&& 1 = 0
    · rw [if_pos h1, x32_eq (x32_add (x32_add hd z32_0 (by omega) (by omega)) z32_0 (by omega) (by omega)) z32_0]
      exact ⟨fun h => ⟨by omega, h1⟩, fun h => by omega⟩
    · rw [if_neg h1, x32_eq (x32_add (x32_add hd z32_0 (by omega) (by omega)) z32_1 (by omega) (by omega)) z32_0]
      exact ⟨fun h => by omega, fun h => absurd h.2 h1⟩
  unfold m_E_isSameAgain b_E_isSameAgain_49 b_E_isSameAgain_50
  rw [gd_t hq, gd_t H.kd, H.ack, bc2_e, bd_e, gd_t H.kd, H.span, bc2_e, gd_t H.kd, H.win, bc2_e, bd_e, c_flight hq G, bc2_e, gd_t z01_0, gd_t z01_1]
  by_cases h1 : n4 W 8 = cI σ (q + 1) 4
  · rw [if_pos h1]
    by_cases h2 : sp W len = 0
    · rw [if_pos h2]
      by_cases h3 : n2 W 14 = cI σ (q + 1) 9
      · rw [if_pos h3]
        by_cases h4 : n = u
        · rw [if_pos (x32_eq' hf z32_0 (by omega)), if_neg (fun h => h.2.2.2 h4)]
        · rw [if_neg (x32_ne hf z32_0 (by omega)), if_pos ⟨h1, hsp.mp h2, h3, h4⟩]
      · rw [if_neg h3, if_neg (fun h => h3 h.2.2.1)]
    · rw [if_neg h2, if_neg (fun h => h2 (hsp.mpr h.2.1))]
  · rw [if_neg h1, if_neg (fun h => h1 h.1)]
theorem r_acked (he : e < 2) {v1 : Int32} (hv : v1.toInt = (e : Int)) (H : SC g0 s0 a len N0 W σ ρ) (G : G2 own q e σ ρ u n m g) : m_acknowledged v1 ρ = if n4 W 8 - cI σ (q + 1) 6 ≤ 0 then (if n4 W 8 - cI σ (q + 1) 4 ≤ 0 then (if n4 W 8 = cI σ (q + 1) 4 ∧ (len - ho W = 0 ∧ n1 W 13 &&& 1 = 0) ∧ n2 W 14 = cI σ (q + 1) 9 ∧ n ≠ u then (gd (inb v1 2) <| bd (ρ.1 22 v1.toNatClampNeg) fun x17 => gd (inb v1 2) <| bd (si ρ 22 v1.toNatClampNeg (x17 + (1 : Int32))) fun r18 => gd (inb v1 2) <| bd (r18.1 22 v1.toNatClampNeg) fun x19 => if x19 = (3 : Int32) then (bc (m_again v1 r18) fun r20 => b_acknowledged_197 v1 r20) else (b_acknowledged_197 v1 r18)) else b_acknowledged_197 v1 ρ) else (bc (m_measured v1 (ρ.1 0 47) ρ) fun r22 => bc (m_grown v1 r22) fun r23 => bd (r23.1 0 47) fun x24 => gd (inb v1 2) <| bd (si r23 11 v1.toNatClampNeg x24) fun r25 => bd (r25.1 0 47) fun x26 => gd (inb v1 2) <| bd (r25.1 12 v1.toNatClampNeg) fun x27 => bc2 (m_above x26 x27 r25) fun x29 r28 => if x29 = 0 then (b_acknowledged_89 v1 r28) else (bd (r28.1 0 47) fun x30 => gd (inb v1 2) <| bd (si r28 12 v1.toNatClampNeg x30) fun r31 => b_acknowledged_89 v1 r31))) else (bc (m_sendAck v1 ρ) fun r32 => some ((0 : Int32), r32)) := by
  have hi := x32_in hv he
  have hcl := x32_n hv
  have h10 := G.2.2.2.2.2.2.2.2.2.1
  have hlen : len ≤ 1484 := H.2.2.2.2.2.1
  have h47 : ρ.1 0 47 = n4 W 8 := H.2.2.2.2.2.2.2.1
  have h48 : ρ.1 0 48 = n1 W 13 := H.2.2.2.2.2.2.2.2.1
  have h49 : ρ.1 0 49 = n2 W 14 := H.2.2.2.2.2.2.2.2.2.1
  have h51 : ρ.1 0 51 = Int32.ofNat (len - ho W) := H.2.2.2.2.2.2.2.2.2.2.2.1
  have e13 : ρ.1 13 v1.toNatClampNeg = cI σ (q + 1) 6 := by rw [hcl]; exact G.2.2.2.1.1
  have e11 : ρ.1 11 v1.toNatClampNeg = cI σ (q + 1) 4 := by rw [hcl]; exact G.2.1.1
  have e14 : ρ.1 14 v1.toNatClampNeg = cI σ (q + 1) 9 := by rw [hcl]; exact G.2.2.2.2.2.2.1.1
  have e12 : ρ.1 12 v1.toNatClampNeg = cI σ (q + 1) 5 := by rw [hcl, G.2.2.1.1, G.2.2.1.2]
  have hnu : cI σ (q + 1) 5 = cI σ (q + 1) 4 ↔ n = u := by rw [G.2.2.1.2, G.2.1.2]; exact e32 _ (by omega) (by omega)
  have hd : (Int32.ofNat (len - ho W)).toInt = ((len - ho W : Nat) : Int) := x32_nat (by omega)
  unfold m_acknowledged m_above b_above_11
  rw [bd_e, gd_t hi, bd_e, h47, e13]
  by_cases h1 : n4 W 8 - cI σ (q + 1) 6 ≤ 0
  · rw [if_pos h1, if_pos h1, gd_t z01_0, bc2_e, if_pos rfl, bd_e, h47, gd_t hi, bd_e, e11]
    by_cases h2 : n4 W 8 - cI σ (q + 1) 4 ≤ 0
    · rw [if_pos h2, if_pos h2, gd_t z01_0, bc2_e, if_pos rfl, bd_e, h47, gd_t hi, bd_e, e11]
      by_cases h3 : n4 W 8 = cI σ (q + 1) 4
      · rw [if_pos h3, bd_e, h51]
        by_cases h4 : len - ho W = 0
        · rw [if_pos (x32_eq' hd z32_0 (by omega)), bd_e, h48]
          by_cases h5 : n1 W 13 &&& 1 = 0
          · rw [if_pos h5, bd_e, h49, gd_t hi, bd_e, e14]
            by_cases h6 : n2 W 14 = cI σ (q + 1) 9
            · rw [if_pos h6, gd_t hi, bd_e, e12, gd_t hi, bd_e]
              by_cases h7 : n = u
              · rw [if_pos (hnu.mpr h7), if_neg (fun h => h.2.2.2 h7)]
              · rw [if_neg (fun h => h7 (hnu.mp h)), if_pos ⟨h3, ⟨h4, h5⟩, h6, h7⟩]
            · rw [if_neg h6, if_neg (fun h => h6 h.2.2.1)]
          · rw [if_neg h5, if_neg (fun h => h5 h.2.1.2)]
        · rw [if_neg (x32_ne hd z32_0 (by omega)), if_neg (fun h => h4 h.2.1.1)]
      · rw [if_neg h3, if_neg (fun h => h3 h.1)]
    · rw [if_neg h2, if_neg h2, gd_t z01_1, bc2_e, if_neg (by decide), bd_e, h47]
  · rw [if_neg h1, if_neg h1, gd_t z01_1, bc2_e, if_neg (by decide)]
    cases m_sendAck v1 ρ <;> rfl
abbrev tailR (v1 : Int32) (r8 : RS) : Option RS := (gd (inb v1 2) <| bd (r8.1 28 v1.toNatClampNeg) fun x10 => gd (inb v1 2) <| bd (r8.1 9 v1.toNatClampNeg) fun x11 => if x11 < (4 : Int32) then (b_comes_126 v1 x10 r8) else (gd (inb v1 2) <| bd (r8.1 9 v1.toNatClampNeg) fun x12 => if (6 : Int32) < x12 then (b_comes_126 v1 x10 r8) else (bc (m_received v1 r8) fun r13 => b_comes_126 v1 x10 r13)))
abbrev goC (q g0 : Nat) (r1 : CS) : Option (Int32 × CS) := gd (kd r1 g0 = 11) <| bc2 (m_G_ack g0 r1) fun x4 r3 => bd (cI r3 (q + 1) 6) fun x5 => if (x4 - x5) ≤ 0 then
  (bd (cI r3 (q + 1) 4) fun x6 => if (x4 - x6) ≤ 0 then
  (bc2 (m_E_isSameAgain q g0 r3) fun x8 r7 => if x8 = 0 then
  (b_E_heedInOthers_65 q g0 r7)
 else
  (bc (m_E_heedSameAgain q r7) fun r9 => b_E_heedInOthers_65 q g0 r9))
 else
  (bc (m_E_heedProgress q x4 r3) fun r10 => b_E_heedInOthers_65 q g0 r10))
 else
  (some ((2 : Int32), r3))
theorem go_on (hqe : q = 7 ∧ e = 0 ∨ q = 14 ∧ e = 1) (N : NB own P C S c1 c2 K σ ρ) (E : EG own q e σ ρ τ st u n m g U rn tr) (T : CT σ ρ τ) (H : SC g0 s0 a len N0 W σ ρ) (hC : C = [(g0, s0)]) (hsyn : n1 W 13 &&& 2 = 0) {v1 : Int32} (hv : v1.toInt = (e : Int)) (hst : 4 ≤ st) (hc : st = 4 ∨ st = 7 → cI σ (q + 1) 8 = 0) (hf : st ≤ 6 → cI σ (q + 3) 3 = 0) (hu : 1 ≤ u ∨ n4 W 8 = cI σ (q + 1) 4 + 1 ∧ u < m) (hK : K + 65536 ≤ 260000 + rl σ q) :
    ∃ σ' ρ' own' st' u' n' m' U' rn' tr' K', (bc2 (goC q g0 σ) fun x7 r6 => b_E_comes_71 q g0 x7 r6) = some σ' ∧ (bc2 (m_acknowledged v1 ρ) fun x9 r8 => if x9 = 0 then (some r8) else tailR v1 r8) = some ρ' ∧ EE own' q e σ' ρ' τ st' u' n' m' g U' rn' tr' ∧ (∃ P' S' c1' c2', NB own' P' C S' c1' c2' K' σ' ρ') ∧ K' + rl σ q = K + rl σ' q ∧ ER own own' e σ σ' ρ ρ' := by
  have hq : q = 7 ∨ q = 14 := by omega
  have he : e < 2 := by omega
  have hi := x32_in hv he
  have hcl := x32_n hv
  have O := N.2.2.1
  have o3 : own 3 = 14 := O.2.2 3 (by decide)
  have h10 := E.2.1.2.2.2.2.2.2.2.2.2.1
  have h47 : ρ.1 0 47 = n4 W 8 := H.2.2.2.2.2.2.2.1
  have e4 : cI σ (q + 1) 4 = cI σ (q + 1) 3 + Int32.ofNat u := E.2.1.2.1.2
  have e6 : cI σ (q + 1) 6 = cI σ (q + 1) 3 + Int32.ofNat m := E.2.1.2.2.2.1.2
  unfold goC
  rw [gd_t H.kd, H.ack, bc2_e, bd_e, bd_e, r_acked he hv H E.2.1]
  by_cases h1 : n4 W 8 - cI σ (q + 1) 6 ≤ 0
  · rw [if_pos h1, if_pos h1]
    by_cases h2 : n4 W 8 - cI σ (q + 1) 4 ≤ 0
    · have hu1 : 1 ≤ u := by
        rcases hu with h | ⟨h, h'⟩
        · exact h
        · exfalso
          have : (n4 W 8 - cI σ (q + 1) 4).toInt = 1 := by rw [h, show cI σ (q + 1) 4 + 1 - cI σ (q + 1) 4 = 1 by grind]; decide
          have := (x32_le this z32_0).mp h2
          omega
      have X : XQ q e σ ρ st u n m g U rn := XQ4 hst hu1 hc hf
      rw [if_pos h2, if_pos h2, c_same hq H E.2.1 hsyn, bc2_e]
      by_cases h3 : n4 W 8 = cI σ (q + 1) 4 ∧ (len - ho W = 0 ∧ n1 W 13 &&& 1 = 0) ∧ n2 W 14 = cI σ (q + 1) 9 ∧ n ≠ u
      · rw [if_pos h3, if_neg (show ¬ (1 : Int32) = 0 by decide), if_pos h3]
        obtain ⟨σ1, ρ1, o1, y1, y2, y3, y4, y5⟩ := same_sim hqe N E T hv (by omega) hu1 (by omega)
        rw [y1, bc_e, y2]
        obtain ⟨Pa, Sa, ca, cb, N1⟩ := y4.1
        have s2' := y4
        rw [hC] at s2'
        have r1 : rl σ1 q = rl σ q := y4.rl E.2.2.1 hqe O
        obtain ⟨σ2, ρ2, o2, st2, n2', m2', U2, rn2, tr2, K2, w1, w2, w3, w4, w5, w6⟩ := from65 hqe N1 ⟨y3, X.cg y5.1 y5.2.1 y5.2.2.1⟩ (T.ep y4 o3 he) (H.ep s2') hC hsyn hv hst (by rw [r1]; exact hK)
        exact ⟨σ2, ρ2, o2, st2, u, n2', m2', U2, rn2, tr2, K2, w1, w2, w3, w4, by rw [← r1]; exact w5, (y4.ER he).tr w6 he⟩
      · rw [if_neg h3, if_pos rfl, if_neg h3]
        obtain ⟨σ2, ρ2, o2, st2, n2', m2', U2, rn2, tr2, K2, w1, w2, w3, w4, w5, w6⟩ := from65 hqe N ⟨E, X⟩ T H hC hsyn hv hst hK
        exact ⟨σ2, ρ2, o2, st2, u, n2', m2', U2, rn2, tr2, K2, w1, w2, w3, w4, w5, w6⟩
    · rw [if_neg h2, if_neg h2]
      obtain ⟨b, b1, b2, b3⟩ := ack_num (I := cI σ (q + 1) 3) (u := u) (m := m) (by omega) (by omega) (by rw [← e6]; exact h1) (by rw [← e4]; exact h2)
      obtain ⟨σ1, ρ1, y1, y2, y3, y4, y5, y6⟩ := prog_sim (ak := n4 W 8) hqe N E T hv (by omega) h47 b1 b2 b3
      rw [y1, bc_e, y2]
      have s2' := y4
      rw [hC] at s2'
      have r1 : rl σ1 q = rl σ q := y4.rl E.2.2.1 hqe O
      obtain ⟨σ2, ρ2, o2, st2, n2', m2', U2, rn2, tr2, K2, w1, w2, w3, w4, w5, w6⟩ := from65 hqe y5 ⟨y3, XQ4 hst (by omega) (by rw [y6.1]; exact hc) (by rw [y6.2.1]; exact hf)⟩ (T.ep y4 o3 he) (H.ep s2') hC hsyn hv hst (by rw [r1]; exact hK)
      exact ⟨σ2, ρ2, o2, st2, b, n2', m2', U2, rn2, tr2, K2, w1, w2, w3, w4, by rw [← r1]; exact w5, (y4.ER he).tr w6 he⟩
  · rw [if_neg h1, if_neg h1, bc2_e]
    have hu1 : 1 ≤ u := by
      rcases hu with h | ⟨h, h'⟩
      · exact h
      · exfalso
        refine h1 ?_
        rw [h, e4, e6, show cI σ (q + 1) 3 + Int32.ofNat u + 1 = cI σ (q + 1) 3 + Int32.ofNat (u + 1) by rw [show Int32.ofNat (u + 1) = Int32.ofNat u + 1 from nI_succ u]; grind]
        exact x32_le' (d32 _ (by omega) (by omega)) z32_0 (by omega)
    have X : XQ q e σ ρ st u n m g U rn := XQ4 hst hu1 hc hf
    obtain ⟨σ2, ρ2, o2, z1, z2, z3, z4, z5⟩ := ack_sim (f := 0) (num := cI σ (q + 1) 5) (v4 := 0) hqe N E T.1 T.2.1 hv (Or.inl rfl)
    have e12 : ρ.1 12 e = cI σ (q + 1) 5 := by rw [E.2.1.2.2.1.1, E.2.1.2.2.1.2]
    unfold b_E_comes_71 b_E_comes_152 m_E_sendAck m_sendAck
    rw [if_neg (by decide), if_pos rfl, gd_t hq, bd_e, z1, bc_e, bc_e, gd_t hi, bd_e, show ρ.1 12 v1.toNatClampNeg = cI σ (q + 1) 5 by rw [hcl]; exact e12, z2, bc_e, bc_e, bc2_e, if_pos rfl]
    have r1 : rl σ2 q = rl σ q := z4.rl E.2.2.1 hqe O
    exact ⟨σ2, ρ2, o2, st, u, n, m, U, rn, tr, K, rfl, rfl, ⟨z3, X.cg (by rw [(z5.1 (q + 1) (Or.inl rfl)).1]) (z5.2.2.2.1 3 (by omega)) (z4.2.2.2.1.1 40 (by omega))⟩, z4.1, by rw [r1], z4.ER he⟩
end AC
