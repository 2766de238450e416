/-! steps 13 to 15, both sides -/
theorem ER.tr {o1 o2 o3 : Nat → Nat} {e : Nat} {a b c : CS} {x y z : RS} (h1 : ER o1 o2 e a b x y) (h2 : ER o2 o3 e b c y z) (he : e < 2) : ER o1 o3 e a c x z := by
  obtain ⟨p1, p2, p3, p4, p5⟩ := h1
  obtain ⟨q1, q2, q3, q4, q5⟩ := h2
  refine ⟨fun w hw => by rw [q1 w (by rw [p1 w hw]; exact hw), p1 w hw], fr.tr p2 q2 (fun w hw => by rw [p1 w (by omega)]; exact hw), p3.tr q3, fun w hw h4 hn => ?_, fun w hw => ?_⟩
  · rw [q4 w (by rw [p1 w (by omega)]; exact hw) (by rw [p1 w (by omega)]; exact h4) hn, p4 w hw h4 hn]
  · rw [q5 w (by rw [p1 w (by omega)]; exact hw), p5 w hw]
section TA
variable {own : Nat → Nat} {P C : List (Nat × Nat)} {S : List Nat} {c1 c2 K q e : Nat} {σ : CS} {ρ : RS} {τ st u nr n m g U : Nat} {rn : Int32} {tr : Nat} {g0 s0 a len N0 : Nat} {W : Nat → Int32}
theorem EP.rl {own' : Nat → Nat} {σ' : CS} {ρ' : RS} (h : EP K C own own' e σ σ' ρ ρ') (G : G3 own q e σ ρ U) (hqe : q = 7 ∧ e = 0 ∨ q = 14 ∧ e = 1) (O : Ow own σ) : cN σ' ((cR σ' (q + 3) 6).getD 0) = cN σ ((cR σ (q + 3) 6).getD 0) := by
  have hoq := own_q hqe O
  obtain ⟨_, _, _, _, _, _, _, _, _, ra, k1, k2, k3, _⟩ := G
  show cN σ' ((cR σ' (q + 3) 6).getD 0) = cN σ ((cR σ (q + 3) 6).getD 0)
  rw [h.2.2.2.2.2 (q + 3) (by omega), k1]
  show cN σ' ra = cN σ ra
  rw [(h.2.2.1 ra ⟨by omega, by omega⟩).2.2.2.1]
theorem CT.er {own' : Nat → Nat} {σ' : CS} {ρ' : RS} (h : CT σ ρ τ) (E : ER own own' e σ σ' ρ ρ') (h3 : own 3 = 14) (he : e < 2) : CT σ' ρ' τ := by
  obtain ⟨a1, a2, a3, a4, a5⟩ := h
  obtain ⟨_, F, R, _, _⟩ := E
  have f3 := (F 3 ⟨by omega, by omega, by omega, by omega⟩).2.1
  exact ⟨fun i => by rw [R.2.2.2.2.1]; exact a1 i, by rw [R.2.2.2.1 4 (by omega) (by omega)]; exact a2, by rw [f3, R.2.2.1 0 3 (by omega)]; exact a3, by rw [f3]; exact a4, a5⟩
/-- the last of it: OUTPUT, or OUTPUT or an ACK -/
theorem out_ack (hqe : q = 7 ∧ e = 0 ∨ q = 14 ∧ e = 1) (N : NB own P C S c1 c2 K σ ρ) (E : EE own q e σ ρ τ st u n m g U rn tr) (T : CT σ ρ τ) {v1 : Int32} (hv : v1.toInt = (e : Int)) (hst : 4 ≤ st) :
    (∃ σ' ρ' own' n' m' rn' y, m_E_output q σ = some (y, σ') ∧ m_output v1 ρ = some (y, ρ') ∧ EE own' q e σ' ρ' τ st u n' m' g U rn' tr ∧ EP K C own own' e σ σ' ρ ρ') ∧
    ∃ σ' ρ' own' n' m' rn', (bc2 (m_E_output q σ) fun x7 r6 => if x7 = 0 then (bc (m_E_sendAck q r6) fun r8 => some r8) else (some r6)) = some σ' ∧ (bc2 (m_output v1 ρ) fun x r1 => gd (inb v1 2) <| bd (r1.1 28 v1.toNatClampNeg) fun x1 => if x1 = ρ.1 28 e then (bc (m_sendAck v1 r1) fun r2 => some r2) else (some r1)) = some ρ' ∧ (bc2 (m_output v1 ρ) fun x11 r10 => if x11 = 0 then (bc (m_sendAck v1 r10) fun r12 => some r12) else (some r10)) = some ρ' ∧ EE own' q e σ' ρ' τ st u n' m' g U rn' tr ∧ EP K C own own' e σ σ' ρ ρ' := by
  have hq : q = 7 ∨ q = 14 := by omega
  have he : e < 2 := by omega
  have hi := x32_in hv he
  have hcl := x32_n hv
  obtain ⟨E, X⟩ := E
  have o3 : own 3 = 14 := N.2.2.1.2.2 3 (by decide)
  obtain ⟨σ1, ρ1, o1, n1', m1', rn1, y, y1, y2, y3, y4, y5, y6, y7⟩ := output_sim hqe N E T hv (fun h => X.2.2.2.1 h)
  have X1 : XQ q e σ1 ρ1 st u n1' m1' g U rn1 := X.up4 hst (y5.2.2.2.1 8 (by omega) (by omega)) (y5.2.1 3 (by omega)) (y4.2.2.2.1.1 40 (by omega))
  refine ⟨⟨σ1, ρ1, o1, n1', m1', rn1, y, y1, y2, ⟨y3, X1⟩, y4⟩, ?_⟩
  rw [y1, bc2_e, y2, bc2_e, bc2_e, gd_t hi, bd_e, hcl, y3.1.2.2.2.2.2.2.2.2.1, E.1.2.2.2.2.2.2.2.2.1]
  rcases y6 with ⟨h0, hs, _⟩ | ⟨h1, hs⟩
  · rw [if_pos h0, if_pos hs, if_pos h0]
    obtain ⟨Pa, Sa, ca, cb, N1⟩ := y4.1
    have T1 := T.ep y4 o3 he
    obtain ⟨σ2, ρ2, o2, z1, z2, z3, z4, z5⟩ := ack_sim (f := 0) (num := cI σ1 (q + 1) 5) (v4 := 0) hqe N1 y3 T1.1 T1.2.1 hv (Or.inl rfl)
    have X2 : XQ q e σ2 ρ2 st u n1' m1' g U rn1 := X1.cg (by rw [(z5.1 (q + 1) (Or.inl rfl)).1]) (z5.2.2.2.1 3 (by omega)) (z4.2.2.2.1.1 40 (by omega))
    have e12 : ρ1.1 12 e = cI σ1 (q + 1) 5 := by rw [y3.2.1.2.2.1.1, y3.2.1.2.2.1.2]
    unfold m_E_sendAck m_sendAck
    rw [gd_t hq, bd_e, z1, bc_e, bc_e, gd_t hi, bd_e, hcl, e12, z2, bc_e, bc_e]
    exact ⟨σ2, ρ2, o2, n1', m1', rn1, rfl, rfl, rfl, ⟨z3, X2⟩, y4.tr z4⟩
  · rw [if_neg (by rw [h1]; decide), if_neg hs, if_neg (by rw [h1]; decide)]
    exact ⟨σ1, ρ1, o1, n1', m1', rn1, rfl, rfl, rfl, ⟨y3, X1⟩, y4⟩
end TA
