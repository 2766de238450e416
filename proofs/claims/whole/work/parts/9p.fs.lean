/-! an end begins anew, both sides -/
theorem fill_loop {ra N : Nat} (hN : N ≤ 65536) : ∀ (r i n : Nat) (v2 : Int32) (σ : CS), i + r = N → r < n → v2.toInt = (i : Int) → kd σ ra = 24 → cN σ ra = N →
    ∃ σ', lq5 F_K_fill_SS_5 n ra 0 v2 (nI N) σ = some σ' ∧ fr (fun x => x ≠ ra) σ σ' ∧ σ'.2 = σ.2 ∧ (∀ p, p < N → i ≤ p → cI σ' ra p = 0) ∧ (∀ p, p < i → cI σ' ra p = cI σ ra p) := by
  have tN : (nI N).toInt = (N : Int) := nI_t (by omega)
  intro r
  induction r with
  | zero =>
    intro i n v2 σ hi hn hv hk hc
    obtain ⟨n, rfl⟩ : ∃ m, n = m + 1 := ⟨n - 1, by omega⟩
    refine ⟨σ, ?_, fr.rf, rfl, fun p a b => by omega, fun _ _ => rfl⟩
    show F_K_fill_SS_5 (lq5 F_K_fill_SS_5 n) ra 0 v2 (nI N) σ = _
    rw [F_K_fill_SS_5, if_pos (x32_le' tN hv (by omega))]
  | succ r ih =>
    intro i n v2 σ hi hn hv hk hc
    obtain ⟨n, rfl⟩ : ∃ m, n = m + 1 := ⟨n - 1, by omega⟩
    obtain ⟨σ', x1, x2, x3, x4, x5⟩ := ih (i + 1) n (v2 + 1) (wi σ ra i (vp_nar .short 0)) (by omega) (by omega) (by rw [x32_add hv z32_1 (by omega) (by omega)]; omega) hk hc
    refine ⟨σ', ?_, fr.tr (fr_wi σ ra i _) x2 (fun _ h => h), x3, fun p a b => ?_, fun p a => by rw [x5 p (by omega), wi_ne _ _ _ _ (by omega)]⟩
    · show F_K_fill_SS_5 (lq5 F_K_fill_SS_5 n) ra 0 v2 (nI N) σ = _
      rw [F_K_fill_SS_5, if_neg (x32_nle tN hv (by omega)), gd_t ⟨hk, x32_in hv (by omega)⟩, bd_e, bd_e, x32_n hv, x1]
    · by_cases hp : p = i
      · rw [hp, x5 i (by omega), wi_eq]; decide
      · exact x4 p a (by omega)
theorem u_begin {q : Nat} (hq : q = 7 ∨ q = 14) (v : Int32) (σ : CS) : ∃ σ', m_U_begin (q + 1) v σ = some σ' ∧ fr (fun x => x ≠ q + 1) σ σ' ∧ σ'.2 = σ.2 ∧ (cI σ' (q + 1) 1 = 0 ∧ cI σ' (q + 1) 2 = 0 ∧ cI σ' (q + 1) 3 = v ∧ cI σ' (q + 1) 4 = v ∧ cI σ' (q + 1) 5 = v ∧ cI σ' (q + 1) 6 = v ∧ cI σ' (q + 1) 7 = v + 1 ∧ cI σ' (q + 1) 8 = 0 ∧ cI σ' (q + 1) 9 = 0 ∧ cI σ' (q + 1) 10 = 0 ∧ cI σ' (q + 1) 11 = 0) := by
  refine ⟨(wi (wi (wi (wi (wi (wi (wi (wi (wi (wi (wi σ (q + 1) 1 0) (q + 1) 2 0) (q + 1) 3 v) (q + 1) 4 v) (q + 1) 5 v) (q + 1) 6 v) (q + 1) 7 (v + 1)) (q + 1) 8 0) (q + 1) 9 0) (q + 1) 10 0) (q + 1) 11 0), by unfold m_U_begin; rw [gd_t (by omega : q + 1 = 8 ∨ q + 1 = 15), bd_e, bd_e, bd_e, bd_e, bd_e, bd_e, bd_e, gd_t z01_0, bd_e, bd_e, bd_e, bd_e], fun a ha => ⟨funext fun i => ?_, rfl, rfl, rfl, rfl⟩, rfl, ?_⟩
  · have ha' : a ≠ q + 1 := ha
    simp [wi_I, ha']
  · simp [wi_I]
theorem z_begin {q : Nat} (hq : q = 7 ∨ q = 14) (σ : CS) : ∃ σ', m_Z_begin (q + 5) σ = some σ' ∧ fr (fun x => x ≠ q + 5) σ σ' ∧ σ'.2.2 = σ.2.2 ∧ (cI σ' (q + 5) 0 = 1000 ∧ cI σ' (q + 5) 1 = 0 ∧ cI σ' (q + 5) 2 = 0 ∧ cI σ' (q + 5) 6 = 0 ∧ cI σ' (q + 5) 7 = cI σ (q + 5) 7 ∧ cJ σ' (q + 5) 4 = -1 ∧ cJ σ' (q + 5) 5 = 0 ∧ cJ σ' (q + 5) 8 = cJ σ (q + 5) 8) := by
  refine ⟨(wi (wl (wl (wi (wi (wi σ (q + 5) 0 1000) (q + 5) 1 0) (q + 5) 2 0) (q + 5) 4 (-1)) (q + 5) 5 0) (q + 5) 6 0), by unfold m_Z_begin; rw [gd_t (by omega : q + 5 = 12 ∨ q + 5 = 19), bd_e, bd_e, gd_t z01_0, bd_e, bd_e, bd_e, gd_t z01_0, bd_e], fun a ha => ⟨funext fun i => ?_, funext fun i => ?_, rfl, rfl, rfl⟩, rfl, ?_⟩
  · have ha' : a ≠ q + 5 := ha
    simp [wi_I, wl_I, ha']
  · have ha' : a ≠ q + 5 := ha
    simp [wi_J, wl_J, ha']
  · simp [wi_I, wl_I, wi_J, wl_J]
theorem o_begin {q : Nat} (hq : q = 7 ∨ q = 14) (σ : CS) : ∃ σ', m_O_begin (q + 6) σ = some σ' ∧ fr (fun x => x ≠ q + 6) σ σ' ∧ σ'.2 = σ.2 ∧ (cI σ' (q + 6) 0 = 0 ∧ cI σ' (q + 6) 1 = 0 ∧ cI σ' (q + 6) 2 = 65535 ∧ cI σ' (q + 6) 3 = 0) := by
  refine ⟨(wi (wi (wi (wi σ (q + 6) 0 0) (q + 6) 1 0) (q + 6) 2 65535) (q + 6) 3 0), by unfold m_O_begin; rw [gd_t (by omega : q + 6 = 13 ∨ q + 6 = 20), bd_e, bd_e, bd_e, bd_e], fun a ha => ⟨funext fun i => ?_, rfl, rfl, rfl, rfl⟩, rfl, ?_⟩
  · have ha' : a ≠ q + 6 := ha
    simp [wi_I, ha']
  · simp [wi_I]
theorem v22 {q : Nat} (hq : q = 7 ∨ q = 14) (σ : CS) : ∃ σ', b_V_begin_22 (q + 3) σ = some σ' ∧ fr (fun x => x ≠ q + 3) σ σ' ∧ σ'.2 = σ.2 ∧ (cI σ' (q + 3) 0 = cI σ (q + 3) 0 ∧ cI σ' (q + 3) 1 = 0 ∧ cI σ' (q + 3) 2 = 0 ∧ cI σ' (q + 3) 3 = 0 ∧ cI σ' (q + 3) 4 = 0 ∧ cI σ' (q + 3) 5 = 0 ∧ cI σ' (q + 3) 7 = 0) := by
  refine ⟨(wi (wi (wi (wi (wi (wi σ (q + 3) 1 0) (q + 3) 2 0) (q + 3) 3 0) (q + 3) 4 0) (q + 3) 5 0) (q + 3) 7 0), by unfold b_V_begin_22; rw [bd_e, bd_e, gd_t z01_0, bd_e, bd_e, bd_e, bd_e], fun a ha => ⟨funext fun i => ?_, rfl, rfl, rfl, rfl⟩, rfl, ?_⟩
  · have ha' : a ≠ q + 3 := ha
    simp [wi_I, ha']
  · simp [wi_I]
theorem v_begin {own : Nat → Nat} {q e : Nat} {σ : CS} {ρ : RS} {U : Nat} (hqe : q = 7 ∧ e = 0 ∨ q = 14 ∧ e = 1) (hoq : own (q + 3) = 10 + e) (G : G3 own q e σ ρ U) : ∃ σ', m_V_begin (q + 3) σ = some σ' ∧ fr (fun x => x ≠ q + 3 ∧ own x ≠ 4 + e) σ σ' ∧ σ'.2 = σ.2 ∧ (cI σ' (q + 3) 0 = cI σ (q + 3) 0 ∧ cI σ' (q + 3) 1 = 0 ∧ cI σ' (q + 3) 2 = 0 ∧ cI σ' (q + 3) 3 = 0 ∧ cI σ' (q + 3) 4 = 0 ∧ cI σ' (q + 3) 5 = 0 ∧ cI σ' (q + 3) 7 = 0) ∧ ∀ ra, cR σ (q + 3) 6 = some ra → cN σ ra = 65536 → ∀ p, p < 65536 → cI σ' ra p = 0 := by
  have hq : q = 7 ∨ q = 14 := by omega
  unfold G3 G3x at G
  obtain ⟨h1, h2, h3, h4, ⟨h5, h5a, h5b⟩, h6, h7, h8, h9, ra, k1, k2, k3, k4⟩ := G
  have hne : ra ≠ q + 3 := fun e1 => by rw [e1] at k3; omega
  have tU : (cI σ (q + 3) 4).toInt = (U : Int) := by rw [h5a]; exact x32_nat (by omega)
  have hkc := kc_le (ρ.1 40) e 65536
  have tk : (cI σ (q + 3) 5).toInt = (kc (ρ.1 40) e 65536 : Int) := by rw [h6]; exact x32_nat (by omega)
  have cN6 : cN σ ra ≤ 65536 := by rcases k4 with ⟨z, _⟩ | ⟨z, _⟩ <;> omega
  have f14 : ∃ σ', b_V_begin_14 (q + 3) σ = some σ' ∧ fr (fun x => x ≠ q + 3 ∧ own x ≠ 4 + e) σ σ' ∧ σ'.2 = σ.2 ∧ (cI σ' (q + 3) 0 = cI σ (q + 3) 0 ∧ cI σ' (q + 3) 1 = 0 ∧ cI σ' (q + 3) 2 = 0 ∧ cI σ' (q + 3) 3 = 0 ∧ cI σ' (q + 3) 4 = 0 ∧ cI σ' (q + 3) 5 = 0 ∧ cI σ' (q + 3) 7 = 0) ∧ ∀ ra, cR σ (q + 3) 6 = some ra → cN σ ra = 65536 → ∀ p, p < 65536 → cI σ' ra p = 0 := by
    obtain ⟨σ1, x1, x2, x3, x4, x5⟩ := fill_loop cN6 (cN σ ra) 0 fuel 0 σ (by omega) (by unfold fuel; omega) z32_0 k2 rfl
    obtain ⟨σ2, y1, y2, y3, y4, y5⟩ := v22 hq σ1
    refine ⟨σ2, ?_, fr.tr (x2.sub fun x (hx : x ≠ q + 3 ∧ own x ≠ 4 + e) e1 => hx.2 (by rw [e1]; exact k3)) y2 (fun x hx => hx.1), by rw [y3, x3], ⟨by rw [y4, (x2 (q + 3) (Ne.symm hne)).1], y5⟩, fun ra' hra hN p hp => ?_⟩
    · unfold b_V_begin_14 m_K_fill_SS
      rw [k1, bc_e, gd_t (Or.inr (Or.inl k2)), bd_e, x1, bc_e, y1]
    · rw [k1] at hra
      cases hra
      rw [(y2 ra hne).1, x4 p (by omega) (by omega)]
  unfold m_V_begin
  rw [gd_t (by omega : q + 3 = 10 ∨ q + 3 = 17), bd_e, bd_e]
  by_cases hU : 0 < U
  · rw [if_pos (x32_lt' z32_0 tU (by omega))]; exact f14
  · rw [if_neg (x32_nlt z32_0 tU (by omega))]
    by_cases hK : kc (ρ.1 40) e 65536 = 0
    · rw [if_pos (x32_le' tk z32_0 (by omega))]
      obtain ⟨σ2, y1, y2, y3, y4⟩ := v22 hq σ
      refine ⟨σ2, y1, y2.sub fun x hx => hx.1, y3, y4, fun ra' hra hN p hp => ?_⟩
      rw [k1] at hra
      cases hra
      rw [(y2 ra hne).1]
      rcases k4 with ⟨z, _⟩ | ⟨_, z⟩
      · omega
      · exact (z p hp).2 (by unfold up; omega) (kc_zero 65536 hK p hp)
    · rw [if_neg (x32_nle tk z32_0 (by omega))]; exact f14
/-- what an end is after its begin -/
def BG (own : Nat → Nat) (q e : Nat) (st v p1 p2 : Int32) (σ σ' : CS) : Prop :=
  fr (fun x => own x ≠ 10 + e ∧ own x ≠ 4 + e) σ σ' ∧ σ'.2.2 = σ.2.2 ∧ (cI σ' q 0 = cI σ q 0 ∧ cI σ' q 7 = cI σ q 7 ∧ cI σ' q 8 = st ∧ cI σ' q 9 = 0 ∧ cI σ' q 10 = 0 ∧ cI σ' q 11 = 0 ∧ cI σ' q 12 = p1 ∧ cI σ' q 13 = p2) ∧
  (cI σ' (q + 1) 1 = 0 ∧ cI σ' (q + 1) 2 = 0 ∧ cI σ' (q + 1) 3 = v ∧ cI σ' (q + 1) 4 = v ∧ cI σ' (q + 1) 5 = v ∧ cI σ' (q + 1) 6 = v ∧ cI σ' (q + 1) 7 = v + 1 ∧ cI σ' (q + 1) 8 = 0 ∧ cI σ' (q + 1) 9 = 0 ∧ cI σ' (q + 1) 10 = 0 ∧ cI σ' (q + 1) 11 = 0) ∧
  ((cI σ' (q + 3) 0 = cI σ (q + 3) 0 ∧ cI σ' (q + 3) 1 = 0 ∧ cI σ' (q + 3) 2 = 0 ∧ cI σ' (q + 3) 3 = 0 ∧ cI σ' (q + 3) 4 = 0 ∧ cI σ' (q + 3) 5 = 0 ∧ cI σ' (q + 3) 7 = 0) ∧ ∀ ra, cR σ (q + 3) 6 = some ra → cN σ ra = 65536 → ∀ p, p < 65536 → cI σ' ra p = 0) ∧
  (cI σ' (q + 5) 0 = 1000 ∧ cI σ' (q + 5) 1 = 0 ∧ cI σ' (q + 5) 2 = 0 ∧ cI σ' (q + 5) 6 = 0 ∧ cI σ' (q + 5) 7 = cI σ (q + 5) 7 ∧ cJ σ' (q + 5) 4 = -1 ∧ cJ σ' (q + 5) 5 = 0 ∧ cJ σ' (q + 5) 8 = cJ σ (q + 5) 8) ∧
  (cI σ' (q + 6) 0 = 0 ∧ cI σ' (q + 6) 1 = 0 ∧ cI σ' (q + 6) 2 = 65535 ∧ cI σ' (q + 6) 3 = 0)
theorem e_begin {own : Nat → Nat} {q e : Nat} {σ : CS} {ρ : RS} {U : Nat} (hqe : q = 7 ∧ e = 0 ∨ q = 14 ∧ e = 1) (O : Ow own σ) (G : G3 own q e σ ρ U) (st v p1 p2 : Int32) : ∃ σ', m_E_begin q st v p1 p2 σ = some σ' ∧ BG own q e st v p1 p2 σ σ' := by
  have hq : q = 7 ∨ q = 14 := by omega
  obtain ⟨o0, o1, o3, o5, o6⟩ := own_q hqe O
  have ora : ∀ ra, own ra = 4 + e → ra ≠ q ∧ ra ≠ q + 1 ∧ ra ≠ q + 3 ∧ ra ≠ q + 5 ∧ ra ≠ q + 6 := fun ra h => ⟨fun e1 => by rw [e1] at h; omega, fun e1 => by rw [e1] at h; omega, fun e1 => by rw [e1] at h; omega, fun e1 => by rw [e1] at h; omega, fun e1 => by rw [e1] at h; omega⟩
  have F1 := fr_wi σ q 8 st
  obtain ⟨σ2, u1, F2, u3, u4⟩ := u_begin hq v (wi σ q 8 st)
  have G2' : G3 own q e σ2 ρ U := G3x.cg G (fr.tr (F1.sub fun x (hx : x = q + 3 ∨ own x = 4 + e) => hx.elim (fun h => by omega) (fun h => (ora x h).1)) F2 (fun x hx => hx.elim (fun h => by omega) (fun h => (ora x h).2.1))) (fun _ h => h) (fun _ _ => rfl) (fun _ _ => rfl) (fun _ _ => rfl)
  obtain ⟨σ3, w1, F3, w3, w4, w5⟩ := v_begin hqe o3 G2'
  obtain ⟨σ4, z1, F4, z3, z4⟩ := z_begin hq σ3
  obtain ⟨σ5, x1, F5, x3, x4⟩ := o_begin hq σ4
  obtain ⟨σ6, h6⟩ : ∃ y, y = wi (wi (wi (wi (wi σ5 q 9 0) q 10 0) q 11 0) q 12 p1) q 13 p2 := ⟨_, rfl⟩
  have F6 : fr (fun x => x ≠ q) σ5 σ6 := by
    rw [h6]
    exact fun a (ha : a ≠ q) => ⟨funext fun i => by repeat rw [wi_ne _ _ _ _ (Or.inl ha)], rfl, rfl, rfl, rfl⟩
  refine ⟨σ6, ?_, ?_, ?_, ⟨?_, ?_, ?_, ?_, ?_, ?_, ?_, ?_⟩, ?_, ⟨?_, ?_⟩, ?_, ?_⟩
  · unfold m_E_begin
    rw [gd_t hq, bd_e, u1, bc_e, w1, bc_e, z1, bc_e, x1, bc_e, bd_e, bd_e, bd_e, bd_e, bd_e, h6]
  · have D : ∀ x, own x ≠ 10 + e ∧ own x ≠ 4 + e → x ≠ q ∧ x ≠ q + 1 ∧ (x ≠ q + 3 ∧ own x ≠ 4 + e) ∧ x ≠ q + 5 ∧ x ≠ q + 6 := fun x hx => ⟨fun e1 => by rw [e1] at hx; omega, fun e1 => by rw [e1] at hx; omega, ⟨fun e1 => by rw [e1] at hx; omega, hx.2⟩, fun e1 => by rw [e1] at hx; omega, fun e1 => by rw [e1] at hx; omega⟩
    exact fr.tr (fr.tr (fr.tr (fr.tr (fr.tr (F1.sub fun x hx => (D x hx).1) F2 (fun x hx => (D x hx).2.1)) F3 (fun x hx => (D x hx).2.2.1)) F4 (fun x hx => (D x hx).2.2.2.1)) F5 (fun x hx => (D x hx).2.2.2.2)) F6 (fun x hx => (D x hx).1)
  · rw [h6]; show σ5.2.2 = σ.2.2; rw [x3, z3, w3, u3]; rfl
  · rw [h6, wi_ne _ _ _ _ (by omega), wi_ne _ _ _ _ (by omega), wi_ne _ _ _ _ (by omega), wi_ne _ _ _ _ (by omega), wi_ne _ _ _ _ (by omega), (F5 q (by omega)).1, (F4 q (by omega)).1, (F3 q ⟨by omega, by omega⟩).1, (F2 q (by omega)).1, wi_ne _ _ _ _ (by omega)]
  · rw [h6, wi_ne _ _ _ _ (by omega), wi_ne _ _ _ _ (by omega), wi_ne _ _ _ _ (by omega), wi_ne _ _ _ _ (by omega), wi_ne _ _ _ _ (by omega), (F5 q (by omega)).1, (F4 q (by omega)).1, (F3 q ⟨by omega, by omega⟩).1, (F2 q (by omega)).1, wi_ne _ _ _ _ (by omega)]
  · rw [h6, wi_ne _ _ _ _ (by omega), wi_ne _ _ _ _ (by omega), wi_ne _ _ _ _ (by omega), wi_ne _ _ _ _ (by omega), wi_ne _ _ _ _ (by omega), (F5 q (by omega)).1, (F4 q (by omega)).1, (F3 q ⟨by omega, by omega⟩).1, (F2 q (by omega)).1, wi_eq]
  · rw [h6]; simp [wi_I]
  · rw [h6]; simp [wi_I]
  · rw [h6]; simp [wi_I]
  · rw [h6]; simp [wi_I]
  · rw [h6]; simp [wi_I]
  · rw [(F6 (q + 1) (by omega)).1, (F5 (q + 1) (by omega)).1, (F4 (q + 1) (by omega)).1, (F3 (q + 1) ⟨by omega, by omega⟩).1]; exact u4
  · rw [(F6 (q + 3) (by omega)).1, (F5 (q + 3) (by omega)).1, (F4 (q + 3) (by omega)).1]
    have e0 : cI σ2 (q + 3) 0 = cI σ (q + 3) 0 := by rw [(F2 (q + 3) (by omega)).1, (F1 (q + 3) (by omega)).1]
    rw [← e0]; exact w4
  · intro ra hra hN p hp
    have k3 : own ra = 4 + e := by
      obtain ⟨_, _, _, _, _, _, _, _, _, r', k1, k2, k3, k4⟩ := G
      rw [hra] at k1; cases k1; exact k3
    have D := ora ra k3
    rw [(F6 ra D.1).1, (F5 ra D.2.2.2.2).1, (F4 ra D.2.2.2.1).1]
    have r2 : cR σ2 = cR σ := by unfold cR; rw [u3]; rfl
    have n2 : cN σ2 = cN σ := by unfold cN; rw [u3]; rfl
    exact w5 ra (by rw [r2]; exact hra) (by rw [n2]; exact hN) p hp
  · have I5 : cI σ6 (q + 5) = cI σ4 (q + 5) := by rw [(F6 (q + 5) (by omega)).1, (F5 (q + 5) (by omega)).1]
    have J5 : cJ σ6 (q + 5) = cJ σ4 (q + 5) := by rw [(F6 (q + 5) (by omega)).2.1, (F5 (q + 5) (by omega)).2.1]
    have I0 : cI σ3 (q + 5) = cI σ (q + 5) := by rw [(F3 (q + 5) ⟨by omega, by omega⟩).1, (F2 (q + 5) (by omega)).1, (F1 (q + 5) (by omega)).1]
    have J0 : cJ σ3 (q + 5) = cJ σ (q + 5) := by rw [(F3 (q + 5) ⟨by omega, by omega⟩).2.1, (F2 (q + 5) (by omega)).2.1, (F1 (q + 5) (by omega)).2.1]
    rw [I5, J5, ← I0, ← J0]; exact z4
  · rw [(F6 (q + 6) (by omega)).1]; exact x4
theorem clr_loop {e : Nat} (he : e < 2) {v1 : Int32} (hv : v1.toInt = (e : Int)) : ∀ (r i n : Nat) (v3 : Int32) (ρ : RS), i + r = 65536 → r < n → v3.toInt = (i : Int) →
    ∃ ρ', lq3 F_fresh_189 n v1 v3 ρ = some ρ' ∧ ρ'.2 = ρ.2 ∧ (∀ r, r ≠ 40 → ρ'.1 r = ρ.1 r) ∧ (∀ p, i ≤ p → p < 65536 → ρ'.1 40 (65536 * e + p) = 0) ∧ ∀ j, ¬ (65536 * e + i ≤ j ∧ j < 65536 * e + 65536) → ρ'.1 40 j = ρ.1 40 j := by
  have t6 : (65536 : Int32).toInt = 65536 := by decide
  intro r
  induction r with
  | zero =>
    intro i n v3 ρ hi hn h3
    obtain ⟨n, rfl⟩ : ∃ m, n = m + 1 := ⟨n - 1, by omega⟩
    refine ⟨ρ, ?_, rfl, fun _ _ => rfl, fun p a b => by omega, fun _ _ => rfl⟩
    show F_fresh_189 (lq3 F_fresh_189 n) v1 v3 ρ = _
    rw [F_fresh_189, if_pos (x32_le' t6 h3 (by omega))]
  | succ r ih =>
    intro i n v3 ρ hi hn h3
    obtain ⟨n, rfl⟩ : ∃ m, n = m + 1 := ⟨n - 1, by omega⟩
    have hix : (((65536 : Int32) * v1) + v3).toInt = ((65536 * e + i : Nat) : Int) := by
      rw [x32_add (x32_mul t6 hv (by omega) (by omega)) h3 (by omega) (by omega)]; omega
    obtain ⟨ρ', x1, x2, x3, x4, x5⟩ := ih (i + 1) n (v3 + 1) (si ρ 40 (65536 * e + i) 0) (by omega) (by omega) (by rw [x32_add h3 z32_1 (by omega) (by omega)]; omega)
    refine ⟨ρ', ?_, x2, fun r hr => by rw [x3 r hr]; exact funext fun j => si_ne _ _ _ _ (Or.inl hr), fun p a b => ?_, fun j hj => ?_⟩
    · show F_fresh_189 (lq3 F_fresh_189 n) v1 v3 ρ = _
      rw [F_fresh_189, if_neg (x32_nle t6 h3 (by omega)), gd_t (x32_in hix (by omega)), bd_e, bd_e, nar_b0, x32_n hix, x1]
    · by_cases hp : p = i
      · rw [hp, x5 _ (by omega), si_eq]
      · exact x4 p (by omega) b
    · rw [x5 j (by omega), si_ne _ _ _ _ (by omega)]
/-- what the reference's end is after its begin -/
def FS (e : Nat) (v : Int32) (ρ ρ' : RS) : Prop :=
  (ρ'.1 10 e = v ∧ ρ'.1 11 e = v ∧ ρ'.1 12 e = v ∧ ρ'.1 13 e = v ∧ ρ'.1 14 e = 0 ∧ ρ'.1 15 e = 0 ∧ ρ'.1 16 e = 0 ∧ ρ'.1 17 e = 0 ∧ ρ'.1 18 e = 0 ∧ ρ'.1 19 e = 0 ∧ ρ'.1 20 e = 0 ∧ ρ'.1 21 e = 65535 ∧ ρ'.1 22 e = 0 ∧ ρ'.1 23 e = 1000 ∧ ρ'.1 24 e = 0 ∧ ρ'.1 25 e = (-1) ∧ ρ'.1 26 e = 0 ∧ ρ'.1 35 e = 0 ∧ ρ'.1 28 e = 0 ∧ ρ'.1 29 e = 0 ∧ ρ'.1 30 e = 0 ∧ ρ'.1 31 e = 0 ∧ ρ'.1 32 e = 0 ∧ ρ'.1 36 e = 0 ∧ ρ'.1 37 e = 0) ∧ ρ'.2 33 e = -1 ∧ (∀ p, p < 65536 → ρ'.1 40 (65536 * e + p) = 0) ∧ (∀ r, r < 10 ∨ r = 27 ∨ r = 38 ∨ r = 39 → ρ'.1 r = ρ.1 r) ∧ (∀ r j, 7 ≤ r → r ≤ 37 → j ≠ e → ρ'.1 r j = ρ.1 r j) ∧ (∀ r j, r ≠ 33 ∨ j ≠ e → ρ'.2 r j = ρ.2 r j) ∧ ∀ j, ¬ (65536 * e ≤ j ∧ j < 65536 * e + 65536) → ρ'.1 40 j = ρ.1 40 j
theorem fresh_ref {ρ : RS} {e : Nat} (he : e < 2) {v1 : Int32} (hv : v1.toInt = (e : Int)) (v : Int32) : ∃ ρ', m_fresh v1 v ρ = some ρ' ∧ FS e v ρ ρ' := by
  have hi := x32_in hv he
  have hcl := x32_n hv
  have pre : ∀ x, x = m_fresh v1 v ρ → x = lq3 F_fresh_189 fuel v1 0 (si (si (si (si (si (si (si (sl (si (si (si (si (si (si (si (si (si (si (si (si (si (si (si (si (si (si ρ 10 e v) 11 e v) 12 e v) 13 e v) 14 e 0) 15 e 0) 16 e 0) 17 e 0) 18 e 0) 19 e 0) 20 e 0) 21 e 65535) 22 e 0) 23 e 1000) 24 e 0) 25 e (-1)) 26 e 0) 35 e 0) 33 e (-1)) 28 e 0) 29 e 0) 30 e 0) 31 e 0) 32 e 0) 36 e 0) 37 e 0) := fun x hx => by
    rw [hx]; unfold m_fresh
    rw [gd_t hi, bd_e, gd_t hi, bd_e, gd_t hi, bd_e, gd_t hi, bd_e, gd_t hi, bd_e, gd_t hi, bd_e, gd_t hi, bd_e, gd_t hi, bd_e, gd_t hi, bd_e, gd_t hi, bd_e, gd_t hi, bd_e, gd_t hi, bd_e, gd_t hi, bd_e, gd_t hi, bd_e, gd_t hi, bd_e, gd_t hi, bd_e, gd_t hi, bd_e, gd_t hi, bd_e, gd_t hi, bd_e, gd_t hi, bd_e, gd_t hi, bd_e, gd_t hi, bd_e, gd_t hi, bd_e, gd_t hi, bd_e, gd_t hi, bd_e, gd_t hi, bd_e, hcl, nar_b0]
  have pre := pre _ rfl
  obtain ⟨ρ0, h0⟩ : ∃ y, y = (si (si (si (si (si (si (si (sl (si (si (si (si (si (si (si (si (si (si (si (si (si (si (si (si (si (si ρ 10 e v) 11 e v) 12 e v) 13 e v) 14 e 0) 15 e 0) 16 e 0) 17 e 0) 18 e 0) 19 e 0) 20 e 0) 21 e 65535) 22 e 0) 23 e 1000) 24 e 0) 25 e (-1)) 26 e 0) 35 e 0) 33 e (-1)) 28 e 0) 29 e 0) 30 e 0) 31 e 0) 32 e 0) 36 e 0) 37 e 0) := ⟨_, rfl⟩
  rw [← h0] at pre
  obtain ⟨ρ', x1, x2, x3, x4, x5⟩ := clr_loop he hv 65536 0 fuel 0 ρ0 (by omega) (by unfold fuel; omega) z32_0
  have o1 : ∀ r, r < 10 ∨ r = 27 ∨ 38 ≤ r → ρ0.1 r = ρ.1 r := fun r hr => by
    rw [h0]
    refine funext fun j => ?_
    repeat first | rw [si_ne _ _ _ _ (Or.inl (by omega))] | rw [sl_1]
  have o2 : ∀ r j, j ≠ e → ρ0.1 r j = ρ.1 r j := fun r j hj => by
    rw [h0]
    repeat first | rw [si_ne _ _ _ _ (Or.inr hj)] | rw [sl_1]
  have o3 : ∀ r j, r ≠ 33 ∨ j ≠ e → ρ0.2 r j = ρ.2 r j := fun r j hj => by
    rw [h0]
    repeat rw [si_2]
    rw [sl_2, if_neg (by omega)]
    repeat rw [si_2]
  refine ⟨ρ', pre.trans x1, ⟨?_, ?_, ?_, ?_, ?_, ?_, ?_, ?_, ?_, ?_, ?_, ?_, ?_, ?_, ?_, ?_, ?_, ?_, ?_, ?_, ?_, ?_, ?_, ?_, ?_⟩, ?_, fun p hp => x4 p (by omega) hp, fun r hr => by rw [x3 r (by omega), o1 r (by omega)], fun r j a b c => by rw [x3 r (by omega), o2 r j c], fun r j h => by rw [x2, o3 r j h], fun j hj => by rw [x5 j (by omega), o1 40 (by omega)]⟩
  · rw [x3 10 (by omega), h0]; simp [si_1, sl_1]
  · rw [x3 11 (by omega), h0]; simp [si_1, sl_1]
  · rw [x3 12 (by omega), h0]; simp [si_1, sl_1]
  · rw [x3 13 (by omega), h0]; simp [si_1, sl_1]
  · rw [x3 14 (by omega), h0]; simp [si_1, sl_1]
  · rw [x3 15 (by omega), h0]; simp [si_1, sl_1]
  · rw [x3 16 (by omega), h0]; simp [si_1, sl_1]
  · rw [x3 17 (by omega), h0]; simp [si_1, sl_1]
  · rw [x3 18 (by omega), h0]; simp [si_1, sl_1]
  · rw [x3 19 (by omega), h0]; simp [si_1, sl_1]
  · rw [x3 20 (by omega), h0]; simp [si_1, sl_1]
  · rw [x3 21 (by omega), h0]; simp [si_1, sl_1]
  · rw [x3 22 (by omega), h0]; simp [si_1, sl_1]
  · rw [x3 23 (by omega), h0]; simp [si_1, sl_1]
  · rw [x3 24 (by omega), h0]; simp [si_1, sl_1]
  · rw [x3 25 (by omega), h0]; simp [si_1, sl_1]
  · rw [x3 26 (by omega), h0]; simp [si_1, sl_1]
  · rw [x3 35 (by omega), h0]; simp [si_1, sl_1]
  · rw [x3 28 (by omega), h0]; simp [si_1, sl_1]
  · rw [x3 29 (by omega), h0]; simp [si_1, sl_1]
  · rw [x3 30 (by omega), h0]; simp [si_1, sl_1]
  · rw [x3 31 (by omega), h0]; simp [si_1, sl_1]
  · rw [x3 32 (by omega), h0]; simp [si_1, sl_1]
  · rw [x3 36 (by omega), h0]; simp [si_1, sl_1]
  · rw [x3 37 (by omega), h0]; simp [si_1, sl_1]
  · rw [x2, h0]
    repeat rw [si_2]
    rw [sl_2, if_pos ⟨rfl, rfl⟩]
