/-! steps 5 to 9, both sides -/
section AD
variable {own : Nat → Nat} {P C : List (Nat × Nat)} {S : List Nat} {c1 c2 K q e : Nat} {σ : CS} {ρ : RS} {τ st u n m g U : Nat} {rn : Int32} {tr : Nat} {g0 s0 a len N0 : Nat} {W : Nat → Int32}
def exq (r ed v : Int32) : Prop := ¬ (v - r < 0) ∧ v - ed < 0
def ftq (r ed sq sn : Int32) : Prop := (sn = 0 ∧ (sq = r ∨ exq r ed sq)) ∨ (sn ≠ 0 ∧ (exq r ed sq ∨ exq r ed (sq + sn - 1)))
theorem cfits (hq : q = 7 ∨ q = 14) (sq sn : Int32) : (ftq (cI σ (q + 3) 1) (cI σ (q + 3) 2) sq sn → m_V_fits (q + 3) sq sn σ = some (1, σ)) ∧ (¬ ftq (cI σ (q + 3) 1) (cI σ (q + 3) 2) sq sn → m_V_fits (q + 3) sq sn σ = some (0, σ)) := by
  have key : m_V_fits (q + 3) sq sn σ = if sn = 0 then (if sq = cI σ (q + 3) 1 then some (1, σ) else if ¬ (sq - cI σ (q + 3) 1 < 0) ∧ sq - cI σ (q + 3) 2 < 0 then some (1, σ) else some (0, σ)) else (if ¬ (sq - cI σ (q + 3) 1 < 0) ∧ sq - cI σ (q + 3) 2 < 0 then some (1, σ) else if ¬ (sq + sn - 1 - cI σ (q + 3) 1 < 0) ∧ sq + sn - 1 - cI σ (q + 3) 2 < 0 then some (1, σ) else some (0, σ)) := by
    unfold m_V_fits b_V_fits_20 b_V_fits_25 b_V_fits_46 b_V_fits_51
    rw [gd_t (by omega), bd_e, c_exp hq, bc2_e, bc2_e, c_exp hq, bc2_e, gd_t z01_0, gd_t z01_1]
    by_cases h0 : sn = 0
    · rw [if_pos h0, if_pos h0]
      by_cases h1 : sq = cI σ (q + 3) 1
      · rw [if_pos h1, if_pos h1]
      · rw [if_neg h1, if_neg h1]
        by_cases h2 : ¬ (sq - cI σ (q + 3) 1 < 0) ∧ sq - cI σ (q + 3) 2 < 0
        · rw [if_pos h2, if_neg (by decide), if_pos h2]
        · rw [if_neg h2, if_pos rfl, if_neg h2]
    · rw [if_neg h0, if_neg h0]
      by_cases h2 : ¬ (sq - cI σ (q + 3) 1 < 0) ∧ sq - cI σ (q + 3) 2 < 0
      · rw [if_pos h2, if_neg (by decide), if_pos h2]
      · rw [if_neg h2, if_pos rfl, if_neg h2]
        by_cases h3 : ¬ (sq + sn - 1 - cI σ (q + 3) 1 < 0) ∧ sq + sn - 1 - cI σ (q + 3) 2 < 0
        · rw [if_pos h3, if_neg (by decide), if_pos h3]
        · rw [if_neg h3, if_pos rfl, if_neg h3]
  rw [key]
  unfold ftq exq
  constructor
  · rintro (⟨h0, h⟩ | ⟨h0, h⟩)
    · rw [if_pos h0]
      by_cases h1 : sq = cI σ (q + 3) 1
      · rw [if_pos h1]
      · rw [if_neg h1, if_pos (h.resolve_left h1)]
    · rw [if_neg h0]
      by_cases h2 : ¬ (sq - cI σ (q + 3) 1 < 0) ∧ sq - cI σ (q + 3) 2 < 0
      · rw [if_pos h2]
      · rw [if_neg h2, if_pos (h.resolve_left h2)]
  · intro h
    by_cases h0 : sn = 0
    · rw [if_pos h0, if_neg (fun h1 => h (Or.inl ⟨h0, Or.inl h1⟩)), if_neg (fun h1 => h (Or.inl ⟨h0, Or.inr h1⟩))]
    · rw [if_neg h0, if_neg (fun h1 => h (Or.inr ⟨h0, Or.inl h1⟩)), if_neg (fun h1 => h (Or.inr ⟨h0, Or.inr h1⟩))]
theorem rfits (he : e < 2) {v1 : Int32} (hv : v1.toInt = (e : Int)) (H : SC g0 s0 a len N0 W σ ρ) : (ftq (ρ.1 18 e) (ρ.1 19 e) (n4 W 4) (sp W len) → m_fits v1 ρ = some (1, ρ)) ∧ (¬ ftq (ρ.1 18 e) (ρ.1 19 e) (n4 W 4) (sp W len) → m_fits v1 ρ = some (0, ρ)) := by
  have hi := x32_in hv he
  have hcl := x32_n hv
  have h46 : ρ.1 0 46 = n4 W 4 := H.2.2.2.2.2.2.1
  have h48 : ρ.1 0 48 = n1 W 13 := H.2.2.2.2.2.2.2.2.1
  have h51 : ρ.1 0 51 = Int32.ofNat (len - ho W) := H.2.2.2.2.2.2.2.2.2.2.2.1
  have to33 : m_fits v1 ρ = b_fits_33 v1 (Int32.ofNat (len - ho W) + fl01 (n1 W 13 &&& 2)) (fl01 (n1 W 13 &&& 1)) ρ := by
    unfold m_fits b_fits_18 fl01
    rw [bd_e, bd_e, h48, h51, bd_e, bd_e]
    by_cases x2 : n1 W 13 &&& 2 = 0
    · rw [if_pos x2, if_pos x2]
      by_cases x1 : n1 W 13 &&& 1 = 0
      · rw [if_pos x1, if_pos x1]
      · rw [if_neg x1, if_neg x1]
    · rw [if_neg x2, if_neg x2]
      by_cases x1 : n1 W 13 &&& 1 = 0
      · rw [if_pos x1, if_pos x1]
      · rw [if_neg x1, if_neg x1]
  have key : m_fits v1 ρ = if sp W len = 0 then (if n4 W 4 = ρ.1 18 e then some (1, ρ) else if ¬ (n4 W 4 - ρ.1 18 e < 0) ∧ n4 W 4 - ρ.1 19 e < 0 then some (1, ρ) else some (0, ρ)) else (if ¬ (n4 W 4 - ρ.1 18 e < 0) ∧ n4 W 4 - ρ.1 19 e < 0 then some (1, ρ) else if ¬ (n4 W 4 + sp W len - 1 - ρ.1 18 e < 0) ∧ n4 W 4 + sp W len - 1 - ρ.1 19 e < 0 then some (1, ρ) else some (0, ρ)) := by
    rw [to33]
    unfold b_fits_33 b_fits_64 b_fits_69 b_fits_98 b_fits_103
    rw [bd_e, show Int32.ofNat (len - ho W) + fl01 (n1 W 13 &&& 2) + fl01 (n1 W 13 &&& 1) = sp W len from rfl]
    by_cases h0 : sp W len = 0
    · rw [if_pos h0, if_pos h0, bd_e, h46, gd_t hi, bd_e, hcl]
      by_cases h1 : n4 W 4 = ρ.1 18 e
      · rw [if_pos h1, if_pos h1, gd_t z01_1]
      · rw [if_neg h1, if_neg h1, bd_e, r_exp he hv, bc2_e]
        by_cases h2 : ¬ (n4 W 4 - ρ.1 18 e < 0) ∧ n4 W 4 - ρ.1 19 e < 0
        · rw [if_pos h2, if_neg (by decide), if_pos h2, gd_t z01_1]
        · rw [if_neg h2, if_pos rfl, if_neg h2, gd_t z01_0]
    · rw [if_neg h0, if_neg h0, bd_e, h46, r_exp he hv, bc2_e]
      by_cases h2 : ¬ (n4 W 4 - ρ.1 18 e < 0) ∧ n4 W 4 - ρ.1 19 e < 0
      · rw [if_pos h2, if_neg (by decide), if_pos h2, gd_t z01_1]
      · rw [if_neg h2, if_pos rfl, if_neg h2, bd_e, h46, r_exp he hv, bc2_e]
        by_cases h3 : ¬ (n4 W 4 + sp W len - 1 - ρ.1 18 e < 0) ∧ n4 W 4 + sp W len - 1 - ρ.1 19 e < 0
        · rw [if_pos h3, if_neg (by decide), if_pos h3, gd_t z01_1]
        · rw [if_neg h3, if_pos rfl, if_neg h3, gd_t z01_0]
  rw [key]
  unfold ftq exq
  constructor
  · rintro (⟨h0, h⟩ | ⟨h0, h⟩)
    · rw [if_pos h0]
      by_cases h1 : n4 W 4 = ρ.1 18 e
      · rw [if_pos h1]
      · rw [if_neg h1, if_pos (h.resolve_left h1)]
    · rw [if_neg h0]
      by_cases h2 : ¬ (n4 W 4 - ρ.1 18 e < 0) ∧ n4 W 4 - ρ.1 19 e < 0
      · rw [if_pos h2]
      · rw [if_neg h2, if_pos (h.resolve_left h2)]
  · intro h
    by_cases h0 : sp W len = 0
    · rw [if_pos h0, if_neg (fun h1 => h (Or.inl ⟨h0, Or.inl h1⟩)), if_neg (fun h1 => h (Or.inl ⟨h0, Or.inr h1⟩))]
    · rw [if_neg h0, if_neg (fun h1 => h (Or.inr ⟨h0, Or.inl h1⟩)), if_neg (fun h1 => h (Or.inr ⟨h0, Or.inr h1⟩))]
/-- an ACK behind a timer's start, which the reference starts after it -/
theorem linger_sim (hqe : q = 7 ∧ e = 0 ∨ q = 14 ∧ e = 1) (N : NB own P C S c1 c2 K σ ρ) (E : EE own q e σ ρ τ st u n m g U rn tr) (T : CT σ ρ τ) {v1 : Int32} (hv : v1.toInt = (e : Int)) (hst : 4 ≤ st) :
    ∃ σ' ρ1 own', m_E_sendAck q (wl (wi σ (q + 5) 2 1) (q + 5) 3 (cJ σ 3 0 + (4000 : Int32).toInt64)) = some σ' ∧ m_sendAck v1 ρ = some ρ1 ∧ EE own' q e σ' (sl ρ1 33 e (cJ σ 3 0 + (4000 : Int32).toInt64)) τ st u n m g U 1 tr ∧ EP K C own own' e σ σ' ρ (sl ρ1 33 e (cJ σ 3 0 + (4000 : Int32).toInt64)) ∧ ρ1.2 0 3 = ρ.2 0 3 ∧ ρ1.1 9 e = ρ.1 9 e ∧ ρ1.1 0 48 = ρ.1 0 48 := by
  have hq : q = 7 ∨ q = 14 := by omega
  have he : e < 2 := by omega
  have hi := x32_in hv he
  have hcl := x32_n hv
  obtain ⟨E, X⟩ := E
  have O := N.2.2.1
  have hoq := own_q hqe O
  obtain ⟨w, hw⟩ : ∃ w, w = cJ σ 3 0 + (4000 : Int32).toInt64 := ⟨_, rfl⟩
  rw [← hw]
  obtain ⟨σt, hσt⟩ : ∃ x, x = wl (wi σ (q + 5) 2 1) (q + 5) 3 w := ⟨_, rfl⟩
  rw [← hσt]
  have F : fr (fun x => x ≠ q + 5) σ σt := by rw [hσt]; exact fr.tr (fr_wi σ (q + 5) 2 1) (fr_wl _ (q + 5) 3 _) (fun _ h => h)
  obtain ⟨Pt, Nt⟩ := EP.wr (ρ' := ρ) N (fr_end F hoq.2.2.2.1) he (by rw [hσt]; rfl) (RF.rf e ρ) (fun _ _ _ => rfl) rfl rfl
  obtain ⟨s1, s2, s3⟩ := start_sim (t := cJ σ 3 0) (w := 4000) (r := 4000) hqe N E (by decide) (by omega) T.2.2.2.1 T.2.2.2.2
  rw [← hw, ← hσt] at s1 s2 s3
  have o3 : own 3 = 14 := O.2.2 3 (by decide)
  have Tt := T.ep Pt o3 he
  have g1 : G1 q e σt ρ st := E.1.cg (F q (by omega)).1 (fun _ _ => rfl) rfl
  have g2 : G2 own q e σt ρ u n m g := E.2.1.cg (F.sub fun x hx e => by
    rcases hx with hx | hx
    · omega
    · rw [e] at hx; omega) (fun _ h => h) (fun _ _ => rfl) (fun _ _ => rfl)
  have g3 : G3 own q e σt ρ U := E.2.2.1.cg (F.sub fun x hx e => by
    rcases hx with hx | hx
    · omega
    · rw [e] at hx; omega) (fun _ h => h) (fun _ _ => rfl) (fun _ _ => rfl) (fun _ _ => rfl)
  have g5 : G5 q e σt ρ st := E.2.2.2.2.cg (F (q + 6) (by omega)).1 (fun _ _ => rfl)
  obtain ⟨σ', ρ1, own', h1, h2, ⟨h3, h4, h5, h6⟩, h7, h8⟩ := send_core (f := 0) (num := cI σt (q + 1) 5) (nn := 0) (v4 := 0) (k := 0) (a := 0) hqe Nt g1 g2 g3 g5 Tt.1 Tt.2.1 hv (by decide) (by omega) (by omega) (Or.inl rfl) (Or.inl (Or.inl rfl))
  rw [b246 hv he (k := 0) (by decide) (by omega), if_pos (by decide)] at h2
  have e12 : ρ.1 12 e = cI σt (q + 1) 5 := by rw [g2.2.2.1.1, g2.2.2.1.2]
  obtain ⟨Pa, Sa, ca, cb, N1⟩ := h7.1
  obtain ⟨P2, N2⟩ := EP.wr (σ' := σ') (ρ' := sl ρ1 33 e w) N1 fr.rf he rfl (RF.sl ρ1 w) (fun _ _ _ => rfl) rfl rfl
  have G4' : G4 q e σ' (sl ρ1 33 e w) τ 1 tr := s1.2.2.2.1.cg (h8.1 (q + 5) (Or.inr (Or.inl rfl))).1 (h8.1 (q + 5) (Or.inr (Or.inl rfl))).2.1 (fun r h => by rw [sl_1, sl_1, h8.2.2.2.2.1 r (by omega) (by omega) (by omega)]) (fun r h => by
    have h82 := h8.2.2.2.2.2.1
    rw [sl_2, sl_2, h82])
  refine ⟨σ', ρ1, own', ?_, ?_, ⟨⟨h3.cg rfl (fun _ _ => rfl) rfl, h4.cg fr.rf (fun _ h => h) (fun _ _ => rfl) (fun _ _ => rfl), h5.cg fr.rf (fun _ h => h) (fun _ _ => rfl) (fun _ _ => rfl) (fun _ _ => rfl), G4', h6.cg rfl (fun _ _ => rfl)⟩, ?_⟩, (Pt.tr h7).tr P2, by rw [h8.2.2.2.2.2.1], by rw [h8.2.2.2.2.1 9 (by omega) (by omega) (by omega)], h7.2.2.2.1.2.2.2 48 (by omega) (by omega)⟩
  · unfold m_E_sendAck
    rw [gd_t hq, bd_e, h1, bc_e]
  · unfold m_sendAck
    rw [gd_t hi, bd_e, show ρ.1 12 v1.toNatClampNeg = cI σt (q + 1) 5 by rw [hcl]; exact e12, h2, bc_e]
  · have c1 : cI σ' (q + 1) 8 = cI σ (q + 1) 8 := by rw [(h8.1 (q + 1) (Or.inl rfl)).1, (F (q + 1) (by omega)).1]
    have c2' : cI σ' (q + 3) 3 = cI σ (q + 3) 3 := by rw [h8.2.2.2.1 3 (by omega), (F (q + 3) (by omega)).1]
    exact X.up4 hst c1 c2' (by rw [sl_1, h7.2.2.2.1.1 40 (by omega)])
end AD
