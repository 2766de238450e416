/-- the bytes fed become waiting bytes -/
theorem given_sim {c : Nat} {σ : CS} {ρ : RS} {own : Nat → Nat} {τ g0 g1 T K q e st u n m g U : Nat} {rn : Int32} {tr : Nat} (h : RLo c σ ρ own τ g0 g1 T K) (hc : c ≤ 512) (hqe : q = 7 ∧ e = 0 ∨ q = 14 ∧ e = 1) (hg : g = if e = 0 then g0 else g1) (E : EE own q e σ ρ τ st u n m g U rn tr) (hst : st = 4 ∨ st = 7) :
    ∃ at_ σ' own' K' σ1, cR σ 1 0 = some at_ ∧ m_U_add (q + 1) at_ (Int32.ofNat T) σ = some σ1 ∧ σ' = wi σ1 1 1 0 ∧ RLo c σ' (si (si (sG ρ (va_cpy (ρ.1 1) (ρ.1 38) 0 (81920 * e + g) T)) 32 e (Int32.ofNat (g + T))) 0 2 0) own' τ (if e = 0 then g + T else g0) (if e = 0 then g1 else g + T) 0 K' ∧ EE own' q e σ' (si (si (sG ρ (va_cpy (ρ.1 1) (ρ.1 38) 0 (81920 * e + g) T)) 32 e (Int32.ofNat (g + T))) 0 2 0) τ st u n m (g + T) U rn tr := by
  have hkb := h.kb hc
  obtain ⟨⟨P, S, c1, c2, N⟩, E0, E1, ⟨t1, t2, at_, t3, t4, t5, t6, t7, t8, t9⟩, ⟨l1, l2, l3, ⟨cn, l4, l5, l6⟩, l7, l8⟩, b1, b2⟩ := h
  have O := N.2.2.1
  have hbud := N.1.bud N.2.2.2.1
  have hoq := own_q hqe O
  have he : e < 2 := by rcases hqe with h | h <;> omega
  obtain ⟨⟨G1h, G2h, G3h, G4h, G5h⟩, X⟩ := E
  have hu : 1 ≤ u := X.2.2.2.1 (by omega)
  have hcl : cI σ (q + 1) 8 = 0 := X.2.2.2.2.1 hst
  obtain ⟨a1, a2, a3, a4, ⟨a5, a5'⟩, ⟨a6, a6'⟩, a7, a8, a9, ⟨d1, d2, d3, d4⟩, s, ab, k1, k2, k3, k4, k5, k6, k7, k8, k9⟩ := G2h
  have hm : m ≤ g + 1 := by
    rcases a6' with ⟨_, h⟩ | h
    · exact h
    · rw [hcl] at h; exact absurd h (by decide)
  have hTg : T + g ≤ 10240 := by
    rcases hqe with ⟨_, rfl⟩ | ⟨_, rfl⟩
    · rw [if_pos rfl] at hg; omega
    · rw [if_neg (by decide)] at hg; omega
  have tT : (Int32.ofNat T).toInt = (T : Int) := x32_nat (by omega)
  obtain ⟨w, hw⟩ : ∃ w, w = g - (u - 1) := ⟨_, rfl⟩
  rw [← hw] at k2 k6 k9
  have tw : (Int32.ofNat w).toInt = (w : Int) := x32_nat (by omega)
  obtain ⟨σ1, own1, s', ab', y1, y2, y3, y4, y5, y6, y7, y8, y9, y10, F1, ho1, O1, B1, B2, B3⟩ := room_sim hqe O k1 k2 k3 k4 k5 k6 k7 k8 (by omega) (by omega) (by omega) tT
  have o1 : own 1 = 13 := O.2.2 1 (by decide)
  have fat := F1 at_ ⟨by omega, fun e => by rw [e] at t5; omega, by omega⟩
  have ts' : (Int32.ofNat s').toInt = (s' : Int) := x32_nat (by omega)
  have tsw : (Int32.ofNat s' + Int32.ofNat w).toInt = ((s' + w : Nat) : Int) := by rw [x32_add ts' tw (by omega) (by omega)]; omega
  have c0 : (0 : Int32).toNatClampNeg = 0 := by decide
  have hoa1 : own1 at_ = 1 := by rw [ho1 at_ (by omega)]; exact t5
  have hq1a : q + 1 ≠ ab' := fun hh => by
    have := ho1 (q + 1) (by omega)
    rw [hoq.2.1] at this; rw [hh, y6] at this; omega
  have e2 : Int32.ofNat w + Int32.ofNat T = Int32.ofNat (w + T) := x32_of (by omega) (by rw [x32_add tw tT (by omega) (by omega)]; omega)
  have e7 : cI σ (q + 1) 7 + Int32.ofNat T = cI σ (q + 1) 3 + 1 + Int32.ofNat (g + T) := by
    have hc4 : ρ.1 0 4 ≠ 0 := by
      rcases G1h.2.2.2.2.2.2.2.2.2.2 with h' | h'
      · exact absurd h'.2.2 (by omega)
      · exact h'.1
    rw [a5' hc4]; exact a32 _ _ _
  obtain ⟨σ2, hσ2⟩ : ∃ σ2, σ2 = wi (wi (wcp σ1 at_ ab' 0 (s' + w) T) (q + 1) 2 (Int32.ofNat (w + T))) (q + 1) 7 (cI σ (q + 1) 3 + 1 + Int32.ofNat (g + T)) := ⟨_, rfl⟩
  have hadd : m_U_add (q + 1) at_ (Int32.ofNat T) σ = some σ2 := by
    unfold m_U_add
    have r2 : cI σ1 (q + 1) 2 = Int32.ofNat w := by rw [y3 2 (by omega)]; exact k2
    have r7 : cI σ1 (q + 1) 7 = cI σ (q + 1) 7 := y3 7 (by omega)
    have x6 : cI (wcp σ1 at_ ab' 0 (s' + w) T) (q + 1) 2 = Int32.ofNat w := by rw [wcp_I, if_neg hq1a]; exact r2
    have x8 : cI (wi (wcp σ1 at_ ab' 0 (s' + w) T) (q + 1) 2 (Int32.ofNat (w + T))) (q + 1) 7 = cI σ (q + 1) 7 := by rw [wi_ne _ _ _ _ (by omega), wcp_I, if_neg hq1a]; exact r7
    rw [gd_t (show q + 1 = 8 ∨ q + 1 = 15 by omega), y1, bc_e, y4, bc_e, bd_e, bd_e, y2, r2, gd_t ⟨by rw [fat.2.2.2.2]; exact t4, y5, by decide, x32_nlt tsw z32_0 (by omega), x32_nlt tT z32_0 (by omega), by rw [c0, x32_n tT, fat.2.2.2.1]; omega, by rw [x32_n tsw, x32_n tT]; omega⟩, bd_e, bd_e, c0, x32_n tsw, x32_n tT, x6, e2, bd_e, bd_e, x8, e7, bd_e, ← hσ2]
  -- the state that it leaves
  have F2 : fr (fun x => own x ≠ 99 ∧ own x ≠ 13 ∧ x ≠ q + 1 ∧ own x ≠ 2 + e) σ (wi σ2 1 1 0) := by
    refine fr.tr (fr.tr (fr.tr (fr.tr (F1.sub fun x hx => ⟨hx.1, hx.2.2⟩) (fr_wcp σ1 at_ ab' 0 (s' + w) T) (fun x hx e => ?_)) (fr_wi _ _ _ _) (fun x hx => hx.2.2.1)) (hσ2 ▸ fr_wi _ _ _ _) (fun x hx => hx.2.2.1)) (fr_wi σ2 1 1 0) (fun x hx e => ?_)
    · have := ho1 x hx.1
      rw [e, y6] at this
      rw [e] at hx; omega
    · rw [e] at hx; omega
  have h1q : (1 : Nat) ≠ q + 1 := by omega
  have h13 : own1 1 = 13 := O1.2.2 1 (by decide)
  have ha1 : ab' ≠ 1 := fun hh => by rw [hh] at y6; omega
  have i1 : ∀ j, j ≠ 2 → j ≠ 7 → cI (wi σ2 1 1 0) (q + 1) j = cI σ1 (q + 1) j := fun j h2 h7 => by
    rw [wi_ne _ _ _ _ (by omega), hσ2, wi_ne _ _ _ _ (Or.inr h7), wi_ne _ _ _ _ (Or.inr h2), wcp_I, if_neg hq1a]
  have i2 : cI (wi σ2 1 1 0) (q + 1) 2 = Int32.ofNat (w + T) := by
    rw [wi_ne _ _ _ _ (by omega), hσ2, wi_ne _ _ _ _ (by omega), wi_eq]
  have i7 : cI (wi σ2 1 1 0) (q + 1) 7 = cI σ (q + 1) 3 + 1 + Int32.ofNat (g + T) := by
    rw [wi_ne _ _ _ _ (by omega), hσ2, wi_eq]
  have iR : cR (wi σ2 1 1 0) = cR σ1 := by rw [hσ2]; rfl
  have iN : cN (wi σ2 1 1 0) = cN σ1 := by rw [hσ2]; rfl
  have ik : kd (wi σ2 1 1 0) = kd σ1 := by rw [hσ2]; rfl
  have iX : cX (wi σ2 1 1 0) = cX σ1 := by rw [hσ2]; rfl
  have iU : cU (wi σ2 1 1 0) = cU σ1 := by rw [hσ2]; rfl
  have iab : ∀ i, cI (wi σ2 1 1 0) ab' i = va_cpy (cI σ at_) (cI σ1 ab') 0 (s' + w) T i := fun i => by
    rw [wi_ne _ _ _ _ (Or.inl ha1), hσ2, wi_ne _ _ _ _ (Or.inl (Ne.symm hq1a)), wi_ne _ _ _ _ (Or.inl (Ne.symm hq1a)), wcp_I, if_pos rfl, fat.1]
  obtain ⟨σ3, hσ3⟩ : ∃ σ3, σ3 = wi σ2 1 1 0 := ⟨_, rfl⟩
  obtain ⟨f, hf⟩ : ∃ f, f = va_cpy (ρ.1 1) (ρ.1 38) 0 (81920 * e + g) T := ⟨_, rfl⟩
  obtain ⟨ρ3, hρ3⟩ : ∃ ρ3, ρ3 = si (si (sG ρ f) 32 e (Int32.ofNat (g + T))) 0 2 0 := ⟨_, rfl⟩
  have j1 : cI σ3 1 1 = 0 := by rw [hσ3, wi_eq]
  rw [← hf, ← hρ3]
  rw [← hσ3] at F2 i1 i2 i7 iR iN ik iX iU iab
  have r38 : ρ3.1 38 = f := by
    rw [hρ3]
    funext j
    rw [si_ne _ _ _ _ (by omega), si_ne _ _ _ _ (by omega), sG_1]
  have rO : ∀ r j, r ≠ 38 → ¬ (r = 32 ∧ j = e) → ¬ (r = 0 ∧ j = 2) → ρ3.1 r j = ρ.1 r j := fun r j x1 x2 x3 => by
    rw [hρ3, si_ne _ _ _ _ (by omega), si_ne _ _ _ _ (by omega), sG_o ρ f x1]
  have r32 : ρ3.1 32 e = Int32.ofNat (g + T) := by rw [hρ3, si_ne _ _ _ _ (by omega), si_eq]
  have r02 : ρ3.1 0 2 = 0 := by rw [hρ3, si_eq]
  have rl2 : ρ3.2 = ρ.2 := by rw [hρ3]; rfl
  have rR : ∀ r, r ≠ 38 → r ≠ 32 → r ≠ 0 → ρ3.1 r = ρ.1 r := fun r x1 x2 x3 => funext fun j => rO r j x1 (by omega) (by omega)
  have O3 : Ow own1 σ3 := ⟨by rw [iX]; exact O1.1, fun x hx => O1.2.1 x (by rw [← iX]; exact hx), O1.2.2⟩
  have fin : ∀ i, f i = if 81920 * e + g ≤ i ∧ i < 81920 * e + g + T then ρ.1 1 (i - (81920 * e + g)) else ρ.1 38 i := fun i => by
    rw [hf]; unfold va_cpy
    by_cases hh : 81920 * e + g ≤ i ∧ i < 81920 * e + g + T
    · rw [if_pos hh, if_pos hh, Nat.zero_add]
    · rw [if_neg hh, if_neg hh]
  have q0 : (fun x => own x ≠ 99 ∧ own x ≠ 13 ∧ x ≠ q + 1 ∧ own x ≠ 2 + e) q := by refine ⟨by omega, by omega, by omega, by omega⟩
  have q3 : (fun x => own x ≠ 99 ∧ own x ≠ 13 ∧ x ≠ q + 1 ∧ own x ≠ 2 + e) (q + 3) := by refine ⟨by omega, by omega, by omega, by omega⟩
  have q5 : (fun x => own x ≠ 99 ∧ own x ≠ 13 ∧ x ≠ q + 1 ∧ own x ≠ 2 + e) (q + 5) := by refine ⟨by omega, by omega, by omega, by omega⟩
  have q6 : (fun x => own x ≠ 99 ∧ own x ≠ 13 ∧ x ≠ q + 1 ∧ own x ≠ 2 + e) (q + 6) := by refine ⟨by omega, by omega, by omega, by omega⟩
  have hnq : ∀ x, own x ≠ 10 + e → x ≠ q + 1 := fun x hx e => hx (by rw [e]; exact hoq.2.1)
  have E3 : EE own1 q e σ3 ρ3 τ st u n m (g + T) U rn tr := by
    refine ⟨⟨G1h.cg (F2 q q0).1 (fun r hr => rO r e (by omega) (by omega) (by omega)) (rO 0 4 (by omega) (by omega) (by omega)), ?_, G3h.cg (F2.sub fun x hx => ?_) (fun x hx => by rw [ho1 x (by omega)]; exact hx) (fun r hr => rO r e (by omega) (by omega) (by omega)) (fun i _ => rO 39 _ (by omega) (by omega) (by omega)) (fun i _ => rO 40 _ (by omega) (by omega) (by omega)), G4h.cg (F2 _ q5).1 (F2 _ q5).2.1 (fun r hr => rO r e (by omega) (by omega) (by omega)) (fun r _ => by rw [rl2]), G5h.cg (F2 _ q6).1 (fun r hr => rO r e (by omega) (by omega) (by omega))⟩, XQ4 (by omega) hu (fun _ => by rw [i1 8 (by omega) (by omega), y3 8 (by omega)]; exact hcl) (fun h6 => by rw [(F2 _ q3).1]; exact X.2.2.2.2.2.1 (by omega))⟩
    · refine ⟨?_, ?_, ?_, ?_, ?_, ?_, ?_, ?_, ?_, ⟨d1, d2, by omega, by omega⟩, s', ab', ?_, ?_, ?_, ?_, y6, ?_, ?_, ?_, fun i hi => ?_⟩
      · rw [rO 10 e (by omega) (by omega) (by omega), i1 3 (by omega) (by omega), y3 3 (by omega)]; exact a1
      · rw [rO 11 e (by omega) (by omega) (by omega), i1 3 (by omega) (by omega), i1 4 (by omega) (by omega), y3 3 (by omega), y3 4 (by omega)]; exact a2
      · rw [rO 12 e (by omega) (by omega) (by omega), i1 3 (by omega) (by omega), i1 5 (by omega) (by omega), y3 3 (by omega), y3 5 (by omega)]; exact a3
      · rw [rO 13 e (by omega) (by omega) (by omega), i1 3 (by omega) (by omega), i1 6 (by omega) (by omega), y3 3 (by omega), y3 6 (by omega)]; exact a4
      · exact ⟨r32, fun _ => by rw [i7, i1 3 (by omega) (by omega), y3 3 (by omega)]⟩
      · rw [rO 36 e (by omega) (by omega) (by omega), i1 8 (by omega) (by omega), y3 8 (by omega)]
        exact ⟨a6, Or.inl ⟨hcl, by omega⟩⟩
      · rw [rO 14 e (by omega) (by omega) (by omega), i1 9 (by omega) (by omega), y3 9 (by omega)]; exact a7
      · rw [rO 15 e (by omega) (by omega) (by omega), i1 10 (by omega) (by omega), y3 10 (by omega)]; exact a8
      · rw [rO 16 e (by omega) (by omega) (by omega), i1 11 (by omega) (by omega), y3 11 (by omega)]; exact a9
      · rw [i1 1 (by omega) (by omega)]; exact y2
      · rw [i2, show g + T - (u - 1) = w + T by omega]
      · rw [iR]; exact y4
      · rw [ik]; exact y5
      · rw [iN]; omega
      · rw [iN]; exact y8
      · rw [iN]; exact y9
      · rw [iab, r38, fin]
        unfold va_cpy
        by_cases hi2 : i < w
        · rw [if_neg (by omega), if_neg (by omega), y10 i hi2]
          exact k9 i hi2
        · rw [if_pos (by omega), if_pos (by omega), show 0 + (s' + i - (s' + w)) = 81920 * e + (u - 1) + i - (81920 * e + g) by omega]
          exact t9 _ (by omega)
    · rcases hx with rfl | hx
      · exact q3
      · exact ⟨by omega, by omega, hnq x (by omega), by omega⟩
  have sl3 : sln σ3 q = cN σ1 ab' := by unfold sln; rw [iR, y4, iN]; rfl
  have sl0 : sln σ q = cN σ ab := by unfold sln; rw [k3]; rfl
  have tp3 : TP own1 σ3 ρ3 0 := by
    have f1 : cR σ3 1 = cR σ 1 := by rw [iR]; exact (F1 1 ⟨by omega, by omega, by omega⟩).2.2.1
    refine ⟨j1, r02, at_, by rw [f1]; exact t3, by rw [ik, fat.2.2.2.2]; exact t4, hoa1, Nat.zero_le _, by rw [iN, fat.2.2.2.1]; exact t7, by rw [iN, fat.2.2.2.1]; exact t8, fun i hi => absurd hi (by omega)⟩
  have tl3 : tln σ3 = tln σ := by
    unfold tln
    rw [iR, (F1 1 ⟨by omega, by omega, by omega⟩).2.2.1, t3, iN]
    exact fat.2.2.2.1
  have o0 : own 0 = 12 := O.2.2 0 (by decide)
  have o3 : own 3 = 14 := O.2.2 3 (by decide)
  have f0 := F2 0 ⟨by omega, by omega, hnq 0 (by omega), by omega⟩
  have f3 := F2 3 ⟨by omega, by omega, hnq 3 (by omega), by omega⟩
  have gl3 : GL σ3 ρ3 τ c := ⟨by rw [f3.2.1, rl2]; exact l1, by rw [f3.2.1]; exact l2, l3, ⟨cn, l4, by rw [f0.1]; exact l5, by rw [rO 0 4 (by omega) (by omega) (by omega)]; exact l6⟩, fun i => by
    rw [r38, hf]; exact isB_cpy l8 l7 _ _ _ i, fun i => by rw [rO 1 i (by omega) (by omega) (by omega)]; exact l8 i⟩
  obtain ⟨K', hK'⟩ : ∃ K', K' = K + 2 * (cN σ1 ab' - cN σ ab) := ⟨_, rfl⟩
  -- the other end
  have oth : ∀ {q2 e2 gg : Nat}, (q2 = 7 ∧ e2 = 0 ∨ q2 = 14 ∧ e2 = 1) → e2 ≠ e → EX own q2 e2 σ ρ τ gg → EX own1 q2 e2 σ3 ρ3 τ gg ∧ sln σ3 q2 = sln σ q2 ∧ rl σ3 q2 = rl σ q2 := fun {q2 e2 gg} hq2 hne hE => by
    obtain ⟨st', u', n', m', U', rn', tr', Eo⟩ := hE
    have he2 : e2 < 2 := by rcases hq2 with h | h <;> omega
    have hoq2 := own_q hq2 O
    have F : fr (fun x => own x = 10 + e2 ∨ own x = 2 + e2 ∨ own x = 4 + e2) σ σ3 := F2.sub fun x hx => ⟨by omega, by omega, hnq x (by omega), by omega⟩
    refine ⟨⟨st', u', n', m', U', rn', tr', Eo.cg hq2 O F ho1 (fun r x1 x2 => rO r e2 (by omega) (by omega) (by omega)) (fun r _ => by rw [rl2]) (rO 0 4 (by omega) (by omega) (by omega)) (fun i hi => ?_) (fun i _ => rO 39 _ (by omega) (by omega) (by omega)) (fun i _ => rO 40 _ (by omega) (by omega) (by omega))⟩, slk Eo.1.2.1 hoq2.2.1 (F.sub fun x hx => by omega), rlk Eo.1.2.2.1 hoq2.2.2.1 (F.sub fun x hx => by omega)⟩
    rw [r38, fin, if_neg (by omega)]
  have rlq : rl σ3 q = rl σ q := by
    obtain ⟨_, _, _, _, _, _, _, _, _, ra, j1, j2, j3, j4⟩ := G3h
    unfold rl; rw [(F2 _ q3).2.2.1, j1]
    exact (F2 ra ⟨by omega, by omega, hnq ra (by omega), by omega⟩).2.2.2.1
  have N3 : NB own1 P [] S c1 c2 K' σ3 ρ3 := N.f (F2.sub fun x hx => ⟨by omega, by omega, hnq x (by omega), by omega⟩) ho1 O3 (fun r x1 x2 => rR r (by omega) (by omega) (by omega)) (rO 0 5 (by omega) (by omega) (by omega)) (rO 0 10 (by omega) (by omega) (by omega)) (by rw [iU]; omega) (by rw [iX, iU]; omega) ?_
  refine ⟨at_, σ3, own1, K', σ2, t3, hadd, hσ3, ?_, E3⟩
  · rcases hqe with ⟨rfl, rfl⟩ | ⟨rfl, rfl⟩
    · rw [if_pos rfl] at hg
      obtain ⟨x1, x2, x3⟩ := oth (Or.inr ⟨rfl, rfl⟩) (by decide) E1
      refine ⟨⟨P, S, c1, c2, N3⟩, ?_, ?_, tp3, gl3, ?_, ?_⟩
      · rw [if_pos rfl]; exact ⟨_, _, _, _, _, _, _, E3⟩
      · rw [if_pos rfl]; exact x1
      · rw [tl3, x2, x3, rlq, sl3]; omega
      · rw [if_pos rfl, if_pos rfl]; omega
    · rw [if_neg (by decide)] at hg
      obtain ⟨x1, x2, x3⟩ := oth (Or.inl ⟨rfl, rfl⟩) (by decide) E0
      refine ⟨⟨P, S, c1, c2, N3⟩, ?_, ?_, tp3, gl3, ?_, ?_⟩
      · rw [if_neg (by decide)]; exact x1
      · rw [if_neg (by decide)]; exact ⟨_, _, _, _, _, _, _, E3⟩
      · rw [tl3, x2, x3, rlq, sl3]; omega
      · rw [if_neg (by decide), if_neg (by decide)]; omega
  · rcases hqe with ⟨rfl, rfl⟩ | ⟨rfl, rfl⟩ <;> omega
