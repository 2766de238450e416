/-! step 13, both sides -/
def rl (σ : CS) (q : Nat) : Nat := cN σ ((cR σ (q + 3) 6).getD 0)
/-- what an end may change of the rest -/
def QF (e : Nat) (ρ ρ' : RS) : Prop := ρ'.1 1 = ρ.1 1 ∧ (∀ r j, 7 ≤ r → r ≤ 37 → j ≠ e → ρ'.1 r j = ρ.1 r j) ∧ (∀ r j, j ≠ e → ρ'.2 r j = ρ.2 r j) ∧ (∀ j, j ≠ 5 → j ≠ 10 → ρ'.1 0 j = ρ.1 0 j) ∧ ρ'.1 38 = ρ.1 38 ∧ (∀ r j, r = 39 ∨ r = 40 → ¬ (65536 * e ≤ j ∧ j < 65536 * e + 65536) → ρ'.1 r j = ρ.1 r j)
theorem QF.rf (e : Nat) (ρ : RS) : QF e ρ ρ := ⟨rfl, fun _ _ _ _ _ => rfl, fun _ _ _ => rfl, fun _ _ _ => rfl, rfl, fun _ _ _ _ => rfl⟩
theorem QF.tr {e : Nat} {a b c : RS} (h : QF e a b) (h' : QF e b c) : QF e a c := ⟨by rw [h'.1, h.1], fun r j x y z => by rw [h'.2.1 r j x y z, h.2.1 r j x y z], fun r j x => by rw [h'.2.2.1 r j x, h.2.2.1 r j x], fun j x y => by rw [h'.2.2.2.1 j x y, h.2.2.2.1 j x y], by rw [h'.2.2.2.2.1, h.2.2.2.2.1], fun r j x y => by rw [h'.2.2.2.2.2 r j x y, h.2.2.2.2.2 r j x y]⟩
theorem RF.QF {e : Nat} {ρ ρ' : RS} (h : RF e ρ ρ') : QF e ρ ρ' := ⟨h.1 1 (by omega), h.2.1, h.2.2.1, h.2.2.2, h.1 38 (by omega), fun r j a _ => by rw [h.1 r (by omega)]⟩
theorem RK.QF {e : Nat} {ρ ρ' : RS} (h : RK e ρ ρ') : QF e ρ ρ' := by
  refine ⟨funext fun j => h.2.1 1 j (by omega) (by omega) (by omega) (by omega), fun r j a b c => ?_, fun r j _ => by rw [h.1], fun j _ _ => h.2.1 0 j (by omega) (by omega) (by omega) (by omega), funext fun j => h.2.1 38 j (by omega) (by omega) (by omega) (by omega), h.2.2.2⟩
  by_cases h1 : r = 18 ∨ r = 31
  · exact h.2.2.1 r j h1 c
  · exact h.2.1 r j (by omega) (by omega) (by omega) (by omega)
section RV
variable {own : Nat → Nat} {P C : List (Nat × Nat)} {S : List Nat} {c1 c2 K q e : Nat} {σ : CS} {ρ : RS} {τ st u nr n m g U : Nat} {rn : Int32} {tr : Nat} {g0 s0 a len N0 : Nat} {W : Nat → Int32}
theorem G3x.z0 {z : Nat} (h : G3x own q e σ ρ U z) : G3x own q e σ ρ U 0 := by
  unfold G3x at h ⊢
  obtain ⟨a1, a2, a3, a4, a5, a6, a7, a8, a9, a10⟩ := h
  refine ⟨a1, a2, a3, a4, a5, a6, a7, fun x => ?_, a9, a10⟩
  obtain ⟨d', e1, e2, e3⟩ := a8 x
  exact ⟨d', e1, e2, fun p hp hne => ⟨by omega, (e3 p hp hne).2⟩⟩
theorem r_nogap (hqe : q = 7 ∧ e = 0 ∨ q = 14 ∧ e = 1) {v1 : Int32} (hv : v1.toInt = (e : Int)) (G : G3x own q e σ ρ U 1) (hft : cI σ (q + 3) 3 = 0) (nR : Nat) : lq2 F_received_90 (nR + 1) v1 ρ = b_received_173 v1 ρ := by
  have he : e < 2 := by omega
  have hi := x32_in hv he
  have hcl := x32_n hv
  have t6 : (65536 : Int32).toInt = 65536 := by decide
  unfold G3x at G
  obtain ⟨h1, h2, h3, h4, ⟨h5, h5a, h5b⟩, h6, h7, h8, h9, ra, k1, k2, k3, k4⟩ := G
  obtain ⟨d, d1, d2, d3⟩ := h8 hft
  have hr := ps_lt (cI σ (q + 3) 1)
  have hpa := ps_and (cI σ (q + 3) 1)
  have hix : (((65536 : Int32) * v1) + (cI σ (q + 3) 1 &&& (65535 : Int32))).toInt = ((65536 * e + ps (cI σ (q + 3) 1) : Nat) : Int) := by
    rw [x32_add (x32_mul t6 hv (by omega) (by omega)) hpa (by omega) (by omega)]; omega
  have hab : (cI σ (q + 3) 1 + Int32.ofNat d - cI σ (q + 3) 1).toInt = (d : Int) := by
    rw [show cI σ (q + 3) 1 + Int32.ofNat d - cI σ (q + 3) 1 = Int32.ofNat d by grind]; exact x32_nat (by omega)
  have hk0 : ρ.1 40 (65536 * e + ps (cI σ (q + 3) 1)) = 0 := Decidable.byContradiction fun hne => by have := (d3 _ hr hne).1; omega
  have z18 : ρ.1 18 v1.toNatClampNeg = cI σ (q + 3) 1 := by rw [hcl, h2]
  show F_received_90 (lq2 F_received_90 nR) v1 ρ = _
  rw [F_received_90, gd_t hi, bd_e, gd_t hi, bd_e, show ρ.1 19 v1.toNatClampNeg = cI σ (q + 3) 1 + Int32.ofNat d by rw [hcl, h3, d1], z18]
  unfold m_above b_above_11
  by_cases hd : d = 0
  · rw [if_pos (x32_le' hab z32_0 (by omega)), gd_t z01_0, bc2_e, if_pos rfl]
  · rw [if_neg (x32_nle hab z32_0 (by omega)), gd_t z01_1, bc2_e, if_neg (by decide), gd_t hi, bd_e, z18, gd_t (x32_in hix (by omega)), bd_e, x32_n hix, if_pos hk0]
theorem keep_sim (hqe : q = 7 ∧ e = 0 ∨ q = 14 ∧ e = 1) (N : NB own P C S c1 c2 K σ ρ) (E : EGx own q e σ ρ τ st u nr n m g U rn tr) (H : SC g0 s0 a len N0 W σ ρ) (hC : C = [(g0, s0)]) {v1 : Int32} (hv : v1.toInt = (e : Int)) (hft : cI σ (q + 3) 3 = 0) (hK : K + 65536 ≤ 260000 + rl σ q) :
    ∃ σ' ρ' own' U' K', m_V_keep (q + 3) g0 σ = some σ' ∧ m_received v1 ρ = b_received_173 v1 ρ' ∧ EGx own' q e σ' ρ' τ st u nr n m g U' rn tr ∧ NB own' P C S c1 c2 K' σ' ρ' ∧ K' + rl σ q = K + rl σ' q ∧ (∀ x, own x ≠ 99 → own' x = own x) ∧ fr (fun x => own x ≠ 99 ∧ x ≠ q + 3 ∧ own x ≠ 4 + e) σ σ' ∧ RK e ρ ρ' ∧ cI σ' (q + 3) 3 = 0 ∧ SC g0 s0 a len N0 W σ' ρ' := by
  have hq : q = 7 ∨ q = 14 := by omega
  have he : e < 2 := by omega
  have O := N.2.2.1
  have hoq := own_q hqe O
  have hlen : len ≤ 1484 := H.2.2.2.2.2.1
  have hwf : wf W len := H.2.2.2.1
  have h60 := ho_lt W
  obtain ⟨og, oa, _⟩ : own g0 = 60 ∧ own a = 100 + g0 ∧ True := by
    obtain ⟨u1, u2, _⟩ := N.1.2.2.2.1 g0 (by rw [hC]; exact ag_mem (p := (g0, s0)) S (List.mem_append_right _ (List.mem_singleton.mpr rfl)))
    exact ⟨u1, by rw [H.2.1]; exact u2, trivial⟩
  have hcont : ∀ i, i < len → W i = Sk ρ s0 i := by
    have := N.2.1 (g0, s0) (by rw [hC]; exact List.mem_append_right _ (List.mem_singleton.mpr rfl))
    intro i hi
    have hl : (cI σ g0 1).toNatClampNeg = len := by rw [H.1.2.2.2.1]; exact x32_n (x32_nat (by omega))
    have h2 := this i (by show i < (cI σ g0 1).toNatClampNeg; rw [hl]; exact hi)
    rw [← h2]
    show W i = cI σ (ar σ g0) i
    rw [← H.2.1, H.2.2.1]
  have hb2 : ∀ i, isB (ρ.1 2 i) := N.2.2.2.2
  have g3 := E.2.2.1
  have g3' := g3
  unfold G3 G3x at g3'
  obtain ⟨h1, h2, h3, h4, ⟨h5, h5a, h5b⟩, h6, h7, h8, h9, ra0, k1, k2, k3, k4⟩ := g3'
  obtain ⟨d, d1, d2, d3⟩ := h8 hft
  have hrl0 : rl σ q = cN σ ra0 := by unfold rl; rw [k1]; rfl
  -- from a ring that is there
  have main : ∀ (own1 : Nat → Nat) (σ1 : CS) (K1 ra : Nat), Ow own1 σ1 → NB own1 P C S c1 c2 K1 σ1 ρ → EGx own1 q e σ1 ρ τ st u nr n m g U rn tr → SC g0 s0 a len N0 W σ1 ρ → cI σ1 (q + 3) = cI σ (q + 3) → cR σ1 (q + 3) 6 = some ra → cN σ1 ra = 65536 → own1 ra = 4 + e → own1 g0 = 60 → own1 a = 100 + g0 →
      ∃ σ' ρ' U', b_V_keep_16 (q + 3) g0 σ1 = some σ' ∧ m_received v1 ρ = b_received_173 v1 ρ' ∧ EGx own1 q e σ' ρ' τ st u nr n m g U' rn tr ∧ NB own1 P C S c1 c2 K1 σ' ρ' ∧ rl σ' q = 65536 ∧ fr (fun x => x ≠ q + 3 ∧ own1 x ≠ 4 + e) σ1 σ' ∧ RK e ρ ρ' ∧ cI σ' (q + 3) 3 = 0 ∧ SC g0 s0 a len N0 W σ' ρ' := by
    intro own1 σ1 K1 ra O1 N1 E1 H1 hI hra hN ora og1 oa1
    have hoq1 := own_q hqe O1
    have ft1 : cI σ1 (q + 3) 3 = 0 := by rw [hI]; exact hft
    have ed1 : cI σ1 (q + 3) 2 = cI σ1 (q + 3) 1 + Int32.ofNat d := by rw [hI]; exact d1
    have hln : ho W + 0 + (len - ho W) = len := by have := hwf.2.2.1; omega
    obtain ⟨σ2, ρ2, w1, w2, w3, w4, w5, w6, w7⟩ := keep_loop (own := own1) (g0 := g0) (s0 := s0) (a := a) (len := len) (N0 := N0) (W := W) hqe hv (by omega : d ≤ 65535) ora og1 oa1 (len - ho W) 0 fuel fuel (Int32.ofNat (ho W)) 0 σ1 ρ hln (by unfold fuel; omega) (by unfold fuel; omega) (by rw [x32_nat (by omega)]; rfl) (by decide) O1 E1.2.2.1.z0 ft1 ed1 H1 hcont hb2 hra hN
    obtain ⟨σ3, ρ3, U3, y1, y2, y3, y4, y5, y6, y7⟩ := take_loop (own := own1) hqe hv d U 0 fuel fuel 0 σ2 ρ2 w3 (by rw [w4 3 (by omega)]; exact ft1) (by rw [w4 2 (by omega), w4 1 (by omega)]; exact ed1) d2 (by decide) (by omega) (by unfold fuel; omega) (by unfold fuel; omega)
    have F13 : fr (fun x => x ≠ q + 3 ∧ own1 x ≠ 4 + e) σ1 σ3 := fr.tr (w5.sub fun x (hx : x ≠ q + 3 ∧ own1 x ≠ 4 + e) => ⟨hx.1, fun e => hx.2 (by rw [e]; exact ora)⟩) y4 (fun x hx => hx.1)
    have RR := w7.tr y7
    have s31 : σ3.2 = σ1.2 := by rw [y5, w6]
    have eX : cX σ3 = cX σ1 := by unfold cX; rw [s31]
    have eU : cU σ3 = cU σ1 := by unfold cU; rw [s31]
    have N3 : NB own1 P C S c1 c2 K1 σ3 ρ3 := N1.f (F13.sub fun x hx => ⟨fun e => by rw [e] at hx; omega, by omega⟩) (fun _ _ => rfl) ⟨by rw [eX]; exact O1.1, fun x hx => O1.2.1 x (by omega), O1.2.2⟩ (fun r a b => funext fun j => RR.2.1 r j (by omega) (by omega) (by omega) (by omega)) (RR.2.1 0 5 (by omega) (by omega) (by omega) (by omega)) (RR.2.1 0 10 (by omega) (by omega) (by omega) (by omega)) (by omega) (by omega) N1.2.2.2.1.2.2
    have E3 : EGx own1 q e σ3 ρ3 τ st u nr n m g U3 rn tr := E1.at3 hqe O1 F13 (fun r a b c d f g h i => funext fun j => RR.2.1 r j (by omega) (by omega) (by omega) (by omega)) RR.1 (RR.2.1 0 4 (by omega) (by omega) (by omega) (by omega)) y3
    refine ⟨σ3, ρ3, U3, ?_, ?_, E3, N3, ?_, F13, RR, y6, ?_⟩
    · unfold b_V_keep_16
      rw [gd_t H1.kd, ghl H1.1 hwf.1, bc2_e, H1.2.2.1, hl_of, gd_t H1.kd, H1.seq, bc2_e, w1]
      unfold m_V_takeWithoutGap
      rw [gd_t (by omega : q + 3 = 10 ∨ q + 3 = 17), y1, bc_e]
    · unfold m_received
      rw [w2, y2]
    · unfold rl
      rw [show cR σ3 = cR σ1 by unfold cR; rw [s31], hra]
      show cN σ3 ra = _
      rw [show cN σ3 = cN σ1 by unfold cN; rw [s31], hN]
    · exact H1.fk (F13.sub fun y hy => by
        rcases hy with rfl | rfl
        · exact ⟨fun e => by rw [e] at og1; omega, by omega⟩
        · exact ⟨fun e => by rw [e] at oa1; omega, by omega⟩) (fun j _ => RR.2.1 0 j (by omega) (by omega) (by omega) (by omega))
  unfold m_V_keep
  rw [gd_t (by omega : q + 3 = 10 ∨ q + 3 = 17), k1, bc_e, gd_t (Or.inr (Or.inl k2)), bd_e]
  rcases k4 with ⟨k4, k5, k6⟩ | ⟨k4, k5⟩
  · -- a new ring
    subst k5
    have hbud := N.1.bud N.2.2.2.1
    have c65 : (65536 : Int32).toNatClampNeg = 65536 := by decide
    rw [k4, if_pos (by decide), c65, gd_t ⟨by decide, by omega, by omega⟩, bd2_e, bd_e]
    obtain ⟨σ1, hσ1⟩ : ∃ x, x = wr (wa σ 24 65536 65536) (q + 3) 6 (some (cX σ)) := ⟨_, rfl⟩
    rw [← hσ1]
    have x1 : cX σ1 = cX σ + 1 := by rw [hσ1]; rfl
    have u1 : cU σ1 = cU σ + 65536 := by rw [hσ1]; rfl
    obtain ⟨O1, On1⟩ := Ow.up (t := 4 + e) (σ' := σ1) O x1
    have nX : ∀ x, own x ≠ 99 → x ≠ cX σ := fun x hx e => hx (by rw [e]; exact O.2.1 _ (Nat.le_refl _))
    have F1 : fr (fun x => own x ≠ 99 ∧ x ≠ q + 3) σ σ1 := by
      rw [hσ1]
      exact fr.tr ((fr_wa σ 24 65536 65536 O.1).sub fun x hx => nX x hx.1) (fr_wr _ (q + 3) 6 _) (fun x hx => hx.2)
    have hq3X : q + 3 ≠ cX σ := nX (q + 3) (by omega)
    have cI3 : cI σ1 (q + 3) = cI σ (q + 3) := by
      funext j; rw [hσ1, wr_I, wa_I, if_neg hq3X]
    have N1 : NB (fun x => if x = cX σ then 4 + e else own x) P C S c1 c2 (K + 65536) σ1 ρ := N.f (F1.sub fun x hx => ⟨hx.2, fun e => by rw [e] at hx; omega⟩) On1 O1 (fun _ _ _ => rfl) rfl rfl (by omega) (by omega) (by omega)
    have kX : kd σ1 (cX σ) = 24 := by rw [hσ1, wr_k, wa_k _ _ _ _ _ O.1, if_pos rfl]
    have nXX : cN σ1 (cX σ) = 65536 := by rw [hσ1]; show (if cX σ = cX σ then 65536 else _) = _; rw [if_pos rfl]
    have rX : cR σ1 (q + 3) 6 = some (cX σ) := by rw [hσ1, wr_R, if_pos ⟨rfl, rfl⟩]
    have iX : ∀ p, cI σ1 (cX σ) p = 0 := fun p => by rw [hσ1, wr_I, wa_I, if_pos rfl]
    have E1 : EGx (fun x => if x = cX σ then 4 + e else own x) q e σ1 ρ τ st u nr n m g 0 rn tr := by
      obtain ⟨e1, e2, e3, e4, e5⟩ := E
      refine ⟨e1.cg (F1 q ⟨by omega, by omega⟩).1 (fun _ _ => rfl) rfl, e2.cg (F1.sub fun x hx => ?_) (fun x hx => by rw [On1 x (by omega)]; exact hx) (fun _ _ => rfl) (fun _ _ => rfl), ?_, e4.cg (F1 (q + 5) ⟨by omega, by omega⟩).1 (F1 (q + 5) ⟨by omega, by omega⟩).2.1 (fun _ _ => rfl) (fun _ _ => rfl), e5.cg (F1 (q + 6) ⟨by omega, by omega⟩).1 (fun _ _ => rfl)⟩
      · rcases hx with hx | hx
        · exact ⟨by rw [hx]; omega, by omega⟩
        · exact ⟨by omega, fun e => by rw [e] at hx; omega⟩
      · unfold G3 G3x
        rw [cI3, rX]
        exact ⟨h1, h2, h3, h4, ⟨h5, h5a, h5b⟩, h6, h7, h8, h9, cX σ, rfl, kX, if_pos rfl, Or.inr ⟨nXX, fun p hp => ⟨fun hh => (hh.elim (fun x => by unfold up at x; omega) (fun x => absurd (k6 p hp) x)), fun _ _ => iX p⟩⟩⟩
    have og' : own g0 ≠ 99 := by omega
    have oa' : own a ≠ 99 := by omega
    have H1 : SC g0 s0 a len N0 W σ1 ρ := H.fk (F1.sub fun y hy => by
      rcases hy with rfl | rfl
      · exact ⟨by omega, fun e => by rw [e] at og; omega⟩
      · exact ⟨by omega, fun e => by rw [e] at oa; omega⟩) (fun _ _ => rfl)
    obtain ⟨σ', ρ', U', z1, z2, z3, z4, z5, z6, z7, z8, z9⟩ := main _ σ1 (K + 65536) (cX σ) O1 N1 E1 H1 cI3 rX nXX (if_pos rfl) (by rw [On1 g0 og']; exact og) (by rw [On1 a oa']; exact oa)
    refine ⟨σ', ρ', _, U', K + 65536, z1, z2, z3, z4, by omega, On1, fr.tr (F1.sub fun x hx => ⟨hx.1, hx.2.1⟩) z6 (fun x hx => ⟨hx.2.1, by rw [On1 x hx.1]; exact hx.2.2⟩), z7, z8, z9⟩
  · rw [k4, if_neg (by decide)]
    obtain ⟨σ', ρ', U', z1, z2, z3, z4, z5, z6, z7, z8, z9⟩ := main own σ K ra0 O N E H rfl k1 k4 k3 og oa
    exact ⟨σ', ρ', own, U', K, z1, z2, z3, z4, by omega, fun _ _ => rfl, z6.sub fun x hx => ⟨hx.2.1, hx.2.2⟩, z7, z8, z9⟩
end RV
