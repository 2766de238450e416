/-! read, both sides -/
theorem and64 (x y : Int32) (h : x &&& 255 = y &&& 255) : (x &&& (255 : Int32)).toInt64 = y.toInt64 &&& (255 : Int64) := by
  rw [h, Int32.toInt64_and]; rfl
/-- what the taking of i bytes leaves -/
def TKN (q ra : Nat) (σ σ' : CS) (i : Nat) : Prop := fr (fun x => x ≠ q + 3 ∧ x ≠ ra) σ σ' ∧ (∀ j, j ≠ 7 → cI σ' (q + 3) j = cI σ (q + 3) j) ∧ cI σ' (q + 3) 7 = cI σ (q + 3) 7 + Int32.ofNat i ∧ σ'.2 = σ.2 ∧ ∀ p, p < 65536 → cI σ' ra p = if (p + 65536 - ps (cI σ (q + 3) 7)) % 65536 < i then 0 else cI σ ra p
theorem rd_loop {own : Nat → Nat} {q e : Nat} {σ : CS} {ρ : RS} {U N ra : Nat} (hqe : q = 7 ∧ e = 0 ∨ q = 14 ∧ e = 1) {v1 v2 : Int32} (hv : v1.toInt = (e : Int)) (G : G3 own q e σ ρ U) (hra : cR σ (q + 3) 6 = some ra) (hne : ra ≠ q + 3) (hNU : N ≤ U) (hN7 : N ≤ 7) (hv2 : v2.toInt = (N : Int)) : ∀ (k i nC nR : Nat) (acc : Int64) (v5 : Int32) (σi : CS), i + k = N → k < nC → k < nR → v5.toInt = (i : Int) → TKN q ra σ σi i →
    ∃ acc' σ', lq4 (F_V_takeUnread_14 (q + 3)) nC v2 acc v5 σi = some (((v2.toInt64) <<< ((56 : Int32).toInt64 &&& 63)) ||| acc', wi σ' (q + 3) 4 (cI σ (q + 3) 4 - v2)) ∧ lq6 F_read_144 nR v1 v2 (cI σ (q + 3) 7) acc v5 ρ = F_read_144 (fun _ _ _ _ _ _ => none) v1 v2 (cI σ (q + 3) 7) acc' v2 ρ ∧ TKN q ra σ σ' N := by
  intro k
  induction k with
  | zero =>
    intro i nC nR acc v5 σi hik hC hR hv5 hT
    obtain ⟨nC, rfl⟩ : ∃ z, nC = z + 1 := ⟨nC - 1, by omega⟩
    obtain ⟨nR, rfl⟩ : ∃ z, nR = z + 1 := ⟨nR - 1, by omega⟩
    have hiN : i = N := by omega
    subst hiN
    have hvv : v5 = v2 := x32_eq' hv5 hv2 rfl
    subst hvv
    have hle : v5 ≤ v5 := x32_le' hv5 hv5 (Int.le_refl _)
    refine ⟨acc, σi, ?_, ?_, hT⟩
    · show F_V_takeUnread_14 (q + 3) (lq4 (F_V_takeUnread_14 (q + 3)) nC) v5 acc v5 σi = _
      rw [F_V_takeUnread_14, if_pos hle, bd_e, bd_e, hT.2.1 4 (by omega)]
    · show F_read_144 (lq6 F_read_144 nR) v1 v5 _ acc v5 ρ = _
      rw [F_read_144, F_read_144, if_pos hle, if_pos hle]
  | succ k ih =>
    intro i nC nR acc v5 σi hik hC hR hv5 hT
    obtain ⟨nC, rfl⟩ : ∃ z, nC = z + 1 := ⟨nC - 1, by omega⟩
    obtain ⟨nR, rfl⟩ : ∃ z, nR = z + 1 := ⟨nR - 1, by omega⟩
    have he : e < 2 := by omega
    unfold G3 G3x at G
    obtain ⟨h1, h2, h3, h4, ⟨h5, h5a, h5b⟩, h6, h7, h8, h9, ra0, k1, k2, k3, k4⟩ := G
    rw [hra] at k1
    cases k1
    rcases k4 with ⟨k4, k5, k6⟩ | ⟨k4, k5⟩
    · omega
    · obtain ⟨t1, t2, t3, t4, t5⟩ := hT
      obtain ⟨p, hp⟩ : ∃ p, p = (ps (cI σ (q + 3) 7) + i) % 65536 := ⟨_, rfl⟩
      have hpl : p < 65536 := by omega
      have hps := ps_lt (cI σ (q + 3) 7)
      have hpi : ps (cI σ (q + 3) 7 + Int32.ofNat i) = p := by rw [ps_add _ _ (by omega), hp]
      have hpa : (cI σi (q + 3) 7 &&& (65535 : Int32)).toInt = (p : Int) := by rw [t3, ps_and, hpi]
      have eR : cR σi = cR σ := by unfold cR; rw [t4]
      have eN : cN σi = cN σ := by unfold cN; rw [t4]
      have eK : kd σi ra = 24 := by
        have : kd σi ra = kd σ ra := by unfold kd cT; rw [t4]
        rw [this, k2]
      have hg : kd σi ra = 24 ∧ inb (cI σi (q + 3) 7 &&& (65535 : Int32)) (cN σi ra) := ⟨eK, x32_in hpa (by rw [eN, k4]; omega)⟩
      have cell : cI σi ra p = cI σ ra p := by rw [t5 p hpl, if_neg (by omega)]
      have hup : up (cI σ (q + 3) 7) U p := by unfold up; omega
      obtain ⟨c1, c2⟩ := (k5 p hpl).1 (Or.inl hup)
      have t6 : (65536 : Int32).toInt = 65536 := by decide
      have hv5' : v5 = Int32.ofNat i := x32_eq' hv5 (x32_nat (by omega)) rfl
      have hix : (((65536 : Int32) * v1) + ((cI σ (q + 3) 7 + v5) &&& (65535 : Int32))).toInt = ((65536 * e + p : Nat) : Int) := by
        rw [hv5', x32_add (x32_mul t6 hv (by omega) (by omega)) (ps_and _) (by omega) (by rw [hpi]; omega), hpi]; omega
      have hnle : ¬ v2 ≤ v5 := x32_nle hv2 hv5 (by omega)
      have hT' : TKN q ra σ (wi (wi σi ra p (vp_nar .short 0)) (q + 3) 7 (cI σi (q + 3) 7 + 1)) (i + 1) := by
        refine ⟨fr.tr t1 (fr.tr ((fr_wi σi ra p _).sub fun x (hx : x ≠ q + 3 ∧ x ≠ ra) => hx.2) (fr_wi _ (q + 3) 7 _) (fun x hx => hx.1)) (fun x hx => hx), fun j hj => ?_, ?_, ?_, fun p' hp' => ?_⟩
        · rw [wi_ne _ _ _ _ (by omega), wi_ne _ _ _ _ (by omega), t2 j hj]
        · rw [wi_eq, t3, show Int32.ofNat (i + 1) = Int32.ofNat i + 1 from nI_succ i]; grind
        · show (wi (wi σi ra p (vp_nar .short 0)) (q + 3) 7 (cI σi (q + 3) 7 + 1)).2 = σ.2
          exact t4
        · rw [wi_ne _ _ _ _ (by omega)]
          by_cases hpp : p' = p
          · rw [hpp, wi_eq, if_pos (by omega)]; decide
          · rw [wi_ne _ _ _ _ (by omega), t5 p' hp']
            by_cases hh : (p' + 65536 - ps (cI σ (q + 3) 7)) % 65536 < i
            · rw [if_pos hh, if_pos (by omega)]
            · rw [if_neg hh, if_neg (by omega)]
      obtain ⟨acc', σ', x1, x2, x3⟩ := ih (i + 1) nC nR ((acc <<< ((8 : Int32).toInt64 &&& 63)) ||| ((cI σ ra p &&& (255 : Int32)).toInt64)) (v5 + 1) _ (by omega) (by omega) (by omega) (by rw [x32_add hv5 z32_1 (by omega) (by omega)]; omega) hT'
      refine ⟨acc', σ', ?_, ?_, x3⟩
      · show F_V_takeUnread_14 (q + 3) (lq4 (F_V_takeUnread_14 (q + 3)) nC) v2 acc v5 σi = _
        have e7 : cI (wi σi ra p (vp_nar .short 0)) (q + 3) 7 = cI σi (q + 3) 7 := wi_ne _ _ _ _ (by omega)
        rw [F_V_takeUnread_14, if_neg hnle, bd_e, bd_e, eR, hra, bc_e, gd_t hg, bd_e, bd_e, bc_e, gd_t hg, bd_e, bd_e, bd_e, bd_e, x32_n hpa, cell, e7, x1]
      · show F_read_144 (lq6 F_read_144 nR) v1 v2 _ acc v5 ρ = _
        rw [F_read_144, if_neg hnle, gd_t (x32_in hix (by omega)), bd_e, bd_e, bd_e, x32_n hix, ← and64 _ _ c2, x2]
theorem tkn_g3 {own : Nat → Nat} {q e : Nat} {σ σ1 : CS} {ρ : RS} {U N ra : Nat} (hqe : q = 7 ∧ e = 0 ∨ q = 14 ∧ e = 1) (G : G3 own q e σ ρ U) (hra : cR σ (q + 3) 6 = some ra) (hne : ra ≠ q + 3) (hNU : N ≤ U) {v2 : Int32} (hv2 : v2 = Int32.ofNat N) (T : TKN q ra σ σ1 N) : G3 own q e (wi σ1 (q + 3) 4 (cI σ (q + 3) 4 - v2)) (si ρ 31 e (cI σ (q + 3) 4 - v2)) (U - N) := by
  unfold G3 G3x at G
  obtain ⟨h1, h2, h3, h4, ⟨h5, h5a, h5b⟩, h6, h7, h8, h9, ra0, k1, k2, k3, k4⟩ := G
  rw [hra] at k1
  cases k1
  obtain ⟨t1, t2, t3, t4, t5⟩ := T
  have w : ∀ j, j ≠ 4 → j ≠ 7 → cI (wi σ1 (q + 3) 4 (cI σ (q + 3) 4 - v2)) (q + 3) j = cI σ (q + 3) j := fun j a b => by rw [wi_ne _ _ _ _ (Or.inr a), t2 j b]
  have w4 : cI (wi σ1 (q + 3) 4 (cI σ (q + 3) 4 - v2)) (q + 3) 4 = cI σ (q + 3) 4 - v2 := wi_eq _ _ _ _
  have w7 : cI (wi σ1 (q + 3) 4 (cI σ (q + 3) 4 - v2)) (q + 3) 7 = cI σ (q + 3) 7 + Int32.ofNat N := by rw [wi_ne _ _ _ _ (by omega), t3]
  have r : ∀ r, r ≠ 31 → (si ρ 31 e (cI σ (q + 3) 4 - v2)).1 r = ρ.1 r := fun r hr => funext fun j => si_ne _ _ _ _ (Or.inl hr)
  have eR : cR (wi σ1 (q + 3) 4 (cI σ (q + 3) 4 - v2)) = cR σ := by show cR σ1 = _; unfold cR; rw [t4]
  have eN : cN (wi σ1 (q + 3) 4 (cI σ (q + 3) 4 - v2)) = cN σ := by show cN σ1 = _; unfold cN; rw [t4]
  have eK : kd (wi σ1 (q + 3) 4 (cI σ (q + 3) 4 - v2)) ra = kd σ ra := by show kd σ1 ra = _; unfold kd cT; rw [t4]
  have wra : ∀ p, cI (wi σ1 (q + 3) 4 (cI σ (q + 3) 4 - v2)) ra p = cI σ1 ra p := fun p => wi_ne _ _ _ _ (Or.inl hne)
  have hps := ps_lt (cI σ (q + 3) 7)
  have hpsN : ps (cI σ (q + 3) 7 + Int32.ofNat N) = (ps (cI σ (q + 3) 7) + N) % 65536 := ps_add _ _ (by omega)
  have hup : ∀ p, p < 65536 → (up (cI σ (q + 3) 7 + Int32.ofNat N) (U - N) p ↔ up (cI σ (q + 3) 7) U p ∧ ¬ (p + 65536 - ps (cI σ (q + 3) 7)) % 65536 < N) := fun p hp => by
    unfold up; rw [hpsN]; omega
  have hU' : cI σ (q + 3) 4 - v2 = Int32.ofNat (U - N) := by
    rw [h5a, hv2, show (U : Nat) = (U - N) + N by omega, show U - N + N - N = U - N by omega]
    rw [show Int32.ofNat (U - N + N) = Int32.ofNat (U - N) + Int32.ofNat N from Int32.ofNat_add _ _]; grind
  unfold G3 G3x
  rw [w 0 (by omega) (by omega), w 1 (by omega) (by omega), w 2 (by omega) (by omega), w 3 (by omega) (by omega), w4, w 5 (by omega) (by omega), w7, r 7 (by omega), r 18 (by omega), r 19 (by omega), r 37 (by omega), r 39 (by omega), r 40 (by omega), eR, eN]
  refine ⟨h1, h2, h3, h4, ⟨si_eq _ _ _ _, hU', by omega⟩, h6, by rw [h7, hv2]; grind, fun hh => ?_, fun p hp => ⟨(h9 p hp).1, fun hh => (h9 p hp).2 ((hup p hp).mp hh).1⟩, ra, hra, by rw [eK]; exact k2, k3, ?_⟩
  · obtain ⟨d, d1, d2, d3⟩ := h8 hh
    exact ⟨d, d1, by omega, d3⟩
  · rcases k4 with ⟨k4, k5, k6⟩ | ⟨k4, k5⟩
    · exact Or.inl ⟨k4, by omega, k6⟩
    · refine Or.inr ⟨k4, fun p hp => ?_⟩
      obtain ⟨z1, z2⟩ := k5 p hp
      rw [wra, t5 p hp]
      refine ⟨fun hh => ?_, fun h1 h2 => ?_⟩
      · have hn : ¬ (p + 65536 - ps (cI σ (q + 3) 7)) % 65536 < N := by
          rcases hh with hh | hh
          · exact ((hup p hp).mp hh).2
          · exact fun hlt => hh ((h9 p hp).2 (by unfold up; omega))
        rw [if_neg hn]
        exact z1 (hh.imp (fun hh => ((hup p hp).mp hh).1) id)
      · by_cases hlt : (p + 65536 - ps (cI σ (q + 3) 7)) % 65536 < N
        · rw [if_pos hlt]
        · rw [if_neg hlt]
          exact z2 (fun hu => h1 ((hup p hp).mpr ⟨hu, hlt⟩)) h2
theorem taken_sim {c : Nat} {σ : CS} {ρ : RS} {own : Nat → Nat} {τ g0 g1 T K q e st u n m g U : Nat} {rn : Int32} {tr : Nat} (h : RLo c σ ρ own τ g0 g1 T K) (hqe : q = 7 ∧ e = 0 ∨ q = 14 ∧ e = 1) (hg : g = if e = 0 then g0 else g1) (E : EE own q e σ ρ τ st u n m g U rn tr) {v1 v2 : Int32} (hv : v1.toInt = (e : Int)) {k : Nat} (hk : v2.toInt = (k : Int)) (hk7 : k ≤ 7) :
    ∃ N acc σ1 x, N ≤ U ∧ m_V_takeUnread (q + 3) v2 σ = some (((Int32.ofNat N).toInt64 <<< ((56 : Int32).toInt64 &&& 63)) ||| acc, σ1) ∧ b_read_87 v1 v2 ρ = F_read_144 (fun _ _ _ _ _ _ => none) v1 (Int32.ofNat N) (cI σ (q + 3) 7) acc (Int32.ofNat N) ρ ∧ ρ.1 31 e - Int32.ofNat N = x ∧ EE own q e σ1 (si ρ 31 e x) τ st u n m g (U - N) rn tr ∧ RLo c σ1 (si ρ 31 e x) own τ g0 g1 T K := by
  obtain ⟨P, S, c1, c2, N0⟩ := h.1
  have O := N0.2.2.1
  have hoq := own_q hqe O
  have he : e < 2 := by omega
  have hi := x32_in hv he
  have hcl := x32_n hv
  have G := E.1.2.2.1
  have G' := G
  unfold G3 G3x at G'
  obtain ⟨h1, h2, h3, h4, ⟨h5, h5a, h5b⟩, h6, h7, h8, h9, ra, k1, k2, k3, k4⟩ := G'
  have hne : ra ≠ q + 3 := fun e1 => by rw [e1] at k3; omega
  have tU : (cI σ (q + 3) 4).toInt = (U : Int) := by rw [h5a]; exact x32_nat (by omega)
  obtain ⟨N, hN⟩ : ∃ N, N = min U k := ⟨_, rfl⟩
  have hNU : N ≤ U := by omega
  have tN : (Int32.ofNat N).toInt = (N : Int) := x32_nat (by omega)
  obtain ⟨acc, σ', x1, x2, x3⟩ := rd_loop (own := own) hqe hv G k1 hne hNU (by omega) tN N 0 fuel fuel 0 0 σ (by omega) (by unfold fuel; omega) (by unfold fuel; omega) z32_0 ⟨fr.rf, fun _ _ => rfl, by rw [show Int32.ofNat 0 = (0 : Int32) from rfl]; grind, rfl, fun p _ => by rw [if_neg (by omega)]⟩
  have G2' := tkn_g3 hqe G k1 hne hNU rfl x3
  obtain ⟨t1, t2, t3, t4, t5⟩ := x3
  obtain ⟨σ1, hσ1⟩ : ∃ y, y = wi σ' (q + 3) 4 (cI σ (q + 3) 4 - Int32.ofNat N) := ⟨_, rfl⟩
  rw [← hσ1] at x1 G2'
  have F : fr (fun x => x ≠ q + 3 ∧ own x ≠ 4 + e) σ σ1 := by
    rw [hσ1]; exact fr.tr (t1.sub fun x (hx : x ≠ q + 3 ∧ own x ≠ 4 + e) => ⟨hx.1, fun e1 => hx.2 (by rw [e1]; exact k3)⟩) (fr_wi _ (q + 3) 4 _) (fun x hx => hx.1)
  have s2 : σ1.2 = σ.2 := by rw [hσ1]; exact t4
  have eX : cX σ1 = cX σ := by unfold cX; rw [s2]
  have eU : cU σ1 = cU σ := by unfold cU; rw [s2]
  have eR : cR σ1 = cR σ := by unfold cR; rw [s2]
  have eN : cN σ1 = cN σ := by unfold cN; rw [s2]
  have r : ∀ r, r ≠ 31 → (si ρ 31 e (cI σ (q + 3) 4 - Int32.ofNat N)).1 r = ρ.1 r := fun r hr => funext fun j => si_ne _ _ _ _ (Or.inl hr)
  have E1 := E.1.at3 hqe O F (fun a b b0 b1 b2 b3 b4 b5 b6 => r a b3) rfl (by rw [r 0 (by omega)]) G2'
  have hk40 : (si ρ 31 e (cI σ (q + 3) 4 - Int32.ofNat N)).1 40 = ρ.1 40 := r 40 (by omega)
  have c8 : cI σ1 (q + 1) 8 = cI σ (q + 1) 8 := by rw [(F (q + 1) ⟨by omega, by omega⟩).1]
  have c3 : cI σ1 (q + 3) 3 = cI σ (q + 3) 3 := by rw [hσ1, wi_ne _ _ _ _ (by omega), t2 3 (by omega)]
  have X1 : XQ q e σ1 (si ρ 31 e (cI σ (q + 3) 4 - Int32.ofNat N)) st u n m g (U - N) rn := by
    have X := E.2
    unfold XQ XX at X ⊢
    rw [c8, c3, hk40]
    obtain ⟨y1, y2, y3, y4, y5, y6, y7, y8, y9⟩ := X
    exact ⟨y1, y2, y3, y4, y5, y6, fun hh => ⟨by have := (y7 hh).1; omega, (y7 hh).2⟩, y8, y9⟩
  have N1 : NB own P [] S c1 c2 K σ1 (si ρ 31 e (cI σ (q + 3) 4 - Int32.ofNat N)) := N0.f (F.sub fun x hx => ⟨fun e1 => by rw [e1] at hx; omega, by omega⟩) (fun _ _ => rfl) ⟨by rw [eX]; exact O.1, fun x hx => O.2.1 x (by omega), O.2.2⟩ (fun a b b' => r a (by omega)) (by rw [r 0 (by omega)]) (by rw [r 0 (by omega)]) (by omega) (by omega) N0.2.2.2.1.2.2
  refine ⟨N, acc, σ1, cI σ (q + 3) 4 - Int32.ofNat N, hNU, ?_, ?_, by rw [h5], ⟨E1, X1⟩, h.end_ hqe (by rw [← hg]; exact ⟨st, u, n, m, U - N, rn, tr, E1, X1⟩) ⟨P, S, c1, c2, N1⟩ (by unfold rl; rw [eR, eN]) ⟨fun _ _ => rfl, F.sub fun x hx => ⟨fun e1 => by rw [e1] at hx; omega, hx.2.2.1⟩, ⟨r 1 (by omega), fun a j _ _ hj => si_ne _ _ _ _ (Or.inr hj), fun _ _ _ => rfl, fun j _ _ => by rw [r 0 (by omega)], r 38 (by omega), fun a j hh _ => by rw [r a (by omega)]⟩, fun _ _ _ _ => by rw [eR], fun _ _ => by rw [eN]⟩⟩
  · unfold m_V_takeUnread
    rw [gd_t (by omega : q + 3 = 10 ∨ q + 3 = 17), bd_e, bd_e]
    have : (if cI σ (q + 3) 4 < v2 then cI σ (q + 3) 4 else v2) = Int32.ofNat N := by
      by_cases hh : U < k
      · rw [if_pos (x32_lt' tU hk (by omega)), h5a, hN, Nat.min_eq_left (by omega)]
      · rw [if_neg (x32_nlt tU hk (by omega))]
        exact x32_eq' hk tN (by omega)
    rw [this, x1]
  · have e31 : ρ.1 31 v1.toNatClampNeg = cI σ (q + 3) 4 := by rw [hcl, h5]
    have e18 : ρ.1 18 v1.toNatClampNeg = cI σ (q + 3) 1 := by rw [hcl, h2]
    have e37 : ρ.1 37 v1.toNatClampNeg = cI σ (q + 3) 3 := by rw [hcl, h4.1]
    have s0 : cI σ (q + 3) 3 = 0 → (cI σ (q + 3) 1 - 0) - cI σ (q + 3) 4 = cI σ (q + 3) 7 := fun z => by rw [h7, z]
    have s1 : cI σ (q + 3) 3 = 1 → (cI σ (q + 3) 1 - 1) - cI σ (q + 3) 4 = cI σ (q + 3) 7 := fun z => by rw [h7, z]
    have r128 : ∀ w a b, b_read_128 v1 w a b ρ = lq6 F_read_144 fuel v1 w ((a - b) - cI σ (q + 3) 4) 0 0 ρ := fun w a b => by
      unfold b_read_128; rw [gd_t hi, bd_e, bd_e, e31]
    have r107 : ∀ w, b_read_107 v1 w ρ = lq6 F_read_144 fuel v1 w (cI σ (q + 3) 7) 0 0 ρ := fun w => by
      unfold b_read_107; rw [gd_t hi, bd_e, gd_t hi, bd_e, e18, e37, r128, r128]
      rcases h4.2 with z | z
      · rw [if_pos z, s0 z]
      · rw [if_neg (by rw [z]; decide), s1 z]
    unfold b_read_87
    rw [gd_t hi, bd_e, gd_t hi, bd_e, e31, r107, r107]
    by_cases hh : k ≤ U
    · have hvN : v2 = Int32.ofNat N := x32_eq' hk tN (by omega)
      rw [if_pos (x32_le' hk tU (by omega)), hvN, x2]
    · have hvN : cI σ (q + 3) 4 = Int32.ofNat N := by rw [h5a, hN, Nat.min_eq_left (by omega)]
      rw [if_neg (x32_nle hk tU (by omega)), hvN, x2]
/-- the word of a window that opened, both sides -/
theorem tell_sim {c : Nat} {σ : CS} {ρ : RS} {own : Nat → Nat} {τ g0 g1 T K q e st u n m g U : Nat} {rn : Int32} {tr : Nat} (h : RLo c σ ρ own τ g0 g1 T K) (hc : c ≤ 512) (hqe : q = 7 ∧ e = 0 ∨ q = 14 ∧ e = 1) (hg : g = if e = 0 then g0 else g1) (E : EE own q e σ ρ τ st u n m g U rn tr) {v1 N v4 : Int32} {acc : Int64} {ρ0 : RS} {x : Int32} (hρ : ρ = si ρ0 31 e x) (hx : ρ0.1 31 e - N = x) (hv : v1.toInt = (e : Int)) :
    ∃ σ' ρ', m_E_tellOpenedWindow q σ = some σ' ∧ F_read_144 (fun _ _ _ _ _ _ => none) v1 N v4 acc N ρ0 = some ((N.toInt64 <<< ((56 : Int32).toInt64 &&& 63)) ||| acc, ρ') ∧ ρ'.1 0 0 = ρ.1 0 0 ∧ RL c σ' ρ' := by
  obtain ⟨P, S, c1, c2, N0⟩ := h.1
  have O := N0.2.2.1
  have he : e < 2 := by omega
  have hq : q = 7 ∨ q = 14 := by omega
  have hi := x32_in hv he
  have hcl := x32_n hv
  have G := E.1.2.2.1
  unfold G3 G3x at G
  obtain ⟨⟨h1, R, hR, h1a⟩, h2, h3, h4, ⟨h5, h5a, h5b⟩, _⟩ := G
  have c8 : cI σ q 8 = Int32.ofNat st := E.1.1.2.2.2.2.1
  have hst : st ≤ 10 := E.1.1.2.2.2.2.2.1
  have ts : (Int32.ofNat st).toInt = (st : Int) := x32_nat (by omega)
  have z4 : (4 : Int32).toInt = 4 := by decide
  have z5 : (5 : Int32).toInt = 5 := by decide
  have z6 : (6 : Int32).toInt = 6 := by decide
  have e9 : ρ.1 9 v1.toNatClampNeg = Int32.ofNat st := by rw [hcl, E.1.1.2.2.2.1, c8]
  have e17 : ρ.1 17 v1.toNatClampNeg = cI σ (q + 6) 0 := by rw [hcl]; exact E.1.2.2.2.2.1
  have e18 : ρ.1 18 v1.toNatClampNeg = cI σ (q + 3) 1 := by rw [hcl, h2]
  have e19 : ρ.1 19 v1.toNatClampNeg = cI σ (q + 3) 2 := by rw [hcl, h3]
  have e7 : ρ.1 7 v1.toNatClampNeg = cI σ (q + 3) 0 := by rw [hcl, h1]
  have e31 : ρ.1 31 v1.toNatClampNeg = cI σ (q + 3) 4 := by rw [hcl, h5]
  have hxx : (cI σ (q + 3) 0 - cI σ (q + 3) 4).toInt = (R : Int) - U := by rw [h1a, h5a]; exact x32_sub (x32_nat (by omega)) (x32_nat (by omega)) (by omega) (by omega)
  have hff : m_freeRoom v1 ρ = some (fre σ q, ρ) := by
    unfold m_freeRoom b_freeRoom_32
    rw [gd_t hi, bd_e, gd_t hi, bd_e, gd_t hi, bd_e, gd_t hi, bd_e, e7, e31]
    unfold fre
    by_cases hle : R < U
    · rw [if_pos (by rw [h1a, h5a]; exact x32_le' (x32_nat (by omega)) (x32_nat (by omega)) (by omega)), if_pos (x32_lt' hxx z32_0 (by omega))]
    · rw [if_neg (x32_nlt hxx z32_0 (by omega))]
      by_cases heq : R = U
      · rw [if_pos (by rw [h1a, h5a, heq]; exact x32_le' (x32_nat (by omega)) (x32_nat (by omega)) (by omega))]
        congr 2
        rw [h1a, h5a, heq]; grind
      · rw [if_neg (by rw [h1a, h5a]; exact x32_nle (x32_nat (by omega)) (x32_nat (by omega)) (by omega))]
  have hcf : m_V_free (q + 3) σ = some (fre σ q, σ) := by
    unfold m_V_free
    rw [gd_t (by omega : q + 3 = 10 ∨ q + 3 = 17), bd_e, bd_e, bd_e]; rfl
  have hcw : m_V_window (q + 3) σ = some (cI σ (q + 3) 2 - cI σ (q + 3) 1, σ) := by
    unfold m_V_window
    rw [gd_t (by omega : q + 3 = 10 ∨ q + 3 = 17), bd_e, bd_e]
  have htd : m_E_takesData q σ = some (if st = 4 ∨ st = 5 ∨ st = 6 then 1 else 0, σ) := by
    unfold m_E_takesData b_E_takesData_25 b_E_takesData_30
    rw [gd_t hq, bd_e, bd_e, bd_e, c8]
    by_cases a4 : st = 4
    · rw [if_pos (x32_eq' ts z4 (by omega)), gd_t z01_1, if_pos (Or.inl a4)]
    · rw [if_neg (x32_ne ts z4 (by omega))]
      by_cases a5 : st = 5
      · rw [if_pos (x32_eq' ts z5 (by omega)), gd_t z01_1, if_pos (Or.inr (Or.inl a5))]
      · rw [if_neg (x32_ne ts z5 (by omega))]
        by_cases a6 : st = 6
        · rw [if_pos (x32_eq' ts z6 (by omega)), gd_t z01_1, if_pos (Or.inr (Or.inr a6))]
        · rw [if_neg (x32_ne ts z6 (by omega)), gd_t z01_0, if_neg (by omega)]
  have pre : ∀ y, y = F_read_144 (fun _ _ _ _ _ _ => none) v1 N v4 acc N ρ0 → y = (if Int32.ofNat st < (4 : Int32) then (b_read_273 N acc ρ) else (if (6 : Int32) < Int32.ofNat st then (b_read_273 N acc ρ) else (if cI σ (q + 6) 0 ≤ (cI σ (q + 3) 2 - cI σ (q + 3) 1) then (b_read_273 N acc ρ) else (if ((cI σ (q + 3) 1 + fre σ q) - cI σ (q + 3) 2) < cI σ (q + 6) 0 then (b_read_273 N acc ρ) else (bc (m_sendAck v1 ρ) fun r13 => b_read_273 N acc r13))))) := fun y hy => by
    have hle : N ≤ N := x32_le' rfl rfl (Int.le_refl _)
    have hρ' : si ρ0 31 v1.toNatClampNeg (ρ0.1 31 v1.toNatClampNeg - N) = ρ := by rw [hcl, hx, hρ]
    rw [hy, F_read_144, if_pos hle, gd_t hi, bd_e, gd_t hi, hρ', bd_e, gd_t hi, bd_e, gd_t hi, bd_e, gd_t hi, bd_e, gd_t hi, bd_e, gd_t hi, bd_e, gd_t hi, bd_e, hff, bc2_e, gd_t hi, bd_e, gd_t hi, bd_e, e9, e17, e18, e19]
  have pre := pre _ rfl
  have cls : ∀ y, y = m_E_tellOpenedWindow q σ → y = (if (if st = 4 ∨ st = 5 ∨ st = 6 then (1 : Int32) else 0) = 0 then (some σ) else (if cI σ (q + 6) 0 ≤ cI σ (q + 3) 2 - cI σ (q + 3) 1 then (some σ) else (if (fre σ q - (cI σ (q + 3) 2 - cI σ (q + 3) 1)) < cI σ (q + 6) 0 then (some σ) else (bc (m_E_sendAck q σ) fun r9 => some r9)))) := fun y hy => by
    rw [hy]; unfold m_E_tellOpenedWindow b_E_tellOpenedWindow_49
    rw [gd_t hq, hcw, bc2_e, htd, bc2_e, bd_e, hcf, bc2_e, bd_e]
  have cls := cls _ rfl
  have stay : m_E_tellOpenedWindow q σ = some σ → F_read_144 (fun _ _ _ _ _ _ => none) v1 N v4 acc N ρ0 = b_read_273 N acc ρ → ∃ σ' ρ', m_E_tellOpenedWindow q σ = some σ' ∧ F_read_144 (fun _ _ _ _ _ _ => none) v1 N v4 acc N ρ0 = some ((N.toInt64 <<< ((56 : Int32).toInt64 &&& 63)) ||| acc, ρ') ∧ ρ'.1 0 0 = ρ.1 0 0 ∧ RL c σ' ρ' := fun a b => ⟨σ, ρ, a, by rw [b]; rfl, rfl, RL.lo h⟩
  by_cases a46 : st = 4 ∨ st = 5 ∨ st = 6
  · rw [if_pos a46, if_neg (by decide)] at cls
    rw [if_neg (x32_nlt ts z4 (by omega)), if_neg (x32_nlt z6 ts (by omega))] at pre
    by_cases b1 : cI σ (q + 6) 0 ≤ cI σ (q + 3) 2 - cI σ (q + 3) 1
    · rw [if_pos b1] at cls pre
      exact stay cls pre
    · rw [if_neg b1] at cls pre
      rw [show fre σ q - (cI σ (q + 3) 2 - cI σ (q + 3) 1) = cI σ (q + 3) 1 + fre σ q - cI σ (q + 3) 2 by grind] at cls
      by_cases b2 : cI σ (q + 3) 1 + fre σ q - cI σ (q + 3) 2 < cI σ (q + 6) 0
      · rw [if_pos b2] at cls pre
        exact stay cls pre
      · rw [if_neg b2] at cls pre
        have T0 := h.ct hc E (by omega)
        obtain ⟨σ2, ρ2, o2, y1, y2, y3, y4, y5⟩ := ack_sim (f := 0) (num := cI σ (q + 1) 5) (v4 := 0) hqe N0 E.1 T0.1 T0.2.1 hv (Or.inl rfl)
        have e12 : ρ.1 12 v1.toNatClampNeg = cI σ (q + 1) 5 := by rw [hcl, E.1.2.1.2.2.1.1, E.1.2.1.2.2.1.2]
        have w1 : m_E_sendAck q σ = some σ2 := by unfold m_E_sendAck; rw [gd_t hq, bd_e, y1, bc_e]
        have w2 : m_sendAck v1 ρ = some ρ2 := by unfold m_sendAck; rw [gd_t hi, bd_e, e12, y2, bc_e]
        rw [w1, bc_e] at cls
        rw [w2, bc_e] at pre
        refine ⟨σ2, ρ2, cls, by rw [pre]; rfl, y4.2.2.2.1.2.2.2 0 (by omega) (by omega), RL.lo (h.ep hqe ?_ y4)⟩
        rw [← hg]
        exact ⟨st, u, n, m, U, rn, tr, y3, E.2.cg (by rw [(y5.1 (q + 1) (Or.inl rfl)).1]) (y5.2.2.2.1 3 (by omega)) (y4.2.2.2.1.1 40 (by omega))⟩
  · rw [if_neg a46, if_pos rfl] at cls
    have : F_read_144 (fun _ _ _ _ _ _ => none) v1 N v4 acc N ρ0 = b_read_273 N acc ρ := by
      rw [pre]
      by_cases b1 : st < 4
      · rw [if_pos (x32_lt' ts z4 (by omega))]
      · rw [if_neg (x32_nlt ts z4 (by omega)), if_pos (x32_lt' z6 ts (by omega))]
    exact stay cls this
theorem read_sim {c : Nat} {σ : CS} {ρ : RS} (h : RL c σ ρ) (hc : c < 512) (v1 v2 : Int32) {code : Nat → Option Int32} (hc3 : code 3 = some 1) (hc2 : code 2 = some 2) (hc1 : code 1 = some 3) (hc4 : code 4 = some 4) : An c code σ ρ (m_P_read v1 v2 σ) (m_read v1 v2 ρ) := by
  have hr := h.room hc
  by_cases hs : v1 = 0 ∨ v1 = 1
  · obtain ⟨q, e, hqe, hv, hvn, hvi, hs1, he, hq⟩ := side_ok hs σ
    obtain ⟨own, τ, g0, g1, T, K, h⟩ := h
    have h0 := h.sz (SZ.si ρ 0)
    have hz : (si ρ 0 0 0).1 0 0 = 0 := si_eq _ _ _ _
    have hz2 : m_fail 2 (si ρ 0 0 0) = some (0, si ρ 0 0 2) := mfail ρ 2
    have hz3 : m_fail 3 (si ρ 0 0 0) = some (0, si ρ 0 0 3) := mfail ρ 3
    have hz4 : m_fail 4 (si ρ 0 0 0) = some (0, si ρ 0 0 4) := mfail ρ 4
    have pre : ∀ x, x = m_read v1 v2 ρ → x = (if v2 < (1 : Int32) then (b_read_30 (si ρ 0 0 0)) else (if v2 ≤ (7 : Int32) then (gd (inb v1 2) <| bd ((si ρ 0 0 0).1 31 v1.toNatClampNeg) fun x4 => if x4 = 0 then (gd (inb v1 2) <| bd ((si ρ 0 0 0).1 37 v1.toNatClampNeg) fun x5 => if x5 = 0 then (b_read_62 v1 v2 (si ρ 0 0 0)) else (bc2 (m_fail (3 : Int32) (si ρ 0 0 0)) fun x7 r6 => some (x7.toInt64, r6))) else (b_read_62 v1 v2 (si ρ 0 0 0))) else (b_read_30 (si ρ 0 0 0)))) := fun x hx => by
      rw [hx]; unfold m_read; rw [bd_e, none_0 _ hs, bc2_e, if_pos rfl]
    have pre := pre _ rfl
    obtain ⟨ρ0, hρ0⟩ : ∃ ρ0, ρ0 = si ρ 0 0 0 := ⟨_, rfl⟩
    rw [← hρ0] at h0 pre hz hz2 hz3 hz4
    obtain ⟨st, u, n, m, U, rn, tr, E⟩ := h0.ee hqe
    obtain ⟨g, hg⟩ : ∃ g, g = if e = 0 then g0 else g1 := ⟨_, rfl⟩
    rw [← hg] at E
    have G := E.1.2.2.1
    unfold G3 G3x at G
    obtain ⟨_, _, _, ⟨k37, k37a⟩, ⟨h5, h5a, h5b⟩, _⟩ := G
    have c9 := E.1.1.2.2.2.2.2.2.1
    have c9a := E.1.1.2.2.2.2.2.2.2.1
    have tU : (cI σ (q + 3) 4).toInt = (U : Int) := by rw [h5a]; exact x32_nat (by omega)
    have e31 : ρ0.1 31 v1.toNatClampNeg = cI σ (q + 3) 4 := by rw [hvn, h5]
    have e37 : ρ0.1 37 v1.toNatClampNeg = cI σ (q + 3) 3 := by rw [hvn, k37]
    have e30 : ρ0.1 30 v1.toNatClampNeg = cI σ q 9 := by rw [hvn, c9]
    have b30 : b_read_30 ρ0 = some (0, si ρ 0 0 2) := by unfold b_read_30; rw [hz2, bc2_e]; rfl
    have b62 : ∀ x, x = b_read_62 v1 v2 ρ0 → x = (if cI σ (q + 3) 4 = 0 then (if cI σ q 9 ≤ 0 then (b_read_87 v1 v2 ρ0) else (some (0, si ρ 0 0 4))) else (b_read_87 v1 v2 ρ0)) := fun x hx => by
      rw [hx]; unfold b_read_62; rw [gd_t hvi, bd_e, gd_t hvi, bd_e, e31, e30, hz4, bc2_e]; rfl
    have b62 := b62 _ rfl
    rw [gd_t hvi, bd_e, gd_t hvi, bd_e, e31, e37, b30, hz3, bc2_e] at pre
    have cls : ∀ x, x = m_P_read v1 v2 σ → x = (if v2 < (1 : Int32) then (b_P_read_17 σ) else (if v2 ≤ (7 : Int32) then (if cI σ (q + 3) 4 = 0 then (if cI σ (q + 3) 3 = 0 then (b_P_read_57 v2 q σ) else (gd (cX σ + 1 ≤ 601024 ∧ cU σ + 6 ≤ 7293034) <| some (.inl 1, wa σ 0 0 6))) else (b_P_read_57 v2 q σ)) else (b_P_read_17 σ))) := fun x hx => by
      rw [hx]; unfold m_P_read; rw [hs1, bcn_r, gd_t hq, bd_e, bd_e]
    have cls := cls _ rfl
    have d17 : b_P_read_17 σ = some (.inl 2, wa σ 0 0 6) := by unfold b_P_read_17; rw [gd_t hr]
    rw [d17] at cls
    by_cases b1 : v2 < 1
    · rw [if_pos b1] at cls pre
      exact An.no cls pre hc2 (by decide)
    · rw [if_neg b1] at cls pre
      by_cases b7 : v2 ≤ 7
      · rw [if_pos b7] at cls pre
        have t1 : ¬ v2.toInt < 1 := fun hh => b1 (x32_lt' rfl (by decide : (1 : Int32).toInt = 1) hh)
        have t7 : v2.toInt ≤ 7 := by
          have := Int32.le_iff_toInt_le.mp b7
          exact this
        obtain ⟨k, hk⟩ : ∃ k : Nat, v2.toInt = (k : Int) := ⟨v2.toInt.toNat, by omega⟩
        have go : ∀ (mr : m_read v1 v2 ρ = b_read_87 v1 v2 ρ0) (mp : m_P_read v1 v2 σ = b_P_read_84 v2 q σ), An c code σ ρ (m_P_read v1 v2 σ) (m_read v1 v2 ρ) := fun mr mp => by
          obtain ⟨N, acc, σ1, x, y1, y2, y3, y4, E1, h1⟩ := taken_sim h0 hqe hg E hv hk (by omega)
          obtain ⟨σ2, ρ2, w1, w2, w3, w4⟩ := tell_sim (v4 := cI σ (q + 3) 7) (acc := acc) h1 (by omega) hqe hg E1 rfl y4 hv
          refine Or.inl ⟨((Int32.ofNat N).toInt64 <<< ((56 : Int32).toInt64 &&& 63)) ||| acc, σ2, ρ2, ?_, ?_, ?_, w4.up⟩
          · rw [mp]; unfold b_P_read_84; rw [y2, bc2_e, w1, bc_e]
          · rw [mr, y3, w2]
          · rw [w3, si_ne _ _ _ _ (by omega), hz]
        have e87 : ∀ x, x = b_P_read_57 v2 q σ → x = (if cI σ (q + 3) 4 = 0 then (if cI σ q 9 = 0 then (b_P_read_84 v2 q σ) else (some (.inl 4, wa σ 0 0 6))) else (b_P_read_84 v2 q σ)) := fun x hx => by
          rw [hx]; unfold b_P_read_57; rw [bd_e, bd_e, gd_t hr]
        have e87 := e87 _ rfl
        by_cases bU : cI σ (q + 3) 4 = 0
        · rw [if_pos bU] at cls pre b62 e87
          by_cases b3 : cI σ (q + 3) 3 = 0
          · rw [if_pos b3] at cls pre
            by_cases b9 : cI σ q 9 = 0
            · rw [if_pos (by rw [b9]; decide)] at b62
              rw [if_pos b9] at e87
              exact go (pre.trans b62) (cls.trans e87)
            · rw [if_neg (by
                rcases c9a with z | ⟨_, z | z⟩
                · exact absurd z b9
                · rw [z]; decide
                · rw [z]; decide)] at b62
              rw [if_neg b9] at e87
              exact An.no (cls.trans e87) (pre.trans b62) hc4 (by decide)
          · rw [if_neg b3] at cls pre
            rw [gd_t hr] at cls
            exact An.no cls pre hc1 (by decide)
        · rw [if_neg bU] at cls pre b62 e87
          exact go (pre.trans b62) (cls.trans e87)
      · rw [if_neg b7] at cls pre
        exact An.no cls pre hc2 (by decide)
  · refine An.no (σ' := wa σ 0 0 6) (y := 0) (j := 3) (k := 1) ?_ ?_ hc3 (by decide)
    · unfold m_P_read; rw [side_no hs hr]
    · unfold m_read; rw [bd_e, none_1 _ hs, bc2_e, if_neg (by decide), mfail, bc2_e]; rfl
