/-! tick, both sides -/
theorem G4.tau {q e : Nat} {σ : CS} {ρ : RS} {τ τ' : Nat} {rn : Int32} {tr : Nat} (hq : q + 5 ≠ 3) (h : G4 q e σ ρ τ rn tr) (x : Int64) (h1 : τ ≤ τ') (h2 : rn = 1 → (τ' : Int) ≤ (cJ σ (q + 5) 3).toInt) : G4 q e (wl σ 3 0 x) (sl ρ 0 3 x) τ' rn tr := by
  obtain ⟨a1, a2, a3, a4, a5, a6, a7, a8, a9, A, b1, b2⟩ := h
  have w : cJ (wl σ 3 0 x) (q + 5) = cJ σ (q + 5) := wl_o σ x hq
  have l : ∀ r, r ≠ 0 → (sl ρ 0 3 x).2 r = ρ.2 r := fun r hr => sl_other ρ hr x
  unfold G4
  rw [wl_I, sl_1, w, l 33 (by omega), l 34 (by omega)]
  refine ⟨a1, a2, a3, ?_, a5, a6, a7, a8, a9, A, by omega, b2⟩
  rcases a4 with z | ⟨z1, z2, D, z3, z4, z5⟩
  · exact Or.inl z
  · exact Or.inr ⟨z1, z2, D, z3, by have := h2 z1; omega, by omega⟩
theorem EE.tau {own : Nat → Nat} {q e : Nat} {σ : CS} {ρ : RS} {τ τ' st u n m g U : Nat} {rn : Int32} {tr : Nat} (hqe : q = 7 ∧ e = 0 ∨ q = 14 ∧ e = 1) (O : Ow own σ) (E : EE own q e σ ρ τ st u n m g U rn tr) (x : Int64) (h1 : τ ≤ τ') (h2 : rn = 1 → (τ' : Int) ≤ (cJ σ (q + 5) 3).toInt) : EE own q e (wl σ 3 0 x) (sl ρ 0 3 x) τ' st u n m g U rn tr := by
  obtain ⟨⟨e1, e2, e3, e4, e5⟩, X⟩ := E
  have o3 : own 3 = 14 := O.2.2 3 (by decide)
  have F := fr_wl σ 3 0 x
  exact ⟨⟨e1.cg rfl (fun _ _ => rfl) rfl, e2.cg (F.sub fun y (hy : y = q + 1 ∨ own y = 2 + e) e9 => by rw [e9] at hy; omega) (fun _ hy => hy) (fun _ _ => rfl) (fun _ _ => rfl), e3.cg (F.sub fun y (hy : y = q + 3 ∨ own y = 4 + e) e9 => by rw [e9] at hy; omega) (fun _ hy => hy) (fun _ _ => rfl) (fun _ _ => rfl) (fun _ _ => rfl), e4.tau (by omega) x h1 h2, e5.cg rfl (fun _ _ => rfl)⟩, X.cg rfl rfl rfl⟩
theorem EE.keep {own own' : Nat → Nat} {q e e1 : Nat} {σ σ' : CS} {ρ ρ' : RS} {τ st u n m g U : Nat} {rn : Int32} {tr : Nat} (hqe : q = 7 ∧ e = 0 ∨ q = 14 ∧ e = 1) (hne : e1 ≠ e) (he1 : e1 < 2) (O : Ow own σ) (E : EE own q e σ ρ τ st u n m g U rn tr) (R : ER own own' e1 σ σ' ρ ρ') : EE own' q e σ' ρ' τ st u n m g U rn tr := by
  obtain ⟨r1, r2, ⟨q1, q2, q3, q4, q5, q6⟩, r4, r5⟩ := R
  have F : fr (fun x => own x = 10 + e ∨ own x = 2 + e ∨ own x = 4 + e) σ σ' := r2.sub fun x hx => by omega
  exact E.cg hqe O F r1 (fun r h1 h2 => q2 r e h1 h2 (by omega)) (fun r _ => q3 r e (by omega)) (q4 4 (by omega) (by omega)) (fun i _ => by rw [q5]) (fun i hi => q6 39 _ (Or.inl rfl) (by omega)) (fun i hi => q6 40 _ (Or.inr rfl) (by omega))
theorem RLo.clock {c : Nat} {σ : CS} {ρ : RS} {own : Nat → Nat} {τ τ' g0 g1 T K : Nat} (h : RLo c σ ρ own τ g0 g1 T K) {x : Int64} (X0 : EX own 7 0 (wl σ 3 0 x) (sl ρ 0 3 x) τ' g0) (X1 : EX own 14 1 (wl σ 3 0 x) (sl ρ 0 3 x) τ' g1) (hx : x.toInt = (τ' : Int)) (ht : τ' ≤ 1000000 * c) : RLo c (wl σ 3 0 x) (sl ρ 0 3 x) own τ' g0 g1 T K := by
  obtain ⟨⟨P, S, c1, c2, N⟩, _, _, tp, ⟨l1, l2, l3, l4, l7, l8⟩, k1, k2⟩ := h
  have O := N.2.2.1
  have o3 : own 3 = 14 := O.2.2 3 (by decide)
  have F := fr_wl σ 3 0 x
  have N1 : NB own P [] S c1 c2 K (wl σ 3 0 x) (sl ρ 0 3 x) := N.f (F.sub fun y (hy : 50 ≤ own y ∧ own y ≠ 99) e9 => by rw [e9] at hy; omega) (fun _ _ => rfl) O (fun _ _ _ => rfl) rfl rfl (Nat.le_refl _) (Nat.le_refl _) N.2.2.2.1.2.2
  have tp' := tp.cg O (F.sub fun y (hy : own y = 13 ∨ own y = 1) e9 => by rw [e9] at hy; omega) (fun _ _ => rfl) (ρ' := sl ρ 0 3 x) rfl rfl
  have eJ : cJ (wl σ 3 0 x) 3 0 = x := by rw [wl_J, if_pos ⟨rfl, rfl⟩]
  have eL : (sl ρ 0 3 x).2 0 3 = x := by rw [sl_2, if_pos ⟨rfl, rfl⟩]
  exact ⟨⟨P, S, c1, c2, N1⟩, X0, X1, tp'.1, ⟨by rw [eJ, eL], by rw [eJ]; exact hx, ht, l4, l7, l8⟩, k1, k2⟩
def mtr (rn : Int32) (tr : Nat) : Nat := if rn = 1 then 9 - tr else 0
theorem tick_step {c : Nat} {σ : CS} {ρ : RS} {own : Nat → Nat} {τ g0 g1 T K q e q2 e2 st u n m U tr st2 u2 n2 m2 U2 tr2 D : Nat} {rn2 : Int32} (h : RLo c σ ρ own τ g0 g1 T K) (hc : c ≤ 512) (hqe : q = 7 ∧ e = 0 ∨ q = 14 ∧ e = 1) (hqe2 : q2 = 7 ∧ e2 = 0 ∨ q2 = 14 ∧ e2 = 1) (hne : e ≠ e2) (E : EE own q e σ ρ τ st u n m (if e = 0 then g0 else g1) U 1 tr) (E2 : EE own q2 e2 σ ρ τ st2 u2 n2 m2 (if e2 = 0 then g0 else g1) U2 rn2 tr2) {v : Int32} (hv : v.toInt = (e : Int)) (hD : (cJ σ (q + 5) 3).toInt = (D : Int)) (hD2 : τ ≤ D) (hDc : D ≤ 1000000 * c) (h2 : rn2 = 1 → (D : Int) ≤ (cJ σ (q2 + 5) 3).toInt) :
    ∃ σ' ρ' own' st' n' m' rn' tr', m_E_timerDue q (wl σ 3 0 (cJ σ (q + 5) 3)) = some σ' ∧ m_timer v (sl ρ 0 3 (cJ σ (q + 5) 3)) = some ρ' ∧ EE own' q e σ' ρ' D st' u n' m' (if e = 0 then g0 else g1) U rn' tr' ∧ EE own' q2 e2 σ' ρ' D st2 u2 n2 m2 (if e2 = 0 then g0 else g1) U2 rn2 tr2 ∧ RLo c σ' ρ' own' D g0 g1 T K ∧ mtr rn' tr' < mtr 1 tr ∧ ρ'.1 0 0 = ρ.1 0 0 := by
  obtain ⟨P, S, c1, c2, N⟩ := h.1
  have O := N.2.2.1
  have EA := E.tau hqe O (cJ σ (q + 5) 3) hD2 (fun _ => by rw [hD]; exact Int.le_refl _)
  have EB := E2.tau hqe2 O (cJ σ (q + 5) 3) hD2 h2
  have h1 : RLo c (wl σ 3 0 (cJ σ (q + 5) 3)) (sl ρ 0 3 (cJ σ (q + 5) 3)) own D g0 g1 T K := by
    rcases hqe with ⟨rfl, rfl⟩ | ⟨rfl, rfl⟩
    · obtain ⟨rfl, rfl⟩ : q2 = 14 ∧ e2 = 1 := by omega
      exact h.clock ⟨_, _, _, _, _, _, _, EA⟩ ⟨_, _, _, _, _, _, _, EB⟩ hD hDc
    · obtain ⟨rfl, rfl⟩ : q2 = 7 ∧ e2 = 0 := by omega
      exact h.clock ⟨_, _, _, _, _, _, _, EB⟩ ⟨_, _, _, _, _, _, _, EA⟩ hD hDc
  have hst : st ≠ 0 := fun e0 => absurd (E.2.1 (by omega)) (by decide)
  obtain ⟨P1, S1, d1, d2, N1⟩ := h1.1
  obtain ⟨σ', ρ', own', st', n', m', rn', tr', x1, x2, x3, x4, x5⟩ := timer_sim hqe N1 EA.1 EA.2 (h1.ct hc EA hst) hv
  have he : e < 2 := by omega
  refine ⟨σ', ρ', own', st', n', m', rn', tr', x1, x2, x3, EB.keep hqe2 hne he N1.2.2.1 (x4.ER he), h1.ep hqe ⟨_, _, _, _, _, _, _, x3⟩ x4, ?_, ?_⟩
  · have t8 : tr ≤ 8 := E.1.2.2.2.1.2.1.2.2
    unfold mtr
    rw [if_pos rfl]
    rcases x5 with x5 | x5
    · rw [x5, if_neg (by decide)]; omega
    · by_cases hr : rn' = 1
      · rw [if_pos hr]; omega
      · rw [if_neg hr]; omega
  · rw [x4.2.2.2.1.2.2.2 0 (by omega) (by omega), sl_1]
theorem sl_id (ρ : RS) (a k : Nat) : sl ρ a k (ρ.2 a k) = ρ := by
  refine Prod.ext rfl (funext fun b => funext fun i => ?_)
  show (if b = a ∧ i = k then ρ.2 a k else ρ.2 b i) = ρ.2 b i
  by_cases h : b = a ∧ i = k
  · rw [if_pos h, h.1, h.2]
  · rw [if_neg h]
theorem tick_ref {ρ : RS} {e D V τ : Nat} {v2 x : Int64} {w0 : Int32} (he : e < 2) (hw : w0.toInt = (e : Int)) (h33 : ρ.2 33 e = x) (hx : x.toInt = (D : Int)) (hV : v2.toInt = (V : Int)) (hT : (ρ.2 0 3).toInt = (τ : Int)) (hD : τ ≤ D) (rec : Int64 → Int32 → RS → Option (Int64 × RS)) : b_tick_83 rec v2 w0 ρ = if D ≤ V then bc (m_timer w0 (sl ρ 0 3 x)) fun r1 => rec v2 1 r1 else rec v2 0 ρ := by
  have hi := x32_in hw he
  have e33 : ρ.2 33 w0.toNatClampNeg = x := by rw [x32_n hw, h33]
  have n0 : ¬ lg_cmp x 0 < 0 := fun hh => by have := (x64_lt hx z64_0).mp ((lg_cmp_lt _ _).mp hh); omega
  unfold b_tick_83
  rw [gd_t hi, bd_e, gd_t hi, bd_e, e33, if_neg n0]
  by_cases hDV : D ≤ V
  · rw [if_pos hDV, if_neg (fun hh => by have := (x64_lt hV hx).mp ((lg_cmp_gt _ _).mp hh); omega)]
    unfold b_tick_114 b_tick_150
    rw [if_neg (by decide), gd_t hi, bd_e, bd_e, gd_t hi, bd_e, bd_e, e33]
    by_cases hDt : D ≤ τ
    · rw [if_pos ((lg_cmp_le _ _).mpr ((x64_le hx hT).mpr (by omega)))]
      rw [show x = ρ.2 0 3 from x64_eq' hx hT (by omega), sl_id]
    · rw [if_neg (fun hh => by have := (x64_le hx hT).mp ((lg_cmp_le _ _).mp hh); omega)]
  · rw [if_neg hDV, if_pos ((lg_cmp_gt _ _).mpr ((x64_lt hV hx).mpr (by omega)))]
    unfold b_tick_113 b_tick_114
    rw [if_pos rfl]
theorem tick_cls {σ : CS} {q D V i : Nat} {v2 : Int64} {v4 : Int32} (hq : q = 7 ∨ q = 14) (hn : m_P_nextDue σ = some (q, σ)) (h4 : v4.toInt = (i : Int)) (hi : i < 1000) (hr : cI σ (q + 5) 2 = 1) (hx : (cJ σ (q + 5) 3).toInt = (D : Int)) (hV : v2.toInt = (V : Int)) (rec : Int64 → Int32 → CS → Option ((Nat ⊕ Int64) × CS)) : F_P_tick_35 rec v2 v4 σ = if D ≤ V then bc (m_E_timerDue q (wl σ 3 0 (cJ σ (q + 5) 3))) fun r7 => rec v2 (v4 + 1) r7 else some (.inr v2, wl σ 3 0 v2) := by
  have t : (1000 : Int32).toInt = 1000 := by decide
  unfold F_P_tick_35 b_P_tick_102
  rw [if_neg (x32_nle t h4 (by omega)), hn, bc2_e, gd_t hq, bd_e, hr, if_neg (by decide), bd_e, bd_e, bd_e, bd_e]
  by_cases hDV : D ≤ V
  · rw [if_pos hDV, if_pos ((lg_cmp_le _ _).mpr ((x64_le hx hV).mpr (by omega)))]
    rfl
  · rw [if_neg hDV, if_neg (fun hh => by have := (x64_le hx hV).mp ((lg_cmp_le _ _).mp hh); omega)]
theorem tick_fin {n : Nat} {v2 : Int64} {ρ : RS} : lq3 F_tick_35 (n + 1) v2 0 ρ = some (v2, sl ρ 0 3 v2) := by
  show F_tick_35 (lq3 F_tick_35 n) v2 0 ρ = _
  rw [F_tick_35, if_pos rfl, bd_e, bd_e, sl_2, if_pos ⟨rfl, rfl⟩]
theorem tick_loop {c g0 g1 T K V : Nat} {v2 : Int64} (hc : c ≤ 512) (hV : v2.toInt = (V : Int)) (hVc : V ≤ 1000000 * c) : ∀ (k i nC nR : Nat) (v4 : Int32) (σ : CS) (ρ : RS) (own : Nat → Nat) (τ st u n m U tr st1 u1 n1 m1 U1 tr1 : Nat) (rn rn1 : Int32), RLo c σ ρ own τ g0 g1 T K → EE own 7 0 σ ρ τ st u n m g0 U rn tr → EE own 14 1 σ ρ τ st1 u1 n1 m1 g1 U1 rn1 tr1 → mtr rn tr + mtr rn1 tr1 ≤ k → τ ≤ V → v4.toInt = (i : Int) → i + k < 1000 → k < nC → k + 1 < nR →
    ∃ σ' ρ', lq3 F_P_tick_35 nC v2 v4 σ = some (.inr v2, σ') ∧ lq3 F_tick_35 nR v2 1 ρ = some (v2, ρ') ∧ ρ'.1 0 0 = ρ.1 0 0 ∧ RL c σ' ρ' := by
  intro k
  induction k using Nat.strongRecOn with
  | ind k ih =>
    intro i nC nR v4 σ ρ own τ st u n m U tr st1 u1 n1 m1 U1 tr1 rn rn1 h E E1 hk hτ h4 hik hC hR
    obtain ⟨nC, rfl⟩ : ∃ z, nC = z + 1 := ⟨nC - 1, by omega⟩
    obtain ⟨nR, rfl⟩ : ∃ z, nR = z + 2 := ⟨nR - 2, by omega⟩
    obtain ⟨P, S, c1, c2, N⟩ := h.1
    have O := N.2.2.1
    have l1 := h.2.2.2.2.1.1
    have hT : (ρ.2 0 3).toInt = (τ : Int) := by rw [← l1]; exact h.2.2.2.2.1.2.1
    have r0 : cI σ 12 2 = rn := E.1.2.2.2.1.2.2.1
    have r1 : cI σ 19 2 = rn1 := E1.1.2.2.2.1.2.2.1
    have p0 := E.1.2.2.2.1.2.2.2.1
    have p1 := E1.1.2.2.2.1.2.2.2.1
    have i0 : inb (0 : Int32) 2 := x32_in (show (0 : Int32).toInt = ((0 : Nat) : Int) by decide) (by decide)
    have i1 : inb (1 : Int32) 2 := x32_in (show (1 : Int32).toInt = ((1 : Nat) : Int) by decide) (by decide)
    have n0 : (0 : Int32).toNatClampNeg = 0 := by decide
    have n1' : (1 : Int32).toNatClampNeg = 1 := by decide
    have m1l : lg_cmp (-1) 0 < 0 := (lg_cmp_lt _ _).mpr (by decide)
    have pre : ∀ x, x = F_tick_35 (lq3 F_tick_35 (nR + 1)) v2 1 ρ → x = (if (lg_cmp (ρ.2 33 0) (0 : Int64)) < 0 then (b_tick_82 (lq3 F_tick_35 (nR + 1)) v2 ρ) else (if (lg_cmp (ρ.2 33 1) (0 : Int64)) < 0 then (b_tick_78 (lq3 F_tick_35 (nR + 1)) v2 ρ) else (if 0 < (lg_cmp (ρ.2 33 0) (ρ.2 33 1)) then (b_tick_82 (lq3 F_tick_35 (nR + 1)) v2 ρ) else (b_tick_78 (lq3 F_tick_35 (nR + 1)) v2 ρ)))) := fun x hx => by
      rw [hx, F_tick_35, if_neg (by decide), gd_t i0, bd_e, gd_t i1, bd_e, gd_t i0, bd_e, gd_t i1, bd_e, n0, n1']
    have pre := pre _ rfl
    unfold b_tick_82 b_tick_78 at pre
    have cls : ∀ x, x = m_P_nextDue σ → x = (if rn1 = 0 then (some (7, σ)) else (if rn = 0 then (some (14, σ)) else (if 0 < (lg_cmp (cJ σ 12 3) (cJ σ 19 3)) then (some (14, σ)) else (some (7, σ))))) := fun x hx => by
      rw [hx]; unfold m_P_nextDue b_P_nextDue_62 b_P_nextDue_66; rw [bd_e, bd_e, bd_e, bd_e, r0, r1]
    have cls := cls _ rfl
    -- the end of the rounds
    have fin : (rn = 1 → (V : Int) ≤ (cJ σ 12 3).toInt) → (rn1 = 1 → (V : Int) ≤ (cJ σ 19 3).toInt) → F_P_tick_35 (lq3 F_P_tick_35 nC) v2 v4 σ = some (.inr v2, wl σ 3 0 v2) → F_tick_35 (lq3 F_tick_35 (nR + 1)) v2 1 ρ = lq3 F_tick_35 (nR + 1) v2 0 ρ → ∃ σ' ρ', lq3 F_P_tick_35 (nC + 1) v2 v4 σ = some (.inr v2, σ') ∧ lq3 F_tick_35 (nR + 2) v2 1 ρ = some (v2, ρ') ∧ ρ'.1 0 0 = ρ.1 0 0 ∧ RL c σ' ρ' := fun a b x y => by
      refine ⟨wl σ 3 0 v2, sl ρ 0 3 v2, x, y.trans tick_fin, rfl, RL.lo (h.clock (τ' := V) ⟨_, _, _, _, _, _, _, E.tau (Or.inl ⟨rfl, rfl⟩) O v2 hτ a⟩ ⟨_, _, _, _, _, _, _, E1.tau (Or.inr ⟨rfl, rfl⟩) O v2 hτ b⟩ hV hVc)⟩
    have goA : (D : Nat) → rn = 1 → m_P_nextDue σ = some (7, σ) → ρ.2 33 0 = cJ σ 12 3 → (cJ σ 12 3).toInt = (D : Int) → τ ≤ D → (rn1 = 1 → (D : Int) ≤ (cJ σ 19 3).toInt) → F_tick_35 (lq3 F_tick_35 (nR + 1)) v2 1 ρ = b_tick_83 (lq3 F_tick_35 (nR + 1)) v2 0 ρ → ∃ σ' ρ', lq3 F_P_tick_35 (nC + 1) v2 v4 σ = some (.inr v2, σ') ∧ lq3 F_tick_35 (nR + 2) v2 1 ρ = some (v2, ρ') ∧ ρ'.1 0 0 = ρ.1 0 0 ∧ RL c σ' ρ' := fun D a1 a2 a3 a4 a5 a6 a7 => by
      have t1 := tick_cls (q := 7) (Or.inl rfl) a2 h4 (by omega) (by rw [r0, a1]) a4 hV (lq3 F_P_tick_35 nC)
      have t2 := tick_ref (e := 0) (by omega) z32_0 a3 a4 hV hT a5 (lq3 F_tick_35 (nR + 1))
      by_cases hDV : D ≤ V
      · rw [if_pos hDV] at t1 t2
        subst a1
        obtain ⟨σ', ρ', own', st', n', m', rn', tr', x1, x2, x3, x4, x5, x6, x7⟩ := tick_step h hc (Or.inl ⟨rfl, rfl⟩) (Or.inr ⟨rfl, rfl⟩) (by decide) E E1 (v := 0) z32_0 a4 a5 (by omega) a6
        obtain ⟨σ2, ρ2, y1, y2, y3, y4⟩ := ih (k - 1) (by omega) (i + 1) nC (nR + 1) (v4 + 1) σ' ρ' own' D st' u n' m' U tr' st1 u1 n1 m1 U1 tr1 rn' rn1 x5 x3 x4 (by omega) (by omega) (by rw [x32_add h4 z32_1 (by omega) (by omega)]; omega) (by omega) (by omega) (by omega)
        refine ⟨σ2, ρ2, ?_, ?_, by rw [y3, x7], y4⟩
        · show F_P_tick_35 (lq3 F_P_tick_35 nC) v2 v4 σ = _
          rw [t1, x1, bc_e, y1]
        · show F_tick_35 (lq3 F_tick_35 (nR + 1)) v2 1 ρ = _
          rw [a7, t2, x2, bc_e, y2]
      · rw [if_neg hDV] at t1 t2
        exact fin (fun _ => by rw [a4]; omega) (fun hh => by have := a6 hh; omega) t1 (a7.trans t2)
    have goB : (D : Nat) → rn1 = 1 → m_P_nextDue σ = some (14, σ) → ρ.2 33 1 = cJ σ 19 3 → (cJ σ 19 3).toInt = (D : Int) → τ ≤ D → (rn = 1 → (D : Int) ≤ (cJ σ 12 3).toInt) → F_tick_35 (lq3 F_tick_35 (nR + 1)) v2 1 ρ = b_tick_83 (lq3 F_tick_35 (nR + 1)) v2 1 ρ → ∃ σ' ρ', lq3 F_P_tick_35 (nC + 1) v2 v4 σ = some (.inr v2, σ') ∧ lq3 F_tick_35 (nR + 2) v2 1 ρ = some (v2, ρ') ∧ ρ'.1 0 0 = ρ.1 0 0 ∧ RL c σ' ρ' := fun D a1 a2 a3 a4 a5 a6 a7 => by
      have t1 := tick_cls (q := 14) (Or.inr rfl) a2 h4 (by omega) (by rw [r1, a1]) a4 hV (lq3 F_P_tick_35 nC)
      have t2 := tick_ref (e := 1) (by omega) z32_1 a3 a4 hV hT a5 (lq3 F_tick_35 (nR + 1))
      by_cases hDV : D ≤ V
      · rw [if_pos hDV] at t1 t2
        subst a1
        obtain ⟨σ', ρ', own', st', n', m', rn', tr', x1, x2, x3, x4, x5, x6, x7⟩ := tick_step h hc (Or.inr ⟨rfl, rfl⟩) (Or.inl ⟨rfl, rfl⟩) (by decide) E1 E (v := 1) z32_1 a4 a5 (by omega) a6
        obtain ⟨σ2, ρ2, y1, y2, y3, y4⟩ := ih (k - 1) (by omega) (i + 1) nC (nR + 1) (v4 + 1) σ' ρ' own' D st u n m U tr st' u1 n' m' U1 tr' rn rn' x5 x4 x3 (by omega) (by omega) (by rw [x32_add h4 z32_1 (by omega) (by omega)]; omega) (by omega) (by omega) (by omega)
        refine ⟨σ2, ρ2, ?_, ?_, by rw [y3, x7], y4⟩
        · show F_P_tick_35 (lq3 F_P_tick_35 nC) v2 v4 σ = _
          rw [t1, x1, bc_e, y1]
        · show F_tick_35 (lq3 F_tick_35 (nR + 1)) v2 1 ρ = _
          rw [a7, t2, x2, bc_e, y2]
      · rw [if_neg hDV] at t1 t2
        exact fin (fun hh => by have := a6 hh; omega) (fun _ => by rw [a4]; omega) t1 (a7.trans t2)
    have nn : ∀ {x : Int64} {D : Nat}, x.toInt = (D : Int) → ¬ lg_cmp x 0 < 0 := fun hx hh => by have := (x64_lt hx z64_0).mp ((lg_cmp_lt _ _).mp hh); omega
    rcases p0 with ⟨a1, a2⟩ | ⟨a1, a2, D0, a3, a4, a5⟩
    · rw [if_pos a1] at cls
      rw [a2, if_pos m1l] at pre
      rcases p1 with ⟨b1, b2⟩ | ⟨b1, b2, D1, b3, b4, b5⟩
      · rw [if_pos b1] at cls
        refine fin (fun hh => absurd (a1.symm.trans hh) (by decide)) (fun hh => absurd (b1.symm.trans hh) (by decide)) ?_ ?_
        · have t : (1000 : Int32).toInt = 1000 := by decide
          unfold F_P_tick_35 b_P_tick_102
          rw [if_neg (x32_nle t h4 (by omega)), cls, bc2_e, gd_t (Or.inl rfl), bd_e, r0, if_pos a1, bd_e]
        · rw [pre]
          unfold b_tick_83
          have e33 : ρ.2 33 (1 : Int32).toNatClampNeg = -1 := by rw [n1']; exact b2
          rw [gd_t i1, bd_e, e33, if_pos m1l]
          unfold b_tick_113 b_tick_114
          rw [if_pos rfl]
      · rw [if_neg (by rw [b1]; decide)] at cls
        exact goB D1 b1 cls b2 b3 b4 (fun hh => absurd (a1.symm.trans hh) (by decide)) pre
    · rw [if_neg (show ¬ rn = 0 by rw [a1]; decide)] at cls
      rw [a2, if_neg (nn a3)] at pre
      rcases p1 with ⟨b1, b2⟩ | ⟨b1, b2, D1, b3, b4, b5⟩
      · rw [if_pos b1] at cls
        rw [b2, if_pos m1l] at pre
        exact goA D0 a1 cls a2 a3 a4 (fun hh => absurd (b1.symm.trans hh) (by decide)) pre
      · rw [if_neg (by rw [b1]; decide)] at cls
        rw [b2, if_neg (nn b3)] at pre
        by_cases hcmp : D1 < D0
        · have hh : 0 < lg_cmp (cJ σ 12 3) (cJ σ 19 3) := (lg_cmp_gt _ _).mpr ((x64_lt b3 a3).mpr (by omega))
          rw [if_pos hh] at cls
          exact goB D1 b1 cls b2 b3 b4 (fun _ => by rw [a3]; omega) (pre.trans (if_pos hh))
        · have hh : ¬ 0 < lg_cmp (cJ σ 12 3) (cJ σ 19 3) := fun z => by have := (x64_lt b3 a3).mp ((lg_cmp_gt _ _).mp z); omega
          rw [if_neg hh] at cls
          exact goA D0 a1 cls a2 a3 a4 (fun _ => by rw [b3]; omega) (pre.trans (if_neg hh))
theorem tick_sim {c : Nat} {σ : CS} {ρ : RS} (h : RL c σ ρ) (hc : c < 512) (v1 : Int32) {code : Nat → Option Int32} (hc2 : code 2 = some 1) : An c code σ ρ (m_P_tick v1 σ) (m_tick v1 ρ) := by
  have hr := h.room hc
  obtain ⟨own, τ, g0, g1, T, K, h⟩ := h
  have h0 := (h.sz (SZ.si ρ 0)).up
  have l3 : τ ≤ 1000000 * c := h.2.2.2.2.1.2.2.1
  have hz1 : m_fail 1 (si ρ 0 0 0) = some (0, si ρ 0 0 1) := mfail ρ 1
  have b17 : b_tick_17 (si ρ 0 0 0) = some (0, si ρ 0 0 1) := by unfold b_tick_17; rw [hz1, bc2_e]; rfl
  have d11 : b_P_tick_11 σ = some (.inl 2, wa σ 0 0 6) := by unfold b_P_tick_11; rw [gd_t hr]
  have pre : ∀ x, x = m_tick v1 ρ → x = (if v1 < (1 : Int32) then (some ((0 : Int64), si ρ 0 0 1)) else (if v1 ≤ (1000000 : Int32) then (lq3 F_tick_35 fuel ((si ρ 0 0 0).2 0 3 + v1.toInt64) (1 : Int32) (si ρ 0 0 0)) else (some (0, si ρ 0 0 1)))) := fun x hx => by
    rw [hx]; unfold m_tick; rw [bd_e, bd_e, bd_e, b17]
  have pre := pre _ rfl
  have cls : ∀ x, x = m_P_tick v1 σ → x = (if v1 < (1 : Int32) then (some (Sum.inl 2, wa σ 0 0 6)) else (if v1 ≤ (1000000 : Int32) then (lq3 F_P_tick_35 fuel (cJ σ 3 0 + v1.toInt64) (0 : Int32) σ) else (some (Sum.inl 2, wa σ 0 0 6)))) := fun x hx => by
    rw [hx]; unfold m_P_tick; rw [bd_e, bd_e, d11]
  have cls := cls _ rfl
  by_cases b1 : v1 < 1
  · rw [if_pos b1] at cls pre
    exact An.no cls pre hc2 (by decide)
  · rw [if_neg b1] at cls pre
    by_cases b7 : v1 ≤ 1000000
    · rw [if_pos b7] at cls pre
      have t1 : ¬ v1.toInt < 1 := fun hh => b1 (x32_lt' rfl (by decide : (1 : Int32).toInt = 1) hh)
      have t7 : v1.toInt ≤ 1000000 := Int32.le_iff_toInt_le.mp b7
      obtain ⟨k, hk⟩ : ∃ k : Nat, v1.toInt = (k : Int) := ⟨v1.toInt.toNat, by omega⟩
      have l1 := h0.2.2.2.2.1.1
      have l2 := h0.2.2.2.2.1.2.1
      have hV : (cJ σ 3 0 + v1.toInt64).toInt = ((τ + k : Nat) : Int) := by rw [x64_add l2 (x64_of32 hk) (by omega) (by omega)]; omega
      obtain ⟨st, u, n, m, U, rn, tr, E⟩ := h0.2.1
      obtain ⟨st1, u1, n1, m1, U1, rn1, tr1, E1⟩ := h0.2.2.1
      have mtr9 : ∀ rn tr, mtr rn tr ≤ 9 := fun rn tr => by unfold mtr; split <;> omega
      have := mtr9 rn tr
      have := mtr9 rn1 tr1
      obtain ⟨σ', ρ', x1, x2, x3, x4⟩ := tick_loop (c := c + 1) (by omega) hV (by omega) 18 0 fuel fuel 0 σ (si ρ 0 0 0) own τ st u n m U tr st1 u1 n1 m1 U1 tr1 rn rn1 h0 E E1 (by omega) (by omega) z32_0 (by omega) (by unfold fuel; omega) (by unfold fuel; omega)
      refine Or.inl ⟨cJ σ 3 0 + v1.toInt64, σ', ρ', by rw [cls, x1], by rw [pre, ← l1, x2], by rw [x3, si_eq], x4⟩
    · rw [if_neg b7] at cls pre
      exact An.no cls pre hc2 (by decide)
