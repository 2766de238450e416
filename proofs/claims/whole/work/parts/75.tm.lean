/-! stopping, shutting, the timer -/
theorem G1.set {q e : Nat} {σ σ' : CS} {ρ ρ' : RS} {st st' : Nat} {en : Int32} (h : G1 q e σ ρ st) (c8 : cI σ' q 8 = Int32.ofNat st') (c9 : cI σ' q 9 = en) (co : ∀ j, j ≠ 8 → j ≠ 9 → cI σ' q j = cI σ q j) (r9 : ρ'.1 9 e = Int32.ofNat st') (r30 : ρ'.1 30 e = en) (ro : ∀ r, r = 8 ∨ r = 28 ∨ r = 29 → ρ'.1 r e = ρ.1 r e) (h4 : ρ'.1 0 4 = ρ.1 0 4) (hs : st' ≤ 10) (hen : en = 0 ∨ st' = 0 ∧ (en = 1 ∨ en = 2)) (hz : ρ.1 0 4 = 0 → st' = 0) : G1 q e σ' ρ' st' := by
  unfold G1 at h ⊢
  rw [c8, c9, co 0 (by omega) (by omega), co 7 (by omega) (by omega), co 10 (by omega) (by omega), co 11 (by omega) (by omega), co 12 (by omega) (by omega), co 13 (by omega) (by omega), r9, r30, ro 8 (by omega), ro 28 (by omega), ro 29 (by omega), h4]
  obtain ⟨a1, a2, a3, a4, a5, a6, a7, a8, a9, a10, a11⟩ := h
  refine ⟨a1, a2, a3, rfl, rfl, hs, rfl, hen, a9, a10, ?_⟩
  rcases a11 with h | h
  · exact Or.inl ⟨h.1, h.2.1, hz h.1⟩
  · exact Or.inr h
theorem G4.stop {q e : Nat} {σ : CS} {ρ : RS} {τ : Nat} {rn : Int32} {tr : Nat} (h : G4 q e σ ρ τ rn tr) : G4 q e (wi σ (q + 5) 2 0) (sl ρ 33 e (-1)) τ 0 tr := by
  have c0 : ∀ j, j ≠ 2 → cI (wi σ (q + 5) 2 0) (q + 5) j = cI σ (q + 5) j := fun j hj => by rw [wi_I, if_neg (by omega)]
  unfold G4 at h ⊢
  rw [c0 0 (by omega), c0 1 (by omega), c0 6 (by omega), c0 7 (by omega), sl_1, sl_2, if_pos ⟨rfl, rfl⟩, sl_2, if_neg (by omega), wi_J]
  obtain ⟨a1, a2, a3, a4, a5, a6, a7, a8, a9⟩ := h
  exact ⟨a1, a2, by rw [wi_I, if_pos ⟨rfl, rfl⟩], Or.inl ⟨rfl, rfl⟩, a5, a6, a7, a8, a9⟩
section TM
variable {own : Nat → Nat} {P C : List (Nat × Nat)} {S : List Nat} {c1 c2 K q e : Nat} {σ : CS} {ρ : RS} {τ st u nr n m g U : Nat} {rn : Int32} {tr : Nat}
/-- writes at one part of an end: the groups that it leaves -/
theorem EGx.at5 (hqe : q = 7 ∧ e = 0 ∨ q = 14 ∧ e = 1) (O : Ow own σ) (E : EGx own q e σ ρ τ st u nr n m g U rn tr) {σ' : CS} {ρ' : RS} {rn' : Int32} {tr' : Nat} (F : fr (fun x => x ≠ q + 5) σ σ') (hr : ∀ r, 7 ≤ r → ¬ (23 ≤ r ∧ r ≤ 27) → r ≠ 35 → ρ'.1 r = ρ.1 r) (h4 : ρ'.1 0 4 = ρ.1 0 4) (g4 : G4 q e σ' ρ' τ rn' tr') : EGx own q e σ' ρ' τ st u nr n m g U rn' tr' := by
  have hoq := own_q hqe O
  obtain ⟨g1, g2, g3, _, g5⟩ := E
  refine ⟨g1.cg (F q (by omega)).1 (fun r h => by rw [hr r (by omega) (by omega) (by omega)]) h4, g2.cg (F.sub fun x hx e => ?_) (fun _ h => h) (fun r h => by rw [hr r (by omega) (by omega) (by omega)]) (fun i _ => by rw [hr 38 (by omega) (by omega) (by omega)]), g3.cg (F.sub fun x hx e => ?_) (fun _ h => h) (fun r h => by rw [hr r (by omega) (by omega) (by omega)]) (fun i _ => by rw [hr 39 (by omega) (by omega) (by omega)]) (fun i _ => by rw [hr 40 (by omega) (by omega) (by omega)]), g4, g5.cg (F (q + 6) (by omega)).1 (fun r h => by rw [hr r (by omega) (by omega) (by omega)])⟩
  · rcases hx with hx | hx
    · omega
    · rw [e] at hx; omega
  · rcases hx with hx | hx
    · omega
    · rw [e] at hx; omega
theorem EGx.at1 (hqe : q = 7 ∧ e = 0 ∨ q = 14 ∧ e = 1) (O : Ow own σ) (E : EGx own q e σ ρ τ st u nr n m g U rn tr) {σ' : CS} {ρ' : RS} {u' nr' n' m' g' : Nat} (F : fr (fun x => x ≠ q + 1) σ σ') (hr : ∀ r, 7 ≤ r → ¬ (10 ≤ r ∧ r ≤ 16) → r ≠ 32 → r ≠ 36 → ρ'.1 r = ρ.1 r) (hl : ρ'.2 = ρ.2) (h4 : ρ'.1 0 4 = ρ.1 0 4) (g2 : G2x own q e σ' ρ' u' nr' n' m' g') : EGx own q e σ' ρ' τ st u' nr' n' m' g' U rn tr := by
  have hoq := own_q hqe O
  obtain ⟨g1, _, g3, g4, g5⟩ := E
  refine ⟨g1.cg (F q (by omega)).1 (fun r h => by rw [hr r (by omega) (by omega) (by omega) (by omega)]) h4, g2, g3.cg (F.sub fun x hx e => ?_) (fun _ h => h) (fun r h => by rw [hr r (by omega) (by omega) (by omega) (by omega)]) (fun i _ => by rw [hr 39 (by omega) (by omega) (by omega) (by omega)]) (fun i _ => by rw [hr 40 (by omega) (by omega) (by omega) (by omega)]), g4.cg (F (q + 5) (by omega)).1 (F (q + 5) (by omega)).2.1 (fun r h => by rw [hr r (by omega) (by omega) (by omega) (by omega)]) (fun r h => by rw [hl]), g5.cg (F (q + 6) (by omega)).1 (fun r h => by rw [hr r (by omega) (by omega) (by omega) (by omega)])⟩
  rcases hx with hx | hx
  · omega
  · rw [e] at hx; omega
theorem EGx.at6 (hqe : q = 7 ∧ e = 0 ∨ q = 14 ∧ e = 1) (O : Ow own σ) (E : EGx own q e σ ρ τ st u nr n m g U rn tr) {σ' : CS} {ρ' : RS} (F : fr (fun x => x ≠ q + 6) σ σ') (hr : ∀ r, 7 ≤ r → r ≠ 17 → ¬ (20 ≤ r ∧ r ≤ 22) → ρ'.1 r = ρ.1 r) (hl : ρ'.2 = ρ.2) (h4 : ρ'.1 0 4 = ρ.1 0 4) (g5 : G5 q e σ' ρ' st) : EGx own q e σ' ρ' τ st u nr n m g U rn tr := by
  have hoq := own_q hqe O
  obtain ⟨g1, g2, g3, g4, _⟩ := E
  refine ⟨g1.cg (F q (by omega)).1 (fun r h => by rw [hr r (by omega) (by omega) (by omega)]) h4, g2.cg (F.sub fun x hx e => ?_) (fun _ h => h) (fun r h => by rw [hr r (by omega) (by omega) (by omega)]) (fun i _ => by rw [hr 38 (by omega) (by omega) (by omega)]), g3.cg (F.sub fun x hx e => ?_) (fun _ h => h) (fun r h => by rw [hr r (by omega) (by omega) (by omega)]) (fun i _ => by rw [hr 39 (by omega) (by omega) (by omega)]) (fun i _ => by rw [hr 40 (by omega) (by omega) (by omega)]), g4.cg (F (q + 5) (by omega)).1 (F (q + 5) (by omega)).2.1 (fun r h => by rw [hr r (by omega) (by omega) (by omega)]) (fun r h => by rw [hl]), g5⟩
  · rcases hx with hx | hx
    · omega
    · rw [e] at hx; omega
  · rcases hx with hx | hx
    · omega
    · rw [e] at hx; omega
theorem EGx.at0 (hqe : q = 7 ∧ e = 0 ∨ q = 14 ∧ e = 1) (O : Ow own σ) (E : EGx own q e σ ρ τ st u nr n m g U rn tr) {σ' : CS} {ρ' : RS} {st' : Nat} (F : fr (fun x => x ≠ q) σ σ') (hr : ∀ r, 7 ≤ r → r ≠ 8 → r ≠ 9 → ¬ (28 ≤ r ∧ r ≤ 30) → ρ'.1 r = ρ.1 r) (hl : ρ'.2 = ρ.2) (g1 : G1 q e σ' ρ' st') (hst : 3 ≤ st' → 3 ≤ st) (h04 : ρ'.1 0 4 = ρ.1 0 4 := by first | rfl | assumption) : EGx own q e σ' ρ' τ st' u nr n m g U rn tr := by
  have hoq := own_q hqe O
  obtain ⟨_, g2, g3, g4, g5⟩ := E
  refine ⟨g1, g2.cg (F.sub fun x hx e => ?_) (fun _ h => h) (fun r h => by rw [hr r (by omega) (by omega) (by omega) (by omega)]) (fun i _ => by rw [hr 38 (by omega) (by omega) (by omega) (by omega)]), g3.cg (F.sub fun x hx e => ?_) (fun _ h => h) (fun r h => by rw [hr r (by omega) (by omega) (by omega) (by omega)]) (fun i _ => by rw [hr 39 (by omega) (by omega) (by omega) (by omega)]) (fun i _ => by rw [hr 40 (by omega) (by omega) (by omega) (by omega)]), g4.cg (F (q + 5) (by omega)).1 (F (q + 5) (by omega)).2.1 (fun r h => by rw [hr r (by omega) (by omega) (by omega) (by omega)]) (fun r h => by rw [hl]), ?_⟩
  · rcases hx with hx | hx
    · omega
    · rw [e] at hx; omega
  · rcases hx with hx | hx
    · omega
    · rw [e] at hx; omega
  · have g5' : G5 q e σ' ρ' st := g5.cg (F (q + 6) (by omega)).1 (fun r h => by rw [hr r (by omega) (by omega) (by omega) (by omega)])
    exact ⟨g5'.1, g5'.2.1, g5'.2.2.1, g5'.2.2.2.1, fun h => g5'.2.2.2.2 (hst h)⟩
theorem XQ.up4 {σ' : CS} {ρ' : RS} {n' m' : Nat} {rn' : Int32} (h : XQ q e σ ρ st u n m g U rn) (h4 : 4 ≤ st) (c : cI σ' (q + 1) 8 = cI σ (q + 1) 8) (f : cI σ' (q + 3) 3 = cI σ (q + 3) 3) (k : ρ'.1 40 = ρ.1 40) : XQ q e σ' ρ' st u n' m' g U rn' := by
  unfold XQ XX at h ⊢
  rw [c, f, k]
  obtain ⟨a1, a2, a3, a4, a5, a6, a7, a8, a9⟩ := h
  exact ⟨fun _ => by omega, fun _ => by omega, fun _ => by omega, a4, a5, a6, fun _ => by omega, a8, a9⟩
theorem XQ.cg {σ' : CS} {ρ' : RS} (h : XQ q e σ ρ st u n m g U rn) (c : cI σ' (q + 1) 8 = cI σ (q + 1) 8) (f : cI σ' (q + 3) 3 = cI σ (q + 3) 3) (k : ρ'.1 40 = ρ.1 40) : XQ q e σ' ρ' st u n m g U rn := by
  unfold XQ at h ⊢
  rw [c, f, k]; exact h
theorem stop_sim (hqe : q = 7 ∧ e = 0 ∨ q = 14 ∧ e = 1) (N : NB own P C S c1 c2 K σ ρ) (E : EGx own q e σ ρ τ st u nr n m g U rn tr) : EGx own q e (wi σ (q + 5) 2 0) (sl ρ 33 e (-1)) τ st u nr n m g U 0 tr ∧ EP K C own own e σ (wi σ (q + 5) 2 0) ρ (sl ρ 33 e (-1)) ∧ NB own P C S c1 c2 K (wi σ (q + 5) 2 0) (sl ρ 33 e (-1)) := by
  have hoq := own_q hqe N.2.2.1
  have F : fr (fun x => x ≠ q + 5) σ (wi σ (q + 5) 2 0) := fr_wi σ (q + 5) 2 0
  obtain ⟨z1, z2⟩ := EP.wr N (fr_end F hoq.2.2.2.1) (by omega) rfl (RF.sl ρ (-1)) (fun _ _ _ => rfl) rfl rfl
  exact ⟨E.at5 hqe N.2.2.1 F (fun _ _ _ _ => rfl) rfl E.2.2.2.1.stop, z1, z2⟩
theorem wi_wi (σ : CS) (q j : Nat) (x y : Int32) : wi (wi σ q j x) q j y = wi σ q j y := by
  refine Prod.ext (funext fun a => funext fun i => ?_) rfl
  show (if a = q ∧ i = j then y else if a = q ∧ i = j then x else cI σ a i) = if a = q ∧ i = j then y else cI σ a i
  split <;> rfl
theorem shut_sim (hqe : q = 7 ∧ e = 0 ∨ q = 14 ∧ e = 1) (N : NB own P C S c1 c2 K σ ρ) (E : EGx own q e σ ρ τ st u nr n m g U rn tr) {v1 how : Int32} (hv : v1.toInt = (e : Int)) (hst : st ≠ 0) (hh : how = 0 ∨ how = 1 ∨ how = 2) :
    ∃ σ' ρ', m_E_shut q how σ = some σ' ∧ (how = 0 → m_finished v1 ρ = some ρ') ∧ (how ≠ 0 → m_broken v1 how ρ = some ρ') ∧ EGx own q e σ' ρ' τ 0 u nr n m g U 0 tr ∧ XQ q e σ' ρ' 0 u n m g U 0 ∧ EP K C own own e σ σ' ρ ρ' := by
  have hq : q = 7 ∨ q = 14 := by omega
  have he : e < 2 := by omega
  have hi := x32_in hv he
  have hcl := x32_n hv
  have hen : cI σ q 9 = 0 := by
    rcases E.1.2.2.2.2.2.2.2.1 with h | h
    · exact h
    · exact absurd h.1 hst
  have hfa : ρ.1 30 e = 0 := by rw [E.1.2.2.2.2.2.2.1, hen]
  obtain ⟨E1, P1, N1⟩ := stop_sim hqe N E
  obtain ⟨σ1, hσ1⟩ : ∃ x, x = wi σ (q + 5) 2 0 := ⟨_, rfl⟩
  obtain ⟨ρ1, hρ1⟩ : ∃ x, x = sl ρ 33 e (-1) := ⟨_, rfl⟩
  rw [← hσ1, ← hρ1] at E1 P1 N1
  obtain ⟨σ2, hσ2⟩ : ∃ x, x = wi (wi σ1 q 8 0) q 9 how := ⟨_, rfl⟩
  obtain ⟨ρ2, hρ2⟩ : ∃ x, x = si (si ρ1 9 e 0) 30 e how := ⟨_, rfl⟩
  have hoq := own_q hqe N1.2.2.1
  have F : fr (fun x => x ≠ q) σ1 σ2 := by rw [hσ2]; exact fr.tr (fr_wi σ1 q 8 0) (fr_wi _ q 9 how) (fun _ h => h)
  have R : RF e ρ1 ρ2 := by rw [hρ2]; exact (RF.si ρ1 0 (by omega) (by omega)).tr (RF.si _ how (by omega) (by omega))
  have r2 : ∀ r j, r ≠ 9 → r ≠ 30 → ρ2.1 r j = ρ1.1 r j := fun r j a b => by rw [hρ2, si_1, if_neg (by omega), si_1, if_neg (by omega)]
  obtain ⟨P2, N2⟩ := EP.wr N1 (fr_end F hoq.1) he (by rw [hσ2]; rfl) R (fun r _ _ => funext fun j => r2 r j (by omega) (by omega)) (r2 0 5 (by omega) (by omega)) (r2 0 10 (by omega) (by omega))
  have c2 : ∀ x j, (x ≠ q ∨ j ≠ 8 ∧ j ≠ 9) → cI σ2 x j = cI σ1 x j := fun x j h => by rw [hσ2, wi_I, if_neg (by omega), wi_I, if_neg (by omega)]
  refine ⟨σ2, ρ2, ?_, ?_, ?_, ?_, ?_, P1.tr P2⟩
  · unfold m_E_shut
    rw [gd_t hq, bd_e, bd_e, gd_t z01_0, bd_e, hσ2, hσ1]
    congr 1
    refine Prod.ext (funext fun a => funext fun i => ?_) rfl
    show (if a = q + 5 ∧ i = 2 then (0 : Int32) else if a = q ∧ i = 9 then how else if a = q ∧ i = 8 then 0 else cI σ a i) = if a = q ∧ i = 9 then how else if a = q ∧ i = 8 then 0 else if a = q + 5 ∧ i = 2 then 0 else cI σ a i
    by_cases h1 : a = q + 5 ∧ i = 2
    · rw [if_pos h1, if_neg (by omega), if_neg (by omega), if_pos h1]
    · rw [if_neg h1, if_neg h1]
  · intro h0
    unfold m_finished
    simp only [gd_t hi, bd_e]
    rw [hcl, hρ2, hρ1, h0]
    congr 1
    refine Prod.ext (funext fun a => funext fun i => ?_) rfl
    show (if a = 9 ∧ i = e then (0 : Int32) else ρ.1 a i) = if a = 30 ∧ i = e then 0 else if a = 9 ∧ i = e then 0 else ρ.1 a i
    by_cases h1 : a = 30 ∧ i = e
    · rw [if_pos h1, if_neg (by omega), h1.1, h1.2, hfa]
    · rw [if_neg h1]
  · intro h0
    unfold m_broken m_finished b_broken_21
    simp only [gd_t hi, bd_e, bc_e]
    rw [hcl, show (sl (si ρ 9 e 0) 33 e (-1)).1 30 e = 0 by rw [sl_1, si_1, if_neg (by omega)]; exact hfa, if_pos rfl, hρ2, hρ1]
    rfl
  · refine E1.at0 hqe N1.2.2.1 F (fun r a b c d => funext fun j => r2 r j (by omega) (by omega)) (by rw [hρ2]; rfl) (E1.1.set (en := how) ?_ ?_ (fun j a b => c2 q j (by omega)) ?_ ?_ (fun r h => r2 r e (by omega) (by omega)) (r2 0 4 (by omega) (by omega)) (by omega) ?_ (fun _ => rfl)) (by omega) (r2 0 4 (by omega) (by omega))
    · rw [hσ2, wi_I, if_neg (by omega), wi_I, if_pos ⟨rfl, rfl⟩]; rfl
    · rw [hσ2, wi_I, if_pos ⟨rfl, rfl⟩]
    · rw [hρ2, si_1, if_neg (by omega), si_1, if_pos ⟨rfl, rfl⟩]; rfl
    · rw [hρ2, si_1, if_pos ⟨rfl, rfl⟩]
    · rcases hh with h | h | h
      · exact Or.inl h
      · exact Or.inr ⟨rfl, Or.inl h⟩
      · exact Or.inr ⟨rfl, Or.inr h⟩
  · unfold XQ XX
    exact ⟨fun _ => rfl, fun h => by omega, fun h => by omega, fun h => by omega, fun h => by omega, fun h => by omega, fun h => by omega, fun _ => by omega, fun _ => by omega⟩
end TM
