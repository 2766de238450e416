/-! OUTPUT, both sides -/
def CT (σ : CS) (ρ : RS) (τ : Nat) : Prop := (∀ i, isB (ρ.1 38 i)) ∧ ρ.1 0 4 ≠ 0 ∧ cJ σ 3 0 = ρ.2 0 3 ∧ (cJ σ 3 0).toInt = (τ : Int) ∧ τ ≤ 600000000
theorem CT.ep {K : Nat} {C : List (Nat × Nat)} {own own' : Nat → Nat} {e : Nat} {σ σ' : CS} {ρ ρ' : RS} {τ : Nat} (h : CT σ ρ τ) (E : EP K C own own' e σ σ' ρ ρ') (h3 : own 3 = 14) (he : e < 2) : CT σ' ρ' τ := by
  obtain ⟨a1, a2, a3, a4, a5⟩ := h
  obtain ⟨_, _, F, R, _, _⟩ := E
  have f3 := (F 3 ⟨by omega, by omega⟩).2.1
  refine ⟨fun i => by rw [R.1 38 (by omega)]; exact a1 i, by rw [R.2.2.2 4 (by omega) (by omega)]; exact a2, by rw [f3, R.2.2.1 0 3 (by omega)]; exact a3, by rw [f3]; exact a4, a5⟩
def OT (q e : Nat) (σ σ' : CS) (ρ ρ' : RS) : Prop := (∀ j, j ≠ 10 → cI σ' q j = cI σ q j) ∧ (∀ j, j ≠ 2 → cI σ' (q + 3) j = cI σ (q + 3) j) ∧ cI σ' (q + 6) = cI σ (q + 6) ∧ (∀ j, j ≠ 5 → j ≠ 6 → cI σ' (q + 1) j = cI σ (q + 1) j) ∧ (∀ j, j ≠ 2 → j ≠ 6 → j ≠ 7 → cI σ' (q + 5) j = cI σ (q + 5) j) ∧ (∀ r, 7 ≤ r → r ≠ 12 → r ≠ 13 → r ≠ 19 → r ≠ 27 → r ≠ 28 → r ≠ 35 → ρ'.1 r = ρ.1 r)
theorem OT.rf (q e : Nat) (σ : CS) (ρ : RS) : OT q e σ σ ρ ρ := ⟨fun _ _ => rfl, fun _ _ => rfl, rfl, fun _ _ _ => rfl, fun _ _ _ _ => rfl, fun _ _ _ _ _ _ _ _ => rfl⟩
theorem OT.tr {q e : Nat} {a b c : CS} {x y z : RS} (h : OT q e a b x y) (h' : OT q e b c y z) : OT q e a c x z :=
  ⟨fun j hj => by rw [h'.1 j hj, h.1 j hj], fun j hj => by rw [h'.2.1 j hj, h.2.1 j hj], by rw [h'.2.2.1, h.2.2.1], fun j a b => by rw [h'.2.2.2.1 j a b, h.2.2.2.1 j a b], fun j a b c => by rw [h'.2.2.2.2.1 j a b c, h.2.2.2.2.1 j a b c], fun r a b c d e f g => by rw [h'.2.2.2.2.2 r a b c d e f g, h.2.2.2.2.2 r a b c d e f g]⟩
theorem zstart {σ : CS} {q : Nat} (hq : q = 7 ∨ q = 14) (t : Int64) (w : Int32) : m_Z_startTimer (q + 5) t w σ = some (wl (wi σ (q + 5) 2 1) (q + 5) 3 (t + w.toInt64)) := by
  unfold m_Z_startTimer
  rw [gd_t (by omega), gd_t z01_1, bd_e, bd_e]
theorem G4.start {q e : Nat} {σ : CS} {ρ : RS} {τ : Nat} {rn : Int32} {tr : Nat} (h : G4 q e σ ρ τ rn tr) {t : Int64} {w : Int32} {r : Nat} (hw : w = Int32.ofNat r) (hr : r ≤ 60000) (ht : t.toInt = (τ : Int)) (hτ : τ ≤ 600000000) : G4 q e (wl (wi σ (q + 5) 2 1) (q + 5) 3 (t + w.toInt64)) (sl ρ 33 e (t + w.toInt64)) τ 1 tr := by
  have c0 : ∀ j, j ≠ 2 → cI (wl (wi σ (q + 5) 2 1) (q + 5) 3 (t + w.toInt64)) (q + 5) j = cI σ (q + 5) j := fun j hj => by rw [wl_I, wi_I, if_neg (by omega)]
  have cJ0 : ∀ j, j ≠ 3 → cJ (wl (wi σ (q + 5) 2 1) (q + 5) 3 (t + w.toInt64)) (q + 5) j = cJ σ (q + 5) j := fun j hj => by rw [wl_J, if_neg (by omega)]; rfl
  have cJ3 : cJ (wl (wi σ (q + 5) 2 1) (q + 5) 3 (t + w.toInt64)) (q + 5) 3 = t + w.toInt64 := by rw [wl_J, if_pos ⟨rfl, rfl⟩]
  unfold G4 at h ⊢
  rw [c0 0 (by omega), c0 1 (by omega), cJ3, cJ0 4 (by omega), cJ0 5 (by omega), c0 6 (by omega), c0 7 (by omega), cJ0 8 (by omega), sl_1, sl_2, if_pos ⟨rfl, rfl⟩, sl_2, if_neg (by omega)]
  obtain ⟨a1, a2, a3, a4, a5, a6, a7, a8, a9⟩ := h
  refine ⟨a1, a2, ?_, Or.inr ⟨rfl, rfl, τ + r, ?_, by omega, by omega⟩, a5, a6, a7, a8, a9⟩
  · rw [wl_I, wi_I, if_pos ⟨rfl, rfl⟩]
  · rw [x64_add ht (x64_of32 (show w.toInt = (r : Int) by rw [hw]; exact x32_nat (by omega))) (by omega) (by omega)]; omega
/-- a timer is started: what stays -/
theorem start_sim {own : Nat → Nat} {P C : List (Nat × Nat)} {S : List Nat} {c1 c2 K q e : Nat} {σ : CS} {ρ : RS} {τ st u n m g U : Nat} {rn : Int32} {tr : Nat} (hqe : q = 7 ∧ e = 0 ∨ q = 14 ∧ e = 1) (N : NB own P C S c1 c2 K σ ρ) (E : EG own q e σ ρ τ st u n m g U rn tr) {t : Int64} {w : Int32} {r : Nat} (hw : w = Int32.ofNat r) (hr : r ≤ 60000) (ht : t.toInt = (τ : Int)) (hτ : τ ≤ 600000000) :
    EG own q e (wl (wi σ (q + 5) 2 1) (q + 5) 3 (t + w.toInt64)) (sl ρ 33 e (t + w.toInt64)) τ st u n m g U 1 tr ∧ EP K C own own e σ (wl (wi σ (q + 5) 2 1) (q + 5) 3 (t + w.toInt64)) ρ (sl ρ 33 e (t + w.toInt64)) ∧ OT q e σ (wl (wi σ (q + 5) 2 1) (q + 5) 3 (t + w.toInt64)) ρ (sl ρ 33 e (t + w.toInt64)) := by
  have hoq := own_q hqe N.2.2.1
  have F : fr (fun x => x ≠ q + 5) σ (wl (wi σ (q + 5) 2 1) (q + 5) 3 (t + w.toInt64)) := fr.tr (fr_wi σ (q + 5) 2 1) (fr_wl _ (q + 5) 3 _) (fun _ h => h)
  obtain ⟨g1, g2, g3, g4, g5⟩ := E
  refine ⟨⟨g1.cg (F q (by omega)).1 (fun _ _ => rfl) rfl, g2.cg (F.sub fun x hx e => ?_) (fun _ h => h) (fun _ _ => rfl) (fun _ _ => rfl), g3.cg (F.sub fun x hx e => ?_) (fun _ h => h) (fun _ _ => rfl) (fun _ _ => rfl) (fun _ _ => rfl), g4.start hw hr ht hτ, g5.cg (F (q + 6) (by omega)).1 (fun _ _ => rfl)⟩, (EP.wr N (fr_end F hoq.2.2.2.1) (by omega) rfl (RF.sl ρ _) (fun _ _ _ => rfl) rfl rfl).1, fun j _ => by rw [(F q (by omega)).1], fun j _ => by rw [(F (q + 3) (by omega)).1], (F (q + 6) (by omega)).1, fun j _ _ => by rw [(F (q + 1) (by omega)).1], fun j h _ _ => by rw [wl_I, wi_I, if_neg (by omega)], fun _ _ _ _ _ _ _ _ => rfl⟩
  · rcases hx with hx | hx
    · omega
    · rw [e] at hx; omega
  · rcases hx with hx | hx
    · omega
    · rw [e] at hx; omega
theorem m1_64 : (-1 : Int64).toInt = -1 := by decide
theorem z64_0 : (0 : Int64).toInt = 0 := by decide
/-- the end of OUTPUT -/
theorem out_end {own : Nat → Nat} {P C : List (Nat × Nat)} {S : List Nat} {c1 c2 K q e : Nat} {σ : CS} {ρ : RS} {τ st u n m g U : Nat} {rn : Int32} {tr : Nat} (hqe : q = 7 ∧ e = 0 ∨ q = 14 ∧ e = 1) (N : NB own P C S c1 c2 K σ ρ) (E : EG own q e σ ρ τ st u n m g U rn tr) (T : CT σ ρ τ) {v1 vb x : Int32} (hv : v1.toInt = (e : Int)) (hx : x = 0 ∧ cI σ q 10 = vb ∨ x = 1 ∧ cI σ q 10 ≠ vb) (rec : Int32 → Int32 → Int32 → RS → Option (Int32 × RS)) :
    ∃ σ' ρ' rn', b_E_output_65 q vb σ = some (x, σ') ∧ F_output_56 rec v1 x 0 ρ = some (x, ρ') ∧ EG own q e σ' ρ' τ st u n m g U rn' tr ∧ EP K C own own e σ σ' ρ ρ' ∧ OT q e σ σ' ρ ρ' ∧ cI σ' q 10 = cI σ q 10 ∧ ρ'.1 28 e = ρ.1 28 e := by
  have hq : q = 7 ∨ q = 14 := by omega
  have he : e < 2 := by omega
  have hi := x32_in hv he
  have hcl := x32_n hv
  obtain ⟨t1, t2, t3, t4, t5⟩ := T
  have hx01 : x = 0 ∨ x = 1 := hx.elim (fun h => Or.inl h.1) (fun h => Or.inr h.1)
  have g2 := E.2.1
  have g4 := E.2.2.2.1
  have h10 := g2.2.2.2.2.2.2.2.2.2.1
  have hnue : (ρ.1 12 e = ρ.1 11 e) ↔ n = u := by
    rw [g2.2.2.1.1, g2.2.1.1, g2.2.1.2]
    exact e32 _ (by omega) (by omega)
  obtain ⟨⟨a1, r, r1, r2, r3⟩, a2, a3, a4, _⟩ := g4
  -- what class's last lines do
  have hend : ∀ τ0, cI τ0 q 10 = cI σ q 10 → b_E_output_116 q vb τ0 = some (x, τ0) := by
    intro τ0 h0
    unfold b_E_output_116 b_E_output_129
    rw [bd_e, h0]
    rcases hx with ⟨hx, hs⟩ | ⟨hx, hs⟩
    · rw [if_pos hs, gd_t z01_0, hx]
    · rw [if_neg hs, gd_t z01_1, hx]
  have hrend : ∀ ρ0, b_output_350 x ρ0 = some (x, ρ0) := fun ρ0 => by unfold b_output_350; rw [gd_t hx01]
  have rF : F_output_56 rec v1 x 0 ρ = if n = u ∧ g + 1 - n = 0 then some (x, ρ) else b_output_321 v1 x ρ := by
    unfold F_output_56
    rw [if_pos rfl]
    simp only [gd_t hi, bd_e]
    rw [hcl, r_left he hv g2, bc2_e]
    by_cases h1 : n = u
    · rw [if_pos (hnue.mpr h1)]
      by_cases h2 : g + 1 - n = 0
      · rw [if_pos (x32_le' (x32_nat (by omega)) z32_0 (by omega)), hrend, if_pos ⟨h1, h2⟩]
      · rw [if_neg (x32_nle (x32_nat (by omega)) z32_0 (by omega)), if_neg (fun h => h2 h.2)]
    · rw [if_neg (fun h => h1 (hnue.mp h)), if_neg (fun h => h1 h.1)]
  have cF : b_E_output_65 q vb σ = if rn = 0 then (if n = u ∧ g + 1 - n = 0 then some (x, σ) else b_E_output_95 q vb σ) else some (x, σ) := by
    unfold b_E_output_65
    rw [bd_e, a3, c_flight hq g2, bc2_e, c_unsent hq g2 t2, bc2_e, hend σ rfl]
    by_cases h0 : rn = 0
    · rw [if_pos h0, if_pos h0]
      by_cases h1 : n = u
      · rw [if_pos (x32_eq' (x32_nat (by omega)) z32_0 (by omega))]
        by_cases h2 : g + 1 - n = 0
        · rw [if_pos (x32_le' (x32_nat (by omega)) z32_0 (by omega)), if_pos ⟨h1, h2⟩]
        · rw [if_neg (x32_nle (x32_nat (by omega)) z32_0 (by omega)), if_neg (fun h => h2 h.2)]
      · rw [if_neg (x32_ne (x32_nat (by omega)) z32_0 (by omega)), if_neg (fun h => h1 h.1)]
    · rw [if_neg h0, if_neg h0]
  rw [cF, rF]
  by_cases hdone : n = u ∧ g + 1 - n = 0
  · rw [if_pos hdone, if_pos hdone]
    exact ⟨σ, ρ, rn, by split <;> rfl, rfl, E, (EP.wr N fr.rf he rfl (RF.rf e ρ) (fun _ _ _ => rfl) rfl rfl).1, OT.rf q e σ ρ, rfl, rfl⟩
  · rw [if_neg hdone, if_neg hdone]
    unfold b_output_321
    simp only [gd_t hi, bd_e]
    rw [hcl]
    rcases a4 with ⟨b1, b2⟩ | ⟨b1, b2, D, b3, b4, b5⟩
    · rw [if_pos b1, b2, if_neg (by rw [lg_cmp_ge, x64_le z64_0 m1_64]; omega), hrend]
      unfold b_E_output_95
      rw [bd_e, bd_e, zstart hq, bc_e, hend _ (by rw [wl_I, wi_I, if_neg (by omega)]), ← t3, a1]
      obtain ⟨s1, s2, s3⟩ := start_sim hqe N E r3 r2 t4 t5
      exact ⟨_, _, 1, rfl, rfl, s1, s2, s3, by rw [wl_I, wi_I, if_neg (by omega)], rfl⟩
    · rw [if_neg (by rw [b1]; decide), b2, if_pos (by rw [lg_cmp_ge, x64_le z64_0 b3]; omega), hrend]
      exact ⟨σ, ρ, rn, rfl, rfl, E, (EP.wr N fr.rf he rfl (RF.rf e ρ) (fun _ _ _ => rfl) rfl rfl).1, OT.rf q e σ ρ, rfl, rfl⟩
