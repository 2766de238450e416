/-! steps 10 to 12, both sides -/
def KF (q : Nat) (σ σ' : CS) (ρ ρ' : RS) : Prop := cI σ' (q + 1) 8 = cI σ (q + 1) 8 ∧ cI σ' (q + 3) 3 = cI σ (q + 3) 3 ∧ ρ'.1 40 = ρ.1 40 ∧ cI σ' (q + 1) 3 = cI σ (q + 1) 3 ∧ (∀ j, j ≠ 10 → cI σ' q j = cI σ q j)
theorem KF.tr {q : Nat} {a b c : CS} {x y z : RS} (h : KF q a b x y) (h' : KF q b c y z) : KF q a c x z := ⟨by rw [h'.1, h.1], by rw [h'.2.1, h.2.1], by rw [h'.2.2.1, h.2.2.1], by rw [h'.2.2.2.1, h.2.2.2.1], fun j hj => by rw [h'.2.2.2.2 j hj, h.2.2.2.2 j hj]⟩
theorem KF.rf {q : Nat} {a : CS} {x : RS} : KF q a a x x := ⟨rfl, rfl, rfl, rfl, fun _ _ => rfl⟩
section PR
variable {own : Nat → Nat} {P C : List (Nat × Nat)} {S : List Nat} {c1 c2 K q e : Nat} {σ : CS} {ρ : RS} {τ st u n m g U : Nat} {rn : Int32} {tr : Nat}
theorem G4.tz {q e : Nat} {σ : CS} {ρ : RS} {τ : Nat} {rn : Int32} {tr : Nat} (h : G4 q e σ ρ τ rn tr) : G4 q e (wi σ (q + 5) 1 0) (si ρ 24 e 0) τ rn 0 := by
  have c0 : ∀ j, j ≠ 1 → cI (wi σ (q + 5) 1 0) (q + 5) j = cI σ (q + 5) j := fun j hj => wi_ne _ _ _ _ (by omega)
  have r0 : ∀ r, r ≠ 24 → (si ρ 24 e 0).1 r e = ρ.1 r e := fun r hr => si_ne _ _ _ _ (by omega)
  unfold G4 at h ⊢
  rw [c0 0 (by omega), wi_eq, c0 2 (by omega), c0 6 (by omega), c0 7 (by omega), wi_J, r0 23 (by omega), si_eq, r0 25 (by omega), r0 26 (by omega), r0 35 (by omega), r0 27 (by omega), si_2]
  obtain ⟨a1, a2, a3, a4, a5, a6, a7, a8, a9⟩ := h
  exact ⟨a1, ⟨rfl, rfl, by omega⟩, a3, a4, a5, a6, a7, a8, a9⟩
theorem r_prog (he : e < 2) {v1 ak ax : Int32} (hv : v1.toInt = (e : Int)) {ρ ρ1 ρ2 : RS} (y2 : m_measured v1 ax ρ = some ρ1) (z2 : m_grown v1 ρ1 = some ρ2) (k47' : ρ2.1 0 47 = ak) {a n : Nat} (hle : (ak - ρ2.1 12 e ≤ 0) ↔ a ≤ n) : (bc (m_measured v1 ax ρ) fun r22 => bc (m_grown v1 r22) fun r23 => bd (r23.1 0 47) fun x24 => gd (inb v1 2) <| bd (si r23 11 v1.toNatClampNeg x24) fun r25 => bd (r25.1 0 47) fun x26 => gd (inb v1 2) <| bd (r25.1 12 v1.toNatClampNeg) fun x27 => bc2 (m_above x26 x27 r25) fun x29 r28 => if x29 = 0 then (b_acknowledged_89 v1 r28) else (bd (r28.1 0 47) fun x30 => gd (inb v1 2) <| bd (si r28 12 v1.toNatClampNeg x30) fun r31 => b_acknowledged_89 v1 r31)) = b_acknowledged_197 v1 (sl (si (si (if a ≤ n then si ρ2 11 e ak else si (si ρ2 11 e ak) 12 e ak) 24 e 0) 22 e 0) 33 e (-1)) := by
  have hi := x32_in hv he
  have hcl := x32_n hv
  subst hcl
  have k47'' : (si ρ2 11 v1.toNatClampNeg ak).1 0 47 = ak := by rw [si_ne _ _ _ _ (by omega)]; exact k47'
  have n12 : (si ρ2 11 v1.toNatClampNeg ak).1 12 v1.toNatClampNeg = ρ2.1 12 v1.toNatClampNeg := by rw [si_ne _ _ _ _ (by omega)]
  have hfin : ∀ ρx, b_acknowledged_89 v1 ρx = b_acknowledged_197 v1 (sl (si (si ρx 24 v1.toNatClampNeg 0) 22 v1.toNatClampNeg 0) 33 v1.toNatClampNeg (-1)) := fun ρx => by
    unfold b_acknowledged_89
    rw [gd_t hi, bd_e, gd_t hi, bd_e, gd_t hi, bd_e]
  rw [y2, bc_e, z2, bc_e, bd_e, gd_t hi, bd_e, bd_e, gd_t hi, bd_e, k47', k47'', n12]
  unfold m_above b_above_11
  by_cases h : a ≤ n
  · rw [if_pos (hle.mpr h), gd_t z01_0, bc2_e, if_pos rfl, hfin, if_pos h]
  · rw [if_neg (fun x => h (hle.mp x)), gd_t z01_1, bc2_e, if_neg (by decide), bd_e, gd_t hi, bd_e, k47'', hfin, if_neg h]
theorem prog_sim (hqe : q = 7 ∧ e = 0 ∨ q = 14 ∧ e = 1) (N : NB own P C S c1 c2 K σ ρ) (E : EG own q e σ ρ τ st u n m g U rn tr) (T : CT σ ρ τ) {v1 ak : Int32} (hv : v1.toInt = (e : Int)) (hst : 3 ≤ st) {a : Nat} (h47 : ρ.1 0 47 = ak) (hak : ak = cI σ (q + 1) 3 + Int32.ofNat a) (ha : u < a) (ham : a ≤ m) :
    ∃ σ' ρ', m_E_heedProgress q ak σ = some σ' ∧ (bc (m_measured v1 (ρ.1 0 47) ρ) fun r22 => bc (m_grown v1 r22) fun r23 => bd (r23.1 0 47) fun x24 => gd (inb v1 2) <| bd (si r23 11 v1.toNatClampNeg x24) fun r25 => bd (r25.1 0 47) fun x26 => gd (inb v1 2) <| bd (r25.1 12 v1.toNatClampNeg) fun x27 => bc2 (m_above x26 x27 r25) fun x29 r28 => if x29 = 0 then (b_acknowledged_89 v1 r28) else (bd (r28.1 0 47) fun x30 => gd (inb v1 2) <| bd (si r28 12 v1.toNatClampNeg x30) fun r31 => b_acknowledged_89 v1 r31)) = b_acknowledged_197 v1 ρ' ∧ EG own q e σ' ρ' τ st a (max n a) m g U 0 0 ∧ EP K C own own e σ σ' ρ ρ' ∧ NB own P C S c1 c2 K σ' ρ' ∧ KF q σ σ' ρ ρ' := by
  have hq : q = 7 ∨ q = 14 := by omega
  have he : e < 2 := by omega
  have hi := x32_in hv he
  have hcl := x32_n hv
  have O := N.2.2.1
  have hoq := own_q hqe O
  have h10 := E.2.1.2.2.2.2.2.2.2.2.2.1
  have o3 : own 3 = 14 := O.2.2 3 (by decide)
  -- measured
  obtain ⟨σ1, ρ1, y1, y2, y3, y4, y5, y6, y7, y8⟩ := measured_sim hqe E.2.2.2.1 T.2.2.1 T.2.2.2.1 T.2.2.2.2 hv ak
  obtain ⟨P1, N1⟩ := EP.wr N (fr_end y4 hoq.2.2.2.1) he (by rw [y5]) y8 (fun r a b => y6 r (by omega) (by omega) (by omega) (by omega)) (by rw [y6 0 (by omega) (by omega) (by omega) (by omega)]) (by rw [y6 0 (by omega) (by omega) (by omega) (by omega)])
  have E1 : EG own q e σ1 ρ1 τ st u n m g U rn tr := E.at5 hqe O y4 (fun r a b c => y6 r (by omega) (by omega) (by omega) c) (by rw [y6 0 (by omega) (by omega) (by omega) (by omega)]) y3
  have k47 : ρ1.1 0 47 = ak := by rw [y6 0 (by omega) (by omega) (by omega) (by omega)]; exact h47
  have u11 : ρ1.1 11 e = cI σ1 (q + 1) 4 := E1.2.1.2.1.1
  have i3 : cI σ1 (q + 1) 3 = cI σ (q + 1) 3 := by rw [(y4 (q + 1) (by omega)).1]
  have u4 : cI σ1 (q + 1) 4 = cI σ (q + 1) 3 + Int32.ofNat u := by rw [E1.2.1.2.1.2, i3]
  have hd : (ρ1.1 0 47 - ρ1.1 11 e).toInt = ((a - u : Nat) : Int) := by rw [k47, u11, u4, hak, d32 _ (by omega) (by omega)]; omega
  -- grown
  obtain ⟨w, z1, z2, z3⟩ := grown_sim (ak := ρ1.1 0 47 - ρ1.1 11 e) hqe E1.2.2.2.2 hst hv hd (by omega) rfl
  obtain ⟨σ2, hσ2⟩ : ∃ x, x = wi σ1 (q + 6) 1 w := ⟨_, rfl⟩
  obtain ⟨ρ2, hρ2⟩ : ∃ x, x = si ρ1 20 e w := ⟨_, rfl⟩
  rw [← hσ2] at z1 z3
  rw [← hρ2] at z2 z3
  have F2 : fr (fun x => x ≠ q + 6) σ1 σ2 := by rw [hσ2]; exact fr_wi _ _ _ _
  have r2 : ∀ r j, r ≠ 20 → ρ2.1 r j = ρ1.1 r j := fun r j x => by rw [hρ2, si_ne _ _ _ _ (by omega)]
  obtain ⟨P2, N2⟩ := EP.wr N1 (fr_end F2 hoq.2.2.2.2) he (by rw [hσ2]; rfl) (by rw [hρ2]; exact RF.si ρ1 w (by omega) (by omega)) (fun r _ _ => funext fun j => r2 r j (by omega)) (r2 0 5 (by omega)) (r2 0 10 (by omega))
  have E2 : EG own q e σ2 ρ2 τ st u n m g U rn tr := E1.at6 hqe N1.2.2.1 F2 (fun r _ b c => funext fun j => r2 r j (by omega)) (by rw [hρ2]; rfl) (r2 0 4 (by omega)) z3
  -- acknowledged
  have i32 : cI σ2 (q + 1) 3 = cI σ (q + 1) 3 := by rw [(F2 (q + 1) (by omega)).1, i3]
  obtain ⟨σ3, x1, x2, x3, x4, x5, x6⟩ := ackn (ak := ak) (a := a) hqe N2.2.2.1 E2.2.1 (by rw [i32]; exact hak) (by omega) (by omega) ham (by rw [r2 0 4 (by omega), y6 0 (by omega) (by omega) (by omega) (by omega)]; exact T.2.1)
  obtain ⟨ρ3, hρ3⟩ : ∃ x, x = (if a ≤ n then si ρ2 11 e ak else si (si ρ2 11 e ak) 12 e ak) := ⟨_, rfl⟩
  rw [← hρ3] at x2
  have r3 : ∀ r j, r ≠ 11 → r ≠ 12 → ρ3.1 r j = ρ2.1 r j := fun r j x y => by
    rw [hρ3]; split
    · rw [si_ne _ _ _ _ (by omega)]
    · rw [si_ne _ _ _ _ (by omega), si_ne _ _ _ _ (by omega)]
  have R3 : RF e ρ2 ρ3 := by
    rw [hρ3]; split
    · exact RF.si ρ2 ak (by omega) (by omega)
    · exact ((RF.rf e ρ2).sis ak (by omega) (by omega)).sis ak (by omega) (by omega)
  have l3 : ρ3.2 = ρ2.2 := by rw [hρ3]; split <;> rfl
  obtain ⟨P3, N3⟩ := EP.wr N2 (fr_end x3 hoq.2.1) he (by rw [x4]) R3 (fun r _ _ => funext fun j => r3 r j (by omega) (by omega)) (r3 0 5 (by omega) (by omega)) (r3 0 10 (by omega) (by omega))
  have E3 : EG own q e σ3 ρ3 τ st a (max n a) m g U rn tr := E2.at1 hqe N2.2.2.1 x3 (fun r _ b _ _ => funext fun j => r3 r j (by omega) (by omega)) l3 (r3 0 4 (by omega) (by omega)) x2
  -- tries, same, runs
  obtain ⟨σ4, hσ4⟩ : ∃ x, x = wi σ3 (q + 5) 1 0 := ⟨_, rfl⟩
  obtain ⟨ρ4, hρ4⟩ : ∃ x, x = si ρ3 24 e 0 := ⟨_, rfl⟩
  have F4 : fr (fun x => x ≠ q + 5) σ3 σ4 := by rw [hσ4]; exact fr_wi _ _ _ _
  have r4 : ∀ r j, r ≠ 24 → ρ4.1 r j = ρ3.1 r j := fun r j x => by rw [hρ4, si_ne _ _ _ _ (by omega)]
  obtain ⟨P4, N4⟩ := EP.wr N3 (fr_end F4 hoq.2.2.2.1) he (by rw [hσ4]; rfl) (by rw [hρ4]; exact RF.si ρ3 0 (by omega) (by omega)) (fun r _ _ => funext fun j => r4 r j (by omega)) (r4 0 5 (by omega)) (r4 0 10 (by omega))
  have E4 : EG own q e σ4 ρ4 τ st a (max n a) m g U rn 0 := E3.at5 hqe N3.2.2.1 F4 (fun r _ b _ => funext fun j => r4 r j (by omega)) (r4 0 4 (by omega)) (by rw [hσ4, hρ4]; exact E3.2.2.2.1.tz)
  obtain ⟨σ5, hσ5⟩ : ∃ x, x = wi σ4 (q + 6) 3 0 := ⟨_, rfl⟩
  obtain ⟨ρ5, hρ5⟩ : ∃ x, x = si ρ4 22 e 0 := ⟨_, rfl⟩
  have F5 : fr (fun x => x ≠ q + 6) σ4 σ5 := by rw [hσ5]; exact fr_wi _ _ _ _
  have r5 : ∀ r j, r ≠ 22 → ρ5.1 r j = ρ4.1 r j := fun r j x => by rw [hρ5, si_ne _ _ _ _ (by omega)]
  obtain ⟨P5, N5⟩ := EP.wr N4 (fr_end F5 hoq.2.2.2.2) he (by rw [hσ5]; rfl) (by rw [hρ5]; exact RF.si ρ4 0 (by omega) (by omega)) (fun r _ _ => funext fun j => r5 r j (by omega)) (r5 0 5 (by omega)) (r5 0 10 (by omega))
  have E5 : EG own q e σ5 ρ5 τ st a (max n a) m g U rn 0 := by
    refine E4.at6 hqe N4.2.2.1 F5 (fun r _ b c => funext fun j => r5 r j (by omega)) (by rw [hρ5]; rfl) (r5 0 4 (by omega)) ?_
    have gg := E4.2.2.2.2
    have cc : ∀ j, j ≠ 3 → cI σ5 (q + 6) j = cI σ4 (q + 6) j := fun j hj => by rw [hσ5, wi_ne _ _ _ _ (by omega)]
    unfold G5
    rw [cc 0 (by omega), cc 1 (by omega), cc 2 (by omega), r5 17 e (by omega), r5 20 e (by omega), r5 21 e (by omega)]
    exact ⟨gg.1, gg.2.1, gg.2.2.1, by rw [hρ5, si_eq, hσ5, wi_eq], gg.2.2.2.2⟩
  obtain ⟨E6, P6, N6⟩ := stop_sim hqe N5 E5
  refine ⟨_, _, ?_, ?_, E6, P1.tr (P2.tr (P3.tr (P4.tr (P5.tr P6)))), N6, ?_⟩
  · unfold m_E_heedProgress
    rw [gd_t hq, bd_e, y1, bc_e, bd_e]
    have e1 : ak - cI σ1 (q + 1) 4 = ρ1.1 0 47 - ρ1.1 11 e := by rw [k47, u11]
    rw [e1, z1, bc_e, x1, bc_e, bd_e, ← hσ4, bd_e, ← hσ5, gd_t z01_0, bd_e]
  · have k47' : ρ2.1 0 47 = ak := by rw [r2 0 47 (by omega)]; exact k47
    have k47'' : (si ρ2 11 e ak).1 0 47 = ak := by rw [si_ne _ _ _ _ (by omega)]; exact k47'
    have n12 : (si ρ2 11 e ak).1 12 e = cI σ (q + 1) 3 + Int32.ofNat n := by rw [si_ne _ _ _ _ (by omega), E2.2.1.2.2.1.1, i32]
    have hdd : (ak - (cI σ (q + 1) 3 + Int32.ofNat n)).toInt = (a : Int) - (n : Int) := by rw [hak]; exact d32 _ (by omega) (by omega)
    rw [h47, r_prog (n := n) (a := a) he hv y2 z2 k47' (by rw [← n12, si_ne _ _ _ _ (by omega)] at hdd; rw [x32_le hdd z32_0]; omega), ← hρ3, ← hρ4, ← hρ5]
  · refine ⟨?_, ?_, ?_, ?_, fun j hj => ?_⟩
    · rw [wi_ne _ _ _ _ (by omega), (F5 (q + 1) (by omega)).1, (F4 (q + 1) (by omega)).1, x5, (F2 (q + 1) (by omega)).1, (y4 (q + 1) (by omega)).1]
    · rw [wi_ne _ _ _ _ (by omega), (F5 (q + 3) (by omega)).1, (F4 (q + 3) (by omega)).1, (x3 (q + 3) (by omega)).1, (F2 (q + 3) (by omega)).1, (y4 (q + 3) (by omega)).1]
    · funext j; rw [sl_1, r5 40 j (by omega), r4 40 j (by omega), r3 40 j (by omega) (by omega), r2 40 j (by omega), y6 40 (by omega) (by omega) (by omega) (by omega)]
    · rw [wi_ne _ _ _ _ (by omega), (F5 (q + 1) (by omega)).1, (F4 (q + 1) (by omega)).1, x6, i32]
    · rw [wi_ne _ _ _ _ (by omega), (F5 q (by omega)).1, (F4 q (by omega)).1, (x3 q (by omega)).1, (F2 q (by omega)).1, (y4 q (by omega)).1]
end PR
