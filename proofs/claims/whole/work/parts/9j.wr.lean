/-! write -/
theorem room_sim {own : Nat → Nat} {q e s w ab T : Nat} {σ : CS} (hqe : q = 7 ∧ e = 0 ∨ q = 14 ∧ e = 1) (O : Ow own σ) (k1 : cI σ (q + 1) 1 = Int32.ofNat s) (k2 : cI σ (q + 1) 2 = Int32.ofNat w) (k3 : cR σ (q + 1) 0 = some ab) (k4 : kd σ ab = 21) (k5 : own ab = 2 + e) (k6 : s + w ≤ cN σ ab) (k7 : 64 ≤ cN σ ab) (k8 : cN σ ab ≤ 20500) (hwT : w + T ≤ 10240) (hX : cX σ + 1 ≤ 601024) (hU : cU σ + 41000 ≤ 7293034) {v : Int32} (hv : v.toInt = (T : Int)) :
    ∃ σ' own' s' ab', m_U_makeRoom (q + 1) v σ = some σ' ∧ cI σ' (q + 1) 1 = Int32.ofNat s' ∧ (∀ j, j ≠ 1 → cI σ' (q + 1) j = cI σ (q + 1) j) ∧ cR σ' (q + 1) 0 = some ab' ∧ kd σ' ab' = 21 ∧ own' ab' = 2 + e ∧ s' + w + T ≤ cN σ' ab' ∧ 64 ≤ cN σ' ab' ∧ cN σ' ab' ≤ 20500 ∧ (∀ i, i < w → cI σ' ab' (s' + i) = cI σ ab (s + i)) ∧ fr (fun x => own x ≠ 99 ∧ x ≠ q + 1 ∧ own x ≠ 2 + e) σ σ' ∧ (∀ x, own x ≠ 99 → own' x = own x) ∧ Ow own' σ' ∧ cU σ' + 2 * cN σ ab ≤ cU σ + 2 * cN σ' ab' ∧ 3 * cX σ' + cU σ ≤ 3 * cX σ + cU σ' ∧ cN σ ab ≤ cN σ' ab' := by
  have hoq := own_q hqe O
  have he : e < 2 := by rcases hqe with h | h <;> omega
  have hq1 : q + 1 = 8 ∨ q + 1 = 15 := by omega
  have ts : (Int32.ofNat s).toInt = (s : Int) := x32_nat (by omega)
  have tw : (Int32.ofNat w).toInt = (w : Int) := x32_nat (by omega)
  have tN : (nI (cN σ ab)).toInt = (cN σ ab : Int) := nI_t (by omega)
  have tsw : (Int32.ofNat s + Int32.ofNat w + v).toInt = ((s + w + T : Nat) : Int) := by rw [x32_add (x32_add ts tw (by omega) (by omega)) hv (by omega) (by omega)]; omega
  have twv : (Int32.ofNat w + v).toInt = ((w + T : Nat) : Int) := by rw [x32_add tw hv (by omega) (by omega)]; omega
  have hqa : q + 1 ≠ ab := fun e => by rw [← e] at k5; omega
  have c0 : (0 : Int32).toNatClampNeg = 0 := by decide
  unfold m_U_makeRoom
  rw [gd_t hq1, bd_e, bd_e, k3, bc_e, gd_t (Or.inl k4), bd_e, k1, k2]
  by_cases h1 : s + w + T ≤ cN σ ab
  · rw [if_neg (x32_nlt tN tsw (by omega))]
    exact ⟨σ, own, s, ab, rfl, k1, fun _ _ => rfl, k3, k4, k5, h1, k7, k8, fun _ _ => rfl, fr.rf, fun _ _ => rfl, O, Nat.le_refl _, Nat.le_refl _, Nat.le_refl _⟩
  · rw [if_pos (x32_lt' tN tsw (by omega)), bc_e, bd_e, bc_e, gd_t (Or.inl k4), bd_e]
    by_cases h2 : w + T ≤ cN σ ab
    · rw [if_pos (x32_le' twv tN (by omega))]
      refine ⟨wi (wcp σ ab ab s 0 w) (q + 1) 1 0, own, 0, ab, ?_, wi_eq _ _ _ _, fun j hj => ?_, k3, k4, k5, by show 0 + w + T ≤ cN σ ab; omega, k7, k8, fun i hi => ?_, ?_, fun _ _ => rfl, ⟨O.1, O.2.1, O.2.2⟩, Nat.le_refl _, Nat.le_refl _, Nat.le_refl _⟩
      · unfold b_U_makeRoom_61
        rw [bd_e, k3, bc_e, bd_e, k1, k2, gd_t ⟨k4, k4, x32_nlt ts z32_0 (by omega), by decide, x32_nlt tw z32_0 (by omega), by rw [x32_n ts, x32_n tw]; omega, by rw [c0, x32_n tw]; omega⟩, bd_e, bd_e, x32_n ts, x32_n tw, c0]
      · rw [wi_ne _ _ _ _ (Or.inr hj), wcp_I, if_neg hqa]
      · rw [wi_ne _ _ _ _ (Or.inl (Ne.symm hqa)), wcp_I, if_pos rfl]
        unfold va_cpy
        rw [if_pos ⟨by omega, by omega⟩, show s + (0 + i - 0) = s + i by omega]
      · exact fr.tr ((fr_wcp σ ab ab s 0 w).sub fun x hx e => by rw [e] at hx; exact hx.2.2 k5) (fr_wi _ _ _ _) (fun x hx => hx.2.1)
    · rw [if_neg (x32_nle twv tN (by omega)), bd_e, bc_e, gd_t (Or.inl k4), bd_e]
      have t2N : ((2 : Int32) * nI (cN σ ab)).toInt = ((2 * cN σ ab : Nat) : Int) := by rw [x32_mul z32_2 tN (by omega) (by omega)]; omega
      obtain ⟨L, hL⟩ : ∃ L, L = if w + T < 2 * cN σ ab then 2 * cN σ ab else w + T := ⟨_, rfl⟩
      have hLb : 2 * cN σ ab ≤ L ∧ w + T ≤ L ∧ L ≤ 20500 := by
        rw [hL]
        by_cases h3 : w + T < 2 * cN σ ab
        · rw [if_pos h3]; omega
        · rw [if_neg h3]; omega
      have tL : (if (Int32.ofNat w + v) < ((2 : Int32) * nI (cN σ ab)) then ((2 : Int32) * nI (cN σ ab)) else (Int32.ofNat w + v)).toInt = (L : Int) := by
        rw [hL]
        by_cases h3 : w + T < 2 * cN σ ab
        · rw [if_pos h3, if_pos (x32_lt' twv t2N (by omega)), t2N]
        · rw [if_neg h3, if_neg (x32_nlt twv t2N (by omega)), twv]
      have fX : cX σ ≠ ab := fun e => by have := O.2.1 (cX σ) (Nat.le_refl _); rw [e] at this; omega
      have fq : cX σ ≠ q + 1 := by have := O.1; omega
      have hkw : ∀ x, kd (wa σ 21 L L) x = if x = cX σ then 21 else kd σ x := fun x => wa_k σ 21 _ _ x O.1
      have hNw : ∀ x, cN (wa σ 21 L L) x = if x = cX σ then L else cN σ x := fun x => rfl
      have hIw : ∀ x, x ≠ cX σ → cI (wa σ 21 L L) x = cI σ x := fun x hx => funext fun i => by rw [wa_I, if_neg hx]
      rw [bd_e, x32_n tL, gd_t ⟨x32_nlt tL z32_0 (by omega), hX, by omega⟩, bd2_e, bd_e]
      obtain ⟨σ1, hσ1⟩ : ∃ σ1, σ1 = wr (wa σ 21 L L) (q + 1) 0 (some (cX σ)) := ⟨_, rfl⟩
      rw [← hσ1]
      have q1 : ∀ j, cI σ1 (q + 1) j = cI σ (q + 1) j := fun j => by rw [hσ1, wr_I, hIw _ (Ne.symm fq)]
      have q2 : cR σ1 (q + 1) 0 = some (cX σ) := by rw [hσ1, wr_R, if_pos ⟨rfl, rfl⟩]
      have q3 : kd σ1 (cX σ) = 21 := by rw [hσ1, wr_k, hkw, if_pos rfl]
      have q4 : kd σ1 ab = 21 := by rw [hσ1, wr_k, hkw, if_neg (Ne.symm fX)]; exact k4
      have q5 : cN σ1 (cX σ) = L := by rw [hσ1, wr_N, hNw, if_pos rfl]
      have q6 : cN σ1 ab = cN σ ab := by rw [hσ1, wr_N, hNw, if_neg (Ne.symm fX)]
      have q7 : cI σ1 ab = cI σ ab := by rw [hσ1, wr_I, hIw _ (Ne.symm fX)]
      have qX : cX σ1 = cX σ + 1 := by rw [hσ1]; rfl
      have qU : cU σ1 = cU σ + L := by rw [hσ1]; rfl
      obtain ⟨Ou, ko⟩ := O.up (t := 2 + e) (σ' := wi (wcp σ1 ab (cX σ) s 0 w) (q + 1) 1 0) qX
      refine ⟨wi (wcp σ1 ab (cX σ) s 0 w) (q + 1) 1 0, fun x => if x = cX σ then 2 + e else own x, 0, cX σ, ?_, wi_eq _ _ _ _, fun j hj => ?_, q2, q3, if_pos rfl, by show 0 + w + T ≤ cN σ1 (cX σ); omega, by show 64 ≤ cN σ1 (cX σ); omega, by show cN σ1 (cX σ) ≤ 20500; omega, fun i hi => ?_, ?_, ko, Ou, by show cU σ1 + _ ≤ _ + 2 * cN σ1 (cX σ); omega, by show 3 * cX σ1 + _ ≤ _ + cU σ1; omega, by show _ ≤ cN σ1 (cX σ); omega⟩
      · unfold b_U_makeRoom_61
        rw [bd_e, q2, bc_e, bd_e, q1, q1, k1, k2, gd_t ⟨q4, q3, x32_nlt ts z32_0 (by omega), by decide, x32_nlt tw z32_0 (by omega), by rw [x32_n ts, x32_n tw]; omega, by rw [c0, x32_n tw]; omega⟩, bd_e, bd_e, x32_n ts, x32_n tw, c0]
      · rw [wi_ne _ _ _ _ (Or.inr hj), wcp_I, if_neg (Ne.symm fq), q1]
      · rw [wi_ne _ _ _ _ (Or.inl fq), wcp_I, if_pos rfl, q7]
        unfold va_cpy
        rw [if_pos ⟨by omega, by omega⟩, show s + (0 + i - 0) = s + i by omega]
      · refine fr.tr (fr.tr (fr.tr ((fr_wa σ 21 L L O.1).sub fun x hx e => ?_) (hσ1 ▸ fr_wr _ (q + 1) 0 _) (fun x hx => hx.2.1)) (fr_wcp σ1 ab (cX σ) s 0 w) (fun x hx e => ?_)) (fr_wi _ _ _ _) (fun x hx => hx.2.1)
        · rw [e] at hx; exact hx.1 (O.2.1 _ (Nat.le_refl _))
        · rw [e] at hx; exact hx.1 (O.2.1 _ (Nat.le_refl _))
def sG (ρ : RS) (f : Nat → Int32) : RS := (fun r j => if r = 38 then f j else ρ.1 r j, ρ.2)
theorem sG_o (ρ : RS) (f : Nat → Int32) {r : Nat} (h : r ≠ 38) : (sG ρ f).1 r = ρ.1 r := funext fun _ => if_neg h
theorem sG_1 (ρ : RS) (f : Nat → Int32) : (sG ρ f).1 38 = f := funext fun j => (show (if (38 : Nat) = 38 then f j else ρ.1 38 j) = f j from if_pos rfl)
theorem sG_si (ρ : RS) (f : Nat → Int32) (k : Nat) (x : Int32) : si (sG ρ f) 38 k x = sG ρ (fun j => if j = k then x else f j) := by
  unfold si sG
  refine Prod.ext (funext fun r => funext fun j => ?_) rfl
  show (if r = 38 ∧ j = k then x else if r = 38 then f j else ρ.1 r j) = if r = 38 then (if j = k then x else f j) else ρ.1 r j
  by_cases h : r = 38
  · rw [if_pos h, if_pos h]
    by_cases h2 : j = k
    · rw [if_pos ⟨h, h2⟩, if_pos h2]
    · rw [if_neg (fun e => h2 e.2), if_neg h2]
  · rw [if_neg (fun e => h e.1), if_neg h, if_neg h]
theorem sG_id (ρ : RS) : sG ρ (ρ.1 38) = ρ := by
  unfold sG
  refine Prod.ext (funext fun r => funext fun j => ?_) rfl
  show (if r = 38 then ρ.1 38 j else ρ.1 r j) = ρ.1 r j
  by_cases h : r = 38
  · rw [if_pos h, h]
  · rw [if_neg h]
theorem gift_loop {ρ : RS} {T e g : Nat} (he : e < 2) (hT : ρ.1 0 2 = Int32.ofNat T) (hg : ρ.1 32 e = Int32.ofNat g) (hgT : g + T ≤ 10240) (hB : ∀ i, isB (ρ.1 1 i)) {v1 : Int32} (h1 : v1.toInt = (e : Int)) :
    ∀ (r i n : Nat) (v2 : Int32), i + r = T → r < n → v2.toInt = (i : Int) → lq3 F_write_47 n v1 v2 (sG ρ (va_cpy (ρ.1 1) (ρ.1 38) 0 (81920 * e + g) i)) = bc2 (m_output v1 (si (si (sG ρ (va_cpy (ρ.1 1) (ρ.1 38) 0 (81920 * e + g) T)) 32 e (Int32.ofNat (g + T))) 0 2 0)) fun _ r6 => some (Int32.ofNat T, r6) := by
  intro r
  have tT : (Int32.ofNat T).toInt = (T : Int) := x32_nat (by omega)
  have tg : (Int32.ofNat g).toInt = (g : Int) := x32_nat (by omega)
  induction r with
  | zero =>
    intro i n v2 hi hn h2
    obtain ⟨n, rfl⟩ : ∃ m, n = m + 1 := ⟨n - 1, by omega⟩
    have : i = T := by omega
    subst this
    have e20 : Int32.ofNat g + Int32.ofNat i = Int32.ofNat (g + i) := x32_of (by omega) (by rw [x32_add tg tT (by omega) (by omega)]; omega)
    show F_write_47 (lq3 F_write_47 n) v1 v2 _ = _
    have ei : v1.toNatClampNeg = e := x32_n h1
    rw [F_write_47, bd_e, sG_o ρ _ (show (0 : Nat) ≠ 38 by omega), hT, if_pos (x32_le' tT h2 (by omega)), bd_e, gd_t (x32_in h1 he), bd_e, gd_t (x32_in h1 he), bd_e, bd_e, ei, sG_o ρ _ (show (32 : Nat) ≠ 38 by omega), hg, e20]
  | succ r ih =>
    intro i n v2 hi hn h2
    obtain ⟨n, rfl⟩ : ∃ m, n = m + 1 := ⟨n - 1, by omega⟩
    have hx : ((((81920 : Int32) * v1) + Int32.ofNat g) + v2).toInt = ((81920 * e + g + i : Nat) : Int) := by
      rw [x32_add (x32_add (x32_mul (show (81920 : Int32).toInt = 81920 by decide) h1 (by omega) (by omega)) tg (by omega) (by omega)) h2 (by omega) (by omega)]; omega
    have ei : v1.toNatClampNeg = e := x32_n h1
    have e32 : (sG ρ (va_cpy (ρ.1 1) (ρ.1 38) 0 (81920 * e + g) i)).1 32 v1.toNatClampNeg = Int32.ofNat g := by rw [ei, sG_o ρ _ (show (32 : Nat) ≠ 38 by omega), hg]
    show F_write_47 (lq3 F_write_47 n) v1 v2 _ = _
    rw [F_write_47, bd_e, sG_o ρ _ (show (0 : Nat) ≠ 38 by omega), hT, if_neg (x32_nle tT h2 (by omega)), gd_t (x32_in h1 he), bd_e, e32, gd_t (x32_in h2 (by omega)), bd_e, gd_t (x32_in hx (by omega)), bd_e, bd_e, x32_n hx, x32_n h2, sG_o ρ _ (show (1 : Nat) ≠ 38 by omega), show vp_nar .byte (ρ.1 1 i) = ρ.1 1 i from hB i, sG_si]
    have e : (fun j => if j = 81920 * e + g + i then ρ.1 1 i else va_cpy (ρ.1 1) (ρ.1 38) 0 (81920 * e + g) i j) = va_cpy (ρ.1 1) (ρ.1 38) 0 (81920 * e + g) (i + 1) := funext fun j => by
      unfold va_cpy
      by_cases a1 : j = 81920 * e + g + i
      · rw [if_pos a1, if_pos (by omega), a1, show 0 + (81920 * e + g + i - (81920 * e + g)) = i by omega]
      · rw [if_neg a1]
        by_cases a2 : 81920 * e + g ≤ j ∧ j < 81920 * e + g + i
        · rw [if_pos a2, if_pos (by omega)]
        · rw [if_neg a2, if_neg (by omega)]
    rw [e]
    exact ih (i + 1) n (v2 + 1) (by omega) (by omega) (by rw [x32_add h2 z32_1 (by omega) (by omega)]; omega)
