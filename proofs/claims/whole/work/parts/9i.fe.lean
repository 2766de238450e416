/-! feed -/
theorem RLo.up {c : Nat} {σ : CS} {ρ : RS} {own : Nat → Nat} {τ g0 g1 T K : Nat} (h : RLo c σ ρ own τ g0 g1 T K) : RLo (c + 1) σ ρ own τ g0 g1 T K := by
  obtain ⟨a1, a2, a3, a4, ⟨l1, l2, l3, ⟨cn, l4, l5, l6⟩, l7⟩, k1, k2⟩ := h
  exact ⟨a1, a2, a3, a4, ⟨l1, l2, by omega, ⟨cn, by omega, l5, l6⟩, l7⟩, by omega, by omega⟩
theorem bt_z (v : Int32) : vp_nar .byte (v.toInt8.toInt32) = bt v 0 := by
  unfold bt
  rw [show (Int32.ofNat (8 * 0) &&& 31 : Int32) = 0 by decide, Int32.shiftRight_zero]
def TC (own : Nat → Nat) (σ : CS) (T : Nat) (f : Nat → Int32) : Prop := cI σ 1 1 = Int32.ofNat T ∧ ∃ a, cR σ 1 0 = some a ∧ kd σ a = 21 ∧ own a = 1 ∧ T ≤ cN σ a ∧ 64 ≤ cN σ a ∧ cN σ a ≤ 20500 ∧ ∀ i, i < T → cI σ a i = f i
def FT (k : Nat) (own own' : Nat → Nat) (σ σ' : CS) : Prop := fr (fun x => own x ≠ 99 ∧ own x ≠ 13 ∧ own x ≠ 1) σ σ' ∧ (∀ x, own x ≠ 99 → own' x = own x) ∧ Ow own' σ' ∧ cU σ' + 2 * tln σ ≤ cU σ + 2 * tln σ' ∧ 3 * cX σ' + cU σ ≤ 3 * cX σ + cU σ' ∧ cX σ' ≤ cX σ + k ∧ tln σ ≤ tln σ'
theorem wi_wA0 (σ : CS) (a j : Nat) (x : Int32) : wi σ a j x = wA σ a (fun i => if i = j then x else cI σ a i) := by
  have := wi_wA σ a (cI σ a) j x
  rw [wA_id] at this; exact this
theorem add32 {σ : CS} {T a : Nat} (hT : cI σ 1 1 = Int32.ofNat T) (ha : cR σ 1 0 = some a) (hk : kd σ a = 21) (hN : T + 4 ≤ cN σ a) (hT2 : T ≤ 20000) (h1 : a ≠ 1) (v : Int32) : b_T_addNumber_32 v σ = some (wi (wA σ a (pu (cI σ a) T 4 v)) 1 1 (Int32.ofNat (T + 4))) := by
  have t0 : (Int32.ofNat T).toInt = (T : Int) := x32_nat (by omega)
  have t1 : (Int32.ofNat T + 1).toInt = ((T + 1 : Nat) : Int) := by rw [x32_add t0 z32_1 (by omega) (by omega)]; omega
  have t2 : (Int32.ofNat T + 2).toInt = ((T + 2 : Nat) : Int) := by rw [x32_add t0 z32_2 (by omega) (by omega)]; omega
  have t3 : (Int32.ofNat T + 3).toInt = ((T + 3 : Nat) : Int) := by rw [x32_add t0 (show (3 : Int32).toInt = 3 by decide) (by omega) (by omega)]; omega
  have t4 : Int32.ofNat T + 4 = Int32.ofNat (T + 4) := x32_of (by omega) (by rw [x32_add t0 (show (4 : Int32).toInt = 4 by decide) (by omega) (by omega)]; omega)
  have hw : ∀ C : Nat → Int32, cI (wA σ a C) 1 1 = Int32.ofNat T := fun C => by rw [wA_ne σ a C (Ne.symm h1)]; exact hT
  unfold b_T_addNumber_32
  rw [ha, bc_e, bd_e, hT, gd_t ⟨hk, x32_in t0 (by omega)⟩, bd_e, x32_n t0, bt_c3, wi_wA0]
  rw [show ∀ C, cR (wA σ a C) 1 0 = some a from fun _ => ha, bc_e, bd_e, hw, gd_t ⟨hk, x32_in t1 (by show _ < cN σ a; omega)⟩, bd_e, x32_n t1, bt_c2, wi_wA]
  rw [show ∀ C, cR (wA σ a C) 1 0 = some a from fun _ => ha, bc_e, bd_e, hw, gd_t ⟨hk, x32_in t2 (by show _ < cN σ a; omega)⟩, bd_e, x32_n t2, bt_c1, wi_wA]
  rw [show ∀ C, cR (wA σ a C) 1 0 = some a from fun _ => ha, bc_e, bd_e, hw, gd_t ⟨hk, x32_in t3 (by show _ < cN σ a; omega)⟩, bd_e, x32_n t3, bt_z, wi_wA, bd_e, hw, bd_e, t4]
  congr 3
  funext i
  unfold pu
  by_cases i3 : i = T + 3
  · rw [if_pos i3, if_pos (by omega), show 4 - 1 - (i - T) = 0 by omega]
  rw [if_neg i3]
  by_cases i2 : i = T + 2
  · rw [if_pos i2, if_pos (by omega), show 4 - 1 - (i - T) = 1 by omega]
  rw [if_neg i2]
  by_cases i1 : i = T + 1
  · rw [if_pos i1, if_pos (by omega), show 4 - 1 - (i - T) = 2 by omega]
  rw [if_neg i1]
  by_cases i0 : i = T
  · rw [if_pos i0, if_pos (by omega), show 4 - 1 - (i - T) = 3 by omega]
  rw [if_neg i0, if_neg (by omega)]
theorem TC.add {own : Nat → Nat} {σ : CS} {T : Nat} {f : Nat → Int32} (h : TC own σ T f) (O : Ow own σ) (hT2 : T ≤ 10236) (hX : cX σ + 1 ≤ 601024) (hU : cU σ + 41000 ≤ 7293034) (v : Int32) : ∃ σ' own', m_T_addNumber v σ = some σ' ∧ TC own' σ' (T + 4) (pu f T 4 v) ∧ FT 1 own own' σ σ' := by
  obtain ⟨hT, a, ha, hk, hoa, hTN, h64, h205, hf⟩ := h
  have o1 : own 1 = 13 := O.2.2 1 (by decide)
  have a1 : a ≠ 1 := fun e => by rw [e] at hoa; omega
  have t0 : (Int32.ofNat T).toInt = (T : Int) := x32_nat (by omega)
  have t4 : (Int32.ofNat T + 4).toInt = ((T + 4 : Nat) : Int) := by rw [x32_add t0 (show (4 : Int32).toInt = 4 by decide) (by omega) (by omega)]; omega
  have hNt : (nI (cN σ a)).toInt = (cN σ a : Int) := nI_t (by omega)
  have htl : tln σ = cN σ a := by unfold tln; rw [ha]; rfl
  unfold m_T_addNumber
  rw [bd_e, ha, bc_e, gd_t (Or.inl hk), bd_e, hT]
  by_cases hfit : T + 4 ≤ cN σ a
  · rw [if_pos (x32_le' t4 hNt (by omega)), add32 hT ha hk hfit (by omega) a1 v]
    refine ⟨_, own, rfl, ⟨wi_eq _ _ _ _, a, ha, hk, hoa, hfit, h64, h205, fun i hi => ?_⟩, ?_⟩
    · rw [wi_ne _ _ _ _ (Or.inl a1), wA_self]
      unfold pu
      by_cases hh : T ≤ i ∧ i < T + 4
      · rw [if_pos hh, if_pos hh]
      · rw [if_neg hh, if_neg hh, hf i (by omega)]
    · refine ⟨fr.tr ((fr_wA σ a _).sub fun x hx e => ?_) (fr_wi _ 1 1 _) (fun x hx e => ?_), fun _ _ => rfl, ⟨O.1, O.2.1, O.2.2⟩, Nat.le_refl _, Nat.le_refl _, Nat.le_succ _, Nat.le_refl _⟩
      · rw [e] at hx; omega
      · rw [e] at hx; omega
  · rw [if_neg (x32_nle t4 hNt (by omega)), bc_e, bc_e, gd_t (Or.inl hk), bd_e]
    have n2t : ((2 : Int32) * nI (cN σ a)).toInt = ((2 * cN σ a : Nat) : Int) := by rw [x32_mul z32_2 hNt (by omega) (by omega)]; omega
    have fX : cX σ ≠ a := fun e => by have := O.2.1 (cX σ) (Nat.le_refl _); rw [e] at this; omega
    have f1 : cX σ ≠ 1 := by have := O.1; omega
    have hw1 : cI (wa σ 21 (2 * cN σ a) (2 * cN σ a)) a = cI σ a := funext fun i => by rw [wa_I, if_neg (Ne.symm fX)]
    have hkw : ∀ x, kd (wa σ 21 (2 * cN σ a) (2 * cN σ a)) x = if x = cX σ then 21 else kd σ x := fun x => wa_k σ 21 _ _ x O.1
    obtain ⟨σ2, hσ2⟩ : ∃ σ2, σ2 = wr (wcp (wa σ 21 (2 * cN σ a) (2 * cN σ a)) a (cX σ) 0 0 (cN σ a)) 1 0 (some (cX σ)) := ⟨_, rfl⟩
    have ecp : m_K_copyOf_BI a ((2 : Int32) * nI (cN σ a)) σ = some (cX σ, wcp (wa σ 21 (2 * cN σ a) (2 * cN σ a)) a (cX σ) 0 0 (cN σ a)) := by
      unfold m_K_copyOf_BI
      have c0 : (0 : Int32).toNatClampNeg = 0 := by decide
      have eN : cN (wa σ 21 (2 * cN σ a) (2 * cN σ a)) a = cN σ a := by rw [wa_N, if_neg (Ne.symm fX)]
      have eM : cN (wa σ 21 (2 * cN σ a) (2 * cN σ a)) (cX σ) = 2 * cN σ a := by rw [wa_N, if_pos rfl]
      have ek : kd (wa σ 21 (2 * cN σ a) (2 * cN σ a)) a = 21 := by rw [hkw, if_neg (Ne.symm fX)]; exact hk
      have ekn : kd (wa σ 21 (2 * cN σ a) (2 * cN σ a)) (cX σ) = 21 := by rw [hkw, if_pos rfl]
      rw [gd_t (Or.inl hk), bd_e, if_neg (x32_ne n2t hNt (by omega)), x32_n n2t, gd_t ⟨x32_nlt n2t z32_0 (by omega), hX, by omega⟩, bd2_e, gd_t (Or.inl ek), bd_e, bd_e, eN, if_neg (x32_nlt n2t hNt (by omega)), gd_t ⟨ek, ekn, by decide, by decide, x32_nlt hNt z32_0 (by omega), by rw [c0, x32_n hNt]; omega, by rw [c0, x32_n hNt, eM]; omega⟩, bd_e, c0, x32_n hNt]
    rw [ecp, bc2_e, bd_e, ← hσ2]
    have q1 : cI σ2 1 1 = Int32.ofNat T := by
      rw [hσ2, wr_I, wcp_I, if_neg (Ne.symm f1), wa_I, if_neg (Ne.symm f1)]; exact hT
    have q2 : cR σ2 1 0 = some (cX σ) := by rw [hσ2, wr_R, if_pos ⟨rfl, rfl⟩]
    have q3 : kd σ2 (cX σ) = 21 := by
      rw [hσ2, wr_k, kd_wcp, hkw, if_pos rfl]
    have q4 : cN σ2 (cX σ) = 2 * cN σ a := by
      rw [hσ2, wr_N]
      show cN (wa σ 21 (2 * cN σ a) (2 * cN σ a)) (cX σ) = _
      rw [wa_N, if_pos rfl]
    have q5 : ∀ i, i < T → cI σ2 (cX σ) i = f i := fun i hi => by
      rw [hσ2, wr_I, wcp_I, if_pos rfl, hw1]
      unfold va_cpy
      rw [if_pos ⟨by omega, by omega⟩, Nat.zero_add, Nat.sub_zero, hf i hi]
    have qX : cX σ2 = cX σ + 1 := by rw [hσ2]; rfl
    have qU : cU σ2 = cU σ + 2 * cN σ a := by rw [hσ2]; rfl
    rw [add32 q1 q2 q3 (by omega) (by omega) f1 v]
    obtain ⟨Ou, ko⟩ := O.up (t := 1) (σ' := wi (wA σ2 (cX σ) (pu (cI σ2 (cX σ)) T 4 v)) 1 1 (Int32.ofNat (T + 4))) qX
    have htl' : tln (wi (wA σ2 (cX σ) (pu (cI σ2 (cX σ)) T 4 v)) 1 1 (Int32.ofNat (T + 4))) = 2 * cN σ a := by
      unfold tln
      show cN σ2 ((cR σ2 1 0).getD 0) = _
      rw [q2]; exact q4
    refine ⟨_, fun x => if x = cX σ then 1 else own x, rfl, ⟨wi_eq _ _ _ _, cX σ, q2, q3, if_pos rfl, ?_, ?_, ?_, fun i hi => ?_⟩, ⟨?_, ko, Ou, ?_, ?_, ?_, ?_⟩⟩
    · show T + 4 ≤ cN σ2 (cX σ); omega
    · show 64 ≤ cN σ2 (cX σ); omega
    · show cN σ2 (cX σ) ≤ 20500; omega
    · rw [wi_ne _ _ _ _ (Or.inl f1), wA_self]
      unfold pu
      by_cases hh : T ≤ i ∧ i < T + 4
      · rw [if_pos hh, if_pos hh]
      · rw [if_neg hh, if_neg hh, q5 i (by omega)]
    · refine fr.tr (fr.tr (fr.tr (fr.tr ((fr_wa σ 21 _ _ O.1).sub fun x hx e => ?_) (fr_wcp _ _ _ _ _ _) (fun x hx e => ?_)) (hσ2 ▸ fr_wr _ 1 0 _) (fun x hx e => ?_)) (fr_wA σ2 (cX σ) _) (fun x hx e => ?_)) (fr_wi _ 1 1 _) (fun x hx e => ?_)
      · rw [e] at hx; exact hx.1 (O.2.1 _ (Nat.le_refl _))
      · rw [e] at hx; exact hx.1 (O.2.1 _ (Nat.le_refl _))
      · rw [e] at hx; omega
      · rw [e] at hx; exact hx.1 (O.2.1 _ (Nat.le_refl _))
      · rw [e] at hx; omega
    · rw [htl, htl']; show cU σ2 + _ ≤ _; omega
    · show 3 * cX σ2 + _ ≤ _ + cU σ2; omega
    · show cX σ2 ≤ _; omega
    · rw [htl, htl']; omega
theorem FT.tr {k l : Nat} {o1 o2 o3 : Nat → Nat} {a b c : CS} (h1 : FT k o1 o2 a b) (h2 : FT l o2 o3 b c) : FT (k + l) o1 o3 a c := by
  obtain ⟨a1, a2, a3, a4, a5, a6, a7⟩ := h1
  obtain ⟨b1, b2, b3, b4, b5, b6, b7⟩ := h2
  exact ⟨a1.tr b1 fun x hx => by rw [a2 x hx.1]; exact hx, fun x hx => by rw [b2 x (by rw [a2 x hx]; exact hx), a2 x hx], b3, by omega, by omega, by omega, by omega⟩
theorem TC.tl {own : Nat → Nat} {σ : CS} {T : Nat} {f : Nat → Int32} (h : TC own σ T f) : tln σ ≤ 20500 := by
  obtain ⟨_, a, ha, _, _, _, _, h, _⟩ := h
  unfold tln; rw [ha]; exact h
def fd (f : Nat → Int32) (T : Nat) (v1 v2 v3 v4 v5 : Int32) : Nat → Int32 := pu (pu (pu (pu (pu f T 4 v1) (T + 4) 4 v2) (T + 4 + 4) 4 v3) (T + 4 + 4 + 4) 4 v4) (T + 4 + 4 + 4 + 4) 4 v5
theorem TC.five {own : Nat → Nat} {σ : CS} {T : Nat} {f : Nat → Int32} (h : TC own σ T f) (O : Ow own σ) (hT2 : T ≤ 10220) (hX : cX σ + 5 ≤ 601024) (hU : cU σ + 82000 ≤ 7293034) (v1 v2 v3 v4 v5 : Int32) : ∃ σ' own', (bc (m_T_addNumber v1 σ) fun r2 => bc (m_T_addNumber v2 r2) fun r3 => bc (m_T_addNumber v3 r3) fun r4 => bc (m_T_addNumber v4 r4) fun r5 => bc (m_T_addNumber v5 r5) fun r6 => bd (cI r6 1 1) fun x7 => some ((.inr x7 : Nat ⊕ Int32), r6)) = some (.inr (Int32.ofNat (T + 20)), σ') ∧ TC own' σ' (T + 20) (fd f T v1 v2 v3 v4 v5) ∧ FT 5 own own' σ σ' := by
  have b0 := h.tl
  obtain ⟨s1, o1, x1, h1, F1⟩ := h.add O (by omega) (by omega) (by omega) v1
  have b1 := h1.tl
  have B1 := F1.2.2.2
  obtain ⟨s2, o2, x2, h2, F2⟩ := h1.add F1.2.2.1 (by omega) (by omega) (by omega) v2
  have b2 := h2.tl
  have G2 := F1.tr F2
  have B2 := G2.2.2.2
  obtain ⟨s3, o3, x3, h3, F3⟩ := h2.add F2.2.2.1 (by omega) (by omega) (by omega) v3
  have b3 := h3.tl
  have G3 := G2.tr F3
  have B3 := G3.2.2.2
  obtain ⟨s4, o4, x4, h4, F4⟩ := h3.add F3.2.2.1 (by omega) (by omega) (by omega) v4
  have b4 := h4.tl
  have G4 := G3.tr F4
  have B4 := G4.2.2.2
  obtain ⟨s5, o5, x5, h5, F5⟩ := h4.add F4.2.2.1 (by omega) (by omega) (by omega) v5
  refine ⟨s5, o5, ?_, h5, G4.tr F5⟩
  rw [x1, bc_e, x2, bc_e, x3, bc_e, x4, bc_e, x5, bc_e, bd_e, h5.1]
def sT (ρ : RS) (f : Nat → Int32) : RS := (fun r j => if r = 1 then f j else ρ.1 r j, ρ.2)
theorem sT_o (ρ : RS) (f : Nat → Int32) {r : Nat} (h : r ≠ 1) : (sT ρ f).1 r = ρ.1 r := funext fun _ => if_neg h
theorem sT_1 (ρ : RS) (f : Nat → Int32) : (sT ρ f).1 1 = f := funext fun j => (show (if (1 : Nat) = 1 then f j else ρ.1 1 j) = f j from if_pos rfl)
theorem sT_si (ρ : RS) (f : Nat → Int32) (k : Nat) (x : Int32) : si (sT ρ f) 1 k x = sT ρ (fun j => if j = k then x else f j) := by
  unfold si sT
  refine Prod.ext (funext fun r => funext fun j => ?_) rfl
  show (if r = 1 ∧ j = k then x else if r = 1 then f j else ρ.1 r j) = if r = 1 then (if j = k then x else f j) else ρ.1 r j
  by_cases h : r = 1
  · rw [if_pos h, if_pos h]
    by_cases h2 : j = k
    · rw [if_pos ⟨h, h2⟩, if_pos h2]
    · rw [if_neg (fun e => h2 e.2), if_neg h2]
  · rw [if_neg (fun e => h e.1), if_neg h, if_neg h]
theorem sT_id (ρ : RS) : sT ρ (ρ.1 1) = ρ := by
  unfold sT
  refine Prod.ext (funext fun r => funext fun j => ?_) rfl
  show (if r = 1 then ρ.1 1 j else ρ.1 r j) = ρ.1 r j
  by_cases h : r = 1
  · rw [if_pos h, h]
  · rw [if_neg h]
theorem fd_sh : ∀ i : Fin 20, (8 : Int32) * ((3 : Int32) - (Int32.ofNat i.val - Int32.ofNat i.val / (4 : Int32) * (4 : Int32))) = Int32.ofNat (8 * (3 - i.val % 4)) := by decide
theorem feed_loop {ρ : RS} {T : Nat} (hT : ρ.1 0 2 = Int32.ofNat T) (hT2 : T ≤ 10220) (v1 v2 v3 v4 v5 : Int32) :
    ∀ (r i n : Nat) (v6 : Int32), i + r = 20 → r < n → v6.toInt = (i : Int) → lq7 F_feed_24 n v1 v2 v3 v4 v5 v6 (sT ρ (fun j => if j < T + i then fd (ρ.1 1) T v1 v2 v3 v4 v5 j else ρ.1 1 j)) = some (Int32.ofNat (T + 20), si (sT ρ (fun j => if j < T + 20 then fd (ρ.1 1) T v1 v2 v3 v4 v5 j else ρ.1 1 j)) 0 2 (Int32.ofNat (T + 20))) := by
  intro r
  have t0 : (Int32.ofNat T).toInt = (T : Int) := x32_nat (by omega)
  have z20 : (20 : Int32).toInt = 20 := by decide
  induction r with
  | zero =>
    intro i n v6 hi hn h6
    obtain ⟨n, rfl⟩ : ∃ m, n = m + 1 := ⟨n - 1, by omega⟩
    have : i = 20 := by omega
    subst this
    have e20 : Int32.ofNat T + 20 = Int32.ofNat (T + 20) := x32_of (by omega) (by rw [x32_add t0 z20 (by omega) (by omega)]; omega)
    show F_feed_24 (lq7 F_feed_24 n) v1 v2 v3 v4 v5 v6 _ = _
    rw [F_feed_24, if_pos (x32_le' z20 h6 (by omega)), bd_e, bd_e, bd_e, si_eq, sT_o ρ _ (show (0 : Nat) ≠ 1 by omega), hT, e20]
  | succ r ih =>
    intro i n v6 hi hn h6
    obtain ⟨n, rfl⟩ : ∃ m, n = m + 1 := ⟨n - 1, by omega⟩
    have hv6 : v6 = Int32.ofNat i := x32_of (by omega) h6
    have hsum : (Int32.ofNat T + v6).toInt = ((T + i : Nat) : Int) := by rw [x32_add t0 h6 (by omega) (by omega)]; omega
    have h6' : (v6 + 1).toInt = ((i + 1 : Nat) : Int) := by rw [x32_add h6 z32_1 (by omega) (by omega)]; omega
    have key : ∀ w, fd (ρ.1 1) T v1 v2 v3 v4 v5 (T + i) = bt w (3 - i % 4) → b_feed_77 (lq7 F_feed_24 n) v1 v2 v3 v4 v5 v6 w (sT ρ (fun j => if j < T + i then fd (ρ.1 1) T v1 v2 v3 v4 v5 j else ρ.1 1 j)) = some (Int32.ofNat (T + 20), si (sT ρ (fun j => if j < T + 20 then fd (ρ.1 1) T v1 v2 v3 v4 v5 j else ρ.1 1 j)) 0 2 (Int32.ofNat (T + 20))) := fun w hw => by
      unfold b_feed_77
      have hb : vp_nar .byte ((w >>> (((8 : Int32) * ((3 : Int32) - (v6 - v6 / (4 : Int32) * (4 : Int32)))) &&& 31)).toInt8.toInt32) = bt w (3 - i % 4) := by
        have := fd_sh ⟨i, by omega⟩
        rw [hv6, this]; rfl
      rw [bd_e, sT_o ρ _ (show (0 : Nat) ≠ 1 by omega), hT, gd_t (by decide), gd_t (x32_in hsum (by omega)), bd_e, bd_e, hb, x32_n hsum, sT_si]
      have e : (fun j => if j = T + i then bt w (3 - i % 4) else if j < T + i then fd (ρ.1 1) T v1 v2 v3 v4 v5 j else ρ.1 1 j) = fun j => if j < T + (i + 1) then fd (ρ.1 1) T v1 v2 v3 v4 v5 j else ρ.1 1 j := funext fun j => by
        by_cases h1 : j = T + i
        · rw [if_pos h1, if_pos (by omega), h1, hw]
        · rw [if_neg h1]
          by_cases h2 : j < T + i
          · rw [if_pos h2, if_pos (by omega)]
          · rw [if_neg h2, if_neg (by omega)]
      rw [e]
      exact ih (i + 1) n (v6 + 1) (by omega) (by omega) h6'
    show F_feed_24 (lq7 F_feed_24 n) v1 v2 v3 v4 v5 v6 _ = _
    rw [F_feed_24, if_neg (x32_nle z20 h6 (by omega))]
    have z4 : (4 : Int32).toInt = 4 := by decide
    have z8 : (8 : Int32).toInt = 8 := by decide
    have z12 : (12 : Int32).toInt = 12 := by decide
    have z16 : (16 : Int32).toInt = 16 := by decide
    by_cases a4 : 4 ≤ i
    · rw [if_pos (x32_le' z4 h6 (by omega))]
      by_cases a8 : 8 ≤ i
      · rw [if_pos (x32_le' z8 h6 (by omega))]
        by_cases a12 : 12 ≤ i
        · rw [if_pos (x32_le' z12 h6 (by omega))]
          by_cases a16 : 16 ≤ i
          · rw [if_pos (x32_le' z16 h6 (by omega))]
            exact key v5 (by unfold fd; rw [pu_in (by omega) (by omega), show 4 - 1 - (T + i - (T + 4 + 4 + 4 + 4)) = 3 - i % 4 by omega])
          · rw [if_neg (x32_nle z16 h6 (by omega))]
            exact key v4 (by unfold fd; rw [pu_out (by omega), pu_in (by omega) (by omega), show 4 - 1 - (T + i - (T + 4 + 4 + 4)) = 3 - i % 4 by omega])
        · rw [if_neg (x32_nle z12 h6 (by omega))]
          exact key v3 (by unfold fd; rw [pu_out (by omega), pu_out (by omega), pu_in (by omega) (by omega), show 4 - 1 - (T + i - (T + 4 + 4)) = 3 - i % 4 by omega])
      · rw [if_neg (x32_nle z8 h6 (by omega))]
        exact key v2 (by unfold fd; rw [pu_out (by omega), pu_out (by omega), pu_out (by omega), pu_in (by omega) (by omega), show 4 - 1 - (T + i - (T + 4)) = 3 - i % 4 by omega])
    · rw [if_neg (x32_nle z4 h6 (by omega))]
      exact key v1 (by unfold fd; rw [pu_out (by omega), pu_out (by omega), pu_out (by omega), pu_out (by omega), pu_in (by omega) (by omega), show 4 - 1 - (T + i - T) = 3 - i % 4 by omega])
theorem feed_sim {c : Nat} {σ : CS} {ρ : RS} (h : RL c σ ρ) (hc : c < 512) (v1 v2 v3 v4 v5 : Int32) {code : Nat → Option Int32} : An c code σ ρ (m_P_feed v1 v2 v3 v4 v5 σ) (m_feed v1 v2 v3 v4 v5 ρ) := by
  obtain ⟨own, τ, g0, g1, T, K, h⟩ := h
  have h0 := (h.sz (SZ.si ρ 0)).up
  have hz : (si ρ 0 0 0).1 0 0 = 0 := si_eq _ _ _ _
  have hkb := h0.kb (by omega)
  have hh := h0
  obtain ⟨⟨P, S, c1, c2, N⟩, E0, E1, ⟨t1, t2, at_, t3, t4, t5, t6, t7, t8, t9⟩, ⟨l1, l2, l3, l4, l7, l8⟩, k1, k2⟩ := h0
  have k2' := h.2.2.2.2.2.2
  have hbud := N.1.bud N.2.2.2.1
  have O := N.2.2.1
  have t0 : (Int32.ofNat T).toInt = (T : Int) := x32_nat (by omega)
  have z20 : (20 : Int32).toInt = 20 := by decide
  obtain ⟨σ', own', x1, x2, F1, F2, F3, F4, F5, F6, F7⟩ := (show TC own σ T ((si ρ 0 0 0).1 1) from ⟨t1, at_, t3, t4, t5, t6, t7, t8, t9⟩).five O (by omega) (by omega) (by omega) v1 v2 v3 v4 v5
  have hl := feed_loop t2 (by omega) v1 v2 v3 v4 v5 20 0 fuel 0 (by omega) (by unfold fuel; omega) z32_0
  have e0 : (fun j => if j < T + 0 then fd ((si ρ 0 0 0).1 1) T v1 v2 v3 v4 v5 j else (si ρ 0 0 0).1 1 j) = (si ρ 0 0 0).1 1 := funext fun j => by
    by_cases hj : j < T + 0
    · rw [if_pos hj]; unfold fd; rw [pu_out (by omega), pu_out (by omega), pu_out (by omega), pu_out (by omega), pu_out (by omega)]
    · rw [if_neg hj]
  rw [e0, sT_id] at hl
  have htl := x2.tl
  refine Or.inl ⟨Int32.ofNat (T + 20), σ', si (sT (si ρ 0 0 0) (fun j => if j < T + 20 then fd ((si ρ 0 0 0).1 1) T v1 v2 v3 v4 v5 j else (si ρ 0 0 0).1 1 j)) 0 2 (Int32.ofNat (T + 20)), ?_, ?_, ?_, ⟨own', τ, g0, g1, T + 20, K + 2 * (tln σ' - tln σ), hh.tape F2 F3 F1 ?_ ?_ ?_ ?_ ?_ (by omega) (by omega) (by omega) (by omega) (by omega)⟩⟩
  · unfold m_P_feed
    rw [bd_e, t1, if_pos (x32_le' (x32_add t0 z20 (by omega) (by omega)) (show (65536 : Int32).toInt = 65536 by decide) (by omega)), x1]
  · unfold m_feed
    rw [bd_e, bd_e, t2, if_pos (x32_le' t0 (show (65516 : Int32).toInt = 65516 by decide) (by omega)), hl]
  · rw [si_ne _ _ _ _ (by omega), sT_o _ _ (by omega), hz]
  · rfl
  · intro r hr
    rw [← sT_o (si ρ 0 0 0) (fun j => if j < T + 20 then fd ((si ρ 0 0 0).1 1) T v1 v2 v3 v4 v5 j else (si ρ 0 0 0).1 1 j) (show r ≠ 1 by omega)]
    exact funext fun j => si_ne _ _ _ _ (by omega)
  · intro j hj
    rw [si_ne _ _ _ _ (Or.inr hj), sT_o _ _ (by omega)]
  · intro i
    rw [si_ne _ _ _ _ (by omega), sT_1]
    show isB (if i < T + 20 then fd ((si ρ 0 0 0).1 1) T v1 v2 v3 v4 v5 i else (si ρ 0 0 0).1 1 i)
    by_cases hi : i < T + 20
    · rw [if_pos hi]; unfold fd
      exact isB_pu (isB_pu (isB_pu (isB_pu (isB_pu l8 _ _ _) _ _ _) _ _ _) _ _ _) _ _ _ i
    · rw [if_neg hi]; exact l8 i
  · obtain ⟨y1, a, y2, y3, y4, y5, y6, y7, y8⟩ := x2
    refine ⟨y1, si_eq _ _ _ _, a, y2, y3, y4, y5, y6, y7, fun i hi => ?_⟩
    rw [si_ne _ _ _ _ (by omega), sT_1, y8 i hi]
    show _ = if i < T + 20 then _ else _
    rw [if_pos hi]
