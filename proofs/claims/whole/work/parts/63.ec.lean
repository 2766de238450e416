/-! a segment is written: class, reference -/
theorem cpy0 {α : Type} (f g : Nat → α) (sp dp : Nat) : va_cpy f g sp dp 0 = g := funext fun k => if_neg (by omega)
theorem sld_cg {C D : Nat → Int32} {len : Nat} (hl : len ≤ 1484) (h : ∀ i, i < 1484 → C i = D i) : ∀ i, i < 1484 → sld C len i = sld D len i := fun i hi => by
  unfold sld
  rw [wx_congr len (fun j hj _ _ => h j (by omega))]
  exact pu_cg h 16 2 _ i hi
theorem rseal' (ρ : RS) {k len : Nat} {v1 : Int32} (C : Nat → Int32) (h1 : v1.toInt = (k : Int)) (hk : k < 513) (hlen : ρ.1 3 k = Int32.ofNat len) (hl : len ≤ 1484) (hg : ρ.1 4 k = 0 ∨ ρ.1 4 k = 1) : m_sealed v1 (sS ρ k C) = some (sS ρ k (sld C len)) := by
  rw [rseal (sS ρ k C) h1 hk (by rw [sS_o ρ k C (by omega)]; exact hlen) hl (by rw [sS_o ρ k C (by omega)]; exact hg), sS_sS, sS_congr ρ k (sld_cg hl (fun i hi => sS_self ρ k C hi))]
def Dt (σ : CS) (q : Nat) (sq : Int32) (n ab f : Nat) : Prop := n = 0 ∨ ∃ st w d : Nat, cI σ (q + 1) 1 = Int32.ofNat st ∧ cI σ (q + 1) 2 = Int32.ofNat w ∧ cI σ (q + 1) 7 - sq = Int32.ofNat d ∧ n ≤ d ∧ d ≤ w ∧ st + w ≤ cN σ ab ∧ cR σ (q + 1) 0 = some ab ∧ kd σ ab = 21 ∧ st + w < 1000000 ∧ f = st + w - d
theorem copyTo {σ : CS} {q g a len N n ab f : Nat} (hq : q = 7 ∨ q = 14) (S : SG σ g a len N) (C : Nat → Int32) (ha : q + 1 ≠ a) (hab : ab ≠ a) {sq nn : Int32} (hn : nn.toInt = (n : Int)) (D : Dt σ q sq n ab f) (hl : 20 + n ≤ len) : m_U_copyTo (q + 1) g sq nn (wA σ a C) = some (wA σ a (va_cpy (cI σ ab) C f 20 n)) := by
  have hlen : len ≤ 1484 := by obtain ⟨_, _, _, _, _, s6, s7⟩ := S; omega
  have hN : len ≤ N := S.2.2.2.2.2.1
  have e1 : cI (wA σ a C) (q + 1) = cI σ (q + 1) := wA_ne σ a C ha
  unfold m_U_copyTo
  rw [gd_t (show q + 1 = 8 ∨ q + 1 = 15 by omega), bd_e, bd_e, bd_e, bd_e, e1]
  rcases D with rfl | ⟨st, w, d, d1, d2, d3, d4, d5, d6, d7, d8, d9, d10⟩
  · rw [if_pos (x32_le' hn z32_0 (by omega)), cpy0]
    rfl
  · by_cases hn0 : n = 0
    · subst hn0
      rw [if_pos (x32_le' hn z32_0 (by omega)), cpy0]
      rfl
    rw [d1, d2, d3]
    have x1 : (Int32.ofNat st + Int32.ofNat w).toInt = ((st + w : Nat) : Int) := by rw [x32_add (x32_nat (by omega)) (x32_nat (by omega)) (by omega) (by omega)]; omega
    have x2 : (Int32.ofNat st + Int32.ofNat w - Int32.ofNat d).toInt = (f : Int) := by rw [x32_sub x1 (x32_nat (by omega)) (by omega) (by omega)]; omega
    have x3 : (Int32.ofNat st + Int32.ofNat w - Int32.ofNat d + nn).toInt = ((f + n : Nat) : Int) := by rw [x32_add x2 hn (by omega) (by omega)]; omega
    rw [if_neg (x32_nle hn z32_0 (by omega)), bd_e, if_neg (x32_nlt x2 (x32_nat (by omega)) (by omega)), bd_e, bd_e, if_neg (x32_nlt x1 x3 (by omega)), show cR (wA σ a C) (q + 1) 0 = some ab from d7, bc_e, gd_t (show kd (wA σ a C) g = 11 from S.1), show cR (wA σ a C) g 0 = some a from S.2.1, bc_e]
    have c20 : (20 : Int32).toNatClampNeg = 20 := by decide
    rw [gd_t ⟨d8, S.2.2.1, x32_nlt x2 z32_0 (by omega), by decide, x32_nlt hn z32_0 (by omega), by rw [x32_n x2, x32_n hn]; show _ ≤ cN σ ab; omega, by rw [c20, x32_n hn]; show _ ≤ cN σ a; rw [S.2.2.2.2.1]; omega⟩, bd_e, x32_n x2, x32_n hn, c20]
    unfold b_U_copyTo_63
    congr 1
    unfold wcp wA
    refine Prod.ext (funext fun y => funext fun i => ?_) rfl
    show (if y = a then va_cpy (fun i => if ab = a then C i else cI σ ab i) (fun i => if a = a then C i else cI σ a i) f 20 n i else (if y = a then C i else cI σ y i)) = if y = a then va_cpy (cI σ ab) C f 20 n i else cI σ y i
    by_cases hy : y = a
    · rw [if_pos hy, if_pos hy]
      unfold va_cpy
      show (if 20 ≤ i ∧ i < 20 + n then (if ab = a then C (f + (i - 20)) else cI σ ab (f + (i - 20))) else (if a = a then C i else cI σ a i)) = _
      rw [if_neg hab, if_pos rfl]
    · rw [if_neg hy, if_neg hy, if_neg hy]
def opC (C : Nat → Int32) (v6 m : Int32) : Nat → Int32 := if v6 = 0 then C else pu C 20 4 ((33816576 : Int32) ||| m)
theorem emitC {σ σ1 : CS} {q g a len N n ab f : Nat} (hq : q = 7 ∨ q = 14) {v1 v2 v3 v4 v5 v6 w0 : Int32} (hp : m_N_place ((1 : Int32) - cI σ q 0) (w0 + v5) (wi σ q 10 (cI σ q 10 + 1)) = some (some g, σ1)) (S : SG σ1 g a len N) (ha1 : q + 1 ≠ a) (ha : q ≠ a) (hab : ab ≠ a) (hn : v5.toInt = (n : Int)) (D : Dt σ1 q v2 n ab f) (hw : v6 = 0 ∧ 20 + n ≤ len ∨ v6 = 1 ∧ n = 0 ∧ 24 ≤ len) :
    b_E_emit_25 q v1 v2 v3 v4 v5 v6 w0 σ = some (wA σ1 a (sld (va_cpy (cI σ1 ab) (opC (hdC (cI σ1 a) (cI σ1 q 12) (cI σ1 q 13) v2 v3 ((w0 / (4 : Int32)) <<< ((4 : Int32) &&& 31)) v1 v4) v6 (cI σ1 q 7)) f 20 n) len)) := by
  have hl : 20 + n ≤ len := by omega
  have e0 : cI (wi σ q 10 (cI σ q 10 + 1)) q 0 = cI σ q 0 := by rw [wi_I, if_neg (by omega)]
  have eq' : ∀ C, cI (wA σ1 a C) q = cI σ1 q := fun C => wA_ne σ1 a C ha
  have kg : ∀ C, kd (wA σ1 a C) g = 11 := fun C => S.1
  unfold b_E_emit_25
  rw [bd_e, bd_e, bd_e, e0, hp, bc2_e]
  show (bd (cI σ1 q 12) fun x7 => _) = _
  conv => lhs; rw [← wA_id σ1 a]
  show (gd (kd (wA σ1 a (cI σ1 a)) g = 11) (bc (m_G_put g 0 2 (cI (wA σ1 a (cI σ1 a)) q 12) (wA σ1 a (cI σ1 a))) _)) = _
  rw [gd_t (kg _), gP2 S _ _ (show (0 : Int32).toInt = ((0 : Nat) : Int) by decide) (by omega), bc_e, bd_e, gd_t (kg _), gP2 S _ _ (show (2 : Int32).toInt = ((2 : Nat) : Int) by decide) (by omega), bc_e, gd_t (kg _), gP4 S _ _ (show (4 : Int32).toInt = ((4 : Nat) : Int) by decide) (by omega), bc_e, gd_t (kg _), gP4 S _ _ (show (8 : Int32).toInt = ((8 : Nat) : Int) by decide) (by omega), bc_e, gd_t (by decide), gd_t (kg _), gP1 S _ _ (show (12 : Int32).toInt = ((12 : Nat) : Int) by decide) (by omega), bc_e, gd_t (kg _), gP1 S _ _ (show (13 : Int32).toInt = ((13 : Nat) : Int) by decide) (by omega), bc_e, gd_t (kg _), gP2 S _ _ (show (14 : Int32).toInt = ((14 : Nat) : Int) by decide) (by omega), bc_e, gd_t (kg _), gP2 S _ _ (show (18 : Int32).toInt = ((18 : Nat) : Int) by decide) (by omega), bc_e]
  unfold b_E_emit_164
  rcases hw with ⟨h6, hw⟩ | ⟨h6, hw⟩
  · rw [if_pos h6, copyTo hq S _ ha1 hab hn D hl, bc_e, gd_t (kg _), gmend (S.wA _) (by omega), bc_e, wA_self, wA_wA, eq', eq']
    unfold opC
    rw [if_pos h6]
    rfl
  · have h60 : ¬ v6 = 0 := by rw [h6]; decide
    rw [if_neg h60, bd_e, gd_t (kg _), gP4 S _ _ (show (20 : Int32).toInt = ((20 : Nat) : Int) by decide) (by omega), bc_e, copyTo hq S _ ha1 hab hn D hl, bc_e, gd_t (kg _), gmend (S.wA _) (by omega), bc_e, wA_self, wA_wA, eq', eq', eq']
    unfold opC
    rw [if_neg h60]
    rfl
theorem writR {ρ ρ1 : RS} {e k : Nat} {v1 v2 v3 v4 v5 v6 v7 : Int32} (hv : v1.toInt = (e : Int)) (he : e < 2) (hl : m_launched ((1 : Int32) - v1) (((20 : Int32) + v6) + v7) (si ρ 28 e (ρ.1 28 e + 1)) = some (nI k, ρ1)) (hk : k < 513) :
    m_written v1 v2 v3 v4 v5 v6 v7 ρ = some (nI k, sS ρ1 k (hdR (Sk ρ1 k) (pt e (ρ1.1 0 4)) (pt (1 - e) (ρ1.1 0 4)) v3 v4 ((((20 : Int32) + v6) / (4 : Int32)) <<< ((4 : Int32) &&& 31)) v2 v5)) := by
  have hK : (nI k).toInt = (k : Int) := nI_t (by omega)
  have h1e : ((1 : Int32) - v1).toInt = ((1 - e : Nat) : Int) := by rw [x32_sub z32_1 hv (by omega) (by omega)]; omega
  unfold m_written
  rw [gd_t (x32_in hv he), bd_e, gd_t (x32_in hv he), bd_e, x32_n hv, hl, bc2_e, if_pos (x32_le' z32_0 hK (by omega)), rport ρ1 hv, bc2_e]
  conv => lhs; rw [← sS_id ρ1 k]
  rw [rP2 ρ1 _ _ hK (show (0 : Int32).toInt = ((0 : Nat) : Int) by decide) hk (by omega), bc_e, rport _ h1e, bc2_e, rP2 ρ1 _ _ hK (show (2 : Int32).toInt = ((2 : Nat) : Int) by decide) hk (by omega), bc_e, rP4 ρ1 _ _ hK (show (4 : Int32).toInt = ((4 : Nat) : Int) by decide) hk (by omega), bc_e, rP4 ρ1 _ _ hK (show (8 : Int32).toInt = ((8 : Nat) : Int) by decide) hk (by omega), bc_e, gd_t (by decide), rP1 ρ1 _ _ hK (show (12 : Int32).toInt = ((12 : Nat) : Int) by decide) hk (by omega), bc_e, rP1 ρ1 _ _ hK (show (13 : Int32).toInt = ((13 : Nat) : Int) by decide) hk (by omega), bc_e, rP2 ρ1 _ _ hK (show (14 : Int32).toInt = ((14 : Nat) : Int) by decide) hk (by omega), bc_e, rP4 ρ1 _ _ hK (show (16 : Int32).toInt = ((16 : Nat) : Int) by decide) hk (by omega), bc_e]
  rfl
theorem writF {ρ ρ1 : RS} {e : Nat} {v1 v2 v3 v4 v5 v6 v7 : Int32} (hv : v1.toInt = (e : Int)) (he : e < 2) (hl : m_launched ((1 : Int32) - v1) (((20 : Int32) + v6) + v7) (si ρ 28 e (ρ.1 28 e + 1)) = some (-1, ρ1)) :
    m_written v1 v2 v3 v4 v5 v6 v7 ρ = some (-1, ρ1) := by
  unfold m_written
  rw [gd_t (x32_in hv he), bd_e, gd_t (x32_in hv he), bd_e, x32_n hv, hl, bc2_e, if_neg (by decide)]
theorem dataR {ρ : RS} {e k n from_ : Nat} {v1 v2 v3 v4 v5 v10 : Int32} (hv : v1.toInt = (e : Int)) (he : e < 2) (hk : k < 513) (h10 : v10.toInt = (k : Int)) (h5 : v5.toInt = (n : Int)) (h4 : n = 0 ∨ v4.toInt = (from_ : Int)) (hn : n ≤ 1460) (hf : from_ + n ≤ 81920) (hB : ∀ i, isB (ρ.1 38 i)) (C : Nat → Int32) :
    ∀ (r i m : Nat) (v11 : Int32), i + r = n → r < m → v11.toInt = (i : Int) → lq8 F_send_195 m v1 v2 v3 v4 v5 v10 v11 (sS ρ k (va_cpy (ρ.1 38) C (81920 * e + from_) 20 i)) = bc (m_sealed v10 (sS ρ k (va_cpy (ρ.1 38) C (81920 * e + from_) 20 n))) fun r1 => b_send_246 v1 v2 v3 v5 r1 := by
  intro r
  induction r with
  | zero =>
    intro i m v11 h1 h2 h3
    obtain ⟨m, rfl⟩ : ∃ k, m = k + 1 := ⟨m - 1, by omega⟩
    have : i = n := by omega
    subst this
    show F_send_195 (lq8 F_send_195 m) v1 v2 v3 v4 v5 v10 v11 _ = _
    rw [F_send_195, if_pos (x32_le' h5 h3 (by omega))]
  | succ r ih =>
    intro i m v11 h1 h2 h3
    obtain ⟨m, rfl⟩ : ∃ k, m = k + 1 := ⟨m - 1, by omega⟩
    have h4' : v4.toInt = (from_ : Int) := by
      rcases h4 with h | h
      · omega
      · exact h
    have y1 : ((((81920 : Int32) * v1) + v4) + v11).toInt = ((81920 * e + from_ + i : Nat) : Int) := by
      rw [x32_add (x32_add (x32_mul (show (81920 : Int32).toInt = 81920 by decide) hv (by omega) (by omega)) h4' (by omega) (by omega)) h3 (by omega) (by omega)]; omega
    have y2 : ((((1484 : Int32) * v10) + (20 : Int32)) + v11).toInt = ((1484 * k + (20 + i) : Nat) : Int) := by
      rw [x32_add (x32_add (x32_mul (show (1484 : Int32).toInt = 1484 by decide) h10 (by omega) (by omega)) (show (20 : Int32).toInt = 20 by decide) (by omega) (by omega)) h3 (by omega) (by omega)]; omega
    have e : lq8 F_send_195 (m + 1) v1 v2 v3 v4 v5 v10 v11 (sS ρ k (va_cpy (ρ.1 38) C (81920 * e + from_) 20 i)) = lq8 F_send_195 m v1 v2 v3 v4 v5 v10 (v11 + 1) (sS ρ k (va_cpy (ρ.1 38) C (81920 * e + from_) 20 (i + 1))) := by
      show F_send_195 (lq8 F_send_195 m) v1 v2 v3 v4 v5 v10 v11 _ = _
      rw [F_send_195, if_neg (x32_nle h5 h3 (by omega)), gd_t (x32_in y1 (by omega)), bd_e, gd_t (x32_in y2 (by omega)), bd_e, bd_e, x32_n y1, x32_n y2, sS_o ρ k _ (show (38 : Nat) ≠ 2 by omega), hB, si_sS ρ k _ (20 + i) _ (by omega)]
      congr 1
      refine sS_congr ρ k fun j hj => ?_
      unfold va_cpy
      by_cases hj1 : j = 20 + i
      · rw [if_pos hj1, if_pos (by omega), hj1, show 20 + i - 20 = i by omega]
      · rw [if_neg hj1]
        by_cases hj2 : 20 ≤ j ∧ j < 20 + i
        · rw [if_pos hj2, if_pos (by omega)]
        · rw [if_neg hj2, if_neg (by omega)]
    rw [e]
    exact ih (i + 1) m (v11 + 1) (by omega) (by omega) (by rw [x32_add h3 z32_1 (by omega) (by omega)]; omega)
def opR (C : Nat → Int32) (v9 m : Int32) : Nat → Int32 := if v9 ≤ 0 then C else pu (pu C 20 2 516) 22 2 m
theorem sendR {ρ ρ1 : RS} {e k n from_ len : Nat} {v1 v2 v3 v4 v5 v9 w2 w4 : Int32} (hv : v1.toInt = (e : Int)) (he : e < 2) (hl : m_launched ((1 : Int32) - v1) (((20 : Int32) + v9) + v5) (si ρ 28 e (ρ.1 28 e + 1)) = some (nI k, ρ1)) (hk : k < 513) (h5 : v5.toInt = (n : Int)) (h4 : n = 0 ∨ v4.toInt = (from_ : Int)) (hn : n ≤ 1460) (hf : from_ + n ≤ 81920) (hB : ∀ i, isB (ρ1.1 38 i)) (hlen : ρ1.1 3 k = Int32.ofNat len) (hle : len ≤ 1484) (hg : ρ1.1 4 k = 0 ∨ ρ1.1 4 k = 1) :
    b_send_133 v1 v2 v3 v4 v5 v9 v1 w2 v3 w4 ρ = b_send_246 v1 v2 v3 v5 (sS ρ1 k (sld (va_cpy (ρ1.1 38) (opR (hdR (Sk ρ1 k) (pt e (ρ1.1 0 4)) (pt (1 - e) (ρ1.1 0 4)) v3 w4 ((((20 : Int32) + v9) / (4 : Int32)) <<< ((4 : Int32) &&& 31)) w2 (ρ.1 19 e - ρ.1 18 e)) v9 (ρ1.1 8 e)) (81920 * e + from_) 20 n) len)) := by
  have hK : (nI k).toInt = (k : Int) := nI_t (by omega)
  unfold b_send_133
  rw [gd_t (x32_in hv he), bd_e, gd_t (x32_in hv he), bd_e, writR hv he hl hk, bc2_e, if_neg (x32_nlt hK z32_0 (by omega))]
  unfold opR b_send_192
  by_cases h9 : v9 ≤ 0
  · rw [if_pos h9, if_pos h9, x32_n hv]
    have := dataR (ρ := ρ1) (v2 := v2) (v3 := v3) hv he hk hK h5 h4 hn hf hB (hdR (Sk ρ1 k) (pt e (ρ1.1 0 4)) (pt (1 - e) (ρ1.1 0 4)) v3 w4 ((((20 : Int32) + v9) / (4 : Int32)) <<< ((4 : Int32) &&& 31)) w2 (ρ.1 19 e - ρ.1 18 e)) n 0 fuel 0 (by omega) (by unfold fuel; omega) (by decide)
    rw [cpy0] at this
    rw [this, rseal' ρ1 _ hK hk hlen hle hg, bc_e]
  · rw [if_neg h9, if_neg h9, rP2 ρ1 _ _ hK (show (20 : Int32).toInt = ((20 : Nat) : Int) by decide) hk (by omega), bc_e, gd_t (x32_in hv he), bd_e, x32_n hv, sS_o ρ1 k _ (show (8 : Nat) ≠ 2 by omega), rP2 ρ1 _ _ hK (show (22 : Int32).toInt = ((22 : Nat) : Int) by decide) hk (by omega), bc_e]
    have := dataR (ρ := ρ1) (v2 := v2) (v3 := v3) hv he hk hK h5 h4 hn hf hB (pu (pu (hdR (Sk ρ1 k) (pt e (ρ1.1 0 4)) (pt (1 - e) (ρ1.1 0 4)) v3 w4 ((((20 : Int32) + v9) / (4 : Int32)) <<< ((4 : Int32) &&& 31)) w2 (ρ.1 19 e - ρ.1 18 e)) 20 2 516) 22 2 (ρ1.1 8 e)) n 0 fuel 0 (by omega) (by unfold fuel; omega) (by decide)
    rw [cpy0] at this
    rw [this, rseal' ρ1 _ hK hk hlen hle hg, bc_e]
theorem sendF {ρ ρ1 : RS} {e : Nat} {v1 v2 v3 v4 v5 v9 w2 w4 : Int32} (hv : v1.toInt = (e : Int)) (he : e < 2) (hl : m_launched ((1 : Int32) - v1) (((20 : Int32) + v9) + v5) (si ρ 28 e (ρ.1 28 e + 1)) = some (-1, ρ1)) :
    b_send_133 v1 v2 v3 v4 v5 v9 v1 w2 v3 w4 ρ = b_send_246 v1 v2 v3 v5 ρ1 := by
  unfold b_send_133
  rw [gd_t (x32_in hv he), bd_e, gd_t (x32_in hv he), bd_e, writF hv he hl, bc2_e, if_pos (by decide)]
