/-! the ring: its places -/
theorem ps_bv (x : Int32) : ps x = x.toBitVec.toNat % 65536 := by
  unfold ps
  have h1 : (x &&& 65535).toBitVec.toNat = x.toBitVec.toNat % 65536 := by
    rw [Int32.toBitVec_and, BitVec.toNat_and, show (65535 : Int32).toBitVec.toNat = 2 ^ 16 - 1 by decide, Nat.and_two_pow_sub_one_eq_mod]
  exact x32_n (b32_of (by omega) h1)
theorem ps_lt (x : Int32) : ps x < 65536 := by rw [ps_bv]; omega
theorem ps_add (x : Int32) (k : Nat) (hk : k < 2147483648) : ps (x + Int32.ofNat k) = (ps x + k) % 65536 := by
  rw [ps_bv, ps_bv, Int32.toBitVec_add, BitVec.toNat_add]
  have : (Int32.ofNat k).toBitVec.toNat = k := b32_nat (x32_nat hk)
  rw [this]
  have := x.toBitVec.isLt
  omega
theorem ps_and (x : Int32) : (x &&& 65535).toInt = (ps x : Int) := by
  have h1 : (x &&& 65535).toBitVec.toNat = x.toBitVec.toNat % 65536 := by
    rw [Int32.toBitVec_and, BitVec.toNat_and, show (65535 : Int32).toBitVec.toNat = 2 ^ 16 - 1 by decide, Nat.and_two_pow_sub_one_eq_mod]
  rw [ps_bv]
  exact b32_of (by omega) h1
theorem kc_le (f : Nat → Int32) (e : Nat) : ∀ n, kc f e n ≤ n
  | 0 => Nat.le_refl _
  | n + 1 => by
    have := kc_le f e n
    show kc f e n + (if f (65536 * e + n) = 0 then 0 else 1) ≤ n + 1
    split <;> omega
theorem kc_set (f : Nat → Int32) (e p : Nat) (v : Int32) : ∀ n, p < n → kc (fun j => if j = 65536 * e + p then v else f j) e n + (if f (65536 * e + p) = 0 then 0 else 1) = kc f e n + (if v = 0 then 0 else 1)
  | 0, h => by omega
  | n + 1, h => by
    show (kc (fun j => if j = 65536 * e + p then v else f j) e n + (if (if 65536 * e + n = 65536 * e + p then v else f (65536 * e + n)) = 0 then 0 else 1)) + _ = kc f e n + (if f (65536 * e + n) = 0 then 0 else 1) + _
    by_cases hp : p = n
    · subst hp
      rw [if_pos rfl, kc_cg p (fun i hi => if_neg (by omega))]
      omega
    · rw [if_neg (show ¬ 65536 * e + n = 65536 * e + p by omega)]
      have := kc_set f e p v n (by omega)
      omega
theorem kc_pos {f : Nat → Int32} {e p n : Nat} (hp : p < n) (h : f (65536 * e + p) ≠ 0) : 0 < kc f e n := by
  rcases Nat.eq_zero_or_pos (kc f e n) with h0 | h0
  · exact absurd (kc_zero n h0 p hp) h
  · exact h0
theorem hb_ne (x : Int32) : vp_nar .short (((256 : Int32) ||| (x &&& (255 : Int32))).toInt16.toInt32) ≠ 0 ∧ vp_nar .short (((256 : Int32) ||| (x &&& (255 : Int32))).toInt16.toInt32) &&& 255 = x &&& 255 := by
  have hx : ∃ k : Fin 256, x &&& 255 = Int32.ofNat k.val := by
    obtain ⟨n, h1, h2⟩ := and_255 (v := x)
    exact ⟨⟨n, h1⟩, x32_of (by omega) h2⟩
  obtain ⟨k, hk⟩ := hx
  have all : ∀ k : Fin 256, vp_nar .short (((256 : Int32) ||| Int32.ofNat k.val).toInt16.toInt32) ≠ 0 ∧ vp_nar .short (((256 : Int32) ||| Int32.ofNat k.val).toInt16.toInt32) &&& 255 = Int32.ofNat k.val := by decide +kernel
  rw [hk]
  exact all k
section RG
variable {own : Nat → Nat} {q e : Nat} {σ : CS} {ρ : RS} {U z : Nat}
/-- whether a number is expected, both sides -/
theorem c_exp (hq : q = 7 ∨ q = 14) (v : Int32) : m_V_isExpected (q + 3) v σ = some (if ¬ (v - cI σ (q + 3) 1 < 0) ∧ v - cI σ (q + 3) 2 < 0 then 1 else 0, σ) := by
  unfold m_V_isExpected b_V_isExpected_22 b_V_isExpected_23
  rw [gd_t (by omega), bd_e, bd_e, gd_t z01_0, gd_t z01_1]
  by_cases h1 : v - cI σ (q + 3) 1 < 0
  · rw [if_pos h1, if_neg (fun h => h.1 h1)]
  · rw [if_neg h1]
    by_cases h2 : v - cI σ (q + 3) 2 < 0
    · rw [if_neg (fun h => ?_), if_pos ⟨h1, h2⟩]
      have a1 := Int32.lt_iff_toInt_lt.mp h2
      have a2 := Int32.le_iff_toInt_le.mp h
      omega
    · rw [if_pos (Int32.not_lt.mp h2), if_neg (fun h => h2 h.2)]
theorem r_exp (he : e < 2) {v1 : Int32} (hv : v1.toInt = (e : Int)) (v : Int32) : m_inside v1 v ρ = some (if ¬ (v - ρ.1 18 e < 0) ∧ v - ρ.1 19 e < 0 then 1 else 0, ρ) := by
  have hi := x32_in hv he
  have hcl := x32_n hv
  subst hcl
  unfold m_inside b_inside_26 b_inside_27
  rw [gd_t hi, bd_e, gd_t hi, bd_e, gd_t z01_0, gd_t z01_1]
  by_cases h1 : v - ρ.1 18 v1.toNatClampNeg < 0
  · rw [if_pos h1, if_neg (fun h => h.1 h1)]
  · rw [if_neg h1]
    by_cases h2 : v - ρ.1 19 v1.toNatClampNeg < 0
    · rw [if_neg (fun h => ?_), if_pos ⟨h1, h2⟩]
      have a1 := Int32.lt_iff_toInt_lt.mp h2
      have a2 := Int32.le_iff_toInt_le.mp h
      omega
    · rw [if_pos (Int32.not_lt.mp h2), if_neg (fun h => h2 h.2)]
theorem exp_iff {v r ed : Int32} {d : Nat} (hed : ed = r + Int32.ofNat d) (hd : d ≤ 65535) : (¬ (v - r < 0) ∧ v - ed < 0) ↔ ∃ j, j < d ∧ v = r + Int32.ofNat j := by
  constructor
  · rintro ⟨h1, h2⟩
    have a1 := Int32.le_iff_toInt_le.mp (Int32.not_lt.mp h1)
    rw [z32_0] at a1
    obtain ⟨k, hk⟩ : ∃ k : Nat, (v - r).toInt = (k : Int) := ⟨(v - r).toInt.toNat, by omega⟩
    have hk2 : k < 2147483648 := by have := Int32.toInt_lt (v - r); omega
    have e1 : v - r = Int32.ofNat k := x32_of hk2 hk
    have e2 : v - ed = Int32.ofNat k - Int32.ofNat d := by rw [hed, ← e1]; grind
    have e3 : (v - ed).toInt = (k : Int) - (d : Int) := by rw [e2]; exact x32_sub (x32_nat hk2) (x32_nat (by omega)) (by omega) (by omega)
    have a2 := (x32_lt e3 z32_0).mp h2
    exact ⟨k, by omega, by rw [← e1]; grind⟩
  · rintro ⟨j, h1, h2⟩
    have e1 : (v - r).toInt = (j : Int) := by rw [h2, show r + Int32.ofNat j - r = Int32.ofNat j by grind]; exact x32_nat (by omega)
    have e2 : (v - ed).toInt = (j : Int) - (d : Int) := by rw [h2, hed]; exact d32 r (by omega) (by omega)
    exact ⟨x32_nlt e1 z32_0 (by omega), x32_lt' e2 z32_0 (by omega)⟩
/-- one byte is put into the ring -/
theorem G3x.put (hq : q = 7 ∨ q = 14) (O : Ow own σ) (hoq : own (q + 3) = 10 + e) (he : e < 2) (h : G3x own q e σ ρ U z) (hz : z = 0) (hft : cI σ (q + 3) 3 = 0) {ra p j d : Nat} (hra : cR σ (q + 3) 6 = some ra) (hN : cN σ ra = 65536) {x y rv : Int32} (hed : cI σ (q + 3) 2 = cI σ (q + 3) 1 + Int32.ofNat d) (hdl : d ≤ 65535) (hj : j < d) (hp : p = (ps (cI σ (q + 3) 1) + j) % 65536) (hk : ρ.1 40 (65536 * e + p) = 0) (hx : x ≠ 0) (hxy : x &&& 255 = y &&& 255) :
    G3x own q e (wi (wi σ ra p x) (q + 3) 5 (cI σ (q + 3) 5 + 1)) (si (si ρ 40 (65536 * e + p) 1) 39 (65536 * e + p) y) U 0 := by
  subst hz
  unfold G3x at h ⊢
  obtain ⟨h1, h2, h3, h4, ⟨h5, h5a, h5b⟩, h6, h7, h8, h9, ra', k1, k2, k3, k4⟩ := h
  have era : ra' = ra := by rw [k1] at hra; exact Option.some.inj hra
  subst era
  have hne : ra' ≠ q + 3 := fun e => by have := (qkd hq σ).2.2.1; rw [← e] at this; omega
  obtain ⟨σ', hσ'⟩ : ∃ s, s = wi (wi σ ra' p x) (q + 3) 5 (cI σ (q + 3) 5 + 1) := ⟨_, rfl⟩
  obtain ⟨ρ', hρ'⟩ : ∃ s, s = si (si ρ 40 (65536 * e + p) 1) 39 (65536 * e + p) y := ⟨_, rfl⟩
  rw [← hσ', ← hρ']
  have c1 : ∀ i, i ≠ 5 → cI σ' (q + 3) i = cI σ (q + 3) i := fun i hi => by rw [hσ', wi_ne _ _ _ _ (by omega), wi_ne _ _ _ _ (by omega)]
  have c5 : cI σ' (q + 3) 5 = cI σ (q + 3) 5 + 1 := by rw [hσ', wi_eq]
  have cr : ∀ i, cI σ' ra' i = if i = p then x else cI σ ra' i := fun i => by
    rw [hσ', wi_ne _ _ _ _ (by omega), wi_I]
    by_cases e1 : i = p
    · rw [if_pos ⟨rfl, e1⟩, if_pos e1]
    · rw [if_neg (fun h => e1 h.2), if_neg e1]
  have r0 : ∀ r i, r ≠ 39 → r ≠ 40 → ρ'.1 r i = ρ.1 r i := fun r i a b => by rw [hρ', si_ne _ _ _ _ (by omega), si_ne _ _ _ _ (by omega)]
  have r40 : ∀ i, ρ'.1 40 i = if i = 65536 * e + p then 1 else ρ.1 40 i := fun i => by
    rw [hρ', si_ne _ _ _ _ (by omega), si_1]
    by_cases e1 : i = 65536 * e + p
    · rw [if_pos ⟨rfl, e1⟩, if_pos e1]
    · rw [if_neg (fun h => e1 h.2), if_neg e1]
  have r39 : ∀ i, ρ'.1 39 i = if i = 65536 * e + p then y else ρ.1 39 i := fun i => by
    rw [hρ', si_1]
    by_cases e1 : i = 65536 * e + p
    · rw [if_pos ⟨rfl, e1⟩, if_pos e1]
    · rw [if_neg (fun h => e1 h.2), if_neg e1, si_ne _ _ _ _ (by omega)]
  have hr := ps_lt (cI σ (q + 3) 1)
  have hpl : p < 65536 := by omega
  obtain ⟨d', d1, d2, d3⟩ := h8 hft
  have hdd : d' = d := by
    have : cI σ (q + 3) 1 + Int32.ofNat d' = cI σ (q + 3) 1 + Int32.ofNat d := by rw [← d1, hed]
    exact (e32 _ (by omega) (by omega)).mp this
  subst hdd
  have hfu : ps (cI σ (q + 3) 1) = (ps (cI σ (q + 3) 7) + U) % 65536 := by
    rw [← ps_add _ _ (by omega)]
    congr 1
    rw [h7, hft, h5a]; grind
  have hb := ps_lt (cI σ (q + 3) 7)
  have hnup : ¬ up (cI σ (q + 3) 7) U p := fun hh => by
    unfold up at hh
    omega
  have kk' : ∀ n, p < n → kc (ρ'.1 40) e n = kc (ρ.1 40) e n + 1 := fun n hn => by
    have h0 := kc_set (ρ.1 40) e p 1 n hn
    rw [if_pos hk, if_neg (show ¬ (1 : Int32) = 0 by decide), Nat.add_zero] at h0
    rw [← h0, show ρ'.1 40 = (fun j => if j = 65536 * e + p then 1 else ρ.1 40 j) from funext r40]
  have kk := kk' 65536 hpl
  rw [c1 0 (by omega), c1 1 (by omega), c1 2 (by omega), c1 3 (by omega), c1 4 (by omega), c5, c1 7 (by omega), kk, r0 7 e (by omega) (by omega), r0 18 e (by omega) (by omega), r0 19 e (by omega) (by omega), r0 37 e (by omega) (by omega), r0 31 e (by omega) (by omega), show cR σ' = cR σ by rw [hσ']; rfl]
  refine ⟨h1, h2, h3, h4, ⟨h5, h5a, h5b⟩, ?_, h7, fun _ => ⟨d', d1, d2, fun p' hp' hk' => ⟨by omega, ?_⟩⟩, fun p' hp' => ?_, ra', k1, by rw [hσ']; exact k2, k3, Or.inr ⟨by rw [hσ']; exact hN, fun p' hp' => ?_⟩⟩
  · rw [h6]; exact (nI_succ _).symm
  · rw [r40] at hk'
    by_cases e1 : p' = p
    · subst e1; omega
    · rw [if_neg (by omega)] at hk'
      exact (d3 p' hp' hk').2
  · rw [r40]
    by_cases e1 : p' = p
    · rw [if_pos (by omega)]
      exact ⟨Or.inr rfl, fun hh => absurd (e1 ▸ hh) hnup⟩
    · rw [if_neg (by omega)]
      exact h9 p' hp'
  · rw [r40, r39, cr]
    rcases k4 with ⟨k4, _⟩ | ⟨_, k5⟩
    · omega
    by_cases e1 : p' = p
    · rw [if_pos (show 65536 * e + p' = 65536 * e + p by omega), if_pos (show 65536 * e + p' = 65536 * e + p by omega), if_pos e1]
      exact ⟨fun _ => ⟨hx, hxy⟩, fun _ hh => absurd hh (by decide)⟩
    · rw [if_neg (show ¬ 65536 * e + p' = 65536 * e + p by omega), if_neg (show ¬ 65536 * e + p' = 65536 * e + p by omega), if_neg e1]
      exact k5 p' hp'
/-- one kept byte becomes unread -/
theorem G3x.take (hq : q = 7 ∨ q = 14) (h : G3x own q e σ ρ U z) (hft : cI σ (q + 3) 3 = 0) {d : Nat} (hed : cI σ (q + 3) 2 = cI σ (q + 3) 1 + Int32.ofNat (d + 1)) (hdl : d + 1 + U ≤ 65535) {p : Nat} (hp : p = ps (cI σ (q + 3) 1)) (hk : ρ.1 40 (65536 * e + p) ≠ 0) :
    G3x own q e (wi (wi (wi σ (q + 3) 1 (cI σ (q + 3) 1 + 1)) (q + 3) 5 (cI σ (q + 3) 5 - 1)) (q + 3) 4 (cI σ (q + 3) 4 + 1)) (si (si (si ρ 40 (65536 * e + p) 0) 18 e (ρ.1 18 e + 1)) 31 e (ρ.1 31 e + 1)) (U + 1) 0 := by
  unfold G3x at h ⊢
  obtain ⟨h1, h2, h3, h4, ⟨h5, h5a, h5b⟩, h6, h7, h8, h9, ra, k1, k2, k3, k4⟩ := h
  have hne : ra ≠ q + 3 := fun e => by have := (qkd hq σ).2.2.1; rw [← e] at this; omega
  obtain ⟨σ', hσ'⟩ : ∃ s, s = wi (wi (wi σ (q + 3) 1 (cI σ (q + 3) 1 + 1)) (q + 3) 5 (cI σ (q + 3) 5 - 1)) (q + 3) 4 (cI σ (q + 3) 4 + 1) := ⟨_, rfl⟩
  obtain ⟨ρ', hρ'⟩ : ∃ s, s = si (si (si ρ 40 (65536 * e + p) 0) 18 e (ρ.1 18 e + 1)) 31 e (ρ.1 31 e + 1) := ⟨_, rfl⟩
  rw [← hσ', ← hρ']
  have c1 : ∀ i, i ≠ 1 → i ≠ 5 → i ≠ 4 → cI σ' (q + 3) i = cI σ (q + 3) i := fun i a b c => by rw [hσ', wi_ne _ _ _ _ (by omega), wi_ne _ _ _ _ (by omega), wi_ne _ _ _ _ (by omega)]
  have v1 : cI σ' (q + 3) 1 = cI σ (q + 3) 1 + 1 := by rw [hσ', wi_ne _ _ _ _ (by omega), wi_ne _ _ _ _ (by omega), wi_eq]
  have v5 : cI σ' (q + 3) 5 = cI σ (q + 3) 5 - 1 := by rw [hσ', wi_ne _ _ _ _ (by omega), wi_eq]
  have v4 : cI σ' (q + 3) 4 = cI σ (q + 3) 4 + 1 := by rw [hσ', wi_eq]
  have cr : cI σ' ra = cI σ ra := funext fun i => by rw [hσ', wi_ne _ _ _ _ (by omega), wi_ne _ _ _ _ (by omega), wi_ne _ _ _ _ (by omega)]
  have r0 : ∀ r i, r ≠ 40 → r ≠ 18 → r ≠ 31 → ρ'.1 r i = ρ.1 r i := fun r i a b c => by rw [hρ', si_ne _ _ _ _ (by omega), si_ne _ _ _ _ (by omega), si_ne _ _ _ _ (by omega)]
  have r40 : ∀ i, ρ'.1 40 i = if i = 65536 * e + p then 0 else ρ.1 40 i := fun i => by
    rw [hρ', si_ne _ _ _ _ (by omega), si_ne _ _ _ _ (by omega), si_1]
    by_cases e1 : i = 65536 * e + p
    · rw [if_pos ⟨rfl, e1⟩, if_pos e1]
    · rw [if_neg (fun h => e1 h.2), if_neg e1]
  have r18 : ρ'.1 18 e = ρ.1 18 e + 1 := by rw [hρ', si_ne _ _ _ _ (by omega), si_eq]
  have r31 : ρ'.1 31 e = ρ.1 31 e + 1 := by rw [hρ', si_eq]
  have hr := ps_lt (cI σ (q + 3) 1)
  have hpl : p < 65536 := by omega
  have kk' : ∀ n, p < n → kc (ρ'.1 40) e n + 1 = kc (ρ.1 40) e n := fun n hn => by
    have h0 := kc_set (ρ.1 40) e p 0 n hn
    rw [if_neg hk, if_pos (show (0 : Int32) = 0 from rfl)] at h0
    rw [show ρ'.1 40 = (fun j => if j = 65536 * e + p then 0 else ρ.1 40 j) from funext r40]
    omega
  have kk := kk' 65536 hpl
  have hps1 : ps (cI σ (q + 3) 1 + 1) = (ps (cI σ (q + 3) 1) + 1) % 65536 := ps_add _ 1 (by omega)
  have hfu : ps (cI σ (q + 3) 1) = (ps (cI σ (q + 3) 7) + U) % 65536 := by
    rw [← ps_add _ _ (by omega)]
    congr 1
    rw [h7, hft, h5a]; grind
  have hb := ps_lt (cI σ (q + 3) 7)
  have hup : ∀ p', p' < 65536 → (up (cI σ (q + 3) 7) (U + 1) p' ↔ up (cI σ (q + 3) 7) U p' ∨ p' = p) := fun p' hp' => by
    unfold up
    constructor
    · intro hh; omega
    · intro hh; omega
  obtain ⟨d', d1, d2, d3⟩ := h8 hft
  have hdd : d' = d + 1 := by
    have : cI σ (q + 3) 1 + Int32.ofNat d' = cI σ (q + 3) 1 + Int32.ofNat (d + 1) := by rw [← d1, hed]
    exact (e32 _ (by omega) (by omega)).mp this
  subst hdd
  have hkc : kc (ρ.1 40) e 65536 ≤ 65536 := kc_le _ _ _
  rw [c1 0 (by omega) (by omega) (by omega), v1, c1 2 (by omega) (by omega) (by omega), c1 3 (by omega) (by omega) (by omega), v4, v5, c1 7 (by omega) (by omega) (by omega), r0 7 e (by omega) (by omega) (by omega), r18, r0 19 e (by omega) (by omega) (by omega), r0 37 e (by omega) (by omega) (by omega), r31, show cR σ' = cR σ by rw [hσ']; rfl]
  refine ⟨h1, by rw [h2], h3, h4, ⟨by rw [h5], by rw [h5a]; exact (nI_succ U).symm, by omega⟩, ?_, ?_, fun _ => ⟨d, ?_, by omega, fun p' hp' hk' => ⟨by omega, ?_⟩⟩, fun p' hp' => ?_, ra, k1, by rw [hσ']; exact k2, k3, ?_⟩
  · rw [h6, ← kk, show Int32.ofNat (kc (ρ'.1 40) e 65536 + 1) = Int32.ofNat (kc (ρ'.1 40) e 65536) + 1 from nI_succ _]; grind
  · rw [h7, hft]; grind
  · rw [d1, show Int32.ofNat (d + 1) = Int32.ofNat d + 1 from nI_succ d]; grind
  · rw [r40] at hk'
    by_cases e1 : p' = p
    · rw [if_pos (show 65536 * e + p' = 65536 * e + p by omega)] at hk'
      exact absurd rfl hk'
    · rw [if_neg (show ¬ 65536 * e + p' = 65536 * e + p by omega)] at hk'
      have := (d3 p' hp' hk').2
      rw [hps1]
      omega
  · rw [r40, hup p' hp']
    by_cases e1 : p' = p
    · rw [if_pos (show 65536 * e + p' = 65536 * e + p by omega)]
      exact ⟨Or.inl rfl, fun _ => rfl⟩
    · rw [if_neg (show ¬ 65536 * e + p' = 65536 * e + p by omega)]
      exact ⟨(h9 p' hp').1, fun hh => (h9 p' hp').2 (hh.resolve_right e1)⟩
  · rcases k4 with ⟨k4, k5, k6⟩ | ⟨k4, k5⟩
    · exact absurd (k6 p hpl) hk
    · refine Or.inr ⟨by rw [hσ']; exact k4, fun p' hp' => ?_⟩
      rw [hup p' hp', r40, cr, r0 39 _ (by omega) (by omega) (by omega)]
      by_cases e1 : p' = p
      · subst e1
        exact ⟨fun _ => (k5 p' hp').1 (Or.inr hk), fun hh => absurd (Or.inr rfl) hh⟩
      · rw [if_neg (show ¬ 65536 * e + p' = 65536 * e + p by omega)]
        exact ⟨fun hh => (k5 p' hp').1 (hh.elim (fun x => Or.inl (x.resolve_right e1)) Or.inr), fun hh => (k5 p' hp').2 (fun x => hh (Or.inl x))⟩
end RG
