/-! what follows a send -/
theorem d32 (I : Int32) {a b : Nat} (ha : a < 1000000) (hb : b < 1000000) : (I + Int32.ofNat a - (I + Int32.ofNat b)).toInt = (a : Int) - (b : Int) := by
  rw [show I + Int32.ofNat a - (I + Int32.ofNat b) = Int32.ofNat a - Int32.ofNat b by grind]
  exact x32_sub (x32_nat (by omega)) (x32_nat (by omega)) (by omega) (by omega)
theorem e32 (I : Int32) {a b : Nat} (ha : a < 1000000) (hb : b < 1000000) : I + Int32.ofNat a = I + Int32.ofNat b ↔ a = b := by
  constructor
  · intro h
    have := d32 I ha hb
    rw [h, show I + Int32.ofNat b - (I + Int32.ofNat b) = 0 by grind, z32_0] at this
    omega
  · intro h; rw [h]
theorem a32 (I : Int32) (a b : Nat) : I + Int32.ofNat a + Int32.ofNat b = I + Int32.ofNat (a + b) := by
  rw [show Int32.ofNat (a + b) = Int32.ofNat a + Int32.ofNat b from Int32.ofNat_add a b]; grind
theorem b315 {ρ : RS} {v1 w : Int32} {e : Nat} (hv : v1.toInt = (e : Int)) (he : e < 2) : b_send_315 v1 w ρ = some (if w - ρ.1 13 e ≤ 0 then ρ else si ρ 13 e w) := by
  have hi := x32_in hv he
  have hc := x32_n hv
  unfold b_send_315 m_above b_above_11 b_send_337
  simp only [gd_t hi, bd_e]
  rw [hc]
  by_cases h : w - ρ.1 13 e ≤ 0
  · rw [if_pos h, if_pos h, gd_t (Or.inl trivial), bc2_e, if_pos rfl]
  · rw [if_neg h, if_neg h, gd_t (Or.inr trivial), bc2_e, if_neg (by decide)]
def tmR (ρ : RS) (e : Nat) (num w : Int32) : RS := if num = ρ.1 13 e ∧ ρ.1 35 e = 0 then sl (si (si ρ 35 e 1) 27 e w) 34 e (ρ.2 0 3) else ρ
def inc (f : Int32) : Nat := if f &&& 3 = 0 then 0 else 1
theorem b246 {ρ : RS} {v1 f num nn : Int32} {e k : Nat} (hv : v1.toInt = (e : Int)) (he : e < 2) (hn : nn.toInt = (k : Int)) (hk : k < 10000) : b_send_246 v1 f num nn ρ = if k + inc f = 0 then some ρ else (b_send_315 v1 (num + Int32.ofNat (k + inc f)) (tmR ρ e num (num + Int32.ofNat (k + inc f)))) := by
  have hi := x32_in hv he
  have hc := x32_n hv
  have hnn : nn = Int32.ofNat k := x32_of (by omega) hn
  have key : ∀ (j : Nat) (w1 : Int32), w1 = Int32.ofNat j → j < 2 → b_send_261 v1 num (num + nn) w1 ρ = if k + j = 0 then some ρ else b_send_315 v1 (num + Int32.ofNat (k + j)) (tmR ρ e num (num + Int32.ofNat (k + j))) := by
    intro j w1 hw hj
    have e1 : num + nn + w1 = num + Int32.ofNat (k + j) := by rw [hnn, hw, a32]
    unfold b_send_261
    rw [bd_e, e1]
    by_cases h0 : k + j = 0
    · rw [if_pos h0, if_pos (by rw [h0]; show num + 0 = num; grind)]
    · rw [if_neg h0, if_neg (fun h => h0 (by
        have h2 : num + Int32.ofNat (k + j) = num + Int32.ofNat 0 := by rw [h]; show num = num + 0; grind
        exact (e32 num (by omega) (by omega)).mp h2))]
      unfold tmR
      simp only [gd_t hi, bd_e]
      rw [hc]
      by_cases h1 : num = ρ.1 13 e
      · rw [if_pos h1]
        by_cases h2 : ρ.1 35 e = 0
        · rw [if_pos h2, if_pos ⟨h1, h2⟩, nar_b1]
          rfl
        · rw [if_neg h2, if_neg (fun h => h2 h.2)]
      · rw [if_neg h1, if_neg (fun h => h1 h.1)]
  unfold b_send_246 inc
  by_cases h3 : f &&& 3 = 0
  · rw [if_pos h3, if_pos h3]
    exact key 0 0 rfl (by omega)
  · rw [if_neg h3, if_neg h3]
    exact key 1 1 rfl (by omega)
theorem ack_sim {own : Nat → Nat} {P C : List (Nat × Nat)} {S : List Nat} {c1 c2 K q e : Nat} {σ : CS} {ρ : RS} {τ st u nr n m g U : Nat} {rn : Int32} {tr : Nat} (hqe : q = 7 ∧ e = 0 ∨ q = 14 ∧ e = 1) (N : NB own P C S c1 c2 K σ ρ) (E : EGx own q e σ ρ τ st u nr n m g U rn tr) (hB : ∀ i, isB (ρ.1 38 i)) (hc0 : ρ.1 0 4 ≠ 0) {v1 f num v4 : Int32} (hv : v1.toInt = (e : Int)) (hf : f = 0 ∨ f = 4) :
    ∃ σ' ρ' own', m_E_send q f num 0 σ = some σ' ∧ m_send v1 f num v4 0 ρ = some ρ' ∧ EGx own' q e σ' ρ' τ st u nr n m g U rn tr ∧ EP K C own own' e σ σ' ρ ρ' ∧ SE q e σ σ' ρ ρ' := by
  obtain ⟨σ', ρ', own', h1, h2, h3, h4, h5⟩ := send_sim (f := f) (num := num) (nn := 0) (v4 := v4) (k := 0) (a := 0) hqe N E hB hc0 hv (by decide) (by omega) (by omega) (Or.inl rfl) (Or.inl (hf.elim Or.inl fun h => Or.inr (Or.inr h)))
  refine ⟨σ', ρ', own', h1, ?_, h3, h4, h5⟩
  rw [h2, b246 hv (by omega) (k := 0) (by decide) (by omega), if_pos]
  rcases hf with rfl | rfl <;> decide
/-- a send of what was sent before -/
theorem again_sim {own : Nat → Nat} {P C : List (Nat × Nat)} {S : List Nat} {c1 c2 K q e : Nat} {σ : CS} {ρ : RS} {τ st u nr n m g U : Nat} {rn : Int32} {tr : Nat} (hqe : q = 7 ∧ e = 0 ∨ q = 14 ∧ e = 1) (N : NB own P C S c1 c2 K σ ρ) (E : EGx own q e σ ρ τ st u nr n m g U rn tr) (hB : ∀ i, isB (ρ.1 38 i)) (hc0 : ρ.1 0 4 ≠ 0) {v1 f num nn v4 : Int32} (hv : v1.toInt = (e : Int)) {k a : Nat} (hn : nn.toInt = (k : Int)) (hk : k ≤ 1460) (hnum : num = cI σ (q + 1) 3 + Int32.ofNat a) (hd : k = 0 ∨ (1 ≤ a ∧ v4 = Int32.ofNat (a - 1) ∧ u ≤ a ∧ a - 1 + k ≤ g)) (hf : f = 0 ∨ f = 1 ∨ f = 2 ∧ k = 0 ∧ (e = 0 ↔ st = 2)) (ham : a < m) (hb : a + k + inc f ≤ m) :
    ∃ σ' ρ' own', m_E_send q f num nn σ = some σ' ∧ m_send v1 f num v4 nn ρ = some ρ' ∧ EGx own' q e σ' ρ' τ st u nr n m g U rn tr ∧ EP K C own own' e σ σ' ρ ρ' ∧ SE q e σ σ' ρ ρ' := by
  have hm : m ≤ g + 2 ∧ g ≤ 10240 := by have := E.2.1.2.2.2.2.2.2.2.2.2.1; omega
  obtain ⟨σ', ρ', own', h1, h2, h3, h4, h5⟩ := send_sim (f := f) (num := num) (nn := nn) (v4 := v4) (k := k) (a := a) hqe N E hB hc0 hv hn hk (by omega) (hd.elim Or.inl fun h => Or.inr ⟨hnum, h⟩) (by
    rcases hf with h | h | h
    · exact Or.inl (Or.inl h)
    · exact Or.inl (Or.inr (Or.inl h))
    · exact Or.inr h)
  refine ⟨σ', ρ', own', h1, ?_, h3, h4, h5⟩
  have hmax : ρ'.1 13 e = cI σ (q + 1) 3 + Int32.ofNat m := by
    have := h3.2.1.2.2.2.1
    rw [this.1, this.2, (h5.1 (q + 1) (Or.inl rfl)).1]
  rw [h2, b246 hv (by omega) hn (by omega)]
  by_cases h0 : k + inc f = 0
  · rw [if_pos h0]
  · rw [if_neg h0]
    have ht : tmR ρ' e num (num + Int32.ofNat (k + inc f)) = ρ' := by
      unfold tmR
      rw [if_neg (fun h => ?_)]
      have h := h.1
      rw [hmax, hnum, e32 _ (by omega) (by omega)] at h
      omega
    rw [ht, b315 hv (by omega), if_pos]
    rw [hmax, hnum, a32]
    exact x32_le' (d32 _ (by omega) (by omega)) z32_0 (by omega)
theorem ztime {σ : CS} {q : Nat} (hq : q = 7 ∨ q = 14) (x : Int32) (t : Int64) : m_Z_time (q + 5) x t σ = some (if cI σ (q + 5) 6 = 0 then wl (wi (wi σ (q + 5) 6 1) (q + 5) 7 x) (q + 5) 8 t else σ) := by
  unfold m_Z_time b_Z_time_22
  rw [gd_t (by omega), bd_e, gd_t z01_1, bd_e, bd_e, bd_e]
  split <;> rfl
theorem ufollow {σ : CS} {q : Nat} (hq : q = 7 ∨ q = 14) (x : Int32) : m_U_follow (q + 1) x σ = some (if x - cI σ (q + 1) 6 ≤ 0 then wi σ (q + 1) 5 x else wi (wi σ (q + 1) 5 x) (q + 1) 6 x) := by
  have e1 : cI (wi σ (q + 1) 5 x) (q + 1) 5 = x := if_pos ⟨rfl, rfl⟩
  have e2 : cI (wi σ (q + 1) 5 x) (q + 1) 6 = cI σ (q + 1) 6 := if_neg (by omega)
  unfold m_U_follow b_U_follow_25
  rw [gd_t (by omega), bd_e, bd_e, bd_e, e1, e2, bd_e, bd_e]
  split <;> rfl
theorem G2x.num {own : Nat → Nat} {q e : Nat} {σ σ' : CS} {ρ ρ' : RS} {u nr n m g u' n' m' : Nat} (h : G2x own q e σ ρ u nr n m g) (hq : q = 7 ∨ q = 14) (hu : u' = u) (c5 : cI σ' (q + 1) 5 = cI σ (q + 1) 3 + Int32.ofNat n') (c6 : cI σ' (q + 1) 6 = cI σ (q + 1) 3 + Int32.ofNat m') (co : ∀ j, j ≠ 5 → j ≠ 6 → cI σ' (q + 1) j = cI σ (q + 1) j) (cr : cR σ' (q + 1) = cR σ (q + 1)) (F : fr (fun x => own x = 2 + e) σ σ') (r12 : ρ'.1 12 e = cI σ' (q + 1) 5) (r13 : ρ'.1 13 e = cI σ' (q + 1) 6) (ro : ∀ r, (r = 10 ∨ r = 11 ∨ (14 ≤ r ∧ r ≤ 16) ∨ r = 32 ∨ r = 36) → ρ'.1 r e = ρ.1 r e) (r38 : ρ'.1 38 = ρ.1 38) (hnm : u ≤ n' ∧ n' ≤ m' ∧ m' ≤ g + 2) (hcl : cI σ (q + 1) 8 = 0 → m' ≤ g + 1) (h04 : ρ'.1 0 4 = ρ.1 0 4 := by first | rfl | assumption) : G2 own q e σ' ρ' u' n' m' g := by
  subst hu
  unfold G2
  unfold G2x at h ⊢
  rw [r12, r13, c5, c6, cr, co 3 (by omega) (by omega), co 4 (by omega) (by omega), co 7 (by omega) (by omega), co 8 (by omega) (by omega), co 9 (by omega) (by omega), co 10 (by omega) (by omega), co 11 (by omega) (by omega), co 1 (by omega) (by omega), co 2 (by omega) (by omega), ro 10 (by omega), ro 11 (by omega), ro 14 (by omega), ro 15 (by omega), ro 16 (by omega), ro 32 (by omega), ro 36 (by omega), r38, h04]
  obtain ⟨h1, h2, h3, h4, h5, ⟨h6, h6'⟩, h7, h8, h9, h10, s, ab, k1, k2, k3, k4, k5, k6, k7, k8, k9⟩ := h
  obtain ⟨b1, b2, b3, b4, b5⟩ := F ab k5
  refine ⟨h1, h2, ⟨rfl, rfl⟩, ⟨rfl, rfl⟩, h5, ⟨h6, ?_⟩, h7, h8, h9, ⟨hnm.1, hnm.2.1, hnm.2.2, h10.2.2.2⟩, s, ab, k1, k2, k3, by rw [b5]; exact k4, k5, by rw [b4]; exact k6, by rw [b4]; exact k7, by rw [b4]; exact k8, fun i hi => by rw [b1]; exact k9 i hi⟩
  rcases h6' with h | h
  · exact Or.inl ⟨h.1, hcl h.1⟩
  · exact Or.inr h
