/-! how much is to be sent, both sides -/
def bx (u n g cw F sg : Nat) : Int := min (min ((g + 1 - n : Nat) : Int) (((min cw F : Nat) : Int) - ((n : Int) - (u : Int)))) (sg : Int)
def bk (u n g cw F sg : Nat) : Nat := if 0 < bx u n g cw F sg ∧ (bx u n g cw F sg = ((g + 1 - n : Nat) : Int) ∨ bx u n g cw F sg = (sg : Int) ∨ n = u) then (bx u n g cw F sg).toNat else 0
theorem mn32 {a b : Int32} {x y : Int} (ha : a.toInt = x) (hb : b.toInt = y) : (if b < a then b else a).toInt = min x y := by
  by_cases h : y < x
  · rw [if_pos (x32_lt' hb ha h), hb]; omega
  · rw [if_neg (x32_nlt hb ha (by omega)), ha]; omega
theorem mn32' {a b : Int32} {x y : Int} (ha : a.toInt = x) (hb : b.toInt = y) : (if b ≤ a then b else a).toInt = min x y := by
  by_cases h : y ≤ x
  · rw [if_pos (x32_le' hb ha h), hb]; omega
  · rw [if_neg (x32_nle hb ha (by omega)), ha]; omega
theorem uns {I : Int32} {g n : Nat} (hg : g < 100000) (hn : n < 100000) : (if I + 1 + Int32.ofNat g - (I + Int32.ofNat n) < 0 then (0 : Int32) else I + 1 + Int32.ofNat g - (I + Int32.ofNat n)) = Int32.ofNat (g + 1 - n) := by
  have h : (I + 1 + Int32.ofNat g - (I + Int32.ofNat n)).toInt = (g : Int) + 1 - (n : Int) := by
    rw [show I + 1 + Int32.ofNat g = I + Int32.ofNat (g + 1) by rw [show Int32.ofNat (g + 1) = Int32.ofNat g + 1 from nI_succ g]; grind, d32 I (by omega) (by omega)]; omega
  by_cases hc : g + 1 < n
  · rw [if_pos (x32_lt' h z32_0 (by omega)), show g + 1 - n = 0 by omega]; rfl
  · rw [if_neg (x32_nlt h z32_0 (by omega))]
    exact x32_of (by omega) (by rw [h]; omega)
section OUT
variable {own : Nat → Nat} {q e : Nat} {σ : CS} {ρ : RS} {u n m g : Nat}
theorem c_unsent (hq : q = 7 ∨ q = 14) (h : G2 own q e σ ρ u n m g) (hc0 : ρ.1 0 4 ≠ 0) : m_U_unsent (q + 1) σ = some (Int32.ofNat (g + 1 - n), σ) := by
  obtain ⟨h1, h2, h3, h4, h5, h6, h7, h8, h9, h10, _⟩ := h
  unfold m_U_unsent
  rw [gd_t (by omega), bd_e, bd_e, bd_e, h5.2 hc0, h3.2, uns (by omega) (by omega)]
theorem c_flight (hq : q = 7 ∨ q = 14) (h : G2 own q e σ ρ u n m g) : m_U_flight (q + 1) σ = some (Int32.ofNat (n - u), σ) := by
  obtain ⟨h1, h2, h3, h4, h5, h6, h7, h8, h9, h10, _⟩ := h
  unfold m_U_flight
  rw [gd_t (by omega), bd_e, bd_e, h2.2, h3.2]
  congr 2
  exact x32_of (by omega) (by rw [d32 _ (by omega) (by omega)]; omega)
theorem r_left (he : e < 2) {v1 : Int32} (hv : v1.toInt = (e : Int)) (h : G2 own q e σ ρ u n m g) : m_left v1 ρ = some (Int32.ofNat (g + 1 - n), ρ) := by
  obtain ⟨h1, h2, h3, h4, h5, h6, h7, h8, h9, h10, _⟩ := h
  have hi := x32_in hv he
  unfold m_left b_left_32
  simp only [gd_t hi, bd_e]
  rw [x32_n hv, h5.1, h3.1, h1]
  have ex : (Int32.ofNat g - (cI σ (q + 1) 3 + Int32.ofNat n - cI σ (q + 1) 3 - 1)).toInt = (g : Int) + 1 - (n : Int) := by
    rw [show Int32.ofNat g - (cI σ (q + 1) 3 + Int32.ofNat n - cI σ (q + 1) 3 - 1) = (0 + Int32.ofNat (g + 1)) - (0 + Int32.ofNat n) by rw [show Int32.ofNat (g + 1) = Int32.ofNat g + 1 from nI_succ g]; grind, d32 0 (by omega) (by omega)]; omega
  by_cases hc : n ≤ g + 1
  · rw [if_pos (x32_le' z32_0 ex (by omega))]
    congr 2
    exact x32_of (by omega) (by rw [ex]; omega)
  · rw [if_neg (x32_nle z32_0 ex (by omega)), show g + 1 - n = 0 by omega]; rfl
theorem c_bytes (hq : q = 7 ∨ q = 14) (h : G2 own q e σ ρ u n m g) (hc0 : ρ.1 0 4 ≠ 0) {sg cw F : Nat} (hsg : cI σ (q + 6) 0 = Int32.ofNat sg) (hcw : cI σ (q + 6) 1 = Int32.ofNat cw) (hF : cI σ (q + 1) 9 = Int32.ofNat F) (hs : sg ≤ 1460) (hc : cw ≤ 1000000) (hF2 : F ≤ 65535) : m_E_bytesToSend q σ = some (Int32.ofNat (bk u n g cw F sg), σ) := by
  have h10 := h.2.2.2.2.2.2.2.2.2.1
  have x1 := mn32 (show (cI σ (q + 6) 1).toInt = (cw : Int) by rw [hcw]; exact x32_nat (by omega)) (show (cI σ (q + 1) 9).toInt = (F : Int) by rw [hF]; exact x32_nat (by omega))
  unfold m_E_bytesToSend
  rw [gd_t hq, c_unsent hq h hc0, bc2_e, bd_e, bd_e]
  generalize (if cI σ (q + 1) 9 < cI σ (q + 6) 1 then cI σ (q + 1) 9 else cI σ (q + 6) 1) = A at x1 ⊢
  have x2 := x32_sub x1 (show (Int32.ofNat (n - u)).toInt = ((n - u : Nat) : Int) from x32_nat (by omega)) (by omega) (by omega)
  rw [bd_e, c_flight hq h, bc2_e, bd_e]
  have x3 := mn32 (show (Int32.ofNat (g + 1 - n)).toInt = ((g + 1 - n : Nat) : Int) from x32_nat (by omega)) x2
  generalize (if A - Int32.ofNat (n - u) < Int32.ofNat (g + 1 - n) then A - Int32.ofNat (n - u) else Int32.ofNat (g + 1 - n)) = A2 at x3 ⊢
  have x4 := mn32 x3 (show (cI σ (q + 6) 0).toInt = (sg : Int) by rw [hsg]; exact x32_nat (by omega))
  rw [bd_e, bd_e]
  generalize (if cI σ (q + 6) 0 < A2 then cI σ (q + 6) 0 else A2) = X at x4 ⊢
  rw [bd_e, bd_e, c_flight hq h, bc2_e]
  have x5 : X.toInt = bx u n g cw F sg := by rw [x4]; unfold bx; omega
  have hlo : bx u n g cw F sg ≤ 1460 := by unfold bx; omega
  have hhi : -100000 ≤ bx u n g cw F sg := by unfold bx; omega
  unfold b_E_bytesToSend_76 b_E_bytesToSend_81 b_E_bytesToSend_96 b_E_bytesToSend_97
  rw [hsg]
  have hL : (Int32.ofNat (g + 1 - n)).toInt = ((g + 1 - n : Nat) : Int) := x32_nat (by omega)
  have hS : (Int32.ofNat sg).toInt = (sg : Int) := x32_nat (by omega)
  have hf : (Int32.ofNat (n - u)).toInt = ((n - u : Nat) : Int) := x32_nat (by omega)
  unfold bk
  have hpos : ∀ k : Nat, (k : Int) = bx u n g cw F sg → Int32.ofNat k = X := fun k hk => (x32_of (by omega) (by rw [x5, hk])).symm
  have z11 : ¬ (1 : Int32) = 0 := by decide
  by_cases hb : 0 < bx u n g cw F sg
  · have hX0 : ¬ X ≤ 0 := x32_nle x5 z32_0 (by omega)
    by_cases w1 : bx u n g cw F sg = ((g + 1 - n : Nat) : Int)
    · rw [if_pos (x32_eq' x5 hL w1), if_neg hX0, if_neg z11, if_pos ⟨hb, Or.inl w1⟩, hpos _ (by omega)]
    · rw [if_neg (x32_ne x5 hL w1)]
      by_cases w2 : bx u n g cw F sg = (sg : Int)
      · rw [if_pos (x32_eq' x5 hS w2), if_neg hX0, if_neg z11, if_pos ⟨hb, Or.inr (Or.inl w2)⟩, hpos _ (by omega)]
      · rw [if_neg (x32_ne x5 hS w2)]
        by_cases w3 : n = u
        · rw [if_pos (x32_eq' hf z32_0 (by omega)), if_neg hX0, if_neg z11, if_pos ⟨hb, Or.inr (Or.inr w3)⟩, hpos _ (by omega)]
        · rw [if_neg (x32_ne hf z32_0 (by omega)), if_neg hX0, if_pos rfl, if_neg (fun hh => hh.2.elim w1 fun h2 => h2.elim w2 w3)]
          rfl
  · have hX0 : X ≤ 0 := x32_le' x5 z32_0 (by omega)
    have hbk0 : (if 0 < bx u n g cw F sg ∧ (bx u n g cw F sg = ((g + 1 - n : Nat) : Int) ∨ bx u n g cw F sg = (sg : Int) ∨ n = u) then (bx u n g cw F sg).toNat else 0) = 0 := if_neg (fun hh => hb hh.1)
    rw [hbk0, if_pos hX0, if_pos hX0]
    split
    · rfl
    · split
      · rfl
      · split <;> rfl
theorem r_step (he : e < 2) {v1 v2 : Int32} (hv : v1.toInt = (e : Int)) (h : G2 own q e σ ρ u n m g) {sg cw F : Nat} (hsg : ρ.1 17 e = Int32.ofNat sg) (hcw : ρ.1 20 e = Int32.ofNat cw) (hF : ρ.1 14 e = Int32.ofNat F) (hs : sg ≤ 1460) (hc : cw ≤ 1000000) (hF2 : F ≤ 65535) (rec : Int32 → Int32 → Int32 → RS → Option (Int32 × RS)) :
    F_output_56 rec v1 v2 1 ρ = if bk u n g cw F sg = 0 then b_output_231 rec v1 v2 1 (Int32.ofNat (g + 1 - n)) ρ else b_output_188 rec v1 v2 1 (Int32.ofNat (bk u n g cw F sg)) ρ := by
  have h10 := h.2.2.2.2.2.2.2.2.2.1
  have hi := x32_in hv he
  have hcl := x32_n hv
  have hnu : ρ.1 12 e - ρ.1 11 e = Int32.ofNat (n - u) := by
    rw [h.2.2.1.1, h.2.1.1, h.2.1.2]
    exact x32_of (by omega) (by rw [d32 _ (by omega) (by omega)]; omega)
  have hnue : (ρ.1 12 e = ρ.1 11 e) ↔ n = u := by
    rw [h.2.2.1.1, h.2.1.1, h.2.1.2]
    exact e32 _ (by omega) (by omega)
  have hL : (Int32.ofNat (g + 1 - n)).toInt = ((g + 1 - n : Nat) : Int) := x32_nat (by omega)
  have hS : (Int32.ofNat sg).toInt = (sg : Int) := x32_nat (by omega)
  have hf : (Int32.ofNat (n - u)).toInt = ((n - u : Nat) : Int) := x32_nat (by omega)
  have hCW : (Int32.ofNat cw).toInt = (cw : Int) := x32_nat (by omega)
  have hFF : (Int32.ofNat F).toInt = (F : Int) := x32_nat (by omega)
  -- the last step
  have s4 : ∀ X : Int32, X.toInt = bx u n g cw F sg → b_output_148 rec v1 v2 (Int32.ofNat (g + 1 - n)) X ρ = if bk u n g cw F sg = 0 then b_output_231 rec v1 v2 1 (Int32.ofNat (g + 1 - n)) ρ else b_output_188 rec v1 v2 1 (Int32.ofNat (bk u n g cw F sg)) ρ := by
    intro X x5
    have hlo : bx u n g cw F sg ≤ 1460 := by unfold bx; omega
    have hpos : ∀ k : Nat, (k : Int) = bx u n g cw F sg → Int32.ofNat k = X := fun k hk => (x32_of (by omega) (by rw [x5, hk])).symm
    unfold b_output_148
    simp only [gd_t hi, bd_e]
    rw [hcl, hsg]
    by_cases hb : 0 < bx u n g cw F sg
    · rw [if_neg (x32_nle x5 z32_0 (by omega))]
      have hyes : (bx u n g cw F sg = ((g + 1 - n : Nat) : Int) ∨ bx u n g cw F sg = (sg : Int) ∨ n = u) → (if bk u n g cw F sg = 0 then b_output_231 rec v1 v2 1 (Int32.ofNat (g + 1 - n)) ρ else b_output_188 rec v1 v2 1 (Int32.ofNat (bk u n g cw F sg)) ρ) = b_output_188 rec v1 v2 1 X ρ := fun hw => by
        have hbk : bk u n g cw F sg = (bx u n g cw F sg).toNat := if_pos ⟨hb, hw⟩
        rw [hbk, if_neg (by omega), hpos _ (by omega)]
      by_cases w1 : bx u n g cw F sg = ((g + 1 - n : Nat) : Int)
      · rw [if_pos (x32_eq' x5 hL w1), hyes (Or.inl w1)]
      · rw [if_neg (x32_ne x5 hL w1)]
        by_cases w2 : bx u n g cw F sg = (sg : Int)
        · rw [if_pos (x32_eq' x5 hS w2), hyes (Or.inr (Or.inl w2))]
        · rw [if_neg (x32_ne x5 hS w2)]
          by_cases w3 : n = u
          · rw [if_pos (hnue.mpr w3), hyes (Or.inr (Or.inr w3))]
          · rw [if_neg (fun h => w3 (hnue.mp h))]
            have hbk : bk u n g cw F sg = 0 := if_neg (fun hh => hh.2.elim w1 fun h2 => h2.elim w2 w3)
            rw [if_pos hbk]
    · have hbk : bk u n g cw F sg = 0 := if_neg (fun hh => hb hh.1)
      rw [if_pos (x32_le' x5 z32_0 (by omega)), if_pos hbk]
  have s3 : ∀ w0 : Int32, w0.toInt = min ((g + 1 - n : Nat) : Int) (((min cw F : Nat) : Int) - ((n : Int) - (u : Int))) → b_output_127 rec v1 v2 (Int32.ofNat (g + 1 - n)) w0 ρ = if bk u n g cw F sg = 0 then b_output_231 rec v1 v2 1 (Int32.ofNat (g + 1 - n)) ρ else b_output_188 rec v1 v2 1 (Int32.ofNat (bk u n g cw F sg)) ρ := by
    intro w0 hw
    unfold b_output_127
    simp only [gd_t hi, bd_e]
    rw [hcl, hsg]
    by_cases hle : min ((g + 1 - n : Nat) : Int) (((min cw F : Nat) : Int) - ((n : Int) - (u : Int))) ≤ (sg : Int)
    · rw [if_pos (x32_le' hw hS hle)]
      exact s4 _ (by rw [hw]; unfold bx; omega)
    · rw [if_neg (x32_nle hw hS (by omega))]
      exact s4 _ (by rw [hS]; unfold bx; omega)
  have s2 : ∀ w0 : Int32, w0.toInt = ((min cw F : Nat) : Int) → b_output_97 rec v1 v2 (Int32.ofNat (g + 1 - n)) w0 ρ = if bk u n g cw F sg = 0 then b_output_231 rec v1 v2 1 (Int32.ofNat (g + 1 - n)) ρ else b_output_188 rec v1 v2 1 (Int32.ofNat (bk u n g cw F sg)) ρ := by
    intro w0 hw
    unfold b_output_97
    simp only [gd_t hi, bd_e]
    rw [hcl, hnu]
    have hx := x32_sub hw hf (by omega) (by omega)
    by_cases hle : ((min cw F : Nat) : Int) - ((n - u : Nat) : Int) ≤ ((g + 1 - n : Nat) : Int)
    · rw [if_pos (x32_le' hx hL hle)]
      exact s3 _ (by rw [hx]; omega)
    · rw [if_neg (x32_nle hx hL (by omega))]
      exact s3 _ (by rw [hL]; omega)
  unfold F_output_56
  rw [if_neg (by decide), r_left he hv h, bc2_e]
  simp only [gd_t hi, bd_e]
  rw [hcl, hcw, hF]
  by_cases hle : F ≤ cw
  · rw [if_pos (x32_le' hFF hCW (by omega))]
    exact s2 _ (by rw [hFF]; omega)
  · rw [if_neg (x32_nle hFF hCW (by omega))]
    exact s2 _ (by rw [hCW]; omega)
theorem bk_le (hsg : 0 < 1) {cw F sg : Nat} : bk u n g cw F sg ≤ sg ∧ bk u n g cw F sg ≤ g + 1 - n := by
  unfold bk bx
  split
  · omega
  · omega
def mu (u n g : Nat) : Nat := (if n = u then 1 else 0) + (g + 1 - n) / 64 + (if n < g + 1 then 1 else 0) + (if n ≤ g + 1 then 1 else 0)
theorem mu_data {cw F sg : Nat} (hun : u ≤ n) (hs : 64 ≤ sg) (hk : bk u n g cw F sg ≠ 0) : mu u (n + bk u n g cw F sg) g < mu u n g := by
  have hb : 0 < bx u n g cw F sg ∧ (bx u n g cw F sg = ((g + 1 - n : Nat) : Int) ∨ bx u n g cw F sg = (sg : Int) ∨ n = u) := by
    refine Decidable.byContradiction fun hc => hk ?_
    exact if_neg hc
  have hbk : bk u n g cw F sg = (bx u n g cw F sg).toNat := if_pos hb
  have hle : bx u n g cw F sg ≤ ((g + 1 - n : Nat) : Int) := by unfold bx; omega
  generalize bx u n g cw F sg = x at hb hbk hle
  generalize bk u n g cw F sg = k at hbk hk
  unfold mu
  obtain ⟨h1, h2⟩ := hb
  rcases h2 with h2 | h2 | h2
  · (repeat' split) <;> omega
  · (repeat' split) <;> omega
  · (repeat' split) <;> omega
theorem mu_fin (hun : u ≤ n) (hn : n = g + 1) : mu u (n + 1) g < mu u n g := by
  unfold mu
  (repeat' split) <;> omega
theorem mu_le (hg : g ≤ 10240) : mu u n g ≤ 170 := by
  unfold mu
  (repeat' split) <;> omega
end OUT
