/-! numbers put into a segment and read out of it, on both sides -/
def SG (σ : CS) (g a len N : Nat) : Prop := kd σ g = 11 ∧ cR σ g 0 = some a ∧ kd σ a = 21 ∧ cI σ g 1 = Int32.ofNat len ∧ cN σ a = N ∧ len ≤ N ∧ N ≤ 1484
theorem SG.ne {σ : CS} {g a len N : Nat} (S : SG σ g a len N) : g ≠ a := fun h => by
  have h1 := S.1
  have h2 := S.2.2.1
  rw [h, h2] at h1
  cases h1
theorem SG.wA {σ : CS} {g a len N : Nat} (S : SG σ g a len N) (C : Nat → Int32) : SG (wA σ a C) g a len N :=
  ⟨S.1, S.2.1, S.2.2.1, by rw [wA_ne _ _ _ S.ne]; exact S.2.2.2.1, S.2.2.2.2⟩
theorem gput_step {σ : CS} {g a len N : Nat} (S : SG σ g a len N) (C : Nat → Int32) (rec : Int32 → Int32 → Int32 → Int32 → CS → Option CS) {v1 v2 v3 v4 : Int32} {at_ n i s : Nat} (h1 : v1.toInt = (at_ : Int)) (h2 : v2.toInt = (n : Int)) (h4 : v4.toInt = (i : Int)) (hi : i < n) (hle : at_ + n ≤ len)
    (w : Int32) (hsh : (8 : Int32) * ((v2 - (1 : Int32)) - v4) = w) (hb : vp_nar .byte (((v3.toUInt32 >>> (w.toUInt32 &&& Int32.toUInt32 31)).toInt32).toInt8.toInt32) = bt v3 s) :
    F_G_put_18 g rec v1 v2 v3 v4 (wA σ a C) = rec v1 v2 v3 (v4 + 1) (wA σ a (fun j => if j = at_ + i then bt v3 s else C j)) := by
  have S' := S.wA C
  obtain ⟨s1, s2, s3, s4, s5, s6, s7⟩ := S'
  unfold F_G_put_18
  have h14 : (v1 + v4).toInt = ((at_ + i : Nat) : Int) := by
    have := x32_add h1 h4 (by omega) (by omega)
    rw [this]; omega
  rw [if_neg (by rw [x32_le h2 h4]; omega), gd_t s1, s2, bc_e, gd_t ⟨s3, by rw [s5]; exact x32_in h14 (by omega)⟩, bd_e, bd_e, x32_n h14, hsh, hb, wi_wA]
theorem gput_end {g : Nat} (σ : CS) (rec : Int32 → Int32 → Int32 → Int32 → CS → Option CS) {v1 v2 v3 v4 : Int32} {n : Nat} (h2 : v2.toInt = (n : Int)) (h4 : v4.toInt = (n : Int)) : F_G_put_18 g rec v1 v2 v3 v4 σ = some σ := by
  unfold F_G_put_18
  rw [if_pos (by rw [x32_le h2 h4]; omega)]
theorem gput_in {σ : CS} {g a len N : Nat} (S : SG σ g a len N) {v1 v2 v3 : Int32} {at_ n : Nat} (h1 : v1.toInt = (at_ : Int)) (h2 : v2.toInt = (n : Int)) (hle : at_ + n ≤ len) : m_G_put g v1 v2 v3 σ = lq5 (F_G_put_18 g) fuel v1 v2 v3 0 σ := by
  have h7 := S.2.2.2.2.2.2
  have h6 := S.2.2.2.2.2.1
  unfold m_G_put
  have h0 : (0 : Int32).toInt = 0 := by decide
  rw [if_neg (by rw [x32_lt h1 h0]; omega), gd_t S.1, bd_e, S.2.2.2.1, if_pos]
  rw [x32_le (x32_add h1 h2 (by omega) (by omega)) (x32_nat (n := len) (by omega))]
  omega
theorem gput1 {σ : CS} {g a len N : Nat} (S : SG σ g a len N) {v1 : Int32} (v3 : Int32) {at_ : Nat} (h1 : v1.toInt = (at_ : Int)) (hle : at_ + 1 ≤ len) : m_G_put g v1 1 v3 σ = some (wA σ a (pu (cI σ a) at_ 1 v3)) := by
  rw [gput_in S h1 (n := 1) (by decide) hle, show fuel = 9999998 + 1 + 1 from rfl]
  show F_G_put_18 g (lq5 (F_G_put_18 g) (9999998 + 1)) v1 1 v3 0 σ = _
  have e := gput_step S (cI σ a) (lq5 (F_G_put_18 g) (9999998 + 1)) (v1 := v1) (v2 := 1) (v3 := v3) (v4 := 0) (at_ := at_) (n := 1) (i := 0) (s := 0) h1 (by decide) (by decide) (by decide) hle 0 (by decide) (bt_c0 v3)
  rw [wA_id] at e
  rw [e]
  show F_G_put_18 g (lq5 (F_G_put_18 g) 9999998) v1 1 v3 (0 + 1) _ = _
  rw [gput_end _ _ (n := 1) (by decide) (by decide)]
  congr 2
  funext j
  unfold pu
  by_cases hj : j = at_
  · subst hj; simp
  · rw [if_neg (by omega), if_neg (by omega)]
theorem gput2 {σ : CS} {g a len N : Nat} (S : SG σ g a len N) {v1 : Int32} (v3 : Int32) {at_ : Nat} (h1 : v1.toInt = (at_ : Int)) (hle : at_ + 2 ≤ len) : m_G_put g v1 2 v3 σ = some (wA σ a (pu (cI σ a) at_ 2 v3)) := by
  rw [gput_in S h1 (n := 2) (by decide) hle, show fuel = 9999997 + 1 + 1 + 1 from rfl]
  show F_G_put_18 g (lq5 (F_G_put_18 g) (9999997 + 1 + 1)) v1 2 v3 0 σ = _
  have e := gput_step S (cI σ a) (lq5 (F_G_put_18 g) (9999997 + 1 + 1)) (v1 := v1) (v2 := 2) (v3 := v3) (v4 := 0) (at_ := at_) (n := 2) (i := 0) (s := 1) h1 (by decide) (by decide) (by decide) hle 8 (by decide) (bt_c1 v3)
  rw [wA_id] at e
  rw [e]
  show F_G_put_18 g (lq5 (F_G_put_18 g) (9999997 + 1)) v1 2 v3 (0 + 1) _ = _
  rw [gput_step S _ _ (v1 := v1) (v2 := 2) (v3 := v3) (v4 := 0 + 1) (at_ := at_) (n := 2) (i := 1) (s := 0) h1 (by decide) (by decide) (by decide) hle 0 (by decide) (bt_c0 v3)]
  show F_G_put_18 g (lq5 (F_G_put_18 g) 9999997) v1 2 v3 (0 + 1 + 1) _ = _
  rw [gput_end _ _ (n := 2) (by decide) (by decide)]
  congr 2
  funext j
  unfold pu
  by_cases hj : j = at_ + 1
  · rw [if_pos hj, if_pos (by omega)]; congr 1; omega
  · rw [if_neg hj]
    by_cases hj : j = at_ + 0
    · rw [if_pos hj, if_pos (by omega)]; congr 1; omega
    · rw [if_neg hj, if_neg (by omega)]
theorem gput4 {σ : CS} {g a len N : Nat} (S : SG σ g a len N) {v1 : Int32} (v3 : Int32) {at_ : Nat} (h1 : v1.toInt = (at_ : Int)) (hle : at_ + 4 ≤ len) : m_G_put g v1 4 v3 σ = some (wA σ a (pu (cI σ a) at_ 4 v3)) := by
  rw [gput_in S h1 (n := 4) (by decide) hle, show fuel = 9999995 + 1 + 1 + 1 + 1 + 1 from rfl]
  show F_G_put_18 g (lq5 (F_G_put_18 g) (9999995 + 1 + 1 + 1 + 1)) v1 4 v3 0 σ = _
  have e := gput_step S (cI σ a) (lq5 (F_G_put_18 g) (9999995 + 1 + 1 + 1 + 1)) (v1 := v1) (v2 := 4) (v3 := v3) (v4 := 0) (at_ := at_) (n := 4) (i := 0) (s := 3) h1 (by decide) (by decide) (by decide) hle 24 (by decide) (bt_c3 v3)
  rw [wA_id] at e
  rw [e]
  show F_G_put_18 g (lq5 (F_G_put_18 g) (9999995 + 1 + 1 + 1)) v1 4 v3 (0 + 1) _ = _
  rw [gput_step S _ _ (v1 := v1) (v2 := 4) (v3 := v3) (v4 := 0 + 1) (at_ := at_) (n := 4) (i := 1) (s := 2) h1 (by decide) (by decide) (by decide) hle 16 (by decide) (bt_c2 v3)]
  show F_G_put_18 g (lq5 (F_G_put_18 g) (9999995 + 1 + 1)) v1 4 v3 (0 + 1 + 1) _ = _
  rw [gput_step S _ _ (v1 := v1) (v2 := 4) (v3 := v3) (v4 := 0 + 1 + 1) (at_ := at_) (n := 4) (i := 2) (s := 1) h1 (by decide) (by decide) (by decide) hle 8 (by decide) (bt_c1 v3)]
  show F_G_put_18 g (lq5 (F_G_put_18 g) (9999995 + 1)) v1 4 v3 (0 + 1 + 1 + 1) _ = _
  rw [gput_step S _ _ (v1 := v1) (v2 := 4) (v3 := v3) (v4 := 0 + 1 + 1 + 1) (at_ := at_) (n := 4) (i := 3) (s := 0) h1 (by decide) (by decide) (by decide) hle 0 (by decide) (bt_c0 v3)]
  show F_G_put_18 g (lq5 (F_G_put_18 g) 9999995) v1 4 v3 (0 + 1 + 1 + 1 + 1) _ = _
  rw [gput_end _ _ (n := 4) (by decide) (by decide)]
  congr 2
  funext j
  unfold pu
  by_cases hj : j = at_ + 3
  · rw [if_pos hj, if_pos (by omega)]; congr 1; omega
  · rw [if_neg hj]
    by_cases hj : j = at_ + 2
    · rw [if_pos hj, if_pos (by omega)]; congr 1; omega
    · rw [if_neg hj]
      by_cases hj : j = at_ + 1
      · rw [if_pos hj, if_pos (by omega)]; congr 1; omega
      · rw [if_neg hj]
        by_cases hj : j = at_ + 0
        · rw [if_pos hj, if_pos (by omega)]; congr 1; omega
        · rw [if_neg hj, if_neg (by omega)]
/-! the reference's -/
theorem x_slot {k at_ : Nat} {v1 v2 : Int32} (h1 : v1.toInt = (k : Int)) (h2 : v2.toInt = (at_ : Int)) (hk : k < 513) (ha : at_ < 1484) : ((1484 : Int32) * v1 + v2).toInt = ((1484 * k + at_ : Nat) : Int) := by
  have e1 := x32_mul (a := 1484) (b := v1) (m := 1484) (by decide) h1 (by omega) (by omega)
  have e2 := x32_add e1 h2 (by omega) (by omega)
  rw [e2]; omega
theorem rput_step (ρ : RS) (k : Nat) (C : Nat → Int32) (rec : Int32 → Int32 → Int32 → Int32 → Int32 → RS → Option RS) {v1 v2 v3 v4 v5 : Int32} {at_ n i s : Nat} (h1 : v1.toInt = (k : Int)) (h2 : v2.toInt = (at_ : Int)) (h3 : v3.toInt = (n : Int)) (h5 : v5.toInt = (i : Int)) (hk : k < 513) (hi : i < n) (hle : at_ + n ≤ 1484)
    (w : Int32) (hsh : (8 : Int32) * ((v3 - (1 : Int32)) - v5) = w) (hb : vp_nar .byte ((v4 >>> (w &&& 31)).toInt8.toInt32) = bt v4 s) :
    F_put_3 rec v1 v2 v3 v4 v5 (sS ρ k C) = rec v1 v2 v3 v4 (v5 + 1) (sS ρ k (fun j => if j = at_ + i then bt v4 s else C j)) := by
  unfold F_put_3
  have e := x32_add (x_slot h1 h2 hk (by omega)) h5 (by omega) (by omega)
  have e' : ((1484 : Int32) * v1 + v2 + v5).toInt = ((1484 * k + (at_ + i) : Nat) : Int) := by rw [e]; omega
  rw [if_neg (by rw [x32_le h3 h5]; omega), gd_t (x32_in e' (by omega)), bd_e, bd_e, x32_n e', hsh, hb, si_sS _ _ _ _ _ (by omega)]
theorem rput_end (ρ : RS) (rec : Int32 → Int32 → Int32 → Int32 → Int32 → RS → Option RS) {v1 v2 v3 v4 v5 : Int32} {n : Nat} (h3 : v3.toInt = (n : Int)) (h5 : v5.toInt = (n : Int)) : F_put_3 rec v1 v2 v3 v4 v5 ρ = some ρ := by
  unfold F_put_3
  rw [if_pos (by rw [x32_le h3 h5]; omega)]
theorem rput1 (ρ : RS) {k at_ : Nat} {v1 v2 : Int32} (v4 : Int32) (h1 : v1.toInt = (k : Int)) (h2 : v2.toInt = (at_ : Int)) (hk : k < 513) (hle : at_ + 1 ≤ 1484) : m_put v1 v2 1 v4 ρ = some (sS ρ k (pu (Sk ρ k) at_ 1 v4)) := by
  unfold m_put
  rw [show fuel = 9999998 + 1 + 1 from rfl]
  show F_put_3 (lq6 F_put_3 (9999998 + 1)) v1 v2 1 v4 0 ρ = _
  have e := rput_step ρ k (Sk ρ k) (lq6 F_put_3 (9999998 + 1)) (v1 := v1) (v2 := v2) (v3 := 1) (v4 := v4) (v5 := 0) (at_ := at_) (n := 1) (i := 0) (s := 0) h1 h2 (by decide) (by decide) hk (by decide) hle 0 (by decide) (bt_r0 v4)
  rw [sS_id] at e
  rw [e]
  show F_put_3 (lq6 F_put_3 9999998) v1 v2 1 v4 (0 + 1) _ = _
  rw [rput_end _ _ (n := 1) (by decide) (by decide)]
  congr 2
  funext j
  unfold pu
  by_cases hj : j = at_
  · subst hj; simp
  · rw [if_neg (by omega), if_neg (by omega)]
theorem rput2 (ρ : RS) {k at_ : Nat} {v1 v2 : Int32} (v4 : Int32) (h1 : v1.toInt = (k : Int)) (h2 : v2.toInt = (at_ : Int)) (hk : k < 513) (hle : at_ + 2 ≤ 1484) : m_put v1 v2 2 v4 ρ = some (sS ρ k (pu (Sk ρ k) at_ 2 v4)) := by
  unfold m_put
  rw [show fuel = 9999997 + 1 + 1 + 1 from rfl]
  show F_put_3 (lq6 F_put_3 (9999997 + 1 + 1)) v1 v2 2 v4 0 ρ = _
  have e := rput_step ρ k (Sk ρ k) (lq6 F_put_3 (9999997 + 1 + 1)) (v1 := v1) (v2 := v2) (v3 := 2) (v4 := v4) (v5 := 0) (at_ := at_) (n := 2) (i := 0) (s := 1) h1 h2 (by decide) (by decide) hk (by decide) hle 8 (by decide) (bt_r1 v4)
  rw [sS_id] at e
  rw [e]
  show F_put_3 (lq6 F_put_3 (9999997 + 1)) v1 v2 2 v4 (0 + 1) _ = _
  rw [rput_step _ _ _ _ (v1 := v1) (v2 := v2) (v3 := 2) (v4 := v4) (v5 := 0 + 1) (at_ := at_) (n := 2) (i := 1) (s := 0) h1 h2 (by decide) (by decide) hk (by decide) hle 0 (by decide) (bt_r0 v4)]
  show F_put_3 (lq6 F_put_3 9999997) v1 v2 2 v4 (0 + 1 + 1) _ = _
  rw [rput_end _ _ (n := 2) (by decide) (by decide)]
  congr 2
  funext j
  unfold pu
  by_cases hj : j = at_ + 1
  · rw [if_pos hj, if_pos (by omega)]; congr 1; omega
  · rw [if_neg hj]
    by_cases hj : j = at_ + 0
    · rw [if_pos hj, if_pos (by omega)]; congr 1; omega
    · rw [if_neg hj, if_neg (by omega)]
theorem rput4 (ρ : RS) {k at_ : Nat} {v1 v2 : Int32} (v4 : Int32) (h1 : v1.toInt = (k : Int)) (h2 : v2.toInt = (at_ : Int)) (hk : k < 513) (hle : at_ + 4 ≤ 1484) : m_put v1 v2 4 v4 ρ = some (sS ρ k (pu (Sk ρ k) at_ 4 v4)) := by
  unfold m_put
  rw [show fuel = 9999995 + 1 + 1 + 1 + 1 + 1 from rfl]
  show F_put_3 (lq6 F_put_3 (9999995 + 1 + 1 + 1 + 1)) v1 v2 4 v4 0 ρ = _
  have e := rput_step ρ k (Sk ρ k) (lq6 F_put_3 (9999995 + 1 + 1 + 1 + 1)) (v1 := v1) (v2 := v2) (v3 := 4) (v4 := v4) (v5 := 0) (at_ := at_) (n := 4) (i := 0) (s := 3) h1 h2 (by decide) (by decide) hk (by decide) hle 24 (by decide) (bt_r3 v4)
  rw [sS_id] at e
  rw [e]
  show F_put_3 (lq6 F_put_3 (9999995 + 1 + 1 + 1)) v1 v2 4 v4 (0 + 1) _ = _
  rw [rput_step _ _ _ _ (v1 := v1) (v2 := v2) (v3 := 4) (v4 := v4) (v5 := 0 + 1) (at_ := at_) (n := 4) (i := 1) (s := 2) h1 h2 (by decide) (by decide) hk (by decide) hle 16 (by decide) (bt_r2 v4)]
  show F_put_3 (lq6 F_put_3 (9999995 + 1 + 1)) v1 v2 4 v4 (0 + 1 + 1) _ = _
  rw [rput_step _ _ _ _ (v1 := v1) (v2 := v2) (v3 := 4) (v4 := v4) (v5 := 0 + 1 + 1) (at_ := at_) (n := 4) (i := 2) (s := 1) h1 h2 (by decide) (by decide) hk (by decide) hle 8 (by decide) (bt_r1 v4)]
  show F_put_3 (lq6 F_put_3 (9999995 + 1)) v1 v2 4 v4 (0 + 1 + 1 + 1) _ = _
  rw [rput_step _ _ _ _ (v1 := v1) (v2 := v2) (v3 := 4) (v4 := v4) (v5 := 0 + 1 + 1 + 1) (at_ := at_) (n := 4) (i := 3) (s := 0) h1 h2 (by decide) (by decide) hk (by decide) hle 0 (by decide) (bt_r0 v4)]
  show F_put_3 (lq6 F_put_3 9999995) v1 v2 4 v4 (0 + 1 + 1 + 1 + 1) _ = _
  rw [rput_end _ _ (n := 4) (by decide) (by decide)]
  congr 2
  funext j
  unfold pu
  by_cases hj : j = at_ + 3
  · rw [if_pos hj, if_pos (by omega)]; congr 1; omega
  · rw [if_neg hj]
    by_cases hj : j = at_ + 2
    · rw [if_pos hj, if_pos (by omega)]; congr 1; omega
    · rw [if_neg hj]
      by_cases hj : j = at_ + 1
      · rw [if_pos hj, if_pos (by omega)]; congr 1; omega
      · rw [if_neg hj]
        by_cases hj : j = at_ + 0
        · rw [if_pos hj, if_pos (by omega)]; congr 1; omega
        · rw [if_neg hj, if_neg (by omega)]
