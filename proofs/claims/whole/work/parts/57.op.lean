/-! what a SYN tells as its MSS, on both sides -/
theorem z32_0 : (0 : Int32).toInt = 0 := by decide
theorem z32_1 : (1 : Int32).toInt = 1 := by decide
theorem z32_2 : (2 : Int32).toInt = 2 := by decide
theorem x32_nlt {a b : Int32} {m n : Int} (ha : a.toInt = m) (hb : b.toInt = n) (h : n ≤ m) : ¬ a < b := fun q => by have := (x32_lt ha hb).mp q; omega
theorem x32_nle {a b : Int32} {m n : Int} (ha : a.toInt = m) (hb : b.toInt = n) (h : n < m) : ¬ a ≤ b := fun q => by have := (x32_le ha hb).mp q; omega
theorem x32_ne {a b : Int32} {m n : Int} (ha : a.toInt = m) (hb : b.toInt = n) (h : m ≠ n) : ¬ a = b := fun q => h ((x32_eq ha hb).mp q)
theorem x32_lt' {a b : Int32} {m n : Int} (ha : a.toInt = m) (hb : b.toInt = n) (h : m < n) : a < b := (x32_lt ha hb).mpr h
theorem x32_le' {a b : Int32} {m n : Int} (ha : a.toInt = m) (hb : b.toInt = n) (h : m ≤ n) : a ≤ b := (x32_le ha hb).mpr h
theorem x32_eq' {a b : Int32} {m n : Int} (ha : a.toInt = m) (hb : b.toInt = n) (h : m = n) : a = b := (x32_eq ha hb).mpr h
theorem opts {σ : CS} {g a len N k : Nat} (S : SG σ g a len N) (ρ : RS) {v1 : Int32} (h1 : v1.toInt = (k : Int)) (hk : k < 513) (hC : ∀ i, i < len → cI σ a i = Sk ρ k i) {e : Nat} (he : e ≤ len) (he60 : e ≤ 60) :
    ∀ (r at_ n : Nat) (t v2 v3 : Int32), e ≤ at_ + r → r + 2 ≤ n → v2.toInt = (e : Int) → v3.toInt = (at_ : Int) → at_ ≤ 400 →
      ∃ t' : Int32, lq4 (F_G_toldMss_12 g) n t v2 v3 σ = some (if t' < 64 then 64 else t', σ) ∧ lq5 F_options_6 n v1 v2 v3 1 (si ρ 0 53 t) = some (si ρ 0 53 t') := by
  have hlen : len ≤ 1484 := by obtain ⟨_, _, _, _, _, s6, s7⟩ := S; omega
  have hSk : ∀ t : Int32, Sk (si ρ 0 53 t) k = Sk ρ k := fun t => rfl
  intro r
  induction r with
  | zero =>
    intro at_ n t v2 v3 hr hn h2 h3 ha
    obtain ⟨n, rfl⟩ : ∃ k, n = k + 1 := ⟨n - 1, by omega⟩
    refine ⟨t, ?_, ?_⟩
    · show F_G_toldMss_12 g (lq4 (F_G_toldMss_12 g) n) t v2 v3 σ = _
      unfold F_G_toldMss_12
      rw [if_pos (x32_le' h2 h3 (by omega))]
      rfl
    · show F_options_6 (lq5 F_options_6 n) v1 v2 v3 1 (si ρ 0 53 t) = _
      unfold F_options_6
      rw [if_neg (by decide), if_pos (x32_le' h2 h3 (by omega))]
      rfl
  | succ r ih =>
    intro at_ n t v2 v3 hr hn h2 h3 ha
    obtain ⟨n, rfl⟩ : ∃ k, n = k + 1 := ⟨n - 1, by omega⟩
    obtain ⟨m, rfl⟩ : ∃ k, n = k + 1 := ⟨n - 1, by omega⟩
    by_cases hend : e ≤ at_
    · refine ⟨t, ?_, ?_⟩
      · show F_G_toldMss_12 g (lq4 (F_G_toldMss_12 g) (m + 1)) t v2 v3 σ = _
        unfold F_G_toldMss_12
        rw [if_pos (x32_le' h2 h3 (by omega))]
        rfl
      · show F_options_6 (lq5 F_options_6 (m + 1)) v1 v2 v3 1 (si ρ 0 53 t) = _
        unfold F_options_6
        rw [if_neg (by decide), if_pos (x32_le' h2 h3 (by omega))]
        rfl
    have h31 : (v3 + 1).toInt = ((at_ + 1 : Nat) : Int) := by rw [x32_add h3 z32_1 (by omega) (by omega)]; omega
    have h32 : (v3 + 2).toInt = ((at_ + 2 : Nat) : Int) := by rw [x32_add h3 z32_2 (by omega) (by omega)]; omega
    have hE : ∀ i, i < len → n1 (Sk ρ k) i = n1 (cI σ a) i := fun i hi => by unfold n1; rw [hC i hi]
    have stop : ∀ (w : Int32), lq5 F_options_6 (m + 1) v1 v2 w 0 (si ρ 0 53 t) = some (si ρ 0 53 t) := fun w => by
      show F_options_6 (lq5 F_options_6 m) v1 v2 w 0 (si ρ 0 53 t) = _
      unfold F_options_6
      rw [if_pos rfl]; rfl
    have cl : lq4 (F_G_toldMss_12 g) (m + 1 + 1) t v2 v3 σ = F_G_toldMss_12 g (lq4 (F_G_toldMss_12 g) (m + 1)) t v2 v3 σ := rfl
    have rl : lq5 F_options_6 (m + 1 + 1) v1 v2 v3 1 (si ρ 0 53 t) = F_options_6 (lq5 F_options_6 (m + 1)) v1 v2 v3 1 (si ρ 0 53 t) := rfl
    rw [cl, rl]
    unfold F_G_toldMss_12 F_options_6
    rw [if_neg (x32_nle h2 h3 (by omega)), if_neg (by decide : ¬ (1 : Int32) = 0), if_neg (x32_nle h2 h3 (by omega)), gd_t S.1, gnum1 S h3 (by omega), bc2_e, rhere (si ρ 0 53 t) h1 h3 hk (by omega), bc2_e, hSk, hE at_ (by omega)]
    generalize n1 (cI σ a) at_ = kd1
    by_cases k0 : kd1 = 0
    · refine ⟨t, ?_, ?_⟩
      · rw [if_pos k0]; rfl
      · rw [if_neg (by rw [k0]; decide), if_pos k0]
        unfold b_options_48 b_options_60
        rw [if_pos (by decide)]
        unfold b_options_80 b_options_81
        rw [if_pos rfl]
        exact stop (v3 + 0)
    by_cases k1 : kd1 = 1
    · rw [if_neg k0, if_pos k1, if_pos k1, bd_e, bd_e]
      exact ih (at_ + 1) (m + 1) t v2 (v3 + 1) (by omega) (by omega) h2 h31 (by omega)
    rw [if_neg k0, if_neg k1, if_neg k1, if_neg k0]
    by_cases hl : e ≤ at_ + 1
    · rw [if_pos (x32_le' h2 h31 (by omega)), if_neg (x32_nlt h31 h2 (by omega))]
      refine ⟨t, ?_, ?_⟩
      · unfold b_G_toldMss_64
        rw [if_pos (by decide)]; rfl
      · unfold b_options_48 b_options_60
        rw [if_pos (by decide)]
        unfold b_options_80 b_options_81
        rw [if_pos rfl]
        exact stop (v3 + 0)
    rw [if_neg (x32_nle h2 h31 (by omega)), if_pos (x32_lt' h31 h2 (by omega)), gd_t S.1, gnum1 S h31 (by omega), bc2_e, rhere (si ρ 0 53 t) h1 h31 hk (by omega), bc2_e, hSk, hE (at_ + 1) (by omega)]
    obtain ⟨b1, b2⟩ := bv_s (cI σ a) (at_ + 1)
    generalize n1 (cI σ a) (at_ + 1) = w at b1 ⊢
    generalize bv (cI σ a) (at_ + 1) = wn at b1 b2
    have h3w : (v3 + w).toInt = ((at_ + wn : Nat) : Int) := by rw [x32_add h3 b1 (by omega) (by omega)]; omega
    unfold b_G_toldMss_64 b_options_60
    by_cases w2 : wn < 2
    · rw [if_pos (x32_lt' b1 z32_2 (by omega)), if_pos (x32_lt' b1 z32_2 (by omega))]
      refine ⟨t, rfl, ?_⟩
      unfold b_options_80 b_options_81
      rw [if_pos rfl]
      exact stop (v3 + w)
    rw [if_neg (x32_nlt b1 z32_2 (by omega)), if_neg (x32_nlt b1 z32_2 (by omega))]
    by_cases wo : e < at_ + wn
    · rw [if_neg (x32_nle h3w h2 (by omega)), if_pos (x32_lt' h2 h3w (by omega))]
      refine ⟨t, rfl, ?_⟩
      unfold b_options_80 b_options_81
      rw [if_pos rfl]
      exact stop (v3 + w)
    rw [if_pos (x32_le' h3w h2 (by omega)), if_neg (x32_nlt h2 h3w (by omega))]
    unfold b_options_81
    rw [if_neg (by decide : ¬ (1 : Int32) = 0)]
    by_cases q2 : kd1 = 2
    · rw [if_pos q2, if_pos q2]
      by_cases q4 : w = 4
      · have h4 : wn = 4 := by
          rw [q4] at b1
          have : (4 : Int32).toInt = 4 := by decide
          omega
        rw [if_pos q4, if_pos q4, gd_t S.1, gnum2 S h32 (by omega), bc2_e, rtwo (si ρ 0 53 t) h1 h32 hk (by omega), bc2_e, hSk]
        have hE2 : n2 (Sk ρ k) (at_ + 2) = n2 (cI σ a) (at_ + 2) := by unfold n2; rw [hE _ (by omega), hE _ (by omega)]
        rw [hE2]
        unfold b_G_toldMss_104 b_options_112
        rw [bd_e, bd_e, bd_e]
        have hss : si (si ρ 0 53 t) 0 53 (n2 (cI σ a) (at_ + 2)) = si ρ 0 53 (n2 (cI σ a) (at_ + 2)) := by
          unfold si
          refine Prod.ext (funext fun b => funext fun j => ?_) rfl
          by_cases q : b = 0 ∧ j = 53
          · simp [q]
          · simp [q]
        rw [hss]
        exact ih (at_ + wn) (m + 1) _ v2 (v3 + w) (by omega) (by omega) h2 h3w (by omega)
      · rw [if_neg q4, if_neg q4]
        unfold b_G_toldMss_104 b_options_112
        rw [bd_e, bd_e]
        exact ih (at_ + wn) (m + 1) _ v2 (v3 + w) (by omega) (by omega) h2 h3w (by omega)
    · rw [if_neg q2, if_neg q2]
      unfold b_G_toldMss_104 b_options_112
      rw [bd_e, bd_e]
      exact ih (at_ + wn) (m + 1) _ v2 (v3 + w) (by omega) (by omega) h2 h3w (by omega)
theorem told {σ : CS} {g a len N k : Nat} (S : SG σ g a len N) (ρ : RS) {v1 v2 : Int32} (h1 : v1.toInt = (k : Int)) (hk : k < 513) (hC : ∀ i, i < len → cI σ a i = Sk ρ k i) (h20 : 20 ≤ len) (hh : ho (cI σ a) ≤ len) (h2 : v2.toInt = (ho (cI σ a) : Int)) :
    ∃ t' : Int32, m_G_toldMss g σ = some (if t' < 64 then 64 else t', σ) ∧ m_options v1 v2 (si ρ 0 53 536) = some (si ρ 0 53 t') := by
  have h60 := ho_lt (cI σ a)
  have e2 : v2 = hl4 (cI σ a) := Int32.toInt_inj.mp (by rw [h2, hl4_s])
  obtain ⟨t', e1, e3⟩ := opts S ρ h1 hk hC hh h60 60 20 fuel 536 v2 20 (by omega) (by unfold fuel; omega) h2 (by decide) (by omega)
  refine ⟨t', ?_, e3⟩
  unfold m_G_toldMss
  rw [gd_t S.1, ghl S h20, bc2_e, ← e2]
  exact e1
