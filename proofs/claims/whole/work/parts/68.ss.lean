/-! sending: the simulation -/
theorem qkd {q : Nat} (hq : q = 7 ∨ q = 14) (σ : CS) : kd σ q = 6 ∧ kd σ (q + 1) = 7 ∧ kd σ (q + 3) = 8 ∧ kd σ (q + 5) = 9 ∧ kd σ (q + 6) = 10 := by
  rcases hq with rfl | rfl
  · exact ⟨rfl, rfl, rfl, rfl, rfl⟩
  · exact ⟨rfl, rfl, rfl, rfl, rfl⟩
theorem G3x.edge {own : Nat → Nat} {q e : Nat} {σ : CS} {ρ : RS} {U z : Nat} (hq : q = 7 ∨ q = 14) (h : G3x own q e σ ρ U z) : G3x own q e (wi σ (q + 3) 2 (ned σ q)) (si ρ 19 e (ned σ q)) U z := by
  have r1 : ∀ j, j ≠ 2 → cI (wi σ (q + 3) 2 (ned σ q)) (q + 3) j = cI σ (q + 3) j := fun j hj => if_neg (by omega)
  have r2 : cI (wi σ (q + 3) 2 (ned σ q)) (q + 3) 2 = ned σ q := if_pos ⟨rfl, rfl⟩
  have s1 : ∀ r j, r ≠ 19 → (si ρ 19 e (ned σ q)).1 r j = ρ.1 r j := fun r j hr => if_neg (by omega)
  have s2 : (si ρ 19 e (ned σ q)).1 19 e = ned σ q := if_pos ⟨rfl, rfl⟩
  have s3 : (si ρ 19 e (ned σ q)).1 40 = ρ.1 40 := funext fun j => s1 40 j (by omega)
  unfold G3x at h ⊢
  rw [r1 0 (by omega), r1 1 (by omega), r2, r1 3 (by omega), r1 4 (by omega), r1 5 (by omega), r1 7 (by omega), s1 7 e (by omega), s1 18 e (by omega), s2, s1 37 e (by omega), s1 31 e (by omega), s3]
  obtain ⟨⟨h1, R, hR1, hR2⟩, h2, h3, h4, ⟨h5, h5a, h5b⟩, h6, h7, h8, h9, ra, k1, k2, k3, k4⟩ := h
  refine ⟨⟨h1, R, hR1, hR2⟩, h2, rfl, h4, ⟨h5, h5a, h5b⟩, h6, h7, fun q0 => ?_, h9, ra, k1, k2, k3, ?_⟩
  · obtain ⟨d, d1, d2, d3⟩ := h8 q0
    have hf0 : (cI σ (q + 3) 0 - cI σ (q + 3) 4).toInt = (R : Int) - U := by rw [hR2, h5a]; exact x32_sub (x32_nat (by omega)) (x32_nat (by omega)) (by omega) (by omega)
    have hff : fre σ q = Int32.ofNat (R - U) := by
      unfold fre
      by_cases hlt : R < U
      · rw [if_pos (x32_lt' hf0 z32_0 (by omega)), show R - U = 0 by omega]; rfl
      · rw [if_neg (x32_nlt hf0 z32_0 (by omega))]
        exact x32_of (by omega) (by rw [hf0]; omega)
    have hx : cI σ (q + 3) 1 + fre σ q - cI σ (q + 3) 2 = Int32.ofNat (R - U) - Int32.ofNat d := by rw [d1, hff]; grind
    have hx2 : (cI σ (q + 3) 1 + fre σ q - cI σ (q + 3) 2).toInt = ((R - U : Nat) : Int) - (d : Int) := by rw [hx]; exact x32_sub (x32_nat (by omega)) (x32_nat (by omega)) (by omega) (by omega)
    unfold ned
    by_cases hle : R - U ≤ d
    · rw [if_pos (x32_le' hx2 z32_0 (by omega))]
      exact ⟨d, d1, d2, d3⟩
    · rw [if_neg (x32_nle hx2 z32_0 (by omega))]
      exact ⟨R - U, by rw [hff], by omega, fun p hp hk => ⟨(d3 p hp hk).1, by have := (d3 p hp hk).2; omega⟩⟩
  · have hra : ¬ ra = q + 3 := fun e => by have := (qkd hq σ).2.2.1; rw [← e] at this; omega
    have e1 : cI (wi σ (q + 3) 2 (ned σ q)) ra = cI σ ra := funext fun j => if_neg (by omega)
    have s4 : (si ρ 19 e (ned σ q)).1 39 = ρ.1 39 := funext fun j => s1 39 j (by omega)
    rw [e1, s4]
    exact k4
def SE (q e : Nat) (σ σ' : CS) (ρ ρ' : RS) : Prop := (∀ x, x = q + 1 ∨ x = q + 5 ∨ x = q + 6 → cI σ' x = cI σ x ∧ cJ σ' x = cJ σ x ∧ cR σ' x = cR σ x) ∧ (∀ j, j ≠ 10 → cI σ' q j = cI σ q j) ∧ cI σ' q 10 = cI σ q 10 + 1 ∧ (∀ j, j ≠ 2 → cI σ' (q + 3) j = cI σ (q + 3) j) ∧ (∀ r, 7 ≤ r → r ≠ 19 → r ≠ 28 → ρ'.1 r = ρ.1 r) ∧ ρ'.2 = ρ.2 ∧ ρ'.1 28 e = ρ.1 28 e + 1
/-- what a send comes to: an emit and its reference -/
theorem toEmit {own : Nat → Nat} {q e : Nat} {σ : CS} {ρ : RS} {st u nr n m g U : Nat} (hqe : q = 7 ∧ e = 0 ∨ q = 14 ∧ e = 1) (g1 : G1 q e σ ρ st) (g2 : G2x own q e σ ρ u nr n m g) (g3 : G3 own q e σ ρ U) (hc0 : ρ.1 0 4 ≠ 0) {v1 f num nn v4 : Int32} (hv : v1.toInt = (e : Int)) {k a : Nat} (hn : nn.toInt = (k : Int)) (hd : k = 0 ∨ (num = cI σ (q + 1) 3 + Int32.ofNat a ∧ 1 ≤ a ∧ v4 = Int32.ofNat (a - 1))) (hf : (f = 0 ∨ f = 1 ∨ f = 4) ∨ (f = 2 ∧ k = 0 ∧ (e = 0 ↔ st = 2))) :
    ∃ fl ak v9 : Int32, m_E_send q f num nn σ = bc (m_E_emit q fl num ak (ned σ q - cI σ (q + 3) 1) nn (wi σ (q + 3) 2 (ned σ q))) some ∧ m_send v1 f num v4 nn ρ = b_send_133 v1 f num v4 nn v9 v1 fl num ak (si ρ 19 e (ned σ q)) ∧ (fl &&& 2 = 0 ∧ v9 = 0 ∨ ¬ (fl &&& 2 = 0) ∧ v9 = 4 ∧ k = 0) := by
  have hq : q = 7 ∨ q = 14 := by omega
  have he : e < 2 := by omega
  obtain ⟨⟨h7, R, hR1, hR2⟩, h18, h19, h37, ⟨h31, h5a, h5b⟩, _⟩ := g3
  have i0 : cI (wi σ (q + 3) 2 (ned σ q)) q 0 = Int32.ofNat e := by rw [wi_I, if_neg (by omega)]; exact g1.1
  have rc : cI (wi σ (q + 3) 2 (ned σ q)) (q + 3) 1 = cI σ (q + 3) 1 := if_neg (by omega)
  have fn : cI (wi σ (q + 3) 2 (ned σ q)) (q + 1) 7 = cI σ (q + 1) 7 := if_neg (by omega)
  have r18 : (si ρ 19 e (ned σ q)).1 18 e = cI σ (q + 3) 1 := by rw [si_1, if_neg (by omega)]; exact h18
  have hi := x32_in hv he
  have hc := x32_n hv
  have op : ∀ {v2 v3 v4 v5 v6 v7 : Int32}, _ := @openR ρ σ q e R U v1
  have hopn : ∀ v2 v3 v4 v5 v6 v7 : Int32, b_send_64 v1 v2 v3 v4 v5 v6 v7 ρ = b_send_100 v1 v2 v3 v4 v5 v6 v7 (si ρ 19 e (ned σ q)) := fun v2 v3 v4 v5 v6 v7 => openR hv he h7 h18 h19 h31 hR2 h5a hR1 h5b
  have cl0 : m_E_send q f num nn σ = (if Int32.ofNat e = 0 then (if f = (2 : Int32) then (bc (m_E_emit q (2 : Int32) num (0 : Int32) (ned σ q - cI σ (q + 3) 1) (0 : Int32) (wi σ (q + 3) 2 (ned σ q))) fun r4 => some r4) else (b_E_send_32 q f num nn (ned σ q - cI σ (q + 3) 1) (wi σ (q + 3) 2 (ned σ q)))) else (b_E_send_32 q f num nn (ned σ q - cI σ (q + 3) 1) (wi σ (q + 3) 2 (ned σ q)))) := by
    unfold m_E_send
    rw [gd_t hq, openW hq, bc2_e, bd_e, i0]
  rcases hf with hf | ⟨hf, hk, hst⟩
  · have hf2 : ¬ f = 2 := by rcases hf with rfl | rfl | rfl <;> decide
    have hfa : f &&& 2 = 0 := by rcases hf with rfl | rfl | rfl <;> decide
    have cl : m_E_send q f num nn σ = b_E_send_32 q f num nn (ned σ q - cI σ (q + 3) 1) (wi σ (q + 3) 2 (ned σ q)) := by
      rw [cl0, if_neg hf2]
      split <;> rfl
    have rl : m_send v1 f num v4 nn ρ = b_send_36 v1 f num v4 nn 0 (f ||| 16) ρ := by
      unfold m_send
      rw [if_pos hfa]
      unfold b_send_20 b_send_21
      rw [if_pos rfl]
    have rl2 : ∀ w, b_send_64 v1 f num v4 nn 0 w ρ = b_send_133 v1 f num v4 nn 0 v1 w num (cI σ (q + 3) 1) (si ρ 19 e (ned σ q)) := fun w => by
      rw [hopn]
      unfold b_send_100
      rw [if_pos hfa]
      unfold b_send_111
      rw [if_pos rfl, gd_t hi, bd_e, hc, r18]
    rw [cl, rl]
    unfold b_E_send_32 b_send_36
    have no : ∀ b : Bool, b = true → True := fun _ _ => trivial
    by_cases hk0 : k = 0
    · refine ⟨(f ||| 0) ||| 16, cI σ (q + 3) 1, 0, ?_, ?_, Or.inl ⟨by rcases hf with rfl | rfl | rfl <;> decide, rfl⟩⟩
      · rw [if_pos (x32_le' hn z32_0 (by omega))]
        unfold b_E_send_54 b_E_send_55
        rw [bd_e, rc]
      · rw [if_pos (x32_le' hn z32_0 (by omega)), rl2, show (f ||| 0) ||| 16 = f ||| 16 by rcases hf with rfl | rfl | rfl <;> decide]
    · obtain ⟨d1, d2, d3⟩ : num = cI σ (q + 1) 3 + Int32.ofNat a ∧ 1 ≤ a ∧ v4 = Int32.ofNat (a - 1) := by
        rcases hd with hd | hd
        · exact absurd hd hk0
        · exact hd
      have hg : ρ.1 32 e = Int32.ofNat g := g2.2.2.2.2.1.1
      have hfin : cI σ (q + 1) 7 = cI σ (q + 1) 3 + 1 + Int32.ofNat g := g2.2.2.2.2.1.2 hc0
      have hv4 : v4 = num - cI σ (q + 1) 3 - 1 := by
        obtain ⟨b, rfl⟩ : ∃ b, a = b + 1 := ⟨a - 1, by omega⟩
        rw [d3, d1, show Int32.ofNat (b + 1) = Int32.ofNat b + 1 from nI_succ b, show b + 1 - 1 = b by omega]; grind
      have hiff : (num + nn = cI σ (q + 1) 7) ↔ (v4 + nn = ρ.1 32 e) := by
        rw [hg, hfin, hv4]
        constructor
        · intro h; grind
        · intro h; grind
      by_cases hp : v4 + nn = ρ.1 32 e
      · refine ⟨(f ||| 8) ||| 16, cI σ (q + 3) 1, 0, ?_, ?_, Or.inl ⟨by rcases hf with rfl | rfl | rfl <;> decide, rfl⟩⟩
        · rw [if_neg (x32_nle hn z32_0 (by omega)), bd_e, fn, if_pos (hiff.mpr hp)]
          unfold b_E_send_55
          rw [bd_e, rc]
        · rw [if_neg (x32_nle hn z32_0 (by omega)), gd_t hi, bd_e, hc, if_pos hp, bd_e, rl2, show (f ||| 8) ||| 16 = (f ||| 16) ||| 8 by rcases hf with rfl | rfl | rfl <;> decide]
      · refine ⟨(f ||| 0) ||| 16, cI σ (q + 3) 1, 0, ?_, ?_, Or.inl ⟨by rcases hf with rfl | rfl | rfl <;> decide, rfl⟩⟩
        · rw [if_neg (x32_nle hn z32_0 (by omega)), bd_e, fn, if_neg (fun h => hp (hiff.mp h))]
          unfold b_E_send_54 b_E_send_55
          rw [bd_e, rc]
        · rw [if_neg (x32_nle hn z32_0 (by omega)), gd_t hi, bd_e, hc, if_neg hp, rl2, show (f ||| 0) ||| 16 = f ||| 16 by rcases hf with rfl | rfl | rfl <;> decide]
  · subst hf
    subst hk
    have hn0 : nn = 0 := x32_eq' hn z32_0 rfl
    subst hn0
    have hst9 : ρ.1 9 e = Int32.ofNat st := by rw [g1.2.2.2.1]; exact g1.2.2.2.2.1
    have hst10 : st ≤ 10 := g1.2.2.2.2.2.1
    rcases Nat.eq_zero_or_pos e with e0 | e0
    · have s2 : st = 2 := hst.mp e0
      refine ⟨2, 0, 4, ?_, ?_, Or.inr ⟨by decide, rfl, rfl⟩⟩
      · rw [cl0, e0, if_pos (by decide), if_pos rfl]
      · unfold m_send
        rw [if_neg (by decide), gd_t hi, bd_e, hc, hst9, s2, if_pos (by decide)]
        unfold b_send_21 b_send_36
        rw [if_neg (by decide), if_pos (by decide), hopn]
        unfold b_send_100
        rw [if_neg (by decide)]
        unfold b_send_111
        rw [if_neg (by decide)]
    · have s2 : st ≠ 2 := fun h => by have := hst.mpr h; omega
      refine ⟨(2 ||| 0) ||| 16, cI σ (q + 3) 1, 4, ?_, ?_, Or.inr ⟨by decide, rfl, rfl⟩⟩
      · rw [cl0, show e = 1 by omega, if_neg (by decide)]
        unfold b_E_send_32
        rw [if_pos (by decide)]
        unfold b_E_send_54 b_E_send_55
        rw [bd_e, rc]
      · unfold m_send
        rw [if_neg (by decide), gd_t hi, bd_e, hc, hst9, if_neg (x32_ne (x32_nat (by omega)) z32_2 (by omega))]
        unfold b_send_20 b_send_21 b_send_36
        rw [if_pos rfl, if_pos (by decide), hopn]
        unfold b_send_100
        rw [if_neg (by decide)]
        unfold b_send_111
        rw [if_pos rfl, gd_t hi, bd_e, hc, r18, show ((2 : Int32) ||| 0) ||| 16 = 2 ||| 16 by decide]
