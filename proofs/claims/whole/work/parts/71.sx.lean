/-! sending from NXT on -/
def NT (q e : Nat) (σ σ' : CS) (ρ ρ' : RS) : Prop := (∀ j, j ≠ 10 → cI σ' q j = cI σ q j) ∧ cI σ' q 10 = cI σ q 10 + 1 ∧ (∀ j, j ≠ 2 → cI σ' (q + 3) j = cI σ (q + 3) j) ∧ cI σ' (q + 6) = cI σ (q + 6) ∧ (∀ j, j ≠ 5 → j ≠ 6 → cI σ' (q + 1) j = cI σ (q + 1) j) ∧ (∀ j, j ≠ 6 → j ≠ 7 → cI σ' (q + 5) j = cI σ (q + 5) j) ∧ (∀ j, j ≠ 8 → cJ σ' (q + 5) j = cJ σ (q + 5) j) ∧ (∀ r, 7 ≤ r → r ≠ 13 → r ≠ 19 → r ≠ 27 → r ≠ 28 → r ≠ 35 → ρ'.1 r = ρ.1 r) ∧ (∀ r j, r ≠ 34 → ρ'.2 r j = ρ.2 r j) ∧ ρ'.1 28 e = ρ.1 28 e + 1
theorem sendNext_sim {own : Nat → Nat} {P C : List (Nat × Nat)} {S : List Nat} {c1 c2 K q e : Nat} {σ : CS} {ρ : RS} {τ st u n m g U : Nat} {rn : Int32} {tr : Nat} (hqe : q = 7 ∧ e = 0 ∨ q = 14 ∧ e = 1) (N : NB own P C S c1 c2 K σ ρ) (E : EG own q e σ ρ τ st u n m g U rn tr) (hB : ∀ i, isB (ρ.1 38 i)) (hc0 : ρ.1 0 4 ≠ 0) (ht : cJ σ 3 0 = ρ.2 0 3) (htt : (cJ σ 3 0).toInt = (τ : Int)) {v1 f nn v4 : Int32} (hv : v1.toInt = (e : Int)) {k : Nat} (hn : nn.toInt = (k : Int)) (hk : k ≤ 1460) (hd : k = 0 ∨ (1 ≤ n ∧ v4 = Int32.ofNat (n - 1) ∧ n - 1 + k ≤ g)) (hf : f = 0 ∧ 1 ≤ k ∨ f = 1 ∧ k = 0 ∨ f = 2 ∧ k = 0 ∧ (e = 0 ↔ st = 2)) {b : Nat} (hbe : b = n + k + inc f) (hb : b ≤ g + 2) (hcl : cI σ (q + 1) 8 = 0 → b ≤ g + 1) :
    ∃ σ' ρ' own', m_E_sendNext q f nn σ = some σ' ∧ m_send v1 f (ρ.1 12 e) v4 nn ρ = some ρ' ∧ EG own' q e σ' (si ρ' 12 e (cI σ (q + 1) 3 + Int32.ofNat b)) τ st u b (max m b) g U rn tr ∧ EP K C own own' e σ σ' ρ (si ρ' 12 e (cI σ (q + 1) 3 + Int32.ofNat b)) ∧ NT q e σ σ' ρ ρ' := by
  have hq : q = 7 ∨ q = 14 := by omega
  have he : e < 2 := by omega
  have hinc : f = 0 ∧ inc f = 0 ∨ f ≠ 0 ∧ inc f = 1 := by
    rcases hf with ⟨h, _⟩ | ⟨h, _⟩ | ⟨h, _⟩
    · subst h; exact Or.inl ⟨rfl, by decide⟩
    · subst h; exact Or.inr ⟨by decide, by decide⟩
    · subst h; exact Or.inr ⟨by decide, by decide⟩
  have hk1 : 1 ≤ k + inc f := by
    rcases hf with ⟨_, h⟩ | ⟨h, _⟩ | ⟨h, _⟩
    · omega
    · subst h; have : inc 1 = 1 := by decide
      omega
    · subst h; have : inc 2 = 1 := by decide
      omega
  obtain ⟨hun, hnm, hmg, hg⟩ := E.2.1.2.2.2.2.2.2.2.2.2.1
  have hnx2 : cI σ (q + 1) 5 = cI σ (q + 1) 3 + Int32.ofNat n := E.2.1.2.2.1.2
  have hnx : ρ.1 12 e = cI σ (q + 1) 5 := by rw [hnx2]; exact E.2.1.2.2.1.1
  obtain ⟨σ1, ρ1, o1, h1, h2, h3, h4, h5⟩ := send_sim (f := f) (num := cI σ (q + 1) 5) (nn := nn) (v4 := v4) (k := k) (a := n) hqe N E hB hc0 hv hn hk (by omega) (hd.elim Or.inl fun h => Or.inr ⟨hnx2, h.1, h.2.1, hun, h.2.2⟩) (by
    rcases hf with h | h | h
    · exact Or.inl (Or.inl h.1)
    · exact Or.inl (Or.inr (Or.inl h.1))
    · exact Or.inr h)
  obtain ⟨e1, e2, e3, e4, e5, e6, e7⟩ := h5
  obtain ⟨f1, _, f1R⟩ := e1 (q + 1) (Or.inl rfl)
  obtain ⟨f5, f5J, _⟩ := e1 (q + 5) (Or.inr (Or.inl rfl))
  obtain ⟨f6, _, _⟩ := e1 (q + 6) (Or.inr (Or.inr rfl))
  have hmx : ρ1.1 13 e = cI σ1 (q + 1) 6 := h3.2.1.2.2.2.1.1
  have hmx2 : cI σ1 (q + 1) 6 = cI σ (q + 1) 3 + Int32.ofNat m := by rw [h3.2.1.2.2.2.1.2, f1]
  obtain ⟨w, hw⟩ : ∃ w, w = cI σ (q + 1) 3 + Int32.ofNat b := ⟨_, rfl⟩
  have hbh : cI σ (q + 1) 5 + Int32.ofNat (k + inc f) = w := by rw [hw, hnx2, a32, hbe]; congr 2; omega
  -- the class
  obtain ⟨σ2, hσ2⟩ : ∃ x, x = (if n = m ∧ cI σ1 (q + 5) 6 = 0 then wl (wi (wi σ1 (q + 5) 6 1) (q + 5) 7 w) (q + 5) 8 (cJ σ1 3 0) else σ1) := ⟨_, rfl⟩
  obtain ⟨σ3, hσ3⟩ : ∃ x, x = (if b ≤ m then wi σ2 (q + 1) 5 w else wi (wi σ2 (q + 1) 5 w) (q + 1) 6 w) := ⟨_, rfl⟩
  have hclk : cJ σ1 3 0 = cJ σ 3 0 := by
    have := (h4.2.2.1 3 (by have := N.2.2.1.2.2 3 (by decide); have : fo 3 = 14 := rfl; omega)).2.1
    rw [this]
  have s2q1 : cI σ2 (q + 1) = cI σ1 (q + 1) := by
    rw [hσ2]
    split
    · funext j; rw [wl_I, wi_I, if_neg (by omega), wi_I, if_neg (by omega)]
    · rfl
  have heq : (cI σ (q + 1) 5 = cI σ1 (q + 1) 6) ↔ n = m := by rw [hnx2, hmx2]; exact e32 _ (by omega) (by omega)
  have hle : (w - (cI σ (q + 1) 3 + Int32.ofNat m) ≤ 0) ↔ b ≤ m := by
    rw [hw, x32_le (d32 _ (by omega) (by omega)) z32_0]; omega
  have hcls : m_E_sendNext q f nn σ = some σ3 := by
    have hb0 : ∀ w1 : Int32, w1 = Int32.ofNat (inc f) → b_E_sendNext_20 q f nn (cI σ (q + 1) 5) (cI σ (q + 1) 5 + nn) w1 σ = some σ3 := by
      intro w1 hw1
      have ex : cI σ (q + 1) 5 + nn + w1 = w := by rw [← hbh, hw1, x32_of (by omega) hn, a32]
      have hfol : ∀ τ0, τ0 = σ2 → b_E_sendNext_57 q w τ0 = some σ3 := by
        intro τ0 h0
        subst h0
        unfold b_E_sendNext_57
        rw [ufollow hq, bc_e, s2q1, hmx2, hσ3]
        by_cases hbm : b ≤ m
        · rw [if_pos (hle.mpr hbm), if_pos hbm]
        · rw [if_neg (fun h => hbm (hle.mp h)), if_neg hbm]
      unfold b_E_sendNext_20
      rw [bd_e, ex, h1, bc_e, bd_e]
      by_cases hnm2 : n = m
      · rw [if_pos (heq.mpr hnm2), bd_e, ztime hq, bc_e]
        refine hfol _ ?_
        rw [hσ2]
        by_cases h6 : cI σ1 (q + 5) 6 = 0
        · rw [if_pos h6, if_pos ⟨hnm2, h6⟩]
        · rw [if_neg h6, if_neg (fun h => h6 h.2)]
      · rw [if_neg (fun h => hnm2 (heq.mp h))]
        refine hfol _ ?_
        rw [hσ2, if_neg (fun h => hnm2 h.1)]
    unfold m_E_sendNext
    rw [gd_t hq, bd_e]
    rcases hinc with ⟨a1, a2⟩ | ⟨a1, a2⟩
    · rw [if_pos a1]; exact hb0 0 (by rw [a2]; rfl)
    · rw [if_neg a1]; exact hb0 1 (by rw [a2]; rfl)
  -- the reference
  obtain ⟨ρ2, hρ2⟩ : ∃ x, x = (if n = m ∧ cI σ1 (q + 5) 6 = 0 then sl (si (si ρ1 35 e 1) 27 e w) 34 e (ρ1.2 0 3) else ρ1) := ⟨_, rfl⟩
  obtain ⟨ρ3, hρ3⟩ : ∃ x, x = (if b ≤ m then ρ2 else si ρ2 13 e w) := ⟨_, rfl⟩
  have r2_13 : ρ2.1 13 e = cI σ (q + 1) 3 + Int32.ofNat m := by
    rw [← hmx2, ← hmx, hρ2]
    split
    · rw [sl_1, si_1, if_neg (by omega), si_1, if_neg (by omega)]
    · rfl
  have h35 : ρ1.1 35 e = cI σ1 (q + 5) 6 := h3.2.2.2.1.2.2.2.2.2.2.1.1
  have href : m_send v1 f (ρ.1 12 e) v4 nn ρ = some ρ3 := by
    rw [hnx, h2, b246 hv he hn (by omega), if_neg (by omega), hbh]
    have et : tmR ρ1 e (cI σ (q + 1) 5) w = ρ2 := by
      unfold tmR
      rw [hmx, h35, hρ2]
      by_cases hc : n = m ∧ cI σ1 (q + 5) 6 = 0
      · rw [if_pos hc, if_pos ⟨heq.mpr hc.1, hc.2⟩]
      · rw [if_neg hc, if_neg (fun h => hc ⟨heq.mp h.1, h.2⟩)]
    rw [et, b315 hv he, r2_13, hρ3]
    by_cases hbm : b ≤ m
    · rw [if_pos (hle.mpr hbm), if_pos hbm]
    · rw [if_neg (fun h => hbm (hle.mp h)), if_neg hbm]
  -- reads
  have s3c : ∀ x j, (x ≠ q + 1 ∨ j ≠ 5 ∧ j ≠ 6) → (x ≠ q + 5 ∨ j ≠ 6 ∧ j ≠ 7) → cI σ3 x j = cI σ1 x j := by
    intro x j h h'
    have a2 : cI σ2 x j = cI σ1 x j := by
      rw [hσ2]
      split
      · rw [wl_I, wi_I, if_neg (by omega), wi_I, if_neg (by omega)]
      · rfl
    rw [← a2, hσ3]
    split
    · rw [wi_I, if_neg (by omega)]
    · rw [wi_I, if_neg (by omega), wi_I, if_neg (by omega)]
  have s3J : ∀ x j, (x ≠ q + 5 ∨ j ≠ 8) → cJ σ3 x j = cJ σ1 x j := by
    intro x j h
    have a2 : cJ σ2 x j = cJ σ1 x j := by
      rw [hσ2]
      split
      · rw [wl_J, if_neg (by omega)]; rfl
      · rfl
    rw [← a2, hσ3]
    split <;> rfl
  have s35 : cI σ3 (q + 1) 5 = w := by
    rw [hσ3]
    split
    · rw [wi_I, if_pos ⟨rfl, rfl⟩]
    · rw [wi_I, if_neg (by omega), wi_I, if_pos ⟨rfl, rfl⟩]
  have s36 : cI σ3 (q + 1) 6 = cI σ (q + 1) 3 + Int32.ofNat (max m b) := by
    rw [hσ3]
    by_cases hbm : b ≤ m
    · rw [if_pos hbm, wi_I, if_neg (by omega), s2q1, hmx2, Nat.max_eq_left hbm]
    · rw [if_neg hbm, wi_I, if_pos ⟨rfl, rfl⟩, hw, Nat.max_eq_right (by omega)]
  have s3s : σ3.2.2 = σ1.2.2 := by
    have a2 : σ2.2.2 = σ1.2.2 := by rw [hσ2]; split <;> rfl
    rw [← a2, hσ3]; split <;> rfl
  have r3c : ∀ r j, r ≠ 13 → r ≠ 27 → r ≠ 35 → ρ3.1 r j = ρ1.1 r j := by
    intro r j a b c
    have a2 : ρ2.1 r j = ρ1.1 r j := by
      rw [hρ2]
      split
      · rw [sl_1, si_1, if_neg (by omega), si_1, if_neg (by omega)]
      · rfl
    rw [← a2, hρ3]
    split
    · rfl
    · rw [si_1, if_neg (by omega)]
  have r3j : ∀ r j, j ≠ e → ρ3.1 r j = ρ1.1 r j := by
    intro r j a
    have a2 : ρ2.1 r j = ρ1.1 r j := by
      rw [hρ2]
      split
      · rw [sl_1, si_1, if_neg (by omega), si_1, if_neg (by omega)]
      · rfl
    rw [← a2, hρ3]
    split
    · rfl
    · rw [si_1, if_neg (by omega)]
  have r3l : ∀ r j, (r ≠ 34 ∨ j ≠ e) → ρ3.2 r j = ρ1.2 r j := by
    intro r j a
    have a2 : ρ2.2 r j = ρ1.2 r j := by
      rw [hρ2]
      split
      · rw [sl_2, if_neg (by omega)]; rfl
      · rfl
    rw [← a2, hρ3]
    split <;> rfl
  have r313 : ρ3.1 13 e = cI σ3 (q + 1) 6 := by
    rw [s36, hρ3]
    by_cases hbm : b ≤ m
    · rw [if_pos hbm, r2_13, Nat.max_eq_left hbm]
    · rw [if_neg hbm, si_1, if_pos ⟨rfl, rfl⟩, hw, Nat.max_eq_right (by omega)]
  obtain ⟨ρ4, hρ4⟩ : ∃ x, x = si ρ3 12 e w := ⟨_, rfl⟩
  have r4 : ∀ r j, r ≠ 12 → ρ4.1 r j = ρ3.1 r j := fun r j h => by rw [hρ4, si_1, if_neg (by omega)]
  have r4s : ρ4.1 12 e = w := by rw [hρ4, si_1, if_pos ⟨rfl, rfl⟩]
  have r4l : ρ4.2 = ρ3.2 := by rw [hρ4]; rfl
  obtain ⟨P1, S1, c11, c21, N1⟩ := h4.1
  have O1 := N1.2.2.1
  have hoq := own_q hqe O1
  have F2 : fr (fun x => x ≠ q + 5) σ1 σ2 := by
    rw [hσ2]
    split
    · exact fr.tr (fr.tr (fr_wi σ1 (q + 5) 6 1) (fr_wi _ (q + 5) 7 w) (fun _ h => h)) (fr_wl _ (q + 5) 8 _) (fun _ h => h)
    · exact fr.rf
  have F3' : fr (fun x => x ≠ q + 1) σ2 σ3 := by
    rw [hσ3]
    split
    · exact fr_wi σ2 (q + 1) 5 w
    · exact fr.tr (fr_wi σ2 (q + 1) 5 w) (fr_wi _ (q + 1) 6 w) (fun _ h => h)
  have F3 : fr (fun x => o1 x ≠ 10 + e) σ1 σ3 := fr.tr (fr_end F2 hoq.2.2.2.1) F3' (fun x hx e => hx (by rw [e]; exact hoq.2.1))
  have F23 : fr (fun x => x ≠ q + 5 ∧ x ≠ q + 1) σ1 σ3 := fr.tr (F2.sub fun x hx => hx.1) F3' (fun x hx => hx.2)
  have R4 : RF e ρ1 ρ4 := by
    refine ⟨fun r hr => funext fun j => ?_, fun r j h h' hj => ?_, fun r j hj => ?_, fun j _ _ => ?_⟩
    · rw [r4 r j (by omega), r3c r j (by omega) (by omega) (by omega)]
    · rw [hρ4, si_1, if_neg (by omega), r3j r j hj]
    · rw [r4l, r3l r j (Or.inr hj)]
    · rw [r4 0 j (by omega), r3c 0 j (by omega) (by omega) (by omega)]
  obtain ⟨EP2, NB2⟩ := EP.wr N1 F3 he (by rw [s3s]) R4 (fun r h1 h2 => funext fun j => by rw [r4 r j (by omega), r3c r j (by omega) (by omega) (by omega)]) (by rw [r4 0 5 (by omega), r3c 0 5 (by omega) (by omega) (by omega)]) (by rw [r4 0 10 (by omega), r3c 0 10 (by omega) (by omega) (by omega)])
  refine ⟨σ3, ρ3, o1, hcls, href, ?_, ?_, ?_⟩
  · rw [← hw, ← hρ4]
    obtain ⟨g1, g2, g3, g4, g5⟩ := h3
    refine ⟨g1.cg (funext fun j => s3c q j (by omega) (by omega)) (fun r h => by rw [r4 r e (by omega), r3c r e (by omega) (by omega) (by omega)]) (by rw [r4 0 4 (by omega), r3c 0 4 (by omega) (by omega) (by omega)]), ?_, g3.cg (F23.sub fun x hx => ?_) (fun _ h => h) (fun r h => by rw [r4 r e (by omega), r3c r e (by omega) (by omega) (by omega)]) (fun i _ => by rw [r4 39 _ (by omega), r3c 39 _ (by omega) (by omega) (by omega)]) (fun i _ => by rw [r4 40 _ (by omega), r3c 40 _ (by omega) (by omega) (by omega)]), ?_, g5.cg (funext fun j => s3c (q + 6) j (by omega) (by omega)) (fun r h => by rw [r4 r e (by omega), r3c r e (by omega) (by omega) (by omega)])⟩
    · refine g2.num hq rfl (by rw [s35, hw, f1]) (by rw [s36, f1]) (fun j h h' => s3c (q + 1) j (by omega) (by omega)) ?_ (F3.sub fun x hx => by omega) (by rw [r4s, s35]) (by rw [r4 13 e (by omega)]; exact r313) (fun r h => by rw [r4 r e (by omega), r3c r e (by omega) (by omega) (by omega)]) (funext fun j => by rw [r4 38 j (by omega), r3c 38 j (by omega) (by omega) (by omega)]) ⟨by omega, by omega, by omega⟩ (fun h => ?_) (by rw [r4 0 4 (by omega), r3c 0 4 (by omega) (by omega) (by omega)])
      · unfold cR; rw [s3s]
      · rw [f1] at h
        have := hcl h
        have h6 := E.2.1.2.2.2.2.2.1.2
        rcases h6 with h6 | h6
        · omega
        · rw [h] at h6; exact absurd h6 (by decide)
    · rcases hx with hx | hx
      · omega
      · exact ⟨fun e => by rw [e] at hx; omega, fun e => by rw [e] at hx; omega⟩
    · have c0 : ∀ j, j ≠ 6 → j ≠ 7 → cI σ3 (q + 5) j = cI σ1 (q + 5) j := fun j h h' => s3c (q + 5) j (by omega) (by omega)
      have cJ0 : ∀ j, j ≠ 8 → cJ σ3 (q + 5) j = cJ σ1 (q + 5) j := fun j h => s3J (q + 5) j (by omega)
      have rr : ∀ r, r ≠ 12 → r ≠ 13 → r ≠ 27 → r ≠ 35 → ρ4.1 r e = ρ1.1 r e := fun r a b c d => by rw [r4 r e a, r3c r e b c d]
      have rl : ρ4.2 33 e = ρ1.2 33 e := by rw [r4l, r3l 33 e (by omega)]
      unfold G4 at g4 ⊢
      rw [c0 0 (by omega) (by omega), c0 1 (by omega) (by omega), c0 2 (by omega) (by omega), cJ0 3 (by omega), cJ0 4 (by omega), cJ0 5 (by omega), rr 23 (by omega) (by omega) (by omega) (by omega), rr 24 (by omega) (by omega) (by omega) (by omega), rr 25 (by omega) (by omega) (by omega) (by omega), rr 26 (by omega) (by omega) (by omega) (by omega), rl]
      obtain ⟨a1, a2, a3, a4, a5, a6, a7, a8, a9⟩ := g4
      refine ⟨a1, a2, a3, a4, a5, a6, ?_⟩
      have q6 : ∀ j, cI σ3 (q + 5) j = cI σ2 (q + 5) j := fun j => by
        rw [hσ3]
        split
        · rw [wi_I, if_neg (by omega)]
        · rw [wi_I, if_neg (by omega), wi_I, if_neg (by omega)]
      have q7 : cJ σ3 (q + 5) 8 = cJ σ2 (q + 5) 8 := by rw [hσ3]; split <;> rfl
      have q8 : ∀ r, r = 27 ∨ r = 35 → ρ4.1 r e = ρ2.1 r e := fun r h => by
        rw [r4 r e (by omega), hρ3]
        split
        · rfl
        · rw [si_1, if_neg (by omega)]
      have q9 : ρ4.2 34 e = ρ2.2 34 e := by rw [r4l, hρ3]; split <;> rfl
      rw [q6, q6, q7, q8 35 (by omega), q8 27 (by omega), q9, hσ2, hρ2]
      by_cases hc : n = m ∧ cI σ1 (q + 5) 6 = 0
      · rw [if_pos hc, if_pos hc]
        have ct : ρ1.2 0 3 = cJ σ1 3 0 := by rw [e6, ← ht, hclk]
        refine ⟨⟨?_, Or.inr ?_⟩, ?_, ?_, τ, Nat.le_refl _, ?_⟩
        · rw [sl_1, si_1, if_neg (by omega), si_1, if_pos ⟨rfl, rfl⟩, wl_I, wi_I, if_neg (by omega), wi_I, if_pos ⟨rfl, rfl⟩]
        · rw [wl_I, wi_I, if_neg (by omega), wi_I, if_pos ⟨rfl, rfl⟩]
        · rw [sl_1, si_1, if_pos ⟨rfl, rfl⟩, wl_I, wi_I, if_pos ⟨rfl, rfl⟩]
        · rw [sl_2, if_pos ⟨rfl, rfl⟩, wl_J, if_pos ⟨rfl, rfl⟩, ct]
        · rw [wl_J, if_pos ⟨rfl, rfl⟩, hclk]; exact htt
      · rw [if_neg hc, if_neg hc]
        exact ⟨a7, a8, a9⟩
  · rw [← hw, ← hρ4]; exact h4.tr EP2
  · refine ⟨fun j hj => by rw [s3c q j (by omega) (by omega), e2 j hj], by rw [s3c q 10 (by omega) (by omega), e3], fun j hj => by rw [s3c (q + 3) j (by omega) (by omega), e4 j hj], funext fun j => by rw [s3c (q + 6) j (by omega) (by omega), f6], fun j h h' => by rw [s3c (q + 1) j (by omega) (by omega), f1], fun j h h' => by rw [s3c (q + 5) j (by omega) (by omega), f5], fun j h => by rw [s3J (q + 5) j (by omega), f5J], fun r a b c d f g => funext fun j => by rw [r3c r j b d g, e5 r a c f], fun r j h => by rw [r3l r j (by omega), e6], by rw [r3c 28 e (by omega) (by omega) (by omega), e7]⟩
